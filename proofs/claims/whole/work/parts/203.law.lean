def lL_law_1474L : List (Nat × Instr × Nat × Nat) := [(1474, .aload_n 1, 1, 1475), (1475, .aload_n 0, 1, 1476), (1476, .iload_n 3, 1, 1477), (1477, .iconst 1, 1, 1478), (1478, .iadd, 1, 1479), (1479, .iaload, 1, 1480), (1480, .aload_n 0, 1, 1481), (1481, .iload_n 3, 1, 1482), (1482, .iconst 2, 1, 1483), (1483, .iadd, 1, 1484), (1484, .iaload, 1, 1485), (1485, .aload_n 0, 1, 1486), (1486, .iload_n 3, 1, 1487), (1487, .iconst 3, 1, 1488), (1488, .iadd, 1, 1489), (1489, .iaload, 1, 1490), (1490, .invokevirtual 160, 3, 1493), (1493, .aload_n 2, 1, 1494), (1494, .aload_n 0, 1, 1495), (1495, .iload_n 3, 1, 1496), (1496, .iconst 1, 1, 1497), (1497, .iadd, 1, 1498), (1498, .iaload, 1, 1499), (1499, .aload_n 0, 1, 1500), (1500, .iload_n 3, 1, 1501), (1501, .iconst 2, 1, 1502), (1502, .iadd, 1, 1503), (1503, .iaload, 1, 1504), (1504, .aload_n 0, 1, 1505), (1505, .iload_n 3, 1, 1506), (1506, .iconst 3, 1, 1507), (1507, .iadd, 1, 1508), (1508, .iaload, 1, 1509), (1509, .invokevirtual 163, 3, 1512), (1512, .if_icmp .eq 394, 3, 1515), (1515, .iconst 0, 1, 1516), (1516, .ireturn, 1, 1517)]
set_option maxRecDepth 20000 in
theorem dL_law_1474 : dcL cL_law lL_law_1474L = true := by decide +kernel
def b_law_1474 (F : Nat) (xs : Nat → Int32) (Ls : Nat) (self : Nat × Nat → PH → Nat → Nat → Int32 → Option Int32) (cs : Nat × Nat) (h : PH) (v1 : Nat) (v2 : Nat) (v3 : Int32) : Option Int32 := (scr xs Ls ((v3 + (1 : Int32)))).bind fun x1 => ((scr xs Ls ((v3 + (2 : Int32)))).bind fun x2 => ((scr xs Ls ((v3 + (3 : Int32)))).bind fun x3 => (cO 9 h v1 (bind2 (m_X9_moves F h v1 x1 x2 x3) fun x4 h5 => ((scr xs Ls ((v3 + (1 : Int32)))).bind fun x6 => ((scr xs Ls ((v3 + (2 : Int32)))).bind fun x7 => ((scr xs Ls ((v3 + (3 : Int32)))).bind fun x8 => (cO 10 h5 v2 (bind2 (m_X10_moves F h5 v2 x6 x7 x8) fun x9 h10 => (if x4 = x9 then (b_law_1906 F xs Ls self cs h10 v1 v2 v3) else (some (0 : Int32))))))))))))
set_option maxRecDepth 20000 in
theorem t_law_1474 {M : MV} {X : XT} {F : Nat} {xs : Nat → Int32} {Ls b : Nat} {self : Nat × Nat → PH → Nat → Nat → Int32 → Option Int32} {cs : Nat × Nat} {h : PH} {v1 : Nat} {v2 : Nat} {v3 : Int32} (hc : Cx M X R_law code) (hr : Rx M 2048 84000 600000 7302250 4) (hL : Lx M X xs Ls b) (hm : cs.1 ≤ 600000) (hs : cs.2 ≤ 7302250) (ih : ∀ (cs : Nat × Nat) (h : PH) (v1 : Nat) (v2 : Nat) (v3 : Int32), cs.1 ≤ 600000 → cs.2 ≤ 7302250 → self cs h v1 v2 v3 = some 1 → GG M X h cs.1 cs.2 18 [(0, .ref b), (1, .ref (X.1 + v1)), (2, .ref (X.1 + v2)), (3, .int v3)] []) (hf : b_law_1474 F xs Ls self cs h v1 v2 v3 = some 1) : GG M X h cs.1 cs.2 1474 [(0, .ref b), (1, .ref (X.1 + v1)), (2, .ref (X.1 + v2)), (3, .int v3)] [] := by
  unfold b_law_1474 at hf
  refine r_aload_n hc 1 (dc_at dL_law_1474 0 rfl) rfl ?_
  refine r_aload_n hc 0 (dc_at dL_law_1474 1 rfl) rfl ?_
  refine r_iload_n hc 3 (dc_at dL_law_1474 2 rfl) rfl ?_
  refine r_iconst (1 : Int32) hc (dc_at dL_law_1474 3 rfl) (by decide) ?_
  refine r_iadd hc (dc_at dL_law_1474 4 rfl) ?_
  refine r_sload hL hc (dc_at dL_law_1474 5 rfl) hf fun x1 hf => ?_
  refine r_aload_n hc 0 (dc_at dL_law_1474 6 rfl) rfl ?_
  refine r_iload_n hc 3 (dc_at dL_law_1474 7 rfl) rfl ?_
  refine r_iconst (2 : Int32) hc (dc_at dL_law_1474 8 rfl) (by decide) ?_
  refine r_iadd hc (dc_at dL_law_1474 9 rfl) ?_
  refine r_sload hL hc (dc_at dL_law_1474 10 rfl) hf fun x2 hf => ?_
  refine r_aload_n hc 0 (dc_at dL_law_1474 11 rfl) rfl ?_
  refine r_iload_n hc 3 (dc_at dL_law_1474 12 rfl) rfl ?_
  refine r_iconst (3 : Int32) hc (dc_at dL_law_1474 13 rfl) (by decide) ?_
  refine r_iadd hc (dc_at dL_law_1474 14 rfl) ?_
  refine r_sload hL hc (dc_at dL_law_1474 15 rfl) hf fun x3 hf => ?_
  obtain ⟨ho, hf⟩ := cO_some hf
  refine ob2 hf fun x4 h5 ex hf => ?_
  refine r_callVi (As := [.int x1, .int x2, .int x3]) (ci := 9) hc hr (dc_at dL_law_1474 16 rfl) ml_L_160 mv_X9_moves vi_X9_moves rfl ho rfl (mt_X9_moves ex) (Nat.le_of_ble_eq_true rfl) (Nat.le_of_ble_eq_true rfl) (by first | exact Nat.le_of_ble_eq_true rfl | decide) hm hs ?_
  refine r_aload_n hc 2 (dc_at dL_law_1474 17 rfl) rfl ?_
  refine r_aload_n hc 0 (dc_at dL_law_1474 18 rfl) rfl ?_
  refine r_iload_n hc 3 (dc_at dL_law_1474 19 rfl) rfl ?_
  refine r_iconst (1 : Int32) hc (dc_at dL_law_1474 20 rfl) (by decide) ?_
  refine r_iadd hc (dc_at dL_law_1474 21 rfl) ?_
  refine r_sload hL hc (dc_at dL_law_1474 22 rfl) hf fun x6 hf => ?_
  refine r_aload_n hc 0 (dc_at dL_law_1474 23 rfl) rfl ?_
  refine r_iload_n hc 3 (dc_at dL_law_1474 24 rfl) rfl ?_
  refine r_iconst (2 : Int32) hc (dc_at dL_law_1474 25 rfl) (by decide) ?_
  refine r_iadd hc (dc_at dL_law_1474 26 rfl) ?_
  refine r_sload hL hc (dc_at dL_law_1474 27 rfl) hf fun x7 hf => ?_
  refine r_aload_n hc 0 (dc_at dL_law_1474 28 rfl) rfl ?_
  refine r_iload_n hc 3 (dc_at dL_law_1474 29 rfl) rfl ?_
  refine r_iconst (3 : Int32) hc (dc_at dL_law_1474 30 rfl) (by decide) ?_
  refine r_iadd hc (dc_at dL_law_1474 31 rfl) ?_
  refine r_sload hL hc (dc_at dL_law_1474 32 rfl) hf fun x8 hf => ?_
  obtain ⟨ho, hf⟩ := cO_some hf
  refine ob2 hf fun x9 h10 ex hf => ?_
  refine r_callVi (As := [.int x6, .int x7, .int x8]) (ci := 10) hc hr (dc_at dL_law_1474 33 rfl) ml_L_163 mv_X10_moves vi_X10_moves rfl ho rfl (mt_X10_moves ex) (Nat.le_of_ble_eq_true rfl) (Nat.le_of_ble_eq_true rfl) (by first | exact Nat.le_of_ble_eq_true rfl | decide) hm hs ?_
  refine r_icmp_eq (tgt := 1906) hc (dc_at dL_law_1474 34 rfl) (by decide) hf (fun hf => ?_) (fun hf => ?_)
  · exact gg_sub [0, 1, 2, 3] rfl (t_law_1906 hc hr hL hm hs ih hf)
  · refine r_iconst (0 : Int32) hc (dc_at dL_law_1474 35 rfl) (by decide) ?_
    cases hf
