def lL_law_1564L : List (Nat × Instr × Nat × Nat) := [(1564, .aload_n 1, 1, 1565), (1565, .aload_n 0, 1, 1566), (1566, .iload_n 3, 1, 1567), (1567, .iconst 1, 1, 1568), (1568, .iadd, 1, 1569), (1569, .iaload, 1, 1570), (1570, .aload_n 0, 1, 1571), (1571, .iload_n 3, 1, 1572), (1572, .iconst 2, 1, 1573), (1573, .iadd, 1, 1574), (1574, .iaload, 1, 1575), (1575, .invokevirtual 172, 3, 1578), (1578, .aload_n 2, 1, 1579), (1579, .aload_n 0, 1, 1580), (1580, .iload_n 3, 1, 1581), (1581, .iconst 1, 1, 1582), (1582, .iadd, 1, 1583), (1583, .iaload, 1, 1584), (1584, .aload_n 0, 1, 1585), (1585, .iload_n 3, 1, 1586), (1586, .iconst 2, 1, 1587), (1587, .iadd, 1, 1588), (1588, .iaload, 1, 1589), (1589, .invokevirtual 175, 3, 1592), (1592, .if_icmp .eq 314, 3, 1595), (1595, .iconst 0, 1, 1596), (1596, .ireturn, 1, 1597)]
set_option maxRecDepth 20000 in
theorem dL_law_1564 : dcL cL_law lL_law_1564L = true := by decide +kernel
def b_law_1564 (F : Nat) (xs : Nat → Int32) (Ls : Nat) (self : Nat × Nat → PH → Nat → Nat → Int32 → Option Int32) (cs : Nat × Nat) (h : PH) (v1 : Nat) (v2 : Nat) (v3 : Int32) : Option Int32 := (scr xs Ls ((v3 + (1 : Int32)))).bind fun x1 => ((scr xs Ls ((v3 + (2 : Int32)))).bind fun x2 => (bud (kost (decide (gN 9 17 h v1 = some none)) 3 24) cs fun cs5 => (cO 9 h v1 (bind2 (m_X9_fits F h v1 x1 x2) fun x3 h4 => ((scr xs Ls ((v3 + (1 : Int32)))).bind fun x6 => ((scr xs Ls ((v3 + (2 : Int32)))).bind fun x7 => (cO 10 h4 v2 (bind2 (m_X10_fits F h4 v2 x6 x7) fun x8 h9 => (if x3 = x8 then (b_law_1906 F xs Ls self cs5 h9 v1 v2 v3) else (some (0 : Int32)))))))))))
set_option maxRecDepth 20000 in
theorem t_law_1564 {M : MV} {X : XT} {F : Nat} {xs : Nat → Int32} {Ls b : Nat} {self : Nat × Nat → PH → Nat → Nat → Int32 → Option Int32} {cs : Nat × Nat} {h : PH} {v1 : Nat} {v2 : Nat} {v3 : Int32} (hc : Cx M X R_law code) (hr : Rx M 2048 84000 600000 7302250 4) (hL : Lx M X xs Ls b) (hm : cs.1 ≤ 600000) (hs : cs.2 ≤ 7302250) (ih : ∀ (cs : Nat × Nat) (h : PH) (v1 : Nat) (v2 : Nat) (v3 : Int32), cs.1 ≤ 600000 → cs.2 ≤ 7302250 → self cs h v1 v2 v3 = some 1 → GG M X h cs.1 cs.2 18 [(0, .ref b), (1, .ref (X.1 + v1)), (2, .ref (X.1 + v2)), (3, .int v3)] []) (hf : b_law_1564 F xs Ls self cs h v1 v2 v3 = some 1) : GG M X h cs.1 cs.2 1564 [(0, .ref b), (1, .ref (X.1 + v1)), (2, .ref (X.1 + v2)), (3, .int v3)] [] := by
  unfold b_law_1564 at hf
  refine r_aload_n hc 1 (dc_at dL_law_1564 0 rfl) rfl ?_
  refine r_aload_n hc 0 (dc_at dL_law_1564 1 rfl) rfl ?_
  refine r_iload_n hc 3 (dc_at dL_law_1564 2 rfl) rfl ?_
  refine r_iconst (1 : Int32) hc (dc_at dL_law_1564 3 rfl) (by decide) ?_
  refine r_iadd hc (dc_at dL_law_1564 4 rfl) ?_
  refine r_sload hL hc (dc_at dL_law_1564 5 rfl) hf fun x1 hf => ?_
  refine r_aload_n hc 0 (dc_at dL_law_1564 6 rfl) rfl ?_
  refine r_iload_n hc 3 (dc_at dL_law_1564 7 rfl) rfl ?_
  refine r_iconst (2 : Int32) hc (dc_at dL_law_1564 8 rfl) (by decide) ?_
  refine r_iadd hc (dc_at dL_law_1564 9 rfl) ?_
  refine r_sload hL hc (dc_at dL_law_1564 10 rfl) hf fun x2 hf => ?_
  refine obud hf fun cs5 k1 k2 k3 k4 hm2 hs2 hf => ?_
  obtain ⟨ho, hf⟩ := cO_some hf
  refine ob2 hf fun x3 h4 ex hf => ?_
  refine r_callViC (As := [.int x1, .int x2]) (ci := 9) hc hr (dc_at dL_law_1564 11 rfl) ml_L_172 mv_X9_fits vi_X9_fits rfl ho rfl (mt_X9_fits ex (kost_ok 3 24)) (Nat.le_of_ble_eq_true rfl) (Nat.le_of_ble_eq_true rfl) (by first | exact Nat.le_of_ble_eq_true rfl | decide) k1 k2 ?_
  rw [← k3, ← k4]
  clear hm hs
  have hm := hm2
  have hs := hs2
  refine r_aload_n hc 2 (dc_at dL_law_1564 12 rfl) rfl ?_
  refine r_aload_n hc 0 (dc_at dL_law_1564 13 rfl) rfl ?_
  refine r_iload_n hc 3 (dc_at dL_law_1564 14 rfl) rfl ?_
  refine r_iconst (1 : Int32) hc (dc_at dL_law_1564 15 rfl) (by decide) ?_
  refine r_iadd hc (dc_at dL_law_1564 16 rfl) ?_
  refine r_sload hL hc (dc_at dL_law_1564 17 rfl) hf fun x6 hf => ?_
  refine r_aload_n hc 0 (dc_at dL_law_1564 18 rfl) rfl ?_
  refine r_iload_n hc 3 (dc_at dL_law_1564 19 rfl) rfl ?_
  refine r_iconst (2 : Int32) hc (dc_at dL_law_1564 20 rfl) (by decide) ?_
  refine r_iadd hc (dc_at dL_law_1564 21 rfl) ?_
  refine r_sload hL hc (dc_at dL_law_1564 22 rfl) hf fun x7 hf => ?_
  obtain ⟨ho, hf⟩ := cO_some hf
  refine ob2 hf fun x8 h9 ex hf => ?_
  refine r_callVi (As := [.int x6, .int x7]) (ci := 10) hc hr (dc_at dL_law_1564 23 rfl) ml_L_175 mv_X10_fits vi_X10_fits rfl ho rfl (mt_X10_fits ex) (Nat.le_of_ble_eq_true rfl) (Nat.le_of_ble_eq_true rfl) (by first | exact Nat.le_of_ble_eq_true rfl | decide) hm hs ?_
  refine r_icmp_eq (tgt := 1906) hc (dc_at dL_law_1564 24 rfl) (by decide) hf (fun hf => ?_) (fun hf => ?_)
  · exact gg_sub [0, 1, 2, 3] rfl (t_law_1906 hc hr hL hm hs ih hf)
  · refine r_iconst (0 : Int32) hc (dc_at dL_law_1564 25 rfl) (by decide) ?_
    cases hf
