def lL_law_1384L : List (Nat × Instr × Nat × Nat) := [(1384, .aload_n 1, 1, 1385), (1385, .aload_n 0, 1, 1386), (1386, .iload_n 3, 1, 1387), (1387, .iconst 1, 1, 1388), (1388, .iadd, 1, 1389), (1389, .iaload, 1, 1390), (1390, .aload_n 0, 1, 1391), (1391, .iload_n 3, 1, 1392), (1392, .iconst 2, 1, 1393), (1393, .iadd, 1, 1394), (1394, .iaload, 1, 1395), (1395, .aload_n 0, 1, 1396), (1396, .iload_n 3, 1, 1397), (1397, .iconst 3, 1, 1398), (1398, .iadd, 1, 1399), (1399, .iaload, 1, 1400), (1400, .invokevirtual 146, 3, 1403), (1403, .aload_n 2, 1, 1404), (1404, .aload_n 0, 1, 1405), (1405, .iload_n 3, 1, 1406), (1406, .iconst 1, 1, 1407), (1407, .iadd, 1, 1408), (1408, .iaload, 1, 1409), (1409, .aload_n 0, 1, 1410), (1410, .iload_n 3, 1, 1411), (1411, .iconst 2, 1, 1412), (1412, .iadd, 1, 1413), (1413, .iaload, 1, 1414), (1414, .aload_n 0, 1, 1415), (1415, .iload_n 3, 1, 1416), (1416, .iconst 3, 1, 1417), (1417, .iadd, 1, 1418), (1418, .iaload, 1, 1419), (1419, .invokevirtual 149, 3, 1422), (1422, .if_icmp .eq 484, 3, 1425), (1425, .iconst 0, 1, 1426), (1426, .ireturn, 1, 1427)]
set_option maxRecDepth 20000 in
theorem dL_law_1384 : dcL cL_law lL_law_1384L = true := by decide +kernel
def b_law_1384 (F : Nat) (xs : Nat → Int32) (Ls : Nat) (self : Nat × Nat → PH → Nat → Nat → Int32 → Option Int32) (cs : Nat × Nat) (h : PH) (v1 : Nat) (v2 : Nat) (v3 : Int32) : Option Int32 := (scr xs Ls ((v3 + (1 : Int32)))).bind fun x1 => ((scr xs Ls ((v3 + (2 : Int32)))).bind fun x2 => ((scr xs Ls ((v3 + (3 : Int32)))).bind fun x3 => (cO 9 h v1 (bind2 (m_X9_parts F h v1 x1 x2 x3) fun x4 h5 => ((scr xs Ls ((v3 + (1 : Int32)))).bind fun x6 => ((scr xs Ls ((v3 + (2 : Int32)))).bind fun x7 => ((scr xs Ls ((v3 + (3 : Int32)))).bind fun x8 => (cO 10 h5 v2 (bind2 (m_X10_parts F h5 v2 x6 x7 x8) fun x9 h10 => (if x4 = x9 then (b_law_1906 F xs Ls self cs h10 v1 v2 v3) else (some (0 : Int32))))))))))))
set_option maxRecDepth 20000 in
theorem t_law_1384 {M : MV} {X : XT} {F : Nat} {xs : Nat → Int32} {Ls b : Nat} {self : Nat × Nat → PH → Nat → Nat → Int32 → Option Int32} {cs : Nat × Nat} {h : PH} {v1 : Nat} {v2 : Nat} {v3 : Int32} (hc : Cx M X R_law code) (hr : Rx M 2048 84000 600000 7302250 4) (hL : Lx M X xs Ls b) (hm : cs.1 ≤ 600000) (hs : cs.2 ≤ 7302250) (ih : ∀ (cs : Nat × Nat) (h : PH) (v1 : Nat) (v2 : Nat) (v3 : Int32), cs.1 ≤ 600000 → cs.2 ≤ 7302250 → self cs h v1 v2 v3 = some 1 → GG M X h cs.1 cs.2 18 [(0, .ref b), (1, .ref (X.1 + v1)), (2, .ref (X.1 + v2)), (3, .int v3)] []) (hf : b_law_1384 F xs Ls self cs h v1 v2 v3 = some 1) : GG M X h cs.1 cs.2 1384 [(0, .ref b), (1, .ref (X.1 + v1)), (2, .ref (X.1 + v2)), (3, .int v3)] [] := by
  unfold b_law_1384 at hf
  refine r_aload_n hc 1 (dc_at dL_law_1384 0 rfl) rfl ?_
  refine r_aload_n hc 0 (dc_at dL_law_1384 1 rfl) rfl ?_
  refine r_iload_n hc 3 (dc_at dL_law_1384 2 rfl) rfl ?_
  refine r_iconst (1 : Int32) hc (dc_at dL_law_1384 3 rfl) (by decide) ?_
  refine r_iadd hc (dc_at dL_law_1384 4 rfl) ?_
  refine r_sload hL hc (dc_at dL_law_1384 5 rfl) hf fun x1 hf => ?_
  refine r_aload_n hc 0 (dc_at dL_law_1384 6 rfl) rfl ?_
  refine r_iload_n hc 3 (dc_at dL_law_1384 7 rfl) rfl ?_
  refine r_iconst (2 : Int32) hc (dc_at dL_law_1384 8 rfl) (by decide) ?_
  refine r_iadd hc (dc_at dL_law_1384 9 rfl) ?_
  refine r_sload hL hc (dc_at dL_law_1384 10 rfl) hf fun x2 hf => ?_
  refine r_aload_n hc 0 (dc_at dL_law_1384 11 rfl) rfl ?_
  refine r_iload_n hc 3 (dc_at dL_law_1384 12 rfl) rfl ?_
  refine r_iconst (3 : Int32) hc (dc_at dL_law_1384 13 rfl) (by decide) ?_
  refine r_iadd hc (dc_at dL_law_1384 14 rfl) ?_
  refine r_sload hL hc (dc_at dL_law_1384 15 rfl) hf fun x3 hf => ?_
  obtain ⟨ho, hf⟩ := cO_some hf
  refine ob2 hf fun x4 h5 ex hf => ?_
  refine r_callVi (As := [.int x1, .int x2, .int x3]) (ci := 9) hc hr (dc_at dL_law_1384 16 rfl) ml_L_146 mv_X9_parts vi_X9_parts rfl ho rfl (mt_X9_parts ex) (Nat.le_of_ble_eq_true rfl) (Nat.le_of_ble_eq_true rfl) (by first | exact Nat.le_of_ble_eq_true rfl | decide) hm hs ?_
  refine r_aload_n hc 2 (dc_at dL_law_1384 17 rfl) rfl ?_
  refine r_aload_n hc 0 (dc_at dL_law_1384 18 rfl) rfl ?_
  refine r_iload_n hc 3 (dc_at dL_law_1384 19 rfl) rfl ?_
  refine r_iconst (1 : Int32) hc (dc_at dL_law_1384 20 rfl) (by decide) ?_
  refine r_iadd hc (dc_at dL_law_1384 21 rfl) ?_
  refine r_sload hL hc (dc_at dL_law_1384 22 rfl) hf fun x6 hf => ?_
  refine r_aload_n hc 0 (dc_at dL_law_1384 23 rfl) rfl ?_
  refine r_iload_n hc 3 (dc_at dL_law_1384 24 rfl) rfl ?_
  refine r_iconst (2 : Int32) hc (dc_at dL_law_1384 25 rfl) (by decide) ?_
  refine r_iadd hc (dc_at dL_law_1384 26 rfl) ?_
  refine r_sload hL hc (dc_at dL_law_1384 27 rfl) hf fun x7 hf => ?_
  refine r_aload_n hc 0 (dc_at dL_law_1384 28 rfl) rfl ?_
  refine r_iload_n hc 3 (dc_at dL_law_1384 29 rfl) rfl ?_
  refine r_iconst (3 : Int32) hc (dc_at dL_law_1384 30 rfl) (by decide) ?_
  refine r_iadd hc (dc_at dL_law_1384 31 rfl) ?_
  refine r_sload hL hc (dc_at dL_law_1384 32 rfl) hf fun x8 hf => ?_
  obtain ⟨ho, hf⟩ := cO_some hf
  refine ob2 hf fun x9 h10 ex hf => ?_
  refine r_callVi (As := [.int x6, .int x7, .int x8]) (ci := 10) hc hr (dc_at dL_law_1384 33 rfl) ml_L_149 mv_X10_parts vi_X10_parts rfl ho rfl (mt_X10_parts ex) (Nat.le_of_ble_eq_true rfl) (Nat.le_of_ble_eq_true rfl) (by first | exact Nat.le_of_ble_eq_true rfl | decide) hm hs ?_
  refine r_icmp_eq (tgt := 1906) hc (dc_at dL_law_1384 34 rfl) (by decide) hf (fun hf => ?_) (fun hf => ?_)
  · exact gg_sub [0, 1, 2, 3] rfl (t_law_1906 hc hr hL hm hs ih hf)
  · refine r_iconst (0 : Int32) hc (dc_at dL_law_1384 35 rfl) (by decide) ?_
    cases hf
