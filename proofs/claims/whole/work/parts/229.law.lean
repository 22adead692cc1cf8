def lL_law_345L : List (Nat × Instr × Nat × Nat) := [(345, .aload_n 1, 1, 346), (346, .aload_n 0, 1, 347), (347, .iload_n 3, 1, 348), (348, .iconst 1, 1, 349), (349, .iadd, 1, 350), (350, .iaload, 1, 351), (351, .invokevirtual 27, 3, 354), (354, .aload_n 2, 1, 355), (355, .aload_n 0, 1, 356), (356, .iload_n 3, 1, 357), (357, .iconst 1, 1, 358), (358, .iadd, 1, 359), (359, .iaload, 1, 360), (360, .invokevirtual 30, 3, 363), (363, .if_icmp .eq 1543, 3, 366), (366, .iconst 0, 1, 367), (367, .ireturn, 1, 368)]
set_option maxRecDepth 20000 in
theorem dL_law_345 : dcL cL_law lL_law_345L = true := by decide +kernel
def b_law_345 (F : Nat) (xs : Nat → Int32) (Ls : Nat) (self : Nat × Nat → PH → Nat → Nat → Int32 → Option Int32) (cs : Nat × Nat) (h : PH) (v1 : Nat) (v2 : Nat) (v3 : Int32) : Option Int32 := (scr xs Ls ((v3 + (1 : Int32)))).bind fun x1 => (cO 9 h v1 ((m_X9_at h v1 x1).bind fun x2 => ((scr xs Ls ((v3 + (1 : Int32)))).bind fun x4 => (cO 10 h v2 (bind2 (m_X10_at h v2 x4) fun x5 h6 => (if x2 = x5 then (b_law_1906 F xs Ls self cs h6 v1 v2 v3) else (some (0 : Int32))))))))
set_option maxRecDepth 20000 in
theorem t_law_345 {M : MV} {X : XT} {F : Nat} {xs : Nat → Int32} {Ls b : Nat} {self : Nat × Nat → PH → Nat → Nat → Int32 → Option Int32} {cs : Nat × Nat} {h : PH} {v1 : Nat} {v2 : Nat} {v3 : Int32} (hc : Cx M X R_law code) (hr : Rx M 2048 84000 600000 7302250 4) (hL : Lx M X xs Ls b) (hm : cs.1 ≤ 600000) (hs : cs.2 ≤ 7302250) (ih : ∀ (cs : Nat × Nat) (h : PH) (v1 : Nat) (v2 : Nat) (v3 : Int32), cs.1 ≤ 600000 → cs.2 ≤ 7302250 → self cs h v1 v2 v3 = some 1 → GG M X h cs.1 cs.2 18 [(0, .ref b), (1, .ref (X.1 + v1)), (2, .ref (X.1 + v2)), (3, .int v3)] []) (hf : b_law_345 F xs Ls self cs h v1 v2 v3 = some 1) : GG M X h cs.1 cs.2 345 [(0, .ref b), (1, .ref (X.1 + v1)), (2, .ref (X.1 + v2)), (3, .int v3)] [] := by
  unfold b_law_345 at hf
  refine r_aload_n hc 1 (dc_at dL_law_345 0 rfl) rfl ?_
  refine r_aload_n hc 0 (dc_at dL_law_345 1 rfl) rfl ?_
  refine r_iload_n hc 3 (dc_at dL_law_345 2 rfl) rfl ?_
  refine r_iconst (1 : Int32) hc (dc_at dL_law_345 3 rfl) (by decide) ?_
  refine r_iadd hc (dc_at dL_law_345 4 rfl) ?_
  refine r_sload hL hc (dc_at dL_law_345 5 rfl) hf fun x1 hf => ?_
  obtain ⟨ho, hf⟩ := cO_some hf
  refine ob hf fun x2 ex hf => ?_
  refine r_callVi (As := [.int x1]) (ci := 9) hc hr (dc_at dL_law_345 6 rfl) ml_L_27 mv_X9_at vi_X9_at rfl ho rfl (mt_X9_at ex) (Nat.le_of_ble_eq_true rfl) (Nat.le_of_ble_eq_true rfl) (by first | exact Nat.le_of_ble_eq_true rfl | decide) hm hs ?_
  refine r_aload_n hc 2 (dc_at dL_law_345 7 rfl) rfl ?_
  refine r_aload_n hc 0 (dc_at dL_law_345 8 rfl) rfl ?_
  refine r_iload_n hc 3 (dc_at dL_law_345 9 rfl) rfl ?_
  refine r_iconst (1 : Int32) hc (dc_at dL_law_345 10 rfl) (by decide) ?_
  refine r_iadd hc (dc_at dL_law_345 11 rfl) ?_
  refine r_sload hL hc (dc_at dL_law_345 12 rfl) hf fun x4 hf => ?_
  obtain ⟨ho, hf⟩ := cO_some hf
  refine ob2 hf fun x5 h6 ex hf => ?_
  refine r_callVi (As := [.int x4]) (ci := 10) hc hr (dc_at dL_law_345 13 rfl) ml_L_30 mv_X10_at vi_X10_at rfl ho rfl (mt_X10_at ex) (Nat.le_of_ble_eq_true rfl) (Nat.le_of_ble_eq_true rfl) (by first | exact Nat.le_of_ble_eq_true rfl | decide) hm hs ?_
  refine r_icmp_eq (tgt := 1906) hc (dc_at dL_law_345 14 rfl) (by decide) hf (fun hf => ?_) (fun hf => ?_)
  · exact gg_sub [0, 1, 2, 3] rfl (t_law_1906 hc hr hL hm hs ih hf)
  · refine r_iconst (0 : Int32) hc (dc_at dL_law_345 15 rfl) (by decide) ?_
    cases hf
def lL_law_1597L : List (Nat × Instr × Nat × Nat) := [(1597, .aload_n 1, 1, 1598), (1598, .aload_n 0, 1, 1599), (1599, .iload_n 3, 1, 1600), (1600, .iconst 1, 1, 1601), (1601, .iadd, 1, 1602), (1602, .iaload, 1, 1603), (1603, .aload_n 0, 1, 1604), (1604, .iload_n 3, 1, 1605), (1605, .iconst 2, 1, 1606), (1606, .iadd, 1, 1607), (1607, .iaload, 1, 1608), (1608, .invokevirtual 176, 3, 1611), (1611, .aload_n 2, 1, 1612), (1612, .aload_n 0, 1, 1613), (1613, .iload_n 3, 1, 1614), (1614, .iconst 1, 1, 1615), (1615, .iadd, 1, 1616), (1616, .iaload, 1, 1617), (1617, .aload_n 0, 1, 1618), (1618, .iload_n 3, 1, 1619), (1619, .iconst 2, 1, 1620), (1620, .iadd, 1, 1621), (1621, .iaload, 1, 1622), (1622, .invokevirtual 179, 3, 1625), (1625, .if_icmp .eq 281, 3, 1628), (1628, .iconst 0, 1, 1629), (1629, .ireturn, 1, 1630)]
set_option maxRecDepth 20000 in
theorem dL_law_1597 : dcL cL_law lL_law_1597L = true := by decide +kernel
def b_law_1597 (F : Nat) (xs : Nat → Int32) (Ls : Nat) (self : Nat × Nat → PH → Nat → Nat → Int32 → Option Int32) (cs : Nat × Nat) (h : PH) (v1 : Nat) (v2 : Nat) (v3 : Int32) : Option Int32 := (scr xs Ls ((v3 + (1 : Int32)))).bind fun x1 => ((scr xs Ls ((v3 + (2 : Int32)))).bind fun x2 => (bud (kost (decide (gN 9 17 h v1 = some none)) 3 24) cs fun cs5 => (cO 9 h v1 (bind2 (m_X9_sure F h v1 x1 x2) fun x3 h4 => ((scr xs Ls ((v3 + (1 : Int32)))).bind fun x6 => ((scr xs Ls ((v3 + (2 : Int32)))).bind fun x7 => (cO 10 h4 v2 (bind2 (m_X10_sure F h4 v2 x6 x7) fun x8 h9 => (if x3 = x8 then (b_law_1906 F xs Ls self cs5 h9 v1 v2 v3) else (some (0 : Int32)))))))))))
set_option maxRecDepth 20000 in
theorem t_law_1597 {M : MV} {X : XT} {F : Nat} {xs : Nat → Int32} {Ls b : Nat} {self : Nat × Nat → PH → Nat → Nat → Int32 → Option Int32} {cs : Nat × Nat} {h : PH} {v1 : Nat} {v2 : Nat} {v3 : Int32} (hc : Cx M X R_law code) (hr : Rx M 2048 84000 600000 7302250 4) (hL : Lx M X xs Ls b) (hm : cs.1 ≤ 600000) (hs : cs.2 ≤ 7302250) (ih : ∀ (cs : Nat × Nat) (h : PH) (v1 : Nat) (v2 : Nat) (v3 : Int32), cs.1 ≤ 600000 → cs.2 ≤ 7302250 → self cs h v1 v2 v3 = some 1 → GG M X h cs.1 cs.2 18 [(0, .ref b), (1, .ref (X.1 + v1)), (2, .ref (X.1 + v2)), (3, .int v3)] []) (hf : b_law_1597 F xs Ls self cs h v1 v2 v3 = some 1) : GG M X h cs.1 cs.2 1597 [(0, .ref b), (1, .ref (X.1 + v1)), (2, .ref (X.1 + v2)), (3, .int v3)] [] := by
  unfold b_law_1597 at hf
  refine r_aload_n hc 1 (dc_at dL_law_1597 0 rfl) rfl ?_
  refine r_aload_n hc 0 (dc_at dL_law_1597 1 rfl) rfl ?_
  refine r_iload_n hc 3 (dc_at dL_law_1597 2 rfl) rfl ?_
  refine r_iconst (1 : Int32) hc (dc_at dL_law_1597 3 rfl) (by decide) ?_
  refine r_iadd hc (dc_at dL_law_1597 4 rfl) ?_
  refine r_sload hL hc (dc_at dL_law_1597 5 rfl) hf fun x1 hf => ?_
  refine r_aload_n hc 0 (dc_at dL_law_1597 6 rfl) rfl ?_
  refine r_iload_n hc 3 (dc_at dL_law_1597 7 rfl) rfl ?_
  refine r_iconst (2 : Int32) hc (dc_at dL_law_1597 8 rfl) (by decide) ?_
  refine r_iadd hc (dc_at dL_law_1597 9 rfl) ?_
  refine r_sload hL hc (dc_at dL_law_1597 10 rfl) hf fun x2 hf => ?_
  refine obud hf fun cs5 k1 k2 k3 k4 hm2 hs2 hf => ?_
  obtain ⟨ho, hf⟩ := cO_some hf
  refine ob2 hf fun x3 h4 ex hf => ?_
  refine r_callViC (As := [.int x1, .int x2]) (ci := 9) hc hr (dc_at dL_law_1597 11 rfl) ml_L_176 mv_X9_sure vi_X9_sure rfl ho rfl (mt_X9_sure ex (kost_ok 3 24)) (Nat.le_of_ble_eq_true rfl) (Nat.le_of_ble_eq_true rfl) (by first | exact Nat.le_of_ble_eq_true rfl | decide) k1 k2 ?_
  rw [← k3, ← k4]
  clear hm hs
  have hm := hm2
  have hs := hs2
  refine r_aload_n hc 2 (dc_at dL_law_1597 12 rfl) rfl ?_
  refine r_aload_n hc 0 (dc_at dL_law_1597 13 rfl) rfl ?_
  refine r_iload_n hc 3 (dc_at dL_law_1597 14 rfl) rfl ?_
  refine r_iconst (1 : Int32) hc (dc_at dL_law_1597 15 rfl) (by decide) ?_
  refine r_iadd hc (dc_at dL_law_1597 16 rfl) ?_
  refine r_sload hL hc (dc_at dL_law_1597 17 rfl) hf fun x6 hf => ?_
  refine r_aload_n hc 0 (dc_at dL_law_1597 18 rfl) rfl ?_
  refine r_iload_n hc 3 (dc_at dL_law_1597 19 rfl) rfl ?_
  refine r_iconst (2 : Int32) hc (dc_at dL_law_1597 20 rfl) (by decide) ?_
  refine r_iadd hc (dc_at dL_law_1597 21 rfl) ?_
  refine r_sload hL hc (dc_at dL_law_1597 22 rfl) hf fun x7 hf => ?_
  obtain ⟨ho, hf⟩ := cO_some hf
  refine ob2 hf fun x8 h9 ex hf => ?_
  refine r_callVi (As := [.int x6, .int x7]) (ci := 10) hc hr (dc_at dL_law_1597 23 rfl) ml_L_179 mv_X10_sure vi_X10_sure rfl ho rfl (mt_X10_sure ex) (Nat.le_of_ble_eq_true rfl) (Nat.le_of_ble_eq_true rfl) (by first | exact Nat.le_of_ble_eq_true rfl | decide) hm hs ?_
  refine r_icmp_eq (tgt := 1906) hc (dc_at dL_law_1597 24 rfl) (by decide) hf (fun hf => ?_) (fun hf => ?_)
  · exact gg_sub [0, 1, 2, 3] rfl (t_law_1906 hc hr hL hm hs ih hf)
  · refine r_iconst (0 : Int32) hc (dc_at dL_law_1597 25 rfl) (by decide) ?_
    cases hf
