def lL_law_1630L : List (Nat × Instr × Nat × Nat) := [(1630, .aload_n 1, 1, 1631), (1631, .aload_n 0, 1, 1632), (1632, .iload_n 3, 1, 1633), (1633, .iconst 1, 1, 1634), (1634, .iadd, 1, 1635), (1635, .iaload, 1, 1636), (1636, .aload_n 0, 1, 1637), (1637, .iload_n 3, 1, 1638), (1638, .iconst 2, 1, 1639), (1639, .iadd, 1, 1640), (1640, .iaload, 1, 1641), (1641, .aload_n 0, 1, 1642), (1642, .iload_n 3, 1, 1643), (1643, .iconst 3, 1, 1644), (1644, .iadd, 1, 1645), (1645, .iaload, 1, 1646), (1646, .invokevirtual 180, 3, 1649), (1649, .aload_n 2, 1, 1650), (1650, .aload_n 0, 1, 1651), (1651, .iload_n 3, 1, 1652), (1652, .iconst 1, 1, 1653), (1653, .iadd, 1, 1654), (1654, .iaload, 1, 1655), (1655, .aload_n 0, 1, 1656), (1656, .iload_n 3, 1, 1657), (1657, .iconst 2, 1, 1658), (1658, .iadd, 1, 1659), (1659, .iaload, 1, 1660), (1660, .aload_n 0, 1, 1661), (1661, .iload_n 3, 1, 1662), (1662, .iconst 3, 1, 1663), (1663, .iadd, 1, 1664), (1664, .iaload, 1, 1665), (1665, .invokevirtual 183, 3, 1668), (1668, .lcmp, 1, 1669), (1669, .ifCond .eq 237, 3, 1672), (1672, .iconst 0, 1, 1673), (1673, .ireturn, 1, 1674)]
set_option maxRecDepth 20000 in
theorem dL_law_1630 : dcL cL_law lL_law_1630L = true := by decide +kernel
def b_law_1630 (F : Nat) (xs : Nat → Int32) (Ls : Nat) (self : Nat × Nat → PH → Nat → Nat → Int32 → Option Int32) (cs : Nat × Nat) (h : PH) (v1 : Nat) (v2 : Nat) (v3 : Int32) : Option Int32 := (scr xs Ls ((v3 + (1 : Int32)))).bind fun x1 => ((scr xs Ls ((v3 + (2 : Int32)))).bind fun x2 => ((scr xs Ls ((v3 + (3 : Int32)))).bind fun x3 => (bud (kost (mq_X9_odds F h v1 x1 x2 x3).isNone 10 46057) cs fun cs6 => (cO 9 h v1 (bind2 (m_X9_odds F h v1 x1 x2 x3) fun x4 h5 => ((scr xs Ls ((v3 + (1 : Int32)))).bind fun x7 => ((scr xs Ls ((v3 + (2 : Int32)))).bind fun x8 => ((scr xs Ls ((v3 + (3 : Int32)))).bind fun x9 => (cO 10 h5 v2 (bind2 (m_X10_odds F h5 v2 x7 x8 x9) fun x10 h11 => (if x4 = x10 then (b_law_1906 F xs Ls self cs6 h11 v1 v2 v3) else (some (0 : Int32)))))))))))))
set_option maxRecDepth 20000 in
theorem t_law_1630 {M : MV} {X : XT} {F : Nat} {xs : Nat → Int32} {Ls b : Nat} {self : Nat × Nat → PH → Nat → Nat → Int32 → Option Int32} {cs : Nat × Nat} {h : PH} {v1 : Nat} {v2 : Nat} {v3 : Int32} (hc : Cx M X R_law code) (hr : Rx M 2048 84000 600000 7302250 4) (hL : Lx M X xs Ls b) (hm : cs.1 ≤ 600000) (hs : cs.2 ≤ 7302250) (ih : ∀ (cs : Nat × Nat) (h : PH) (v1 : Nat) (v2 : Nat) (v3 : Int32), cs.1 ≤ 600000 → cs.2 ≤ 7302250 → self cs h v1 v2 v3 = some 1 → GG M X h cs.1 cs.2 18 [(0, .ref b), (1, .ref (X.1 + v1)), (2, .ref (X.1 + v2)), (3, .int v3)] []) (hf : b_law_1630 F xs Ls self cs h v1 v2 v3 = some 1) : GG M X h cs.1 cs.2 1630 [(0, .ref b), (1, .ref (X.1 + v1)), (2, .ref (X.1 + v2)), (3, .int v3)] [] := by
  unfold b_law_1630 at hf
  refine r_aload_n hc 1 (dc_at dL_law_1630 0 rfl) rfl ?_
  refine r_aload_n hc 0 (dc_at dL_law_1630 1 rfl) rfl ?_
  refine r_iload_n hc 3 (dc_at dL_law_1630 2 rfl) rfl ?_
  refine r_iconst (1 : Int32) hc (dc_at dL_law_1630 3 rfl) (by decide) ?_
  refine r_iadd hc (dc_at dL_law_1630 4 rfl) ?_
  refine r_sload hL hc (dc_at dL_law_1630 5 rfl) hf fun x1 hf => ?_
  refine r_aload_n hc 0 (dc_at dL_law_1630 6 rfl) rfl ?_
  refine r_iload_n hc 3 (dc_at dL_law_1630 7 rfl) rfl ?_
  refine r_iconst (2 : Int32) hc (dc_at dL_law_1630 8 rfl) (by decide) ?_
  refine r_iadd hc (dc_at dL_law_1630 9 rfl) ?_
  refine r_sload hL hc (dc_at dL_law_1630 10 rfl) hf fun x2 hf => ?_
  refine r_aload_n hc 0 (dc_at dL_law_1630 11 rfl) rfl ?_
  refine r_iload_n hc 3 (dc_at dL_law_1630 12 rfl) rfl ?_
  refine r_iconst (3 : Int32) hc (dc_at dL_law_1630 13 rfl) (by decide) ?_
  refine r_iadd hc (dc_at dL_law_1630 14 rfl) ?_
  refine r_sload hL hc (dc_at dL_law_1630 15 rfl) hf fun x3 hf => ?_
  refine obud hf fun cs6 k1 k2 k3 k4 hm2 hs2 hf => ?_
  obtain ⟨ho, hf⟩ := cO_some hf
  refine ob2 hf fun x4 h5 ex hf => ?_
  refine r_callVlC (As := [.int x1, .int x2, .int x3]) (ci := 9) hc hr (dc_at dL_law_1630 16 rfl) ml_L_180 mv_X9_odds vi_X9_odds rfl ho rfl (mtk_X9_odds ex) (Nat.le_of_ble_eq_true rfl) (Nat.le_of_ble_eq_true rfl) (by first | exact Nat.le_of_ble_eq_true rfl | decide) k1 k2 ?_
  rw [← k3, ← k4]
  clear hm hs
  have hm := hm2
  have hs := hs2
  refine r_aload_n hc 2 (dc_at dL_law_1630 17 rfl) rfl ?_
  refine r_aload_n hc 0 (dc_at dL_law_1630 18 rfl) rfl ?_
  refine r_iload_n hc 3 (dc_at dL_law_1630 19 rfl) rfl ?_
  refine r_iconst (1 : Int32) hc (dc_at dL_law_1630 20 rfl) (by decide) ?_
  refine r_iadd hc (dc_at dL_law_1630 21 rfl) ?_
  refine r_sload hL hc (dc_at dL_law_1630 22 rfl) hf fun x7 hf => ?_
  refine r_aload_n hc 0 (dc_at dL_law_1630 23 rfl) rfl ?_
  refine r_iload_n hc 3 (dc_at dL_law_1630 24 rfl) rfl ?_
  refine r_iconst (2 : Int32) hc (dc_at dL_law_1630 25 rfl) (by decide) ?_
  refine r_iadd hc (dc_at dL_law_1630 26 rfl) ?_
  refine r_sload hL hc (dc_at dL_law_1630 27 rfl) hf fun x8 hf => ?_
  refine r_aload_n hc 0 (dc_at dL_law_1630 28 rfl) rfl ?_
  refine r_iload_n hc 3 (dc_at dL_law_1630 29 rfl) rfl ?_
  refine r_iconst (3 : Int32) hc (dc_at dL_law_1630 30 rfl) (by decide) ?_
  refine r_iadd hc (dc_at dL_law_1630 31 rfl) ?_
  refine r_sload hL hc (dc_at dL_law_1630 32 rfl) hf fun x9 hf => ?_
  obtain ⟨ho, hf⟩ := cO_some hf
  refine ob2 hf fun x10 h11 ex hf => ?_
  refine r_callVl (As := [.int x7, .int x8, .int x9]) (ci := 10) hc hr (dc_at dL_law_1630 33 rfl) ml_L_183 mv_X10_odds vi_X10_odds rfl ho rfl (mt_X10_odds ex) (Nat.le_of_ble_eq_true rfl) (Nat.le_of_ble_eq_true rfl) (by first | exact Nat.le_of_ble_eq_true rfl | decide) hm hs ?_
  refine r_lcmp_eq (tgt := 1906) hc (dc_at dL_law_1630 34 rfl) (dc_at dL_law_1630 35 rfl) (by decide) hf (fun hf => ?_) (fun hf => ?_)
  · exact gg_sub [0, 1, 2, 3] rfl (t_law_1906 hc hr hL hm hs ih hf)
  · refine r_iconst (0 : Int32) hc (dc_at dL_law_1630 36 rfl) (by decide) ?_
    cases hf
