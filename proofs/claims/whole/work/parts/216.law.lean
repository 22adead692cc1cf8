def lL_law_1697L : List (Nat × Instr × Nat × Nat) := [(1697, .aload_n 1, 1, 1698), (1698, .aload_n 0, 1, 1699), (1699, .iload_n 3, 1, 1700), (1700, .iconst 1, 1, 1701), (1701, .iadd, 1, 1702), (1702, .iaload, 1, 1703), (1703, .aload_n 0, 1, 1704), (1704, .iload_n 3, 1, 1705), (1705, .iconst 2, 1, 1706), (1706, .iadd, 1, 1707), (1707, .iaload, 1, 1708), (1708, .aload_n 0, 1, 1709), (1709, .iload_n 3, 1, 1710), (1710, .iconst 3, 1, 1711), (1711, .iadd, 1, 1712), (1712, .iaload, 1, 1713), (1713, .invokevirtual 188, 3, 1716), (1716, .aload_n 2, 1, 1717), (1717, .aload_n 0, 1, 1718), (1718, .iload_n 3, 1, 1719), (1719, .iconst 1, 1, 1720), (1720, .iadd, 1, 1721), (1721, .iaload, 1, 1722), (1722, .aload_n 0, 1, 1723), (1723, .iload_n 3, 1, 1724), (1724, .iconst 2, 1, 1725), (1725, .iadd, 1, 1726), (1726, .iaload, 1, 1727), (1727, .aload_n 0, 1, 1728), (1728, .iload_n 3, 1, 1729), (1729, .iconst 3, 1, 1730), (1730, .iadd, 1, 1731), (1731, .iaload, 1, 1732), (1732, .invokevirtual 191, 3, 1735), (1735, .if_icmp .eq 171, 3, 1738), (1738, .iconst 0, 1, 1739), (1739, .ireturn, 1, 1740)]
set_option maxRecDepth 20000 in
theorem dL_law_1697 : dcL cL_law lL_law_1697L = true := by decide +kernel
def b_law_1697 (F : Nat) (xs : Nat → Int32) (Ls : Nat) (self : Nat × Nat → PH → Nat → Nat → Int32 → Option Int32) (cs : Nat × Nat) (h : PH) (v1 : Nat) (v2 : Nat) (v3 : Int32) : Option Int32 := (scr xs Ls ((v3 + (1 : Int32)))).bind fun x1 => ((scr xs Ls ((v3 + (2 : Int32)))).bind fun x2 => ((scr xs Ls ((v3 + (3 : Int32)))).bind fun x3 => (bud (kost (decide (((gR 9 7 h v1).bind fun a => aN 4 h a x1) = some none)) 2 43) cs fun cs6 => (cO 9 h v1 (bind2 (m_X9_numbers F h v1 x1 x2 x3) fun x4 h5 => ((scr xs Ls ((v3 + (1 : Int32)))).bind fun x7 => ((scr xs Ls ((v3 + (2 : Int32)))).bind fun x8 => ((scr xs Ls ((v3 + (3 : Int32)))).bind fun x9 => (cO 10 h5 v2 (bind2 (m_X10_numbers F h5 v2 x7 x8 x9) fun x10 h11 => (if x4 = x10 then (b_law_1906 F xs Ls self cs6 h11 v1 v2 v3) else (some (0 : Int32)))))))))))))
set_option maxRecDepth 20000 in
theorem t_law_1697 {M : MV} {X : XT} {F : Nat} {xs : Nat → Int32} {Ls b : Nat} {self : Nat × Nat → PH → Nat → Nat → Int32 → Option Int32} {cs : Nat × Nat} {h : PH} {v1 : Nat} {v2 : Nat} {v3 : Int32} (hc : Cx M X R_law code) (hr : Rx M 2048 84000 600000 7302250 4) (hL : Lx M X xs Ls b) (hm : cs.1 ≤ 600000) (hs : cs.2 ≤ 7302250) (ih : ∀ (cs : Nat × Nat) (h : PH) (v1 : Nat) (v2 : Nat) (v3 : Int32), cs.1 ≤ 600000 → cs.2 ≤ 7302250 → self cs h v1 v2 v3 = some 1 → GG M X h cs.1 cs.2 18 [(0, .ref b), (1, .ref (X.1 + v1)), (2, .ref (X.1 + v2)), (3, .int v3)] []) (hf : b_law_1697 F xs Ls self cs h v1 v2 v3 = some 1) : GG M X h cs.1 cs.2 1697 [(0, .ref b), (1, .ref (X.1 + v1)), (2, .ref (X.1 + v2)), (3, .int v3)] [] := by
  unfold b_law_1697 at hf
  refine r_aload_n hc 1 (dc_at dL_law_1697 0 rfl) rfl ?_
  refine r_aload_n hc 0 (dc_at dL_law_1697 1 rfl) rfl ?_
  refine r_iload_n hc 3 (dc_at dL_law_1697 2 rfl) rfl ?_
  refine r_iconst (1 : Int32) hc (dc_at dL_law_1697 3 rfl) (by decide) ?_
  refine r_iadd hc (dc_at dL_law_1697 4 rfl) ?_
  refine r_sload hL hc (dc_at dL_law_1697 5 rfl) hf fun x1 hf => ?_
  refine r_aload_n hc 0 (dc_at dL_law_1697 6 rfl) rfl ?_
  refine r_iload_n hc 3 (dc_at dL_law_1697 7 rfl) rfl ?_
  refine r_iconst (2 : Int32) hc (dc_at dL_law_1697 8 rfl) (by decide) ?_
  refine r_iadd hc (dc_at dL_law_1697 9 rfl) ?_
  refine r_sload hL hc (dc_at dL_law_1697 10 rfl) hf fun x2 hf => ?_
  refine r_aload_n hc 0 (dc_at dL_law_1697 11 rfl) rfl ?_
  refine r_iload_n hc 3 (dc_at dL_law_1697 12 rfl) rfl ?_
  refine r_iconst (3 : Int32) hc (dc_at dL_law_1697 13 rfl) (by decide) ?_
  refine r_iadd hc (dc_at dL_law_1697 14 rfl) ?_
  refine r_sload hL hc (dc_at dL_law_1697 15 rfl) hf fun x3 hf => ?_
  refine obud hf fun cs6 k1 k2 k3 k4 hm2 hs2 hf => ?_
  obtain ⟨ho, hf⟩ := cO_some hf
  refine ob2 hf fun x4 h5 ex hf => ?_
  refine r_callViC (As := [.int x1, .int x2, .int x3]) (ci := 9) hc hr (dc_at dL_law_1697 16 rfl) ml_L_188 mv_X9_numbers vi_X9_numbers rfl ho rfl (mt_X9_numbers ex (kost_ok 2 43)) (Nat.le_of_ble_eq_true rfl) (Nat.le_of_ble_eq_true rfl) (by first | exact Nat.le_of_ble_eq_true rfl | decide) k1 k2 ?_
  rw [← k3, ← k4]
  clear hm hs
  have hm := hm2
  have hs := hs2
  refine r_aload_n hc 2 (dc_at dL_law_1697 17 rfl) rfl ?_
  refine r_aload_n hc 0 (dc_at dL_law_1697 18 rfl) rfl ?_
  refine r_iload_n hc 3 (dc_at dL_law_1697 19 rfl) rfl ?_
  refine r_iconst (1 : Int32) hc (dc_at dL_law_1697 20 rfl) (by decide) ?_
  refine r_iadd hc (dc_at dL_law_1697 21 rfl) ?_
  refine r_sload hL hc (dc_at dL_law_1697 22 rfl) hf fun x7 hf => ?_
  refine r_aload_n hc 0 (dc_at dL_law_1697 23 rfl) rfl ?_
  refine r_iload_n hc 3 (dc_at dL_law_1697 24 rfl) rfl ?_
  refine r_iconst (2 : Int32) hc (dc_at dL_law_1697 25 rfl) (by decide) ?_
  refine r_iadd hc (dc_at dL_law_1697 26 rfl) ?_
  refine r_sload hL hc (dc_at dL_law_1697 27 rfl) hf fun x8 hf => ?_
  refine r_aload_n hc 0 (dc_at dL_law_1697 28 rfl) rfl ?_
  refine r_iload_n hc 3 (dc_at dL_law_1697 29 rfl) rfl ?_
  refine r_iconst (3 : Int32) hc (dc_at dL_law_1697 30 rfl) (by decide) ?_
  refine r_iadd hc (dc_at dL_law_1697 31 rfl) ?_
  refine r_sload hL hc (dc_at dL_law_1697 32 rfl) hf fun x9 hf => ?_
  obtain ⟨ho, hf⟩ := cO_some hf
  refine ob2 hf fun x10 h11 ex hf => ?_
  refine r_callVi (As := [.int x7, .int x8, .int x9]) (ci := 10) hc hr (dc_at dL_law_1697 33 rfl) ml_L_191 mv_X10_numbers vi_X10_numbers rfl ho rfl (mt_X10_numbers ex) (Nat.le_of_ble_eq_true rfl) (Nat.le_of_ble_eq_true rfl) (by first | exact Nat.le_of_ble_eq_true rfl | decide) hm hs ?_
  refine r_icmp_eq (tgt := 1906) hc (dc_at dL_law_1697 34 rfl) (by decide) hf (fun hf => ?_) (fun hf => ?_)
  · exact gg_sub [0, 1, 2, 3] rfl (t_law_1906 hc hr hL hm hs ih hf)
  · refine r_iconst (0 : Int32) hc (dc_at dL_law_1697 35 rfl) (by decide) ?_
    cases hf
