def lL_law_1041L : List (Nat × Instr × Nat × Nat) := [(1041, .aload_n 1, 1, 1042), (1042, .aload_n 0, 1, 1043), (1043, .iload_n 3, 1, 1044), (1044, .iconst 1, 1, 1045), (1045, .iadd, 1, 1046), (1046, .iaload, 1, 1047), (1047, .invokevirtual 116, 3, 1050), (1050, .aload_n 2, 1, 1051), (1051, .aload_n 0, 1, 1052), (1052, .iload_n 3, 1, 1053), (1053, .iconst 1, 1, 1054), (1054, .iadd, 1, 1055), (1055, .iaload, 1, 1056), (1056, .invokevirtual 119, 3, 1059), (1059, .if_icmp .eq 847, 3, 1062), (1062, .iconst 0, 1, 1063), (1063, .ireturn, 1, 1064)]
set_option maxRecDepth 20000 in
theorem dL_law_1041 : dcL cL_law lL_law_1041L = true := by decide +kernel
def b_law_1041 (F : Nat) (xs : Nat → Int32) (Ls : Nat) (self : Nat × Nat → PH → Nat → Nat → Int32 → Option Int32) (cs : Nat × Nat) (h : PH) (v1 : Nat) (v2 : Nat) (v3 : Int32) : Option Int32 := (scr xs Ls ((v3 + (1 : Int32)))).bind fun x1 => (cO 9 h v1 (bind2 (m_X9_rests F h v1 x1) fun x2 h3 => ((scr xs Ls ((v3 + (1 : Int32)))).bind fun x4 => (cO 10 h3 v2 (bind2 (m_X10_rests F h3 v2 x4) fun x5 h6 => (if x2 = x5 then (b_law_1906 F xs Ls self cs h6 v1 v2 v3) else (some (0 : Int32))))))))
set_option maxRecDepth 20000 in
theorem t_law_1041 {M : MV} {X : XT} {F : Nat} {xs : Nat → Int32} {Ls b : Nat} {self : Nat × Nat → PH → Nat → Nat → Int32 → Option Int32} {cs : Nat × Nat} {h : PH} {v1 : Nat} {v2 : Nat} {v3 : Int32} (hc : Cx M X R_law code) (hr : Rx M 2048 84000 600000 7302250 4) (hL : Lx M X xs Ls b) (hm : cs.1 ≤ 600000) (hs : cs.2 ≤ 7302250) (ih : ∀ (cs : Nat × Nat) (h : PH) (v1 : Nat) (v2 : Nat) (v3 : Int32), cs.1 ≤ 600000 → cs.2 ≤ 7302250 → self cs h v1 v2 v3 = some 1 → GG M X h cs.1 cs.2 18 [(0, .ref b), (1, .ref (X.1 + v1)), (2, .ref (X.1 + v2)), (3, .int v3)] []) (hf : b_law_1041 F xs Ls self cs h v1 v2 v3 = some 1) : GG M X h cs.1 cs.2 1041 [(0, .ref b), (1, .ref (X.1 + v1)), (2, .ref (X.1 + v2)), (3, .int v3)] [] := by
  unfold b_law_1041 at hf
  refine r_aload_n hc 1 (dc_at dL_law_1041 0 rfl) rfl ?_
  refine r_aload_n hc 0 (dc_at dL_law_1041 1 rfl) rfl ?_
  refine r_iload_n hc 3 (dc_at dL_law_1041 2 rfl) rfl ?_
  refine r_iconst (1 : Int32) hc (dc_at dL_law_1041 3 rfl) (by decide) ?_
  refine r_iadd hc (dc_at dL_law_1041 4 rfl) ?_
  refine r_sload hL hc (dc_at dL_law_1041 5 rfl) hf fun x1 hf => ?_
  obtain ⟨ho, hf⟩ := cO_some hf
  refine ob2 hf fun x2 h3 ex hf => ?_
  refine r_callVi (As := [.int x1]) (ci := 9) hc hr (dc_at dL_law_1041 6 rfl) ml_L_116 mv_X9_rests vi_X9_rests rfl ho rfl (mt_X9_rests ex) (Nat.le_of_ble_eq_true rfl) (Nat.le_of_ble_eq_true rfl) (by first | exact Nat.le_of_ble_eq_true rfl | decide) hm hs ?_
  refine r_aload_n hc 2 (dc_at dL_law_1041 7 rfl) rfl ?_
  refine r_aload_n hc 0 (dc_at dL_law_1041 8 rfl) rfl ?_
  refine r_iload_n hc 3 (dc_at dL_law_1041 9 rfl) rfl ?_
  refine r_iconst (1 : Int32) hc (dc_at dL_law_1041 10 rfl) (by decide) ?_
  refine r_iadd hc (dc_at dL_law_1041 11 rfl) ?_
  refine r_sload hL hc (dc_at dL_law_1041 12 rfl) hf fun x4 hf => ?_
  obtain ⟨ho, hf⟩ := cO_some hf
  refine ob2 hf fun x5 h6 ex hf => ?_
  refine r_callVi (As := [.int x4]) (ci := 10) hc hr (dc_at dL_law_1041 13 rfl) ml_L_119 mv_X10_rests vi_X10_rests rfl ho rfl (mt_X10_rests ex) (Nat.le_of_ble_eq_true rfl) (Nat.le_of_ble_eq_true rfl) (by first | exact Nat.le_of_ble_eq_true rfl | decide) hm hs ?_
  refine r_icmp_eq (tgt := 1906) hc (dc_at dL_law_1041 14 rfl) (by decide) hf (fun hf => ?_) (fun hf => ?_)
  · exact gg_sub [0, 1, 2, 3] rfl (t_law_1906 hc hr hL hm hs ih hf)
  · refine r_iconst (0 : Int32) hc (dc_at dL_law_1041 15 rfl) (by decide) ?_
    cases hf
def lL_law_886L : List (Nat × Instr × Nat × Nat) := [(886, .aload_n 1, 1, 887), (887, .aload_n 0, 1, 888), (888, .iload_n 3, 1, 889), (889, .iconst 1, 1, 890), (890, .iadd, 1, 891), (891, .iaload, 1, 892), (892, .invokevirtual 96, 3, 895), (895, .aload_n 2, 1, 896), (896, .aload_n 0, 1, 897), (897, .iload_n 3, 1, 898), (898, .iconst 1, 1, 899), (899, .iadd, 1, 900), (900, .iaload, 1, 901), (901, .invokevirtual 99, 3, 904), (904, .if_icmp .eq 1002, 3, 907), (907, .iconst 0, 1, 908), (908, .ireturn, 1, 909)]
set_option maxRecDepth 20000 in
theorem dL_law_886 : dcL cL_law lL_law_886L = true := by decide +kernel
def b_law_886 (F : Nat) (xs : Nat → Int32) (Ls : Nat) (self : Nat × Nat → PH → Nat → Nat → Int32 → Option Int32) (cs : Nat × Nat) (h : PH) (v1 : Nat) (v2 : Nat) (v3 : Int32) : Option Int32 := (scr xs Ls ((v3 + (1 : Int32)))).bind fun x1 => (bud (kost (mq_X9_reach F h v1 x1).isNone 10 46057) cs fun cs4 => (cO 9 h v1 (bind2 (m_X9_reach F h v1 x1) fun x2 h3 => ((scr xs Ls ((v3 + (1 : Int32)))).bind fun x5 => (cO 10 h3 v2 (bind2 (m_X10_reach F h3 v2 x5) fun x6 h7 => (if x2 = x6 then (b_law_1906 F xs Ls self cs4 h7 v1 v2 v3) else (some (0 : Int32)))))))))
set_option maxRecDepth 20000 in
theorem t_law_886 {M : MV} {X : XT} {F : Nat} {xs : Nat → Int32} {Ls b : Nat} {self : Nat × Nat → PH → Nat → Nat → Int32 → Option Int32} {cs : Nat × Nat} {h : PH} {v1 : Nat} {v2 : Nat} {v3 : Int32} (hc : Cx M X R_law code) (hr : Rx M 2048 84000 600000 7302250 4) (hL : Lx M X xs Ls b) (hm : cs.1 ≤ 600000) (hs : cs.2 ≤ 7302250) (ih : ∀ (cs : Nat × Nat) (h : PH) (v1 : Nat) (v2 : Nat) (v3 : Int32), cs.1 ≤ 600000 → cs.2 ≤ 7302250 → self cs h v1 v2 v3 = some 1 → GG M X h cs.1 cs.2 18 [(0, .ref b), (1, .ref (X.1 + v1)), (2, .ref (X.1 + v2)), (3, .int v3)] []) (hf : b_law_886 F xs Ls self cs h v1 v2 v3 = some 1) : GG M X h cs.1 cs.2 886 [(0, .ref b), (1, .ref (X.1 + v1)), (2, .ref (X.1 + v2)), (3, .int v3)] [] := by
  unfold b_law_886 at hf
  refine r_aload_n hc 1 (dc_at dL_law_886 0 rfl) rfl ?_
  refine r_aload_n hc 0 (dc_at dL_law_886 1 rfl) rfl ?_
  refine r_iload_n hc 3 (dc_at dL_law_886 2 rfl) rfl ?_
  refine r_iconst (1 : Int32) hc (dc_at dL_law_886 3 rfl) (by decide) ?_
  refine r_iadd hc (dc_at dL_law_886 4 rfl) ?_
  refine r_sload hL hc (dc_at dL_law_886 5 rfl) hf fun x1 hf => ?_
  refine obud hf fun cs4 k1 k2 k3 k4 hm2 hs2 hf => ?_
  obtain ⟨ho, hf⟩ := cO_some hf
  refine ob2 hf fun x2 h3 ex hf => ?_
  refine r_callViC (As := [.int x1]) (ci := 9) hc hr (dc_at dL_law_886 6 rfl) ml_L_96 mv_X9_reach vi_X9_reach rfl ho rfl (mtk_X9_reach ex) (Nat.le_of_ble_eq_true rfl) (Nat.le_of_ble_eq_true rfl) (by first | exact Nat.le_of_ble_eq_true rfl | decide) k1 k2 ?_
  rw [← k3, ← k4]
  clear hm hs
  have hm := hm2
  have hs := hs2
  refine r_aload_n hc 2 (dc_at dL_law_886 7 rfl) rfl ?_
  refine r_aload_n hc 0 (dc_at dL_law_886 8 rfl) rfl ?_
  refine r_iload_n hc 3 (dc_at dL_law_886 9 rfl) rfl ?_
  refine r_iconst (1 : Int32) hc (dc_at dL_law_886 10 rfl) (by decide) ?_
  refine r_iadd hc (dc_at dL_law_886 11 rfl) ?_
  refine r_sload hL hc (dc_at dL_law_886 12 rfl) hf fun x5 hf => ?_
  obtain ⟨ho, hf⟩ := cO_some hf
  refine ob2 hf fun x6 h7 ex hf => ?_
  refine r_callVi (As := [.int x5]) (ci := 10) hc hr (dc_at dL_law_886 13 rfl) ml_L_99 mv_X10_reach vi_X10_reach rfl ho rfl (mt_X10_reach ex) (Nat.le_of_ble_eq_true rfl) (Nat.le_of_ble_eq_true rfl) (by first | exact Nat.le_of_ble_eq_true rfl | decide) hm hs ?_
  refine r_icmp_eq (tgt := 1906) hc (dc_at dL_law_886 14 rfl) (by decide) hf (fun hf => ?_) (fun hf => ?_)
  · exact gg_sub [0, 1, 2, 3] rfl (t_law_1906 hc hr hL hm hs ih hf)
  · refine r_iconst (0 : Int32) hc (dc_at dL_law_886 15 rfl) (by decide) ?_
    cases hf
def lL_law_1674L : List (Nat × Instr × Nat × Nat) := [(1674, .aload_n 1, 1, 1675), (1675, .aload_n 0, 1, 1676), (1676, .iload_n 3, 1, 1677), (1677, .iconst 1, 1, 1678), (1678, .iadd, 1, 1679), (1679, .iaload, 1, 1680), (1680, .invokevirtual 184, 3, 1683), (1683, .aload_n 2, 1, 1684), (1684, .aload_n 0, 1, 1685), (1685, .iload_n 3, 1, 1686), (1686, .iconst 1, 1, 1687), (1687, .iadd, 1, 1688), (1688, .iaload, 1, 1689), (1689, .invokevirtual 187, 3, 1692), (1692, .if_icmp .eq 214, 3, 1695), (1695, .iconst 0, 1, 1696), (1696, .ireturn, 1, 1697)]
set_option maxRecDepth 20000 in
theorem dL_law_1674 : dcL cL_law lL_law_1674L = true := by decide +kernel
def b_law_1674 (F : Nat) (xs : Nat → Int32) (Ls : Nat) (self : Nat × Nat → PH → Nat → Nat → Int32 → Option Int32) (cs : Nat × Nat) (h : PH) (v1 : Nat) (v2 : Nat) (v3 : Int32) : Option Int32 := (scr xs Ls ((v3 + (1 : Int32)))).bind fun x1 => (bud (kost (mq_X9_ends F h v1 x1).isNone 10 46057) cs fun cs4 => (cO 9 h v1 (bind2 (m_X9_ends F h v1 x1) fun x2 h3 => ((scr xs Ls ((v3 + (1 : Int32)))).bind fun x5 => (cO 10 h3 v2 (bind2 (m_X10_ends F h3 v2 x5) fun x6 h7 => (if x2 = x6 then (b_law_1906 F xs Ls self cs4 h7 v1 v2 v3) else (some (0 : Int32)))))))))
set_option maxRecDepth 20000 in
theorem t_law_1674 {M : MV} {X : XT} {F : Nat} {xs : Nat → Int32} {Ls b : Nat} {self : Nat × Nat → PH → Nat → Nat → Int32 → Option Int32} {cs : Nat × Nat} {h : PH} {v1 : Nat} {v2 : Nat} {v3 : Int32} (hc : Cx M X R_law code) (hr : Rx M 2048 84000 600000 7302250 4) (hL : Lx M X xs Ls b) (hm : cs.1 ≤ 600000) (hs : cs.2 ≤ 7302250) (ih : ∀ (cs : Nat × Nat) (h : PH) (v1 : Nat) (v2 : Nat) (v3 : Int32), cs.1 ≤ 600000 → cs.2 ≤ 7302250 → self cs h v1 v2 v3 = some 1 → GG M X h cs.1 cs.2 18 [(0, .ref b), (1, .ref (X.1 + v1)), (2, .ref (X.1 + v2)), (3, .int v3)] []) (hf : b_law_1674 F xs Ls self cs h v1 v2 v3 = some 1) : GG M X h cs.1 cs.2 1674 [(0, .ref b), (1, .ref (X.1 + v1)), (2, .ref (X.1 + v2)), (3, .int v3)] [] := by
  unfold b_law_1674 at hf
  refine r_aload_n hc 1 (dc_at dL_law_1674 0 rfl) rfl ?_
  refine r_aload_n hc 0 (dc_at dL_law_1674 1 rfl) rfl ?_
  refine r_iload_n hc 3 (dc_at dL_law_1674 2 rfl) rfl ?_
  refine r_iconst (1 : Int32) hc (dc_at dL_law_1674 3 rfl) (by decide) ?_
  refine r_iadd hc (dc_at dL_law_1674 4 rfl) ?_
  refine r_sload hL hc (dc_at dL_law_1674 5 rfl) hf fun x1 hf => ?_
  refine obud hf fun cs4 k1 k2 k3 k4 hm2 hs2 hf => ?_
  obtain ⟨ho, hf⟩ := cO_some hf
  refine ob2 hf fun x2 h3 ex hf => ?_
  refine r_callViC (As := [.int x1]) (ci := 9) hc hr (dc_at dL_law_1674 6 rfl) ml_L_184 mv_X9_ends vi_X9_ends rfl ho rfl (mtk_X9_ends ex) (Nat.le_of_ble_eq_true rfl) (Nat.le_of_ble_eq_true rfl) (by first | exact Nat.le_of_ble_eq_true rfl | decide) k1 k2 ?_
  rw [← k3, ← k4]
  clear hm hs
  have hm := hm2
  have hs := hs2
  refine r_aload_n hc 2 (dc_at dL_law_1674 7 rfl) rfl ?_
  refine r_aload_n hc 0 (dc_at dL_law_1674 8 rfl) rfl ?_
  refine r_iload_n hc 3 (dc_at dL_law_1674 9 rfl) rfl ?_
  refine r_iconst (1 : Int32) hc (dc_at dL_law_1674 10 rfl) (by decide) ?_
  refine r_iadd hc (dc_at dL_law_1674 11 rfl) ?_
  refine r_sload hL hc (dc_at dL_law_1674 12 rfl) hf fun x5 hf => ?_
  obtain ⟨ho, hf⟩ := cO_some hf
  refine ob2 hf fun x6 h7 ex hf => ?_
  refine r_callVi (As := [.int x5]) (ci := 10) hc hr (dc_at dL_law_1674 13 rfl) ml_L_187 mv_X10_ends vi_X10_ends rfl ho rfl (mt_X10_ends ex) (Nat.le_of_ble_eq_true rfl) (Nat.le_of_ble_eq_true rfl) (by first | exact Nat.le_of_ble_eq_true rfl | decide) hm hs ?_
  refine r_icmp_eq (tgt := 1906) hc (dc_at dL_law_1674 14 rfl) (by decide) hf (fun hf => ?_) (fun hf => ?_)
  · exact gg_sub [0, 1, 2, 3] rfl (t_law_1906 hc hr hL hm hs ih hf)
  · refine r_iconst (0 : Int32) hc (dc_at dL_law_1674 15 rfl) (by decide) ?_
    cases hf
