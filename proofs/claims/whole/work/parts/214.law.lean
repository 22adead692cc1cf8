def lL_law_1837L : List (Nat × Instr × Nat × Nat) := [(1837, .aload_n 1, 1, 1838), (1838, .aload_n 0, 1, 1839), (1839, .iload_n 3, 1, 1840), (1840, .iconst 1, 1, 1841), (1841, .iadd, 1, 1842), (1842, .iaload, 1, 1843), (1843, .invokevirtual 203, 3, 1846), (1846, .aload_n 2, 1, 1847), (1847, .aload_n 0, 1, 1848), (1848, .iload_n 3, 1, 1849), (1849, .iconst 1, 1, 1850), (1850, .iadd, 1, 1851), (1851, .iaload, 1, 1852), (1852, .invokevirtual 206, 3, 1855), (1855, .if_icmp .eq 51, 3, 1858), (1858, .iconst 0, 1, 1859), (1859, .ireturn, 1, 1860)]
set_option maxRecDepth 20000 in
theorem dL_law_1837 : dcL cL_law lL_law_1837L = true := by decide +kernel
def b_law_1837 (F : Nat) (xs : Nat → Int32) (Ls : Nat) (self : Nat × Nat → PH → Nat → Nat → Int32 → Option Int32) (cs : Nat × Nat) (h : PH) (v1 : Nat) (v2 : Nat) (v3 : Int32) : Option Int32 := (scr xs Ls ((v3 + (1 : Int32)))).bind fun x1 => (bud (kost (decide (((gR 9 6 h v1).bind fun a => aN 3 h a x1) = some none)) 10 988) cs fun cs4 => (cO 9 h v1 (bind2 (m_X9_image h v1 x1) fun x2 h3 => ((scr xs Ls ((v3 + (1 : Int32)))).bind fun x5 => (cO 10 h3 v2 (bind2 (m_X10_image F h3 v2 x5) fun x6 h7 => (if x2 = x6 then (b_law_1906 F xs Ls self cs4 h7 v1 v2 v3) else (some (0 : Int32)))))))))
set_option maxRecDepth 20000 in
theorem t_law_1837 {M : MV} {X : XT} {F : Nat} {xs : Nat → Int32} {Ls b : Nat} {self : Nat × Nat → PH → Nat → Nat → Int32 → Option Int32} {cs : Nat × Nat} {h : PH} {v1 : Nat} {v2 : Nat} {v3 : Int32} (hc : Cx M X R_law code) (hr : Rx M 2048 84000 600000 7302250 4) (hL : Lx M X xs Ls b) (hm : cs.1 ≤ 600000) (hs : cs.2 ≤ 7302250) (ih : ∀ (cs : Nat × Nat) (h : PH) (v1 : Nat) (v2 : Nat) (v3 : Int32), cs.1 ≤ 600000 → cs.2 ≤ 7302250 → self cs h v1 v2 v3 = some 1 → GG M X h cs.1 cs.2 18 [(0, .ref b), (1, .ref (X.1 + v1)), (2, .ref (X.1 + v2)), (3, .int v3)] []) (hf : b_law_1837 F xs Ls self cs h v1 v2 v3 = some 1) : GG M X h cs.1 cs.2 1837 [(0, .ref b), (1, .ref (X.1 + v1)), (2, .ref (X.1 + v2)), (3, .int v3)] [] := by
  unfold b_law_1837 at hf
  refine r_aload_n hc 1 (dc_at dL_law_1837 0 rfl) rfl ?_
  refine r_aload_n hc 0 (dc_at dL_law_1837 1 rfl) rfl ?_
  refine r_iload_n hc 3 (dc_at dL_law_1837 2 rfl) rfl ?_
  refine r_iconst (1 : Int32) hc (dc_at dL_law_1837 3 rfl) (by decide) ?_
  refine r_iadd hc (dc_at dL_law_1837 4 rfl) ?_
  refine r_sload hL hc (dc_at dL_law_1837 5 rfl) hf fun x1 hf => ?_
  refine obud hf fun cs4 k1 k2 k3 k4 hm2 hs2 hf => ?_
  obtain ⟨ho, hf⟩ := cO_some hf
  refine ob2 hf fun x2 h3 ex hf => ?_
  refine r_callViC (As := [.int x1]) (ci := 9) hc hr (dc_at dL_law_1837 6 rfl) ml_L_203 mv_X9_image vi_X9_image rfl ho rfl (mt_X9_image ex (kost_ok 10 988)) (Nat.le_of_ble_eq_true rfl) (Nat.le_of_ble_eq_true rfl) (by first | exact Nat.le_of_ble_eq_true rfl | decide) k1 k2 ?_
  rw [← k3, ← k4]
  clear hm hs
  have hm := hm2
  have hs := hs2
  refine r_aload_n hc 2 (dc_at dL_law_1837 7 rfl) rfl ?_
  refine r_aload_n hc 0 (dc_at dL_law_1837 8 rfl) rfl ?_
  refine r_iload_n hc 3 (dc_at dL_law_1837 9 rfl) rfl ?_
  refine r_iconst (1 : Int32) hc (dc_at dL_law_1837 10 rfl) (by decide) ?_
  refine r_iadd hc (dc_at dL_law_1837 11 rfl) ?_
  refine r_sload hL hc (dc_at dL_law_1837 12 rfl) hf fun x5 hf => ?_
  obtain ⟨ho, hf⟩ := cO_some hf
  refine ob2 hf fun x6 h7 ex hf => ?_
  refine r_callVi (As := [.int x5]) (ci := 10) hc hr (dc_at dL_law_1837 13 rfl) ml_L_206 mv_X10_image vi_X10_image rfl ho rfl (mt_X10_image ex) (Nat.le_of_ble_eq_true rfl) (Nat.le_of_ble_eq_true rfl) (by first | exact Nat.le_of_ble_eq_true rfl | decide) hm hs ?_
  refine r_icmp_eq (tgt := 1906) hc (dc_at dL_law_1837 14 rfl) (by decide) hf (fun hf => ?_) (fun hf => ?_)
  · exact gg_sub [0, 1, 2, 3] rfl (t_law_1906 hc hr hL hm hs ih hf)
  · refine r_iconst (0 : Int32) hc (dc_at dL_law_1837 15 rfl) (by decide) ?_
    cases hf
def lL_law_1120L : List (Nat × Instr × Nat × Nat) := [(1120, .aload_n 0, 1, 1121), (1121, .iload_n 3, 1, 1122), (1122, .iconst 4, 1, 1123), (1123, .iadd, 1, 1124), (1124, .iaload, 1, 1125), (1125, .invokevirtual 124, 3, 1128), (1128, .if_icmp .eq 778, 3, 1131), (1131, .iconst 0, 1, 1132), (1132, .ireturn, 1, 1133)]
set_option maxRecDepth 20000 in
theorem dL_law_1120 : dcL cL_law lL_law_1120L = true := by decide +kernel
def b_law_1120 (F : Nat) (xs : Nat → Int32) (Ls : Nat) (self : Nat × Nat → PH → Nat → Nat → Int32 → Option Int32) (cs : Nat × Nat) (h : PH) (v1 : Nat) (v2 : Nat) (v3 : Int32) (s0 : Int32) (s1 : Nat) (s2 : Int32) (s3 : Int32) (s4 : Int32) : Option Int32 := (scr xs Ls ((v3 + (4 : Int32)))).bind fun x1 => (cO 10 h s1 (bind2 (m_X10_meet F h s1 s2 s3 s4 x1) fun x2 h3 => (if s0 = x2 then (b_law_1906 F xs Ls self cs h3 v1 v2 v3) else (some (0 : Int32)))))
set_option maxRecDepth 20000 in
theorem t_law_1120 {M : MV} {X : XT} {F : Nat} {xs : Nat → Int32} {Ls b : Nat} {self : Nat × Nat → PH → Nat → Nat → Int32 → Option Int32} {cs : Nat × Nat} {h : PH} {v1 : Nat} {v2 : Nat} {v3 : Int32} {s0 : Int32} {s1 : Nat} {s2 : Int32} {s3 : Int32} {s4 : Int32} (hc : Cx M X R_law code) (hr : Rx M 2048 84000 600000 7302250 4) (hL : Lx M X xs Ls b) (hm : cs.1 ≤ 600000) (hs : cs.2 ≤ 7302250) (ih : ∀ (cs : Nat × Nat) (h : PH) (v1 : Nat) (v2 : Nat) (v3 : Int32), cs.1 ≤ 600000 → cs.2 ≤ 7302250 → self cs h v1 v2 v3 = some 1 → GG M X h cs.1 cs.2 18 [(0, .ref b), (1, .ref (X.1 + v1)), (2, .ref (X.1 + v2)), (3, .int v3)] []) (hf : b_law_1120 F xs Ls self cs h v1 v2 v3 s0 s1 s2 s3 s4 = some 1) : GG M X h cs.1 cs.2 1120 [(0, .ref b), (1, .ref (X.1 + v1)), (2, .ref (X.1 + v2)), (3, .int v3)] [.int s4, .int s3, .int s2, .ref (X.1 + s1), .int s0] := by
  unfold b_law_1120 at hf
  refine r_aload_n hc 0 (dc_at dL_law_1120 0 rfl) rfl ?_
  refine r_iload_n hc 3 (dc_at dL_law_1120 1 rfl) rfl ?_
  refine r_iconst (4 : Int32) hc (dc_at dL_law_1120 2 rfl) (by decide) ?_
  refine r_iadd hc (dc_at dL_law_1120 3 rfl) ?_
  refine r_sload hL hc (dc_at dL_law_1120 4 rfl) hf fun x1 hf => ?_
  obtain ⟨ho, hf⟩ := cO_some hf
  refine ob2 hf fun x2 h3 ex hf => ?_
  refine r_callVi (As := [.int s2, .int s3, .int s4, .int x1]) (ci := 10) hc hr (dc_at dL_law_1120 5 rfl) ml_L_124 mv_X10_meet vi_X10_meet rfl ho rfl (mt_X10_meet ex) (Nat.le_of_ble_eq_true rfl) (Nat.le_of_ble_eq_true rfl) (by first | exact Nat.le_of_ble_eq_true rfl | decide) hm hs ?_
  refine r_icmp_eq (tgt := 1906) hc (dc_at dL_law_1120 6 rfl) (by decide) hf (fun hf => ?_) (fun hf => ?_)
  · exact gg_sub [0, 1, 2, 3] rfl (t_law_1906 hc hr hL hm hs ih hf)
  · refine r_iconst (0 : Int32) hc (dc_at dL_law_1120 7 rfl) (by decide) ?_
    cases hf
def lL_law_1088L : List (Nat × Instr × Nat × Nat) := [(1088, .aload_n 0, 1, 1089), (1089, .iload_n 3, 1, 1090), (1090, .iconst 4, 1, 1091), (1091, .iadd, 1, 1092), (1092, .iaload, 1, 1093), (1093, .invokevirtual 120, 3, 1096), (1096, .aload_n 2, 1, 1097), (1097, .aload_n 0, 1, 1098), (1098, .iload_n 3, 1, 1099), (1099, .iconst 1, 1, 1100), (1100, .iadd, 1, 1101), (1101, .iaload, 1, 1102), (1102, .aload_n 0, 1, 1103), (1103, .iload_n 3, 1, 1104), (1104, .iconst 2, 1, 1105), (1105, .iadd, 1, 1106), (1106, .iaload, 1, 1107), (1107, .aload_n 0, 1, 1108), (1108, .iload_n 3, 1, 1109), (1109, .iconst 3, 1, 1110), (1110, .iadd, 1, 1111), (1111, .iaload, 1, 1112), (1112, .ifCond .eq 7, 3, 1115), (1119, .iconst 0, 1, 1120), (1115, .iconst 1, 1, 1116), (1116, .goto 4, 3, 1119)]
set_option maxRecDepth 20000 in
theorem dL_law_1088 : dcL cL_law lL_law_1088L = true := by decide +kernel
def b_law_1088 (F : Nat) (xs : Nat → Int32) (Ls : Nat) (self : Nat × Nat → PH → Nat → Nat → Int32 → Option Int32) (cs : Nat × Nat) (h : PH) (v1 : Nat) (v2 : Nat) (v3 : Int32) (s0 : Nat) (s1 : Int32) (s2 : Int32) (s3 : Int32) : Option Int32 := (scr xs Ls ((v3 + (4 : Int32)))).bind fun x1 => (bud (kost (mq_X9_meet F h s0 s1 s2 s3 x1).isNone 10 46057) cs fun cs4 => (cO 9 h s0 (bind2 (m_X9_meet F h s0 s1 s2 s3 x1) fun x2 h3 => ((scr xs Ls ((v3 + (1 : Int32)))).bind fun x5 => ((scr xs Ls ((v3 + (2 : Int32)))).bind fun x6 => ((scr xs Ls ((v3 + (3 : Int32)))).bind fun x7 => (if x7 = 0 then (b_law_1120 F xs Ls self cs4 h3 v1 v2 v3 x2 v2 x5 x6 (0 : Int32)) else (b_law_1120 F xs Ls self cs4 h3 v1 v2 v3 x2 v2 x5 x6 (1 : Int32)))))))))
set_option maxRecDepth 20000 in
theorem t_law_1088 {M : MV} {X : XT} {F : Nat} {xs : Nat → Int32} {Ls b : Nat} {self : Nat × Nat → PH → Nat → Nat → Int32 → Option Int32} {cs : Nat × Nat} {h : PH} {v1 : Nat} {v2 : Nat} {v3 : Int32} {s0 : Nat} {s1 : Int32} {s2 : Int32} {s3 : Int32} (hc : Cx M X R_law code) (hr : Rx M 2048 84000 600000 7302250 4) (hL : Lx M X xs Ls b) (hm : cs.1 ≤ 600000) (hs : cs.2 ≤ 7302250) (ih : ∀ (cs : Nat × Nat) (h : PH) (v1 : Nat) (v2 : Nat) (v3 : Int32), cs.1 ≤ 600000 → cs.2 ≤ 7302250 → self cs h v1 v2 v3 = some 1 → GG M X h cs.1 cs.2 18 [(0, .ref b), (1, .ref (X.1 + v1)), (2, .ref (X.1 + v2)), (3, .int v3)] []) (hf : b_law_1088 F xs Ls self cs h v1 v2 v3 s0 s1 s2 s3 = some 1) : GG M X h cs.1 cs.2 1088 [(0, .ref b), (1, .ref (X.1 + v1)), (2, .ref (X.1 + v2)), (3, .int v3)] [.int s3, .int s2, .int s1, .ref (X.1 + s0)] := by
  unfold b_law_1088 at hf
  refine r_aload_n hc 0 (dc_at dL_law_1088 0 rfl) rfl ?_
  refine r_iload_n hc 3 (dc_at dL_law_1088 1 rfl) rfl ?_
  refine r_iconst (4 : Int32) hc (dc_at dL_law_1088 2 rfl) (by decide) ?_
  refine r_iadd hc (dc_at dL_law_1088 3 rfl) ?_
  refine r_sload hL hc (dc_at dL_law_1088 4 rfl) hf fun x1 hf => ?_
  refine obud hf fun cs4 k1 k2 k3 k4 hm2 hs2 hf => ?_
  obtain ⟨ho, hf⟩ := cO_some hf
  refine ob2 hf fun x2 h3 ex hf => ?_
  refine r_callViC (As := [.int s1, .int s2, .int s3, .int x1]) (ci := 9) hc hr (dc_at dL_law_1088 5 rfl) ml_L_120 mv_X9_meet vi_X9_meet rfl ho rfl (mtk_X9_meet ex) (Nat.le_of_ble_eq_true rfl) (Nat.le_of_ble_eq_true rfl) (by first | exact Nat.le_of_ble_eq_true rfl | decide) k1 k2 ?_
  rw [← k3, ← k4]
  clear hm hs
  have hm := hm2
  have hs := hs2
  refine r_aload_n hc 2 (dc_at dL_law_1088 6 rfl) rfl ?_
  refine r_aload_n hc 0 (dc_at dL_law_1088 7 rfl) rfl ?_
  refine r_iload_n hc 3 (dc_at dL_law_1088 8 rfl) rfl ?_
  refine r_iconst (1 : Int32) hc (dc_at dL_law_1088 9 rfl) (by decide) ?_
  refine r_iadd hc (dc_at dL_law_1088 10 rfl) ?_
  refine r_sload hL hc (dc_at dL_law_1088 11 rfl) hf fun x5 hf => ?_
  refine r_aload_n hc 0 (dc_at dL_law_1088 12 rfl) rfl ?_
  refine r_iload_n hc 3 (dc_at dL_law_1088 13 rfl) rfl ?_
  refine r_iconst (2 : Int32) hc (dc_at dL_law_1088 14 rfl) (by decide) ?_
  refine r_iadd hc (dc_at dL_law_1088 15 rfl) ?_
  refine r_sload hL hc (dc_at dL_law_1088 16 rfl) hf fun x6 hf => ?_
  refine r_aload_n hc 0 (dc_at dL_law_1088 17 rfl) rfl ?_
  refine r_iload_n hc 3 (dc_at dL_law_1088 18 rfl) rfl ?_
  refine r_iconst (3 : Int32) hc (dc_at dL_law_1088 19 rfl) (by decide) ?_
  refine r_iadd hc (dc_at dL_law_1088 20 rfl) ?_
  refine r_sload hL hc (dc_at dL_law_1088 21 rfl) hf fun x7 hf => ?_
  refine r_if_eq (tgt := 1119) hc (dc_at dL_law_1088 22 rfl) (by decide) hf (fun hf => ?_) (fun hf => ?_)
  · refine r_iconst (0 : Int32) hc (dc_at dL_law_1088 23 rfl) (by decide) ?_
    exact gg_sub [0, 1, 2, 3] rfl (t_law_1120 hc hr hL hm hs ih hf)
  · refine r_iconst (1 : Int32) hc (dc_at dL_law_1088 24 rfl) (by decide) ?_
    refine r_goto (tgt := 1120) hc (dc_at dL_law_1088 25 rfl) (by decide) ?_
    exact gg_sub [0, 1, 2, 3] rfl (t_law_1120 hc hr hL hm hs ih hf)
