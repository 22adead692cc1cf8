def lL_law_942L : List (Nat × Instr × Nat × Nat) := [(942, .aload_n 1, 1, 943), (943, .aload_n 0, 1, 944), (944, .iload_n 3, 1, 945), (945, .iconst 1, 1, 946), (946, .iadd, 1, 947), (947, .iaload, 1, 948), (948, .invokevirtual 104, 3, 951), (951, .aload_n 2, 1, 952), (952, .aload_n 0, 1, 953), (953, .iload_n 3, 1, 954), (954, .iconst 1, 1, 955), (955, .iadd, 1, 956), (956, .iaload, 1, 957), (957, .invokevirtual 107, 3, 960), (960, .if_icmp .eq 946, 3, 963), (963, .iconst 0, 1, 964), (964, .ireturn, 1, 965)]
set_option maxRecDepth 20000 in
theorem dL_law_942 : dcL cL_law lL_law_942L = true := by decide +kernel
def b_law_942 (F : Nat) (xs : Nat → Int32) (Ls : Nat) (self : Nat × Nat → PH → Nat → Nat → Int32 → Option Int32) (cs : Nat × Nat) (h : PH) (v1 : Nat) (v2 : Nat) (v3 : Int32) : Option Int32 := (scr xs Ls ((v3 + (1 : Int32)))).bind fun x1 => (bud (kost (mq_X9_twins F h v1 x1).isNone 10 46057) cs fun cs4 => (cO 9 h v1 (bind2 (m_X9_twins F h v1 x1) fun x2 h3 => ((scr xs Ls ((v3 + (1 : Int32)))).bind fun x5 => (cO 10 h3 v2 (bind2 (m_X10_twins F h3 v2 x5) fun x6 h7 => (if x2 = x6 then (b_law_1906 F xs Ls self cs4 h7 v1 v2 v3) else (some (0 : Int32)))))))))
set_option maxRecDepth 20000 in
theorem t_law_942 {M : MV} {X : XT} {F : Nat} {xs : Nat → Int32} {Ls b : Nat} {self : Nat × Nat → PH → Nat → Nat → Int32 → Option Int32} {cs : Nat × Nat} {h : PH} {v1 : Nat} {v2 : Nat} {v3 : Int32} (hc : Cx M X R_law code) (hr : Rx M 2048 84000 600000 7302250 4) (hL : Lx M X xs Ls b) (hm : cs.1 ≤ 600000) (hs : cs.2 ≤ 7302250) (ih : ∀ (cs : Nat × Nat) (h : PH) (v1 : Nat) (v2 : Nat) (v3 : Int32), cs.1 ≤ 600000 → cs.2 ≤ 7302250 → self cs h v1 v2 v3 = some 1 → GG M X h cs.1 cs.2 18 [(0, .ref b), (1, .ref (X.1 + v1)), (2, .ref (X.1 + v2)), (3, .int v3)] []) (hf : b_law_942 F xs Ls self cs h v1 v2 v3 = some 1) : GG M X h cs.1 cs.2 942 [(0, .ref b), (1, .ref (X.1 + v1)), (2, .ref (X.1 + v2)), (3, .int v3)] [] := by
  unfold b_law_942 at hf
  refine r_aload_n hc 1 (dc_at dL_law_942 0 rfl) rfl ?_
  refine r_aload_n hc 0 (dc_at dL_law_942 1 rfl) rfl ?_
  refine r_iload_n hc 3 (dc_at dL_law_942 2 rfl) rfl ?_
  refine r_iconst (1 : Int32) hc (dc_at dL_law_942 3 rfl) (by decide) ?_
  refine r_iadd hc (dc_at dL_law_942 4 rfl) ?_
  refine r_sload hL hc (dc_at dL_law_942 5 rfl) hf fun x1 hf => ?_
  refine obud hf fun cs4 k1 k2 k3 k4 hm2 hs2 hf => ?_
  obtain ⟨ho, hf⟩ := cO_some hf
  refine ob2 hf fun x2 h3 ex hf => ?_
  refine r_callViC (As := [.int x1]) (ci := 9) hc hr (dc_at dL_law_942 6 rfl) ml_L_104 mv_X9_twins vi_X9_twins rfl ho rfl (mtk_X9_twins ex) (Nat.le_of_ble_eq_true rfl) (Nat.le_of_ble_eq_true rfl) (by first | exact Nat.le_of_ble_eq_true rfl | decide) k1 k2 ?_
  rw [← k3, ← k4]
  clear hm hs
  have hm := hm2
  have hs := hs2
  refine r_aload_n hc 2 (dc_at dL_law_942 7 rfl) rfl ?_
  refine r_aload_n hc 0 (dc_at dL_law_942 8 rfl) rfl ?_
  refine r_iload_n hc 3 (dc_at dL_law_942 9 rfl) rfl ?_
  refine r_iconst (1 : Int32) hc (dc_at dL_law_942 10 rfl) (by decide) ?_
  refine r_iadd hc (dc_at dL_law_942 11 rfl) ?_
  refine r_sload hL hc (dc_at dL_law_942 12 rfl) hf fun x5 hf => ?_
  obtain ⟨ho, hf⟩ := cO_some hf
  refine ob2 hf fun x6 h7 ex hf => ?_
  refine r_callVi (As := [.int x5]) (ci := 10) hc hr (dc_at dL_law_942 13 rfl) ml_L_107 mv_X10_twins vi_X10_twins rfl ho rfl (mt_X10_twins ex) (Nat.le_of_ble_eq_true rfl) (Nat.le_of_ble_eq_true rfl) (by first | exact Nat.le_of_ble_eq_true rfl | decide) hm hs ?_
  refine r_icmp_eq (tgt := 1906) hc (dc_at dL_law_942 14 rfl) (by decide) hf (fun hf => ?_) (fun hf => ?_)
  · exact gg_sub [0, 1, 2, 3] rfl (t_law_1906 hc hr hL hm hs ih hf)
  · refine r_iconst (0 : Int32) hc (dc_at dL_law_942 15 rfl) (by decide) ?_
    cases hf
def lL_law_1883L : List (Nat × Instr × Nat × Nat) := [(1883, .aload_n 1, 1, 1884), (1884, .aload_n 0, 1, 1885), (1885, .iload_n 3, 1, 1886), (1886, .iconst 1, 1, 1887), (1887, .iadd, 1, 1888), (1888, .iaload, 1, 1889), (1889, .invokevirtual 211, 3, 1892), (1892, .aload_n 2, 1, 1893), (1893, .aload_n 0, 1, 1894), (1894, .iload_n 3, 1, 1895), (1895, .iconst 1, 1, 1896), (1896, .iadd, 1, 1897), (1897, .iaload, 1, 1898), (1898, .invokevirtual 214, 3, 1901), (1901, .if_icmp .eq 5, 3, 1904), (1904, .iconst 0, 1, 1905), (1905, .ireturn, 1, 1906)]
set_option maxRecDepth 20000 in
theorem dL_law_1883 : dcL cL_law lL_law_1883L = true := by decide +kernel
def b_law_1883 (F : Nat) (xs : Nat → Int32) (Ls : Nat) (self : Nat × Nat → PH → Nat → Nat → Int32 → Option Int32) (cs : Nat × Nat) (h : PH) (v1 : Nat) (v2 : Nat) (v3 : Int32) : Option Int32 := (scr xs Ls ((v3 + (1 : Int32)))).bind fun x1 => (cO 9 h v1 ((m_X9_count h v1 x1).bind fun x2 => ((scr xs Ls ((v3 + (1 : Int32)))).bind fun x4 => (cO 10 h v2 (bind2 (m_X10_count h v2 x4) fun x5 h6 => (if x2 = x5 then (b_law_1906 F xs Ls self cs h6 v1 v2 v3) else (some (0 : Int32))))))))
set_option maxRecDepth 20000 in
theorem t_law_1883 {M : MV} {X : XT} {F : Nat} {xs : Nat → Int32} {Ls b : Nat} {self : Nat × Nat → PH → Nat → Nat → Int32 → Option Int32} {cs : Nat × Nat} {h : PH} {v1 : Nat} {v2 : Nat} {v3 : Int32} (hc : Cx M X R_law code) (hr : Rx M 2048 84000 600000 7302250 4) (hL : Lx M X xs Ls b) (hm : cs.1 ≤ 600000) (hs : cs.2 ≤ 7302250) (ih : ∀ (cs : Nat × Nat) (h : PH) (v1 : Nat) (v2 : Nat) (v3 : Int32), cs.1 ≤ 600000 → cs.2 ≤ 7302250 → self cs h v1 v2 v3 = some 1 → GG M X h cs.1 cs.2 18 [(0, .ref b), (1, .ref (X.1 + v1)), (2, .ref (X.1 + v2)), (3, .int v3)] []) (hf : b_law_1883 F xs Ls self cs h v1 v2 v3 = some 1) : GG M X h cs.1 cs.2 1883 [(0, .ref b), (1, .ref (X.1 + v1)), (2, .ref (X.1 + v2)), (3, .int v3)] [] := by
  unfold b_law_1883 at hf
  refine r_aload_n hc 1 (dc_at dL_law_1883 0 rfl) rfl ?_
  refine r_aload_n hc 0 (dc_at dL_law_1883 1 rfl) rfl ?_
  refine r_iload_n hc 3 (dc_at dL_law_1883 2 rfl) rfl ?_
  refine r_iconst (1 : Int32) hc (dc_at dL_law_1883 3 rfl) (by decide) ?_
  refine r_iadd hc (dc_at dL_law_1883 4 rfl) ?_
  refine r_sload hL hc (dc_at dL_law_1883 5 rfl) hf fun x1 hf => ?_
  obtain ⟨ho, hf⟩ := cO_some hf
  refine ob hf fun x2 ex hf => ?_
  refine r_callVi (As := [.int x1]) (ci := 9) hc hr (dc_at dL_law_1883 6 rfl) ml_L_211 mv_X9_count vi_X9_count rfl ho rfl (mt_X9_count ex) (Nat.le_of_ble_eq_true rfl) (Nat.le_of_ble_eq_true rfl) (by first | exact Nat.le_of_ble_eq_true rfl | decide) hm hs ?_
  refine r_aload_n hc 2 (dc_at dL_law_1883 7 rfl) rfl ?_
  refine r_aload_n hc 0 (dc_at dL_law_1883 8 rfl) rfl ?_
  refine r_iload_n hc 3 (dc_at dL_law_1883 9 rfl) rfl ?_
  refine r_iconst (1 : Int32) hc (dc_at dL_law_1883 10 rfl) (by decide) ?_
  refine r_iadd hc (dc_at dL_law_1883 11 rfl) ?_
  refine r_sload hL hc (dc_at dL_law_1883 12 rfl) hf fun x4 hf => ?_
  obtain ⟨ho, hf⟩ := cO_some hf
  refine ob2 hf fun x5 h6 ex hf => ?_
  refine r_callVi (As := [.int x4]) (ci := 10) hc hr (dc_at dL_law_1883 13 rfl) ml_L_214 mv_X10_count vi_X10_count rfl ho rfl (mt_X10_count ex) (Nat.le_of_ble_eq_true rfl) (Nat.le_of_ble_eq_true rfl) (by first | exact Nat.le_of_ble_eq_true rfl | decide) hm hs ?_
  refine r_icmp_eq (tgt := 1906) hc (dc_at dL_law_1883 14 rfl) (by decide) hf (fun hf => ?_) (fun hf => ?_)
  · exact gg_sub [0, 1, 2, 3] rfl (t_law_1906 hc hr hL hm hs ih hf)
  · refine r_iconst (0 : Int32) hc (dc_at dL_law_1883 15 rfl) (by decide) ?_
    cases hf
def lL_law_787L : List (Nat × Instr × Nat × Nat) := [(787, .aload_n 1, 1, 788), (788, .aload_n 0, 1, 789), (789, .iload_n 3, 1, 790), (790, .iconst 1, 1, 791), (791, .iadd, 1, 792), (792, .iaload, 1, 793), (793, .invokevirtual 83, 3, 796), (796, .aload_n 2, 1, 797), (797, .aload_n 0, 1, 798), (798, .iload_n 3, 1, 799), (799, .iconst 1, 1, 800), (800, .iadd, 1, 801), (801, .iaload, 1, 802), (802, .invokevirtual 86, 3, 805), (805, .if_icmp .eq 1101, 3, 808), (808, .iconst 0, 1, 809), (809, .ireturn, 1, 810)]
set_option maxRecDepth 20000 in
theorem dL_law_787 : dcL cL_law lL_law_787L = true := by decide +kernel
def b_law_787 (F : Nat) (xs : Nat → Int32) (Ls : Nat) (self : Nat × Nat → PH → Nat → Nat → Int32 → Option Int32) (cs : Nat × Nat) (h : PH) (v1 : Nat) (v2 : Nat) (v3 : Int32) : Option Int32 := (scr xs Ls ((v3 + (1 : Int32)))).bind fun x1 => (cO 9 h v1 ((m_X9_most F h v1 x1).bind fun x2 => ((scr xs Ls ((v3 + (1 : Int32)))).bind fun x4 => (cO 10 h v2 (bind2 (m_X10_most F h v2 x4) fun x5 h6 => (if x2 = x5 then (b_law_1906 F xs Ls self cs h6 v1 v2 v3) else (some (0 : Int32))))))))
set_option maxRecDepth 20000 in
theorem t_law_787 {M : MV} {X : XT} {F : Nat} {xs : Nat → Int32} {Ls b : Nat} {self : Nat × Nat → PH → Nat → Nat → Int32 → Option Int32} {cs : Nat × Nat} {h : PH} {v1 : Nat} {v2 : Nat} {v3 : Int32} (hc : Cx M X R_law code) (hr : Rx M 2048 84000 600000 7302250 4) (hL : Lx M X xs Ls b) (hm : cs.1 ≤ 600000) (hs : cs.2 ≤ 7302250) (ih : ∀ (cs : Nat × Nat) (h : PH) (v1 : Nat) (v2 : Nat) (v3 : Int32), cs.1 ≤ 600000 → cs.2 ≤ 7302250 → self cs h v1 v2 v3 = some 1 → GG M X h cs.1 cs.2 18 [(0, .ref b), (1, .ref (X.1 + v1)), (2, .ref (X.1 + v2)), (3, .int v3)] []) (hf : b_law_787 F xs Ls self cs h v1 v2 v3 = some 1) : GG M X h cs.1 cs.2 787 [(0, .ref b), (1, .ref (X.1 + v1)), (2, .ref (X.1 + v2)), (3, .int v3)] [] := by
  unfold b_law_787 at hf
  refine r_aload_n hc 1 (dc_at dL_law_787 0 rfl) rfl ?_
  refine r_aload_n hc 0 (dc_at dL_law_787 1 rfl) rfl ?_
  refine r_iload_n hc 3 (dc_at dL_law_787 2 rfl) rfl ?_
  refine r_iconst (1 : Int32) hc (dc_at dL_law_787 3 rfl) (by decide) ?_
  refine r_iadd hc (dc_at dL_law_787 4 rfl) ?_
  refine r_sload hL hc (dc_at dL_law_787 5 rfl) hf fun x1 hf => ?_
  obtain ⟨ho, hf⟩ := cO_some hf
  refine ob hf fun x2 ex hf => ?_
  refine r_callVi (As := [.int x1]) (ci := 9) hc hr (dc_at dL_law_787 6 rfl) ml_L_83 mv_X9_most vi_X9_most rfl ho rfl (mt_X9_most ex) (Nat.le_of_ble_eq_true rfl) (Nat.le_of_ble_eq_true rfl) (by first | exact Nat.le_of_ble_eq_true rfl | decide) hm hs ?_
  refine r_aload_n hc 2 (dc_at dL_law_787 7 rfl) rfl ?_
  refine r_aload_n hc 0 (dc_at dL_law_787 8 rfl) rfl ?_
  refine r_iload_n hc 3 (dc_at dL_law_787 9 rfl) rfl ?_
  refine r_iconst (1 : Int32) hc (dc_at dL_law_787 10 rfl) (by decide) ?_
  refine r_iadd hc (dc_at dL_law_787 11 rfl) ?_
  refine r_sload hL hc (dc_at dL_law_787 12 rfl) hf fun x4 hf => ?_
  obtain ⟨ho, hf⟩ := cO_some hf
  refine ob2 hf fun x5 h6 ex hf => ?_
  refine r_callVi (As := [.int x4]) (ci := 10) hc hr (dc_at dL_law_787 13 rfl) ml_L_86 mv_X10_most vi_X10_most rfl ho rfl (mt_X10_most ex) (Nat.le_of_ble_eq_true rfl) (Nat.le_of_ble_eq_true rfl) (by first | exact Nat.le_of_ble_eq_true rfl | decide) hm hs ?_
  refine r_icmp_eq (tgt := 1906) hc (dc_at dL_law_787 14 rfl) (by decide) hf (fun hf => ?_) (fun hf => ?_)
  · exact gg_sub [0, 1, 2, 3] rfl (t_law_1906 hc hr hL hm hs ih hf)
  · refine r_iconst (0 : Int32) hc (dc_at dL_law_787 15 rfl) (by decide) ?_
    cases hf
