def lL_law_1064L : List (Nat × Instr × Nat × Nat) := [(1064, .aload_n 1, 1, 1065), (1065, .aload_n 0, 1, 1066), (1066, .iload_n 3, 1, 1067), (1067, .iconst 1, 1, 1068), (1068, .iadd, 1, 1069), (1069, .iaload, 1, 1070), (1070, .aload_n 0, 1, 1071), (1071, .iload_n 3, 1, 1072), (1072, .iconst 2, 1, 1073), (1073, .iadd, 1, 1074), (1074, .iaload, 1, 1075), (1075, .aload_n 0, 1, 1076), (1076, .iload_n 3, 1, 1077), (1077, .iconst 3, 1, 1078), (1078, .iadd, 1, 1079), (1079, .iaload, 1, 1080), (1080, .ifCond .eq 7, 3, 1083), (1087, .iconst 0, 1, 1088), (1083, .iconst 1, 1, 1084), (1084, .goto 4, 3, 1087)]
set_option maxRecDepth 20000 in
theorem dL_law_1064 : dcL cL_law lL_law_1064L = true := by decide +kernel
def b_law_1064 (F : Nat) (xs : Nat → Int32) (Ls : Nat) (self : Nat × Nat → PH → Nat → Nat → Int32 → Option Int32) (cs : Nat × Nat) (h : PH) (v1 : Nat) (v2 : Nat) (v3 : Int32) : Option Int32 := (scr xs Ls ((v3 + (1 : Int32)))).bind fun x1 => ((scr xs Ls ((v3 + (2 : Int32)))).bind fun x2 => ((scr xs Ls ((v3 + (3 : Int32)))).bind fun x3 => (if x3 = 0 then (b_law_1088 F xs Ls self cs h v1 v2 v3 v1 x1 x2 (0 : Int32)) else (b_law_1088 F xs Ls self cs h v1 v2 v3 v1 x1 x2 (1 : Int32)))))
set_option maxRecDepth 20000 in
theorem t_law_1064 {M : MV} {X : XT} {F : Nat} {xs : Nat → Int32} {Ls b : Nat} {self : Nat × Nat → PH → Nat → Nat → Int32 → Option Int32} {cs : Nat × Nat} {h : PH} {v1 : Nat} {v2 : Nat} {v3 : Int32} (hc : Cx M X R_law code) (hr : Rx M 2048 84000 600000 7302250 4) (hL : Lx M X xs Ls b) (hm : cs.1 ≤ 600000) (hs : cs.2 ≤ 7302250) (ih : ∀ (cs : Nat × Nat) (h : PH) (v1 : Nat) (v2 : Nat) (v3 : Int32), cs.1 ≤ 600000 → cs.2 ≤ 7302250 → self cs h v1 v2 v3 = some 1 → GG M X h cs.1 cs.2 18 [(0, .ref b), (1, .ref (X.1 + v1)), (2, .ref (X.1 + v2)), (3, .int v3)] []) (hf : b_law_1064 F xs Ls self cs h v1 v2 v3 = some 1) : GG M X h cs.1 cs.2 1064 [(0, .ref b), (1, .ref (X.1 + v1)), (2, .ref (X.1 + v2)), (3, .int v3)] [] := by
  unfold b_law_1064 at hf
  refine r_aload_n hc 1 (dc_at dL_law_1064 0 rfl) rfl ?_
  refine r_aload_n hc 0 (dc_at dL_law_1064 1 rfl) rfl ?_
  refine r_iload_n hc 3 (dc_at dL_law_1064 2 rfl) rfl ?_
  refine r_iconst (1 : Int32) hc (dc_at dL_law_1064 3 rfl) (by decide) ?_
  refine r_iadd hc (dc_at dL_law_1064 4 rfl) ?_
  refine r_sload hL hc (dc_at dL_law_1064 5 rfl) hf fun x1 hf => ?_
  refine r_aload_n hc 0 (dc_at dL_law_1064 6 rfl) rfl ?_
  refine r_iload_n hc 3 (dc_at dL_law_1064 7 rfl) rfl ?_
  refine r_iconst (2 : Int32) hc (dc_at dL_law_1064 8 rfl) (by decide) ?_
  refine r_iadd hc (dc_at dL_law_1064 9 rfl) ?_
  refine r_sload hL hc (dc_at dL_law_1064 10 rfl) hf fun x2 hf => ?_
  refine r_aload_n hc 0 (dc_at dL_law_1064 11 rfl) rfl ?_
  refine r_iload_n hc 3 (dc_at dL_law_1064 12 rfl) rfl ?_
  refine r_iconst (3 : Int32) hc (dc_at dL_law_1064 13 rfl) (by decide) ?_
  refine r_iadd hc (dc_at dL_law_1064 14 rfl) ?_
  refine r_sload hL hc (dc_at dL_law_1064 15 rfl) hf fun x3 hf => ?_
  refine r_if_eq (tgt := 1087) hc (dc_at dL_law_1064 16 rfl) (by decide) hf (fun hf => ?_) (fun hf => ?_)
  · refine r_iconst (0 : Int32) hc (dc_at dL_law_1064 17 rfl) (by decide) ?_
    exact gg_sub [0, 1, 2, 3] rfl (t_law_1088 hc hr hL hm hs ih hf)
  · refine r_iconst (1 : Int32) hc (dc_at dL_law_1064 18 rfl) (by decide) ?_
    refine r_goto (tgt := 1088) hc (dc_at dL_law_1064 19 rfl) (by decide) ?_
    exact gg_sub [0, 1, 2, 3] rfl (t_law_1088 hc hr hL hm hs ih hf)
def lL_law_909L : List (Nat × Instr × Nat × Nat) := [(909, .aload_n 1, 1, 910), (910, .aload_n 0, 1, 911), (911, .iload_n 3, 1, 912), (912, .iconst 1, 1, 913), (913, .iadd, 1, 914), (914, .iaload, 1, 915), (915, .aload_n 0, 1, 916), (916, .iload_n 3, 1, 917), (917, .iconst 2, 1, 918), (918, .iadd, 1, 919), (919, .iaload, 1, 920), (920, .invokevirtual 100, 3, 923), (923, .aload_n 2, 1, 924), (924, .aload_n 0, 1, 925), (925, .iload_n 3, 1, 926), (926, .iconst 1, 1, 927), (927, .iadd, 1, 928), (928, .iaload, 1, 929), (929, .aload_n 0, 1, 930), (930, .iload_n 3, 1, 931), (931, .iconst 2, 1, 932), (932, .iadd, 1, 933), (933, .iaload, 1, 934), (934, .invokevirtual 103, 3, 937), (937, .if_icmp .eq 969, 3, 940), (940, .iconst 0, 1, 941), (941, .ireturn, 1, 942)]
set_option maxRecDepth 20000 in
theorem dL_law_909 : dcL cL_law lL_law_909L = true := by decide +kernel
def b_law_909 (F : Nat) (xs : Nat → Int32) (Ls : Nat) (self : Nat × Nat → PH → Nat → Nat → Int32 → Option Int32) (cs : Nat × Nat) (h : PH) (v1 : Nat) (v2 : Nat) (v3 : Int32) : Option Int32 := (scr xs Ls ((v3 + (1 : Int32)))).bind fun x1 => ((scr xs Ls ((v3 + (2 : Int32)))).bind fun x2 => (bud (kost (mq_X9_highest F h v1 x1 x2).isNone 10 46057) cs fun cs5 => (cO 9 h v1 (bind2 (m_X9_highest F h v1 x1 x2) fun x3 h4 => ((scr xs Ls ((v3 + (1 : Int32)))).bind fun x6 => ((scr xs Ls ((v3 + (2 : Int32)))).bind fun x7 => (cO 10 h4 v2 (bind2 (m_X10_highest F h4 v2 x6 x7) fun x8 h9 => (if x3 = x8 then (b_law_1906 F xs Ls self cs5 h9 v1 v2 v3) else (some (0 : Int32)))))))))))
set_option maxRecDepth 20000 in
theorem t_law_909 {M : MV} {X : XT} {F : Nat} {xs : Nat → Int32} {Ls b : Nat} {self : Nat × Nat → PH → Nat → Nat → Int32 → Option Int32} {cs : Nat × Nat} {h : PH} {v1 : Nat} {v2 : Nat} {v3 : Int32} (hc : Cx M X R_law code) (hr : Rx M 2048 84000 600000 7302250 4) (hL : Lx M X xs Ls b) (hm : cs.1 ≤ 600000) (hs : cs.2 ≤ 7302250) (ih : ∀ (cs : Nat × Nat) (h : PH) (v1 : Nat) (v2 : Nat) (v3 : Int32), cs.1 ≤ 600000 → cs.2 ≤ 7302250 → self cs h v1 v2 v3 = some 1 → GG M X h cs.1 cs.2 18 [(0, .ref b), (1, .ref (X.1 + v1)), (2, .ref (X.1 + v2)), (3, .int v3)] []) (hf : b_law_909 F xs Ls self cs h v1 v2 v3 = some 1) : GG M X h cs.1 cs.2 909 [(0, .ref b), (1, .ref (X.1 + v1)), (2, .ref (X.1 + v2)), (3, .int v3)] [] := by
  unfold b_law_909 at hf
  refine r_aload_n hc 1 (dc_at dL_law_909 0 rfl) rfl ?_
  refine r_aload_n hc 0 (dc_at dL_law_909 1 rfl) rfl ?_
  refine r_iload_n hc 3 (dc_at dL_law_909 2 rfl) rfl ?_
  refine r_iconst (1 : Int32) hc (dc_at dL_law_909 3 rfl) (by decide) ?_
  refine r_iadd hc (dc_at dL_law_909 4 rfl) ?_
  refine r_sload hL hc (dc_at dL_law_909 5 rfl) hf fun x1 hf => ?_
  refine r_aload_n hc 0 (dc_at dL_law_909 6 rfl) rfl ?_
  refine r_iload_n hc 3 (dc_at dL_law_909 7 rfl) rfl ?_
  refine r_iconst (2 : Int32) hc (dc_at dL_law_909 8 rfl) (by decide) ?_
  refine r_iadd hc (dc_at dL_law_909 9 rfl) ?_
  refine r_sload hL hc (dc_at dL_law_909 10 rfl) hf fun x2 hf => ?_
  refine obud hf fun cs5 k1 k2 k3 k4 hm2 hs2 hf => ?_
  obtain ⟨ho, hf⟩ := cO_some hf
  refine ob2 hf fun x3 h4 ex hf => ?_
  refine r_callViC (As := [.int x1, .int x2]) (ci := 9) hc hr (dc_at dL_law_909 11 rfl) ml_L_100 mv_X9_highest vi_X9_highest rfl ho rfl (mtk_X9_highest ex) (Nat.le_of_ble_eq_true rfl) (Nat.le_of_ble_eq_true rfl) (by first | exact Nat.le_of_ble_eq_true rfl | decide) k1 k2 ?_
  rw [← k3, ← k4]
  clear hm hs
  have hm := hm2
  have hs := hs2
  refine r_aload_n hc 2 (dc_at dL_law_909 12 rfl) rfl ?_
  refine r_aload_n hc 0 (dc_at dL_law_909 13 rfl) rfl ?_
  refine r_iload_n hc 3 (dc_at dL_law_909 14 rfl) rfl ?_
  refine r_iconst (1 : Int32) hc (dc_at dL_law_909 15 rfl) (by decide) ?_
  refine r_iadd hc (dc_at dL_law_909 16 rfl) ?_
  refine r_sload hL hc (dc_at dL_law_909 17 rfl) hf fun x6 hf => ?_
  refine r_aload_n hc 0 (dc_at dL_law_909 18 rfl) rfl ?_
  refine r_iload_n hc 3 (dc_at dL_law_909 19 rfl) rfl ?_
  refine r_iconst (2 : Int32) hc (dc_at dL_law_909 20 rfl) (by decide) ?_
  refine r_iadd hc (dc_at dL_law_909 21 rfl) ?_
  refine r_sload hL hc (dc_at dL_law_909 22 rfl) hf fun x7 hf => ?_
  obtain ⟨ho, hf⟩ := cO_some hf
  refine ob2 hf fun x8 h9 ex hf => ?_
  refine r_callVi (As := [.int x6, .int x7]) (ci := 10) hc hr (dc_at dL_law_909 23 rfl) ml_L_103 mv_X10_highest vi_X10_highest rfl ho rfl (mt_X10_highest ex) (Nat.le_of_ble_eq_true rfl) (Nat.le_of_ble_eq_true rfl) (by first | exact Nat.le_of_ble_eq_true rfl | decide) hm hs ?_
  refine r_icmp_eq (tgt := 1906) hc (dc_at dL_law_909 24 rfl) (by decide) hf (fun hf => ?_) (fun hf => ?_)
  · exact gg_sub [0, 1, 2, 3] rfl (t_law_1906 hc hr hL hm hs ih hf)
  · refine r_iconst (0 : Int32) hc (dc_at dL_law_909 25 rfl) (by decide) ?_
    cases hf
