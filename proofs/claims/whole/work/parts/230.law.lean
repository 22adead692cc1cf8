def lL_law_1133L : List (Nat × Instr × Nat × Nat) := [(1133, .aload_n 1, 1, 1134), (1134, .aload_n 0, 1, 1135), (1135, .iload_n 3, 1, 1136), (1136, .iconst 1, 1, 1137), (1137, .iadd, 1, 1138), (1138, .iaload, 1, 1139), (1139, .aload_n 0, 1, 1140), (1140, .iload_n 3, 1, 1141), (1141, .iconst 2, 1, 1142), (1142, .iadd, 1, 1143), (1143, .iaload, 1, 1144), (1144, .aload_n 0, 1, 1145), (1145, .iload_n 3, 1, 1146), (1146, .iconst 3, 1, 1147), (1147, .iadd, 1, 1148), (1148, .iaload, 1, 1149), (1149, .invokevirtual 125, 3, 1152), (1152, .aload_n 2, 1, 1153), (1153, .aload_n 0, 1, 1154), (1154, .iload_n 3, 1, 1155), (1155, .iconst 1, 1, 1156), (1156, .iadd, 1, 1157), (1157, .iaload, 1, 1158), (1158, .aload_n 0, 1, 1159), (1159, .iload_n 3, 1, 1160), (1160, .iconst 2, 1, 1161), (1161, .iadd, 1, 1162), (1162, .iaload, 1, 1163), (1163, .aload_n 0, 1, 1164), (1164, .iload_n 3, 1, 1165), (1165, .iconst 3, 1, 1166), (1166, .iadd, 1, 1167), (1167, .iaload, 1, 1168), (1168, .invokevirtual 128, 3, 1171), (1171, .if_icmp .eq 735, 3, 1174), (1174, .iconst 0, 1, 1175), (1175, .ireturn, 1, 1176)]
set_option maxRecDepth 20000 in
theorem dL_law_1133 : dcL cL_law lL_law_1133L = true := by decide +kernel
def b_law_1133 (F : Nat) (xs : Nat → Int32) (Ls : Nat) (self : Nat × Nat → PH → Nat → Nat → Int32 → Option Int32) (cs : Nat × Nat) (h : PH) (v1 : Nat) (v2 : Nat) (v3 : Int32) : Option Int32 := (scr xs Ls ((v3 + (1 : Int32)))).bind fun x1 => ((scr xs Ls ((v3 + (2 : Int32)))).bind fun x2 => ((scr xs Ls ((v3 + (3 : Int32)))).bind fun x3 => (cO 9 h v1 (bind2 (m_X9_address F h v1 x1 x2 x3) fun x4 h5 => ((scr xs Ls ((v3 + (1 : Int32)))).bind fun x6 => ((scr xs Ls ((v3 + (2 : Int32)))).bind fun x7 => ((scr xs Ls ((v3 + (3 : Int32)))).bind fun x8 => (cO 10 h5 v2 (bind2 (m_X10_address F h5 v2 x6 x7 x8) fun x9 h10 => (if x4 = x9 then (b_law_1906 F xs Ls self cs h10 v1 v2 v3) else (some (0 : Int32))))))))))))
set_option maxRecDepth 20000 in
theorem t_law_1133 {M : MV} {X : XT} {F : Nat} {xs : Nat → Int32} {Ls b : Nat} {self : Nat × Nat → PH → Nat → Nat → Int32 → Option Int32} {cs : Nat × Nat} {h : PH} {v1 : Nat} {v2 : Nat} {v3 : Int32} (hc : Cx M X R_law code) (hr : Rx M 2048 84000 600000 7302250 4) (hL : Lx M X xs Ls b) (hm : cs.1 ≤ 600000) (hs : cs.2 ≤ 7302250) (ih : ∀ (cs : Nat × Nat) (h : PH) (v1 : Nat) (v2 : Nat) (v3 : Int32), cs.1 ≤ 600000 → cs.2 ≤ 7302250 → self cs h v1 v2 v3 = some 1 → GG M X h cs.1 cs.2 18 [(0, .ref b), (1, .ref (X.1 + v1)), (2, .ref (X.1 + v2)), (3, .int v3)] []) (hf : b_law_1133 F xs Ls self cs h v1 v2 v3 = some 1) : GG M X h cs.1 cs.2 1133 [(0, .ref b), (1, .ref (X.1 + v1)), (2, .ref (X.1 + v2)), (3, .int v3)] [] := by
  unfold b_law_1133 at hf
  refine r_aload_n hc 1 (dc_at dL_law_1133 0 rfl) rfl ?_
  refine r_aload_n hc 0 (dc_at dL_law_1133 1 rfl) rfl ?_
  refine r_iload_n hc 3 (dc_at dL_law_1133 2 rfl) rfl ?_
  refine r_iconst (1 : Int32) hc (dc_at dL_law_1133 3 rfl) (by decide) ?_
  refine r_iadd hc (dc_at dL_law_1133 4 rfl) ?_
  refine r_sload hL hc (dc_at dL_law_1133 5 rfl) hf fun x1 hf => ?_
  refine r_aload_n hc 0 (dc_at dL_law_1133 6 rfl) rfl ?_
  refine r_iload_n hc 3 (dc_at dL_law_1133 7 rfl) rfl ?_
  refine r_iconst (2 : Int32) hc (dc_at dL_law_1133 8 rfl) (by decide) ?_
  refine r_iadd hc (dc_at dL_law_1133 9 rfl) ?_
  refine r_sload hL hc (dc_at dL_law_1133 10 rfl) hf fun x2 hf => ?_
  refine r_aload_n hc 0 (dc_at dL_law_1133 11 rfl) rfl ?_
  refine r_iload_n hc 3 (dc_at dL_law_1133 12 rfl) rfl ?_
  refine r_iconst (3 : Int32) hc (dc_at dL_law_1133 13 rfl) (by decide) ?_
  refine r_iadd hc (dc_at dL_law_1133 14 rfl) ?_
  refine r_sload hL hc (dc_at dL_law_1133 15 rfl) hf fun x3 hf => ?_
  obtain ⟨ho, hf⟩ := cO_some hf
  refine ob2 hf fun x4 h5 ex hf => ?_
  refine r_callVi (As := [.int x1, .int x2, .int x3]) (ci := 9) hc hr (dc_at dL_law_1133 16 rfl) ml_L_125 mv_X9_address vi_X9_address rfl ho rfl (mt_X9_address ex) (Nat.le_of_ble_eq_true rfl) (Nat.le_of_ble_eq_true rfl) (by first | exact Nat.le_of_ble_eq_true rfl | decide) hm hs ?_
  refine r_aload_n hc 2 (dc_at dL_law_1133 17 rfl) rfl ?_
  refine r_aload_n hc 0 (dc_at dL_law_1133 18 rfl) rfl ?_
  refine r_iload_n hc 3 (dc_at dL_law_1133 19 rfl) rfl ?_
  refine r_iconst (1 : Int32) hc (dc_at dL_law_1133 20 rfl) (by decide) ?_
  refine r_iadd hc (dc_at dL_law_1133 21 rfl) ?_
  refine r_sload hL hc (dc_at dL_law_1133 22 rfl) hf fun x6 hf => ?_
  refine r_aload_n hc 0 (dc_at dL_law_1133 23 rfl) rfl ?_
  refine r_iload_n hc 3 (dc_at dL_law_1133 24 rfl) rfl ?_
  refine r_iconst (2 : Int32) hc (dc_at dL_law_1133 25 rfl) (by decide) ?_
  refine r_iadd hc (dc_at dL_law_1133 26 rfl) ?_
  refine r_sload hL hc (dc_at dL_law_1133 27 rfl) hf fun x7 hf => ?_
  refine r_aload_n hc 0 (dc_at dL_law_1133 28 rfl) rfl ?_
  refine r_iload_n hc 3 (dc_at dL_law_1133 29 rfl) rfl ?_
  refine r_iconst (3 : Int32) hc (dc_at dL_law_1133 30 rfl) (by decide) ?_
  refine r_iadd hc (dc_at dL_law_1133 31 rfl) ?_
  refine r_sload hL hc (dc_at dL_law_1133 32 rfl) hf fun x8 hf => ?_
  obtain ⟨ho, hf⟩ := cO_some hf
  refine ob2 hf fun x9 h10 ex hf => ?_
  refine r_callVi (As := [.int x6, .int x7, .int x8]) (ci := 10) hc hr (dc_at dL_law_1133 33 rfl) ml_L_128 mv_X10_address vi_X10_address rfl ho rfl (mt_X10_address ex) (Nat.le_of_ble_eq_true rfl) (Nat.le_of_ble_eq_true rfl) (by first | exact Nat.le_of_ble_eq_true rfl | decide) hm hs ?_
  refine r_icmp_eq (tgt := 1906) hc (dc_at dL_law_1133 34 rfl) (by decide) hf (fun hf => ?_) (fun hf => ?_)
  · exact gg_sub [0, 1, 2, 3] rfl (t_law_1906 hc hr hL hm hs ih hf)
  · refine r_iconst (0 : Int32) hc (dc_at dL_law_1133 35 rfl) (by decide) ?_
    cases hf
def lL_law_510L : List (Nat × Instr × Nat × Nat) := [(510, .aload_n 1, 1, 511), (511, .aload_n 0, 1, 512), (512, .iload_n 3, 1, 513), (513, .iconst 1, 1, 514), (514, .iadd, 1, 515), (515, .iaload, 1, 516), (516, .invokevirtual 49, 3, 519), (519, .aload_n 2, 1, 520), (520, .aload_n 0, 1, 521), (521, .iload_n 3, 1, 522), (522, .iconst 1, 1, 523), (523, .iadd, 1, 524), (524, .iaload, 1, 525), (525, .invokevirtual 52, 3, 528), (528, .if_icmp .eq 1378, 3, 531), (531, .iconst 0, 1, 532), (532, .ireturn, 1, 533)]
set_option maxRecDepth 20000 in
theorem dL_law_510 : dcL cL_law lL_law_510L = true := by decide +kernel
def b_law_510 (F : Nat) (xs : Nat → Int32) (Ls : Nat) (self : Nat × Nat → PH → Nat → Nat → Int32 → Option Int32) (cs : Nat × Nat) (h : PH) (v1 : Nat) (v2 : Nat) (v3 : Int32) : Option Int32 := (scr xs Ls ((v3 + (1 : Int32)))).bind fun x1 => (cO 9 h v1 (bind2 (m_X9_press F h v1 x1) fun x2 h3 => ((scr xs Ls ((v3 + (1 : Int32)))).bind fun x4 => (cO 10 h3 v2 (bind2 (m_X10_press F h3 v2 x4) fun x5 h6 => (if x2 = x5 then (b_law_1906 F xs Ls self cs h6 v1 v2 v3) else (some (0 : Int32))))))))
set_option maxRecDepth 20000 in
theorem t_law_510 {M : MV} {X : XT} {F : Nat} {xs : Nat → Int32} {Ls b : Nat} {self : Nat × Nat → PH → Nat → Nat → Int32 → Option Int32} {cs : Nat × Nat} {h : PH} {v1 : Nat} {v2 : Nat} {v3 : Int32} (hc : Cx M X R_law code) (hr : Rx M 2048 84000 600000 7302250 4) (hL : Lx M X xs Ls b) (hm : cs.1 ≤ 600000) (hs : cs.2 ≤ 7302250) (ih : ∀ (cs : Nat × Nat) (h : PH) (v1 : Nat) (v2 : Nat) (v3 : Int32), cs.1 ≤ 600000 → cs.2 ≤ 7302250 → self cs h v1 v2 v3 = some 1 → GG M X h cs.1 cs.2 18 [(0, .ref b), (1, .ref (X.1 + v1)), (2, .ref (X.1 + v2)), (3, .int v3)] []) (hf : b_law_510 F xs Ls self cs h v1 v2 v3 = some 1) : GG M X h cs.1 cs.2 510 [(0, .ref b), (1, .ref (X.1 + v1)), (2, .ref (X.1 + v2)), (3, .int v3)] [] := by
  unfold b_law_510 at hf
  refine r_aload_n hc 1 (dc_at dL_law_510 0 rfl) rfl ?_
  refine r_aload_n hc 0 (dc_at dL_law_510 1 rfl) rfl ?_
  refine r_iload_n hc 3 (dc_at dL_law_510 2 rfl) rfl ?_
  refine r_iconst (1 : Int32) hc (dc_at dL_law_510 3 rfl) (by decide) ?_
  refine r_iadd hc (dc_at dL_law_510 4 rfl) ?_
  refine r_sload hL hc (dc_at dL_law_510 5 rfl) hf fun x1 hf => ?_
  obtain ⟨ho, hf⟩ := cO_some hf
  refine ob2 hf fun x2 h3 ex hf => ?_
  refine r_callVi (As := [.int x1]) (ci := 9) hc hr (dc_at dL_law_510 6 rfl) ml_L_49 mv_X9_press vi_X9_press rfl ho rfl (mt_X9_press ex) (Nat.le_of_ble_eq_true rfl) (Nat.le_of_ble_eq_true rfl) (by first | exact Nat.le_of_ble_eq_true rfl | decide) hm hs ?_
  refine r_aload_n hc 2 (dc_at dL_law_510 7 rfl) rfl ?_
  refine r_aload_n hc 0 (dc_at dL_law_510 8 rfl) rfl ?_
  refine r_iload_n hc 3 (dc_at dL_law_510 9 rfl) rfl ?_
  refine r_iconst (1 : Int32) hc (dc_at dL_law_510 10 rfl) (by decide) ?_
  refine r_iadd hc (dc_at dL_law_510 11 rfl) ?_
  refine r_sload hL hc (dc_at dL_law_510 12 rfl) hf fun x4 hf => ?_
  obtain ⟨ho, hf⟩ := cO_some hf
  refine ob2 hf fun x5 h6 ex hf => ?_
  refine r_callVi (As := [.int x4]) (ci := 10) hc hr (dc_at dL_law_510 13 rfl) ml_L_52 mv_X10_press vi_X10_press rfl ho rfl (mt_X10_press ex) (Nat.le_of_ble_eq_true rfl) (Nat.le_of_ble_eq_true rfl) (by first | exact Nat.le_of_ble_eq_true rfl | decide) hm hs ?_
  refine r_icmp_eq (tgt := 1906) hc (dc_at dL_law_510 14 rfl) (by decide) hf (fun hf => ?_) (fun hf => ?_)
  · exact gg_sub [0, 1, 2, 3] rfl (t_law_1906 hc hr hL hm hs ih hf)
  · refine r_iconst (0 : Int32) hc (dc_at dL_law_510 15 rfl) (by decide) ?_
    cases hf
