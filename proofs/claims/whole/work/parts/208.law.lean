def lL_law_1176L : List (Nat × Instr × Nat × Nat) := [(1176, .aload_n 1, 1, 1177), (1177, .aload_n 0, 1, 1178), (1178, .iload_n 3, 1, 1179), (1179, .iconst 1, 1, 1180), (1180, .iadd, 1, 1181), (1181, .iaload, 1, 1182), (1182, .aload_n 0, 1, 1183), (1183, .iload_n 3, 1, 1184), (1184, .iconst 2, 1, 1185), (1185, .iadd, 1, 1186), (1186, .iaload, 1, 1187), (1187, .aload_n 0, 1, 1188), (1188, .iload_n 3, 1, 1189), (1189, .iconst 3, 1, 1190), (1190, .iadd, 1, 1191), (1191, .iaload, 1, 1192), (1192, .aload_n 0, 1, 1193), (1193, .iload_n 3, 1, 1194), (1194, .iconst 4, 1, 1195), (1195, .iadd, 1, 1196), (1196, .iaload, 1, 1197), (1197, .ifCond .eq 7, 3, 1200), (1204, .iconst 0, 1, 1205), (1200, .iconst 1, 1, 1201), (1201, .goto 4, 3, 1204)]
set_option maxRecDepth 20000 in
theorem dL_law_1176 : dcL cL_law lL_law_1176L = true := by decide +kernel
def b_law_1176 (F : Nat) (xs : Nat → Int32) (Ls : Nat) (self : Nat × Nat → PH → Nat → Nat → Int32 → Option Int32) (cs : Nat × Nat) (h : PH) (v1 : Nat) (v2 : Nat) (v3 : Int32) : Option Int32 := (scr xs Ls ((v3 + (1 : Int32)))).bind fun x1 => ((scr xs Ls ((v3 + (2 : Int32)))).bind fun x2 => ((scr xs Ls ((v3 + (3 : Int32)))).bind fun x3 => ((scr xs Ls ((v3 + (4 : Int32)))).bind fun x4 => (if x4 = 0 then (b_law_1205 F xs Ls self cs h v1 v2 v3 v1 x1 x2 x3 (0 : Int32)) else (b_law_1205 F xs Ls self cs h v1 v2 v3 v1 x1 x2 x3 (1 : Int32))))))
set_option maxRecDepth 20000 in
theorem t_law_1176 {M : MV} {X : XT} {F : Nat} {xs : Nat → Int32} {Ls b : Nat} {self : Nat × Nat → PH → Nat → Nat → Int32 → Option Int32} {cs : Nat × Nat} {h : PH} {v1 : Nat} {v2 : Nat} {v3 : Int32} (hc : Cx M X R_law code) (hr : Rx M 2048 84000 600000 7302250 4) (hL : Lx M X xs Ls b) (hm : cs.1 ≤ 600000) (hs : cs.2 ≤ 7302250) (ih : ∀ (cs : Nat × Nat) (h : PH) (v1 : Nat) (v2 : Nat) (v3 : Int32), cs.1 ≤ 600000 → cs.2 ≤ 7302250 → self cs h v1 v2 v3 = some 1 → GG M X h cs.1 cs.2 18 [(0, .ref b), (1, .ref (X.1 + v1)), (2, .ref (X.1 + v2)), (3, .int v3)] []) (hf : b_law_1176 F xs Ls self cs h v1 v2 v3 = some 1) : GG M X h cs.1 cs.2 1176 [(0, .ref b), (1, .ref (X.1 + v1)), (2, .ref (X.1 + v2)), (3, .int v3)] [] := by
  unfold b_law_1176 at hf
  refine r_aload_n hc 1 (dc_at dL_law_1176 0 rfl) rfl ?_
  refine r_aload_n hc 0 (dc_at dL_law_1176 1 rfl) rfl ?_
  refine r_iload_n hc 3 (dc_at dL_law_1176 2 rfl) rfl ?_
  refine r_iconst (1 : Int32) hc (dc_at dL_law_1176 3 rfl) (by decide) ?_
  refine r_iadd hc (dc_at dL_law_1176 4 rfl) ?_
  refine r_sload hL hc (dc_at dL_law_1176 5 rfl) hf fun x1 hf => ?_
  refine r_aload_n hc 0 (dc_at dL_law_1176 6 rfl) rfl ?_
  refine r_iload_n hc 3 (dc_at dL_law_1176 7 rfl) rfl ?_
  refine r_iconst (2 : Int32) hc (dc_at dL_law_1176 8 rfl) (by decide) ?_
  refine r_iadd hc (dc_at dL_law_1176 9 rfl) ?_
  refine r_sload hL hc (dc_at dL_law_1176 10 rfl) hf fun x2 hf => ?_
  refine r_aload_n hc 0 (dc_at dL_law_1176 11 rfl) rfl ?_
  refine r_iload_n hc 3 (dc_at dL_law_1176 12 rfl) rfl ?_
  refine r_iconst (3 : Int32) hc (dc_at dL_law_1176 13 rfl) (by decide) ?_
  refine r_iadd hc (dc_at dL_law_1176 14 rfl) ?_
  refine r_sload hL hc (dc_at dL_law_1176 15 rfl) hf fun x3 hf => ?_
  refine r_aload_n hc 0 (dc_at dL_law_1176 16 rfl) rfl ?_
  refine r_iload_n hc 3 (dc_at dL_law_1176 17 rfl) rfl ?_
  refine r_iconst (4 : Int32) hc (dc_at dL_law_1176 18 rfl) (by decide) ?_
  refine r_iadd hc (dc_at dL_law_1176 19 rfl) ?_
  refine r_sload hL hc (dc_at dL_law_1176 20 rfl) hf fun x4 hf => ?_
  refine r_if_eq (tgt := 1204) hc (dc_at dL_law_1176 21 rfl) (by decide) hf (fun hf => ?_) (fun hf => ?_)
  · refine r_iconst (0 : Int32) hc (dc_at dL_law_1176 22 rfl) (by decide) ?_
    exact gg_sub [0, 1, 2, 3] rfl (t_law_1205 hc hr hL hm hs ih hf)
  · refine r_iconst (1 : Int32) hc (dc_at dL_law_1176 23 rfl) (by decide) ?_
    refine r_goto (tgt := 1205) hc (dc_at dL_law_1176 24 rfl) (by decide) ?_
    exact gg_sub [0, 1, 2, 3] rfl (t_law_1205 hc hr hL hm hs ih hf)
def lL_law_556L : List (Nat × Instr × Nat × Nat) := [(556, .aload_n 1, 1, 557), (557, .aload_n 0, 1, 558), (558, .iload_n 3, 1, 559), (559, .iconst 1, 1, 560), (560, .iadd, 1, 561), (561, .iaload, 1, 562), (562, .aload_n 0, 1, 563), (563, .iload_n 3, 1, 564), (564, .iconst 2, 1, 565), (565, .iadd, 1, 566), (566, .iaload, 1, 567), (567, .invokevirtual 57, 3, 570), (570, .aload_n 2, 1, 571), (571, .aload_n 0, 1, 572), (572, .iload_n 3, 1, 573), (573, .iconst 1, 1, 574), (574, .iadd, 1, 575), (575, .iaload, 1, 576), (576, .aload_n 0, 1, 577), (577, .iload_n 3, 1, 578), (578, .iconst 2, 1, 579), (579, .iadd, 1, 580), (580, .iaload, 1, 581), (581, .invokevirtual 60, 3, 584), (584, .if_icmp .eq 1322, 3, 587), (587, .iconst 0, 1, 588), (588, .ireturn, 1, 589)]
set_option maxRecDepth 20000 in
theorem dL_law_556 : dcL cL_law lL_law_556L = true := by decide +kernel
def b_law_556 (F : Nat) (xs : Nat → Int32) (Ls : Nat) (self : Nat × Nat → PH → Nat → Nat → Int32 → Option Int32) (cs : Nat × Nat) (h : PH) (v1 : Nat) (v2 : Nat) (v3 : Int32) : Option Int32 := (scr xs Ls ((v3 + (1 : Int32)))).bind fun x1 => ((scr xs Ls ((v3 + (2 : Int32)))).bind fun x2 => (cO 9 h v1 (bind2 (m_X9_judge F h v1 x1 x2) fun x3 h4 => ((scr xs Ls ((v3 + (1 : Int32)))).bind fun x5 => ((scr xs Ls ((v3 + (2 : Int32)))).bind fun x6 => (cO 10 h4 v2 (bind2 (m_X10_judge F h4 v2 x5 x6) fun x7 h8 => (if x3 = x7 then (b_law_1906 F xs Ls self cs h8 v1 v2 v3) else (some (0 : Int32))))))))))
set_option maxRecDepth 20000 in
theorem t_law_556 {M : MV} {X : XT} {F : Nat} {xs : Nat → Int32} {Ls b : Nat} {self : Nat × Nat → PH → Nat → Nat → Int32 → Option Int32} {cs : Nat × Nat} {h : PH} {v1 : Nat} {v2 : Nat} {v3 : Int32} (hc : Cx M X R_law code) (hr : Rx M 2048 84000 600000 7302250 4) (hL : Lx M X xs Ls b) (hm : cs.1 ≤ 600000) (hs : cs.2 ≤ 7302250) (ih : ∀ (cs : Nat × Nat) (h : PH) (v1 : Nat) (v2 : Nat) (v3 : Int32), cs.1 ≤ 600000 → cs.2 ≤ 7302250 → self cs h v1 v2 v3 = some 1 → GG M X h cs.1 cs.2 18 [(0, .ref b), (1, .ref (X.1 + v1)), (2, .ref (X.1 + v2)), (3, .int v3)] []) (hf : b_law_556 F xs Ls self cs h v1 v2 v3 = some 1) : GG M X h cs.1 cs.2 556 [(0, .ref b), (1, .ref (X.1 + v1)), (2, .ref (X.1 + v2)), (3, .int v3)] [] := by
  unfold b_law_556 at hf
  refine r_aload_n hc 1 (dc_at dL_law_556 0 rfl) rfl ?_
  refine r_aload_n hc 0 (dc_at dL_law_556 1 rfl) rfl ?_
  refine r_iload_n hc 3 (dc_at dL_law_556 2 rfl) rfl ?_
  refine r_iconst (1 : Int32) hc (dc_at dL_law_556 3 rfl) (by decide) ?_
  refine r_iadd hc (dc_at dL_law_556 4 rfl) ?_
  refine r_sload hL hc (dc_at dL_law_556 5 rfl) hf fun x1 hf => ?_
  refine r_aload_n hc 0 (dc_at dL_law_556 6 rfl) rfl ?_
  refine r_iload_n hc 3 (dc_at dL_law_556 7 rfl) rfl ?_
  refine r_iconst (2 : Int32) hc (dc_at dL_law_556 8 rfl) (by decide) ?_
  refine r_iadd hc (dc_at dL_law_556 9 rfl) ?_
  refine r_sload hL hc (dc_at dL_law_556 10 rfl) hf fun x2 hf => ?_
  obtain ⟨ho, hf⟩ := cO_some hf
  refine ob2 hf fun x3 h4 ex hf => ?_
  refine r_callVi (As := [.int x1, .int x2]) (ci := 9) hc hr (dc_at dL_law_556 11 rfl) ml_L_57 mv_X9_judge vi_X9_judge rfl ho rfl (mt_X9_judge ex) (Nat.le_of_ble_eq_true rfl) (Nat.le_of_ble_eq_true rfl) (by first | exact Nat.le_of_ble_eq_true rfl | decide) hm hs ?_
  refine r_aload_n hc 2 (dc_at dL_law_556 12 rfl) rfl ?_
  refine r_aload_n hc 0 (dc_at dL_law_556 13 rfl) rfl ?_
  refine r_iload_n hc 3 (dc_at dL_law_556 14 rfl) rfl ?_
  refine r_iconst (1 : Int32) hc (dc_at dL_law_556 15 rfl) (by decide) ?_
  refine r_iadd hc (dc_at dL_law_556 16 rfl) ?_
  refine r_sload hL hc (dc_at dL_law_556 17 rfl) hf fun x5 hf => ?_
  refine r_aload_n hc 0 (dc_at dL_law_556 18 rfl) rfl ?_
  refine r_iload_n hc 3 (dc_at dL_law_556 19 rfl) rfl ?_
  refine r_iconst (2 : Int32) hc (dc_at dL_law_556 20 rfl) (by decide) ?_
  refine r_iadd hc (dc_at dL_law_556 21 rfl) ?_
  refine r_sload hL hc (dc_at dL_law_556 22 rfl) hf fun x6 hf => ?_
  obtain ⟨ho, hf⟩ := cO_some hf
  refine ob2 hf fun x7 h8 ex hf => ?_
  refine r_callVi (As := [.int x5, .int x6]) (ci := 10) hc hr (dc_at dL_law_556 23 rfl) ml_L_60 mv_X10_judge vi_X10_judge rfl ho rfl (mt_X10_judge ex) (Nat.le_of_ble_eq_true rfl) (Nat.le_of_ble_eq_true rfl) (by first | exact Nat.le_of_ble_eq_true rfl | decide) hm hs ?_
  refine r_icmp_eq (tgt := 1906) hc (dc_at dL_law_556 24 rfl) (by decide) hf (fun hf => ?_) (fun hf => ?_)
  · exact gg_sub [0, 1, 2, 3] rfl (t_law_1906 hc hr hL hm hs ih hf)
  · refine r_iconst (0 : Int32) hc (dc_at dL_law_556 25 rfl) (by decide) ?_
    cases hf
