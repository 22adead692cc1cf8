/-! FractionLiftModel.most(I)I -/
def lX10_mostL : List (Nat × Instr × Nat × Nat) := [(0, .aload_n 0, 1, 1), (1, .iconst 0, 1, 2), (2, .putfield 1, 3, 5), (5, .iload_n 1, 1, 6), (6, .invokestatic 317, 3, 9), (9, .ifCond .ne 6, 3, 12), (12, .bipush (-2), 2, 14), (14, .ireturn, 1, 15), (15, .aload_n 0, 1, 16), (16, .invokevirtual 311, 3, 19), (19, .iconst (-1), 1, 20), (20, .istore_n 2, 1, 21), (21, .iconst 0, 1, 22), (22, .istore_n 3, 1, 23), (23, .iload_n 3, 1, 24), (24, .aload_n 0, 1, 25), (25, .getfield 13, 3, 28), (28, .iconst 3, 1, 29), (29, .iaload, 1, 30), (30, .if_icmp .ge 41, 3, 33), (33, .iload_n 2, 1, 34), (34, .iconst (-1), 1, 35), (35, .if_icmp .eq 23, 3, 38), (38, .aload_n 0, 1, 39), (39, .iload_n 1, 1, 40), (40, .aload_n 0, 1, 41), (41, .getfield 37, 3, 44), (44, .iload_n 3, 1, 45), (45, .iaload, 1, 46), (46, .invokevirtual 314, 3, 49), (49, .aload_n 0, 1, 50), (50, .iload_n 1, 1, 51), (51, .iload_n 2, 1, 52), (52, .invokevirtual 314, 3, 55), (55, .if_icmp .le 10, 3, 58), (58, .aload_n 0, 1, 59), (59, .getfield 37, 3, 62), (62, .iload_n 3, 1, 63), (63, .iaload, 1, 64), (64, .istore_n 2, 1, 65), (65, .iinc 3 1, 3, 68), (68, .goto (-45), 3, 71), (71, .iload_n 2, 1, 72), (72, .ireturn, 1, 73)]
set_option maxRecDepth 20000 in
theorem dX10_most : dcL cX10_most lX10_mostL = true := by decide +kernel
def b_X10_most_65 (F : Nat) (self14 : PH → Nat → Int32 → Int32 → Int32 → Option (Int32 × PH)) (h : PH) (v0 : Nat) (v1 : Int32) (v2 : Int32) (v3 : Int32) : Option (Int32 × PH) := bindv (v3 + (1)) fun x1 => (self14 h v0 v1 v2 x1)
set_option maxRecDepth 20000 in
theorem t_X10_most_65 {M : MV} {X : XT} {F : Nat} {self14 : PH → Nat → Int32 → Int32 → Int32 → Option (Int32 × PH)} {h hz : PH} {r : Int32} {ce sl mc ms : Nat} {v0 : Nat} {v1 : Int32} {v2 : Int32} {v3 : Int32} (hc : Cx M X RX10 cX10_most) (hr : Rx M 4 234 mc ms 4) (he : Ex M X (some .int) "most" (some (.int r)) hz mc ms) (hm : ce ≤ mc) (hs : sl ≤ ms) (ih14 : ∀ (h : PH) (v0 : Nat) (v1 : Int32) (v2 : Int32) (v3 : Int32), self14 h v0 v1 v2 v3 = some (r, hz) → GG M X h ce sl 23 [(0, .ref (X.1 + v0)), (1, .int v1), (2, .int v2), (3, .int v3)] []) (hf : b_X10_most_65 F self14 h v0 v1 v2 v3 = some (r, hz)) : GG M X h ce sl 65 [(0, .ref (X.1 + v0)), (1, .int v1), (2, .int v2), (3, .int v3)] [] := by
  unfold b_X10_most_65 at hf
  refine obv hf fun x1 e_x1 hf => ?_
  refine r_iinc 3 [(3, .int x1), (0, .ref (X.1 + v0)), (1, .int v1), (2, .int v2)] hc hr (dc_at dX10_most 40 rfl) rfl (by rw [e_x1]; rfl) (by decide) rfl ?_
  refine r_goto (tgt := 23) hc (dc_at dX10_most 41 rfl) (by decide) ?_
  exact gg_sub [1, 2, 3, 0] rfl (ih14 _ _ _ _ _ hf)
def b_X10_most_58 (F : Nat) (self14 : PH → Nat → Int32 → Int32 → Int32 → Option (Int32 × PH)) (h : PH) (v0 : Nat) (v1 : Int32) (v3 : Int32) : Option (Int32 × PH) := (gR 10 23 h v0).bind fun a1 => ((aI 0 h a1 v3).bind fun x2 => (b_X10_most_65 F self14 h v0 v1 x2 v3))
set_option maxRecDepth 20000 in
theorem t_X10_most_58 {M : MV} {X : XT} {F : Nat} {self14 : PH → Nat → Int32 → Int32 → Int32 → Option (Int32 × PH)} {h hz : PH} {r : Int32} {ce sl mc ms : Nat} {v0 : Nat} {v1 : Int32} {v3 : Int32} (hc : Cx M X RX10 cX10_most) (hr : Rx M 4 234 mc ms 4) (he : Ex M X (some .int) "most" (some (.int r)) hz mc ms) (hm : ce ≤ mc) (hs : sl ≤ ms) (ih14 : ∀ (h : PH) (v0 : Nat) (v1 : Int32) (v2 : Int32) (v3 : Int32), self14 h v0 v1 v2 v3 = some (r, hz) → GG M X h ce sl 23 [(0, .ref (X.1 + v0)), (1, .int v1), (2, .int v2), (3, .int v3)] []) (hf : b_X10_most_58 F self14 h v0 v1 v3 = some (r, hz)) : GG M X h ce sl 58 [(0, .ref (X.1 + v0)), (1, .int v1), (3, .int v3)] [] := by
  unfold b_X10_most_58 at hf
  refine r_aload_n hc 0 (dc_at dX10_most 35 rfl) rfl ?_
  refine r_getR hc (dc_at dX10_most 36 rfl) fl_X10_37 hf fun a1 hf => ?_
  refine r_iload_n hc 2 (dc_at dX10_most 37 rfl) rfl ?_
  refine r_iaload hc (dc_at dX10_most 38 rfl) hf fun x2 hf => ?_
  refine r_istore_n [(2, .int x2), (0, .ref (X.1 + v0)), (1, .int v1), (3, .int v3)] hc hr (dc_at dX10_most 39 rfl) (by decide) rfl ?_
  exact gg_sub [1, 2, 0, 3] rfl (t_X10_most_65 hc hr he hm hs ih14 hf)
def b_X10_most_23 (F : Nat) (self14 : PH → Nat → Int32 → Int32 → Int32 → Option (Int32 × PH)) (h : PH) (v0 : Nat) (v1 : Int32) (v2 : Int32) (v3 : Int32) : Option (Int32 × PH) := (gR 10 1 h v0).bind fun a1 => ((aI 0 h a1 (3 : Int32)).bind fun x2 => (if x2 ≤ v3 then (some (v2, h)) else (if v2 = (-1 : Int32) then (b_X10_most_58 F self14 h v0 v1 v3) else ((gR 10 23 h v0).bind fun a3 => ((aI 0 h a3 v3).bind fun x4 => (cO 10 h v0 ((m_X10_stuffOf h v0 v1 x4).bind fun x5 => (cO 10 h v0 ((m_X10_stuffOf h v0 v1 v2).bind fun x6 => (if x5 ≤ x6 then (b_X10_most_65 F self14 h v0 v1 v2 v3) else (b_X10_most_58 F self14 h v0 v1 v3)))))))))))
set_option maxRecDepth 20000 in
theorem tb_X10_most_23 {M : MV} {X : XT} {F : Nat} {self14 : PH → Nat → Int32 → Int32 → Int32 → Option (Int32 × PH)} {h hz : PH} {r : Int32} {ce sl mc ms : Nat} {v0 : Nat} {v1 : Int32} {v2 : Int32} {v3 : Int32} (hc : Cx M X RX10 cX10_most) (hr : Rx M 4 234 mc ms 4) (he : Ex M X (some .int) "most" (some (.int r)) hz mc ms) (hm : ce ≤ mc) (hs : sl ≤ ms) (ih14 : ∀ (h : PH) (v0 : Nat) (v1 : Int32) (v2 : Int32) (v3 : Int32), self14 h v0 v1 v2 v3 = some (r, hz) → GG M X h ce sl 23 [(0, .ref (X.1 + v0)), (1, .int v1), (2, .int v2), (3, .int v3)] []) (hf : b_X10_most_23 F self14 h v0 v1 v2 v3 = some (r, hz)) : GG M X h ce sl 23 [(0, .ref (X.1 + v0)), (1, .int v1), (2, .int v2), (3, .int v3)] [] := by
  unfold b_X10_most_23 at hf
  refine r_iload_n hc 3 (dc_at dX10_most 14 rfl) rfl ?_
  refine r_aload_n hc 0 (dc_at dX10_most 15 rfl) rfl ?_
  refine r_getR hc (dc_at dX10_most 16 rfl) fl_X10_13 hf fun a1 hf => ?_
  refine r_iconst (3 : Int32) hc (dc_at dX10_most 17 rfl) (by decide) ?_
  refine r_iaload hc (dc_at dX10_most 18 rfl) hf fun x2 hf => ?_
  refine r_icmp_ge (tgt := 71) hc (dc_at dX10_most 19 rfl) (by decide) hf (fun hf => ?_) (fun hf => ?_)
  · refine r_iload_n hc 2 (dc_at dX10_most 42 rfl) rfl ?_
    exact r_iret hc he (hm) (hs) (dc_at dX10_most 43 rfl) hf
  · refine r_iload_n hc 2 (dc_at dX10_most 20 rfl) rfl ?_
    refine r_iconst (-1 : Int32) hc (dc_at dX10_most 21 rfl) (by decide) ?_
    refine r_icmp_eq (tgt := 58) hc (dc_at dX10_most 22 rfl) (by decide) hf (fun hf => ?_) (fun hf => ?_)
    · exact gg_sub [0, 1, 3] rfl (t_X10_most_58 hc hr he hm hs ih14 hf)
    · refine r_aload_n hc 0 (dc_at dX10_most 23 rfl) rfl ?_
      refine r_iload_n hc 1 (dc_at dX10_most 24 rfl) rfl ?_
      refine r_aload_n hc 0 (dc_at dX10_most 25 rfl) rfl ?_
      refine r_getR hc (dc_at dX10_most 26 rfl) fl_X10_37 hf fun a3 hf => ?_
      refine r_iload_n hc 3 (dc_at dX10_most 27 rfl) rfl ?_
      refine r_iaload hc (dc_at dX10_most 28 rfl) hf fun x4 hf => ?_
      obtain ⟨ho, hf⟩ := cO_some hf
      refine ob hf fun x5 ex hf => ?_
      refine r_callVi (As := [.int v1, .int x4]) (ci := 10) hc hr (dc_at dX10_most 29 rfl) ml_X10_314 mv_X10_stuffOf vi_X10_stuffOf rfl ho rfl (mt_X10_stuffOf ex) (by first | exact Nat.le_of_ble_eq_true rfl | omega) (by first | exact Nat.le_of_ble_eq_true rfl | omega) (by first | exact Nat.le_of_ble_eq_true rfl | omega) hm hs ?_
      refine r_aload_n hc 0 (dc_at dX10_most 30 rfl) rfl ?_
      refine r_iload_n hc 1 (dc_at dX10_most 31 rfl) rfl ?_
      refine r_iload_n hc 2 (dc_at dX10_most 32 rfl) rfl ?_
      obtain ⟨ho, hf⟩ := cO_some hf
      refine ob hf fun x6 ex hf => ?_
      refine r_callVi (As := [.int v1, .int v2]) (ci := 10) hc hr (dc_at dX10_most 33 rfl) ml_X10_314 mv_X10_stuffOf vi_X10_stuffOf rfl ho rfl (mt_X10_stuffOf ex) (by first | exact Nat.le_of_ble_eq_true rfl | omega) (by first | exact Nat.le_of_ble_eq_true rfl | omega) (by first | exact Nat.le_of_ble_eq_true rfl | omega) hm hs ?_
      refine r_icmp_le (tgt := 65) hc (dc_at dX10_most 34 rfl) (by decide) hf (fun hf => ?_) (fun hf => ?_)
      · exact gg_sub [0, 1, 2, 3] rfl (t_X10_most_65 hc hr he hm hs ih14 hf)
      · exact gg_sub [0, 1, 3] rfl (t_X10_most_58 hc hr he hm hs ih14 hf)
def l_X10_most_23 (F : Nat) : Nat → PH → Nat → Int32 → Int32 → Int32 → Option (Int32 × PH)
  | 0 => fun _ _ _ _ _ => none
  | n + 1 => fun h v0 v1 v2 v3 => b_X10_most_23 F (l_X10_most_23 F n) h v0 v1 v2 v3
theorem tl_X10_most_23 {M : MV} {X : XT} {F : Nat} {hz : PH} {r : Int32} {ce sl mc ms : Nat} (hc : Cx M X RX10 cX10_most) (hr : Rx M 4 234 mc ms 4) (he : Ex M X (some .int) "most" (some (.int r)) hz mc ms) (hm : ce ≤ mc) (hs : sl ≤ ms) (n : Nat) : ∀ (h : PH) (v0 : Nat) (v1 : Int32) (v2 : Int32) (v3 : Int32), l_X10_most_23 F n h v0 v1 v2 v3 = some (r, hz) → GG M X h ce sl 23 [(0, .ref (X.1 + v0)), (1, .int v1), (2, .int v2), (3, .int v3)] [] := by
  induction n with
  | zero => intro h v0 v1 v2 v3 hf; cases hf
  | succ n ih => intro h v0 v1 v2 v3 hf; exact tb_X10_most_23 (F := F) hc hr he hm hs  ih hf
def b_X10_most_0 (F : Nat) (h : PH) (v0 : Nat) (v1 : Int32) : Option (Int32 × PH) := (pV 10 0 (.int (0 : Int32)) h v0).bind fun h1 => ((m_X10_isStuff v1).bind fun x2 => (if x2 = 0 then (some ((-2 : Int32), h1)) else (cO 10 h1 v0 (bind2 (m_X10_laysOrder F h1 v0) fun _ h4 => (l_X10_most_23 F F h4 v0 v1 (-1 : Int32) (0 : Int32))))))
set_option maxRecDepth 20000 in
theorem t_X10_most_0 {M : MV} {X : XT} {F : Nat} {h hz : PH} {r : Int32} {ce sl mc ms : Nat} {v0 : Nat} {v1 : Int32} (hc : Cx M X RX10 cX10_most) (hr : Rx M 4 234 mc ms 4) (he : Ex M X (some .int) "most" (some (.int r)) hz mc ms) (hm : ce ≤ mc) (hs : sl ≤ ms) (hf : b_X10_most_0 F h v0 v1 = some (r, hz)) : GG M X h ce sl 0 [(0, .ref (X.1 + v0)), (1, .int v1)] [] := by
  unfold b_X10_most_0 at hf
  refine r_aload_n hc 0 (dc_at dX10_most 0 rfl) rfl ?_
  refine r_iconst (0 : Int32) hc (dc_at dX10_most 1 rfl) (by decide) ?_
  refine r_putI hc he (dc_at dX10_most 2 rfl) fp_X10_1 (fun q => by cases q) hf fun h1 hf => ?_
  refine r_iload_n hc 1 (dc_at dX10_most 3 rfl) rfl ?_
  refine ob hf fun x2 ex hf => ?_
  refine r_callSi (As := [.int v1]) hc hr (dc_at dX10_most 4 rfl) ml_X10_317 mv_X10_isStuff st_X10_isStuff rfl (mt_X10_isStuff ex) (by first | exact Nat.le_of_ble_eq_true rfl | omega) (by first | exact Nat.le_of_ble_eq_true rfl | omega) (by first | exact Nat.le_of_ble_eq_true rfl | omega) hm hs ?_
  refine r_if_ne (tgt := 15) hc (dc_at dX10_most 5 rfl) (by decide) hf (fun hf => ?_) (fun hf => ?_)
  · refine r_aload_n hc 0 (dc_at dX10_most 8 rfl) rfl ?_
    obtain ⟨ho, hf⟩ := cO_some hf
    refine ob2 hf fun u h4 ex hf => ?_
    refine r_callVv (As := []) (ci := 10) hc hr (dc_at dX10_most 9 rfl) ml_X10_311 mv_X10_laysOrder vi_X10_laysOrder rfl ho rfl (mt_X10_laysOrder ex) (by first | exact Nat.le_of_ble_eq_true rfl | omega) (by first | exact Nat.le_of_ble_eq_true rfl | omega) (by first | exact Nat.le_of_ble_eq_true rfl | omega) hm hs ?_
    refine r_iconst (-1 : Int32) hc (dc_at dX10_most 10 rfl) (by decide) ?_
    refine r_istore_n [(2, .int ((-1 : Int32))), (0, .ref (X.1 + v0)), (1, .int v1)] hc hr (dc_at dX10_most 11 rfl) (by decide) rfl ?_
    refine r_iconst (0 : Int32) hc (dc_at dX10_most 12 rfl) (by decide) ?_
    refine r_istore_n [(3, .int ((0 : Int32))), (2, .int ((-1 : Int32))), (0, .ref (X.1 + v0)), (1, .int v1)] hc hr (dc_at dX10_most 13 rfl) (by decide) rfl ?_
    exact gg_sub [2, 3, 1, 0] rfl (tl_X10_most_23 hc hr he hm hs  F _ _ _ _ _ hf)
  · refine r_bipush (-2 : Int32) hc (dc_at dX10_most 6 rfl) (by decide) ?_
    exact r_iret hc he (hm) (hs) (dc_at dX10_most 7 rfl) hf
def m_X10_most (F : Nat) (h : PH) (p0 : Nat) (p1 : Int32) : Option (Int32 × PH) := b_X10_most_0 F h p0 p1
theorem mt_X10_most {l : Launch} {X : XT} {F : Nat} {h hz : PH} {p0 : Nat} {p1 : Int32} {r : Int32} (ex : m_X10_most F h p0 p1 = some (r, hz)) : MT l X yX10_most cX10_most 4 (some .int) 4 234 0 0 [.ref (X.1 + p0), .int p1] h (some (.int r)) hz := MT.of (by decide) (Nat.le_of_ble_eq_true rfl) fun M hl hc hr he => by
  subst hl
  exact gg_sub [0, 1] rfl (t_X10_most_0  hc hr he (Nat.zero_le _) (Nat.zero_le _) ex)
/-! FractionLiftModel.tells(II)I -/
def lX10_tellsL : List (Nat × Instr × Nat × Nat) := [(0, .aload_n 0, 1, 1), (1, .iconst 0, 1, 2), (2, .putfield 1, 3, 5), (5, .aload_n 0, 1, 6), (6, .iload_n 1, 1, 7), (7, .i2l, 1, 8), (8, .iload_n 2, 1, 9), (9, .i2l, 1, 10), (10, .invokevirtual 282, 3, 13), (13, .ifCond .eq 14, 3, 16), (16, .aload_n 0, 1, 17), (17, .getfield 184, 3, 20), (20, .ldc2_w 328, 3, 23), (23, .lcmp, 1, 24), (24, .ifCond .le 6, 3, 27), (27, .bipush (-3), 2, 29), (29, .ireturn, 1, 30), (30, .aload_n 0, 1, 31), (31, .getfield 180, 3, 34), (34, .lstore_n 3, 1, 35), (35, .aload_n 0, 1, 36), (36, .getfield 184, 3, 39), (39, .lstore 5, 2, 41), (41, .aload_n 0, 1, 42), (42, .getfield 13, 3, 45), (45, .iconst 3, 1, 46), (46, .iaload, 1, 47), (47, .istore 7, 2, 49), (49, .iload 7, 2, 51), (51, .bipush 8, 2, 53), (53, .if_icmp .ne 6, 3, 56), (56, .bipush (-4), 2, 58), (58, .ireturn, 1, 59), (59, .iconst 0, 1, 60), (60, .istore 8, 2, 62), (62, .iload 8, 2, 64), (64, .iload 7, 2, 66), (66, .if_icmp .ge 45, 3, 69), (69, .aload_n 0, 1, 70), (70, .getfield 13, 3, 73), (73, .bipush 9, 2, 75), (75, .iload 8, 2, 77), (77, .iadd, 1, 78), (78, .iaload, 1, 79), (79, .i2l, 1, 80), (80, .lload_n 3, 1, 81), (81, .lcmp, 1, 82), (82, .ifCond .ne 23, 3, 85), (85, .aload_n 0, 1, 86), (86, .getfield 13, 3, 89), (89, .bipush 17, 2, 91), (91, .iload 8, 2, 93), (93, .iadd, 1, 94), (94, .iaload, 1, 95), (95, .i2l, 1, 96), (96, .lload 5, 2, 98), (98, .lcmp, 1, 99), (99, .ifCond .ne 6, 3, 102), (102, .bipush (-5), 2, 104), (104, .ireturn, 1, 105), (105, .iinc 8 1, 3, 108), (108, .goto (-46), 3, 111), (111, .iconst 0, 1, 112), (112, .istore 8, 2, 114), (114, .iload 8, 2, 116), (116, .iconst 3, 1, 117), (117, .if_icmp .ge 45, 3, 120), (120, .aload_n 0, 1, 121), (121, .iload 8, 2, 123), (123, .iconst 3, 1, 124), (124, .lload_n 3, 1, 125), (125, .lload 5, 2, 127), (127, .invokevirtual 324, 3, 130), (130, .aload_n 0, 1, 131), (131, .getfield 13, 3, 134), (134, .bipush 25, 2, 136), (136, .bipush 8, 2, 138), (138, .iload 8, 2, 140), (140, .imul, 1, 141), (141, .iadd, 1, 142), (142, .iload 7, 2, 144), (144, .iadd, 1, 145), (145, .aload_n 0, 1, 146), (146, .getfield 180, 3, 149), (149, .aload_n 0, 1, 150), (150, .getfield 184, 3, 153), (153, .ldiv, 1, 154), (154, .l2i, 1, 155), (155, .iastore, 1, 156), (156, .iinc 8 1, 3, 159), (159, .goto (-45), 3, 162), (162, .aload_n 0, 1, 163), (163, .getfield 13, 3, 166), (166, .bipush 9, 2, 168), (168, .iload 7, 2, 170), (170, .iadd, 1, 171), (171, .lload_n 3, 1, 172), (172, .l2i, 1, 173), (173, .iastore, 1, 174), (174, .aload_n 0, 1, 175), (175, .getfield 13, 3, 178), (178, .bipush 17, 2, 180), (180, .iload 7, 2, 182), (182, .iadd, 1, 183), (183, .lload 5, 2, 185), (185, .l2i, 1, 186), (186, .iastore, 1, 187), (187, .aload_n 0, 1, 188), (188, .getfield 13, 3, 191), (191, .iconst 3, 1, 192), (192, .dup2, 1, 193), (193, .iaload, 1, 194), (194, .iconst 1, 1, 195), (195, .iadd, 1, 196), (196, .iastore, 1, 197), (197, .iload 7, 2, 199), (199, .ireturn, 1, 200)]
set_option maxRecDepth 20000 in
theorem dX10_tells : dcL cX10_tells lX10_tellsL = true := by decide +kernel
def b_X10_tells_114 (F : Nat) (self64 : PH → Nat → Int64 → Int64 → Int32 → Int32 → Option (Int32 × PH)) (h : PH) (v0 : Nat) (v3 : Int64) (v5 : Int64) (v7 : Int32) (v8 : Int32) : Option (Int32 × PH) := if (3 : Int32) ≤ v8 then ((gR 10 1 h v0).bind fun a1 => ((sI 0 h a1 (((9 : Int32) + v7)) (Int64.toInt32 v3)).bind fun h2 => ((gR 10 1 h2 v0).bind fun a3 => ((sI 0 h2 a3 (((17 : Int32) + v7)) (Int64.toInt32 v5)).bind fun h4 => ((gR 10 1 h4 v0).bind fun a5 => ((aI 0 h4 a5 (3 : Int32)).bind fun x6 => ((sI 0 h4 a5 (3 : Int32) ((x6 + (1 : Int32)))).bind fun h7 => (some (v7, h7))))))))) else (cO 10 h v0 (bind2 (m_X10_laysStuff F h v0 v8 (3 : Int32) v3 v5) fun _ h9 => ((gR 10 1 h9 v0).bind fun a10 => ((gL 10 15 h9 v0).bind fun x11 => ((gL 10 16 h9 v0).bind fun x12 => (if x12 = 0 then none else ((sI 0 h9 a10 (((((25 : Int32) + (((8 : Int32) * v8)))) + v7)) ((Int64.toInt32 (x11 / x12)))).bind fun h13 => (bindv (v8 + (1)) fun x14 => (self64 h13 v0 v3 v5 v7 x14)))))))))
set_option maxRecDepth 20000 in
theorem tb_X10_tells_114 {M : MV} {X : XT} {F : Nat} {self64 : PH → Nat → Int64 → Int64 → Int32 → Int32 → Option (Int32 × PH)} {h hz : PH} {r : Int32} {ce sl mc ms : Nat} {v0 : Nat} {v3 : Int64} {v5 : Int64} {v7 : Int32} {v8 : Int32} (hc : Cx M X RX10 cX10_tells) (hr : Rx M 134 7774 mc ms 9) (he : Ex M X (some .int) "tells" (some (.int r)) hz mc ms) (hm : ce ≤ mc) (hs : sl ≤ ms) (ih64 : ∀ (h : PH) (v0 : Nat) (v3 : Int64) (v5 : Int64) (v7 : Int32) (v8 : Int32), self64 h v0 v3 v5 v7 v8 = some (r, hz) → GG M X h ce sl 114 [(0, .ref (X.1 + v0)), (3, .long v3), (5, .long v5), (7, .int v7), (8, .int v8)] []) (hf : b_X10_tells_114 F self64 h v0 v3 v5 v7 v8 = some (r, hz)) : GG M X h ce sl 114 [(0, .ref (X.1 + v0)), (3, .long v3), (5, .long v5), (7, .int v7), (8, .int v8)] [] := by
  unfold b_X10_tells_114 at hf
  refine r_iload hc 4 (dc_at dX10_tells 64 rfl) rfl ?_
  refine r_iconst (3 : Int32) hc (dc_at dX10_tells 65 rfl) (by decide) ?_
  refine r_icmp_ge (tgt := 162) hc (dc_at dX10_tells 66 rfl) (by decide) hf (fun hf => ?_) (fun hf => ?_)
  · refine r_aload_n hc 0 (dc_at dX10_tells 91 rfl) rfl ?_
    refine r_getR hc (dc_at dX10_tells 92 rfl) fl_X10_13 hf fun a1 hf => ?_
    refine r_bipush (9 : Int32) hc (dc_at dX10_tells 93 rfl) (by decide) ?_
    refine r_iload hc 3 (dc_at dX10_tells 94 rfl) rfl ?_
    refine r_iadd hc (dc_at dX10_tells 95 rfl) ?_
    refine r_lload_n hc 1 (dc_at dX10_tells 96 rfl) rfl ?_
    refine r_l2i hc (dc_at dX10_tells 97 rfl) ?_
    refine r_iastore hc (dc_at dX10_tells 98 rfl) hf fun h2 hf => ?_
    refine r_aload_n hc 0 (dc_at dX10_tells 99 rfl) rfl ?_
    refine r_getR hc (dc_at dX10_tells 100 rfl) fl_X10_13 hf fun a3 hf => ?_
    refine r_bipush (17 : Int32) hc (dc_at dX10_tells 101 rfl) (by decide) ?_
    refine r_iload hc 3 (dc_at dX10_tells 102 rfl) rfl ?_
    refine r_iadd hc (dc_at dX10_tells 103 rfl) ?_
    refine r_lload hc 2 (dc_at dX10_tells 104 rfl) rfl ?_
    refine r_l2i hc (dc_at dX10_tells 105 rfl) ?_
    refine r_iastore hc (dc_at dX10_tells 106 rfl) hf fun h4 hf => ?_
    refine r_aload_n hc 0 (dc_at dX10_tells 107 rfl) rfl ?_
    refine r_getR hc (dc_at dX10_tells 108 rfl) fl_X10_13 hf fun a5 hf => ?_
    refine r_iconst (3 : Int32) hc (dc_at dX10_tells 109 rfl) (by decide) ?_
    refine r_dup2 hc (dc_at dX10_tells 110 rfl) rfl rfl ?_
    refine r_iaload hc (dc_at dX10_tells 111 rfl) hf fun x6 hf => ?_
    refine r_iconst (1 : Int32) hc (dc_at dX10_tells 112 rfl) (by decide) ?_
    refine r_iadd hc (dc_at dX10_tells 113 rfl) ?_
    refine r_iastore hc (dc_at dX10_tells 114 rfl) hf fun h7 hf => ?_
    refine r_iload hc 3 (dc_at dX10_tells 115 rfl) rfl ?_
    exact r_iret hc he (hm) (hs) (dc_at dX10_tells 116 rfl) hf
  · refine r_aload_n hc 0 (dc_at dX10_tells 67 rfl) rfl ?_
    refine r_iload hc 4 (dc_at dX10_tells 68 rfl) rfl ?_
    refine r_iconst (3 : Int32) hc (dc_at dX10_tells 69 rfl) (by decide) ?_
    refine r_lload_n hc 1 (dc_at dX10_tells 70 rfl) rfl ?_
    refine r_lload hc 2 (dc_at dX10_tells 71 rfl) rfl ?_
    obtain ⟨ho, hf⟩ := cO_some hf
    refine ob2 hf fun u h9 ex hf => ?_
    refine r_callVv (As := [.int v8, .int ((3 : Int32)), .long v3, .long v5]) (ci := 10) hc hr (dc_at dX10_tells 72 rfl) ml_X10_324 mv_X10_laysStuff vi_X10_laysStuff rfl ho rfl (mt_X10_laysStuff ex) (by first | exact Nat.le_of_ble_eq_true rfl | omega) (by first | exact Nat.le_of_ble_eq_true rfl | omega) (by first | exact Nat.le_of_ble_eq_true rfl | omega) hm hs ?_
    refine r_aload_n hc 0 (dc_at dX10_tells 73 rfl) rfl ?_
    refine r_getR hc (dc_at dX10_tells 74 rfl) fl_X10_13 hf fun a10 hf => ?_
    refine r_bipush (25 : Int32) hc (dc_at dX10_tells 75 rfl) (by decide) ?_
    refine r_bipush (8 : Int32) hc (dc_at dX10_tells 76 rfl) (by decide) ?_
    refine r_iload hc 4 (dc_at dX10_tells 77 rfl) rfl ?_
    refine r_imul hc (dc_at dX10_tells 78 rfl) ?_
    refine r_iadd hc (dc_at dX10_tells 79 rfl) ?_
    refine r_iload hc 3 (dc_at dX10_tells 80 rfl) rfl ?_
    refine r_iadd hc (dc_at dX10_tells 81 rfl) ?_
    refine r_aload_n hc 0 (dc_at dX10_tells 82 rfl) rfl ?_
    refine r_getL hc (dc_at dX10_tells 83 rfl) fl_X10_180 hf fun x11 hf => ?_
    refine r_aload_n hc 0 (dc_at dX10_tells 84 rfl) rfl ?_
    refine r_getL hc (dc_at dX10_tells 85 rfl) fl_X10_184 hf fun x12 hf => ?_
    refine r_ldiv hc (dc_at dX10_tells 86 rfl) hf (fun hf => ?_)
    refine r_l2i hc (dc_at dX10_tells 87 rfl) ?_
    refine r_iastore hc (dc_at dX10_tells 88 rfl) hf fun h13 hf => ?_
    refine obv hf fun x14 e_x14 hf => ?_
    refine r_iinc 4 [(8, .int x14), (0, .ref (X.1 + v0)), (3, .long v3), (5, .long v5), (7, .int v7)] hc hr (dc_at dX10_tells 89 rfl) rfl (by rw [e_x14]; rfl) (by decide) rfl ?_
    refine r_goto (tgt := 114) hc (dc_at dX10_tells 90 rfl) (by decide) ?_
    exact gg_sub [1, 2, 3, 4, 0] rfl (ih64 _ _ _ _ _ _ hf)
def l_X10_tells_114 (F : Nat) : Nat → PH → Nat → Int64 → Int64 → Int32 → Int32 → Option (Int32 × PH)
  | 0 => fun _ _ _ _ _ _ => none
  | n + 1 => fun h v0 v3 v5 v7 v8 => b_X10_tells_114 F (l_X10_tells_114 F n) h v0 v3 v5 v7 v8
theorem tl_X10_tells_114 {M : MV} {X : XT} {F : Nat} {hz : PH} {r : Int32} {ce sl mc ms : Nat} (hc : Cx M X RX10 cX10_tells) (hr : Rx M 134 7774 mc ms 9) (he : Ex M X (some .int) "tells" (some (.int r)) hz mc ms) (hm : ce ≤ mc) (hs : sl ≤ ms) (n : Nat) : ∀ (h : PH) (v0 : Nat) (v3 : Int64) (v5 : Int64) (v7 : Int32) (v8 : Int32), l_X10_tells_114 F n h v0 v3 v5 v7 v8 = some (r, hz) → GG M X h ce sl 114 [(0, .ref (X.1 + v0)), (3, .long v3), (5, .long v5), (7, .int v7), (8, .int v8)] [] := by
  induction n with
  | zero => intro h v0 v3 v5 v7 v8 hf; cases hf
  | succ n ih => intro h v0 v3 v5 v7 v8 hf; exact tb_X10_tells_114 (F := F) hc hr he hm hs  ih hf
def b_X10_tells_105 (F : Nat) (self35 : PH → Nat → Int64 → Int64 → Int32 → Int32 → Option (Int32 × PH)) (h : PH) (v0 : Nat) (v3 : Int64) (v5 : Int64) (v7 : Int32) (v8 : Int32) : Option (Int32 × PH) := bindv (v8 + (1)) fun x1 => (self35 h v0 v3 v5 v7 x1)
set_option maxRecDepth 20000 in
theorem t_X10_tells_105 {M : MV} {X : XT} {F : Nat} {self35 : PH → Nat → Int64 → Int64 → Int32 → Int32 → Option (Int32 × PH)} {h hz : PH} {r : Int32} {ce sl mc ms : Nat} {v0 : Nat} {v3 : Int64} {v5 : Int64} {v7 : Int32} {v8 : Int32} (hc : Cx M X RX10 cX10_tells) (hr : Rx M 134 7774 mc ms 9) (he : Ex M X (some .int) "tells" (some (.int r)) hz mc ms) (hm : ce ≤ mc) (hs : sl ≤ ms) (ih35 : ∀ (h : PH) (v0 : Nat) (v3 : Int64) (v5 : Int64) (v7 : Int32) (v8 : Int32), self35 h v0 v3 v5 v7 v8 = some (r, hz) → GG M X h ce sl 62 [(0, .ref (X.1 + v0)), (3, .long v3), (5, .long v5), (7, .int v7), (8, .int v8)] []) (hf : b_X10_tells_105 F self35 h v0 v3 v5 v7 v8 = some (r, hz)) : GG M X h ce sl 105 [(0, .ref (X.1 + v0)), (3, .long v3), (5, .long v5), (7, .int v7), (8, .int v8)] [] := by
  unfold b_X10_tells_105 at hf
  refine obv hf fun x1 e_x1 hf => ?_
  refine r_iinc 4 [(8, .int x1), (0, .ref (X.1 + v0)), (3, .long v3), (5, .long v5), (7, .int v7)] hc hr (dc_at dX10_tells 60 rfl) rfl (by rw [e_x1]; rfl) (by decide) rfl ?_
  refine r_goto (tgt := 62) hc (dc_at dX10_tells 61 rfl) (by decide) ?_
  exact gg_sub [1, 2, 3, 4, 0] rfl (ih35 _ _ _ _ _ _ hf)
def b_X10_tells_62 (F : Nat) (self35 : PH → Nat → Int64 → Int64 → Int32 → Int32 → Option (Int32 × PH)) (h : PH) (v0 : Nat) (v3 : Int64) (v5 : Int64) (v7 : Int32) (v8 : Int32) : Option (Int32 × PH) := if v7 ≤ v8 then (l_X10_tells_114 F F h v0 v3 v5 v7 (0 : Int32)) else ((gR 10 1 h v0).bind fun a1 => ((aI 0 h a1 (((9 : Int32) + v8))).bind fun x2 => (if (Int32.toInt64 x2) = v3 then ((gR 10 1 h v0).bind fun a3 => ((aI 0 h a3 (((17 : Int32) + v8))).bind fun x4 => (if (Int32.toInt64 x4) = v5 then (some ((-5 : Int32), h)) else (b_X10_tells_105 F self35 h v0 v3 v5 v7 v8)))) else (b_X10_tells_105 F self35 h v0 v3 v5 v7 v8))))
set_option maxRecDepth 20000 in
theorem tb_X10_tells_62 {M : MV} {X : XT} {F : Nat} {self35 : PH → Nat → Int64 → Int64 → Int32 → Int32 → Option (Int32 × PH)} {h hz : PH} {r : Int32} {ce sl mc ms : Nat} {v0 : Nat} {v3 : Int64} {v5 : Int64} {v7 : Int32} {v8 : Int32} (hc : Cx M X RX10 cX10_tells) (hr : Rx M 134 7774 mc ms 9) (he : Ex M X (some .int) "tells" (some (.int r)) hz mc ms) (hm : ce ≤ mc) (hs : sl ≤ ms) (ih35 : ∀ (h : PH) (v0 : Nat) (v3 : Int64) (v5 : Int64) (v7 : Int32) (v8 : Int32), self35 h v0 v3 v5 v7 v8 = some (r, hz) → GG M X h ce sl 62 [(0, .ref (X.1 + v0)), (3, .long v3), (5, .long v5), (7, .int v7), (8, .int v8)] []) (hf : b_X10_tells_62 F self35 h v0 v3 v5 v7 v8 = some (r, hz)) : GG M X h ce sl 62 [(0, .ref (X.1 + v0)), (3, .long v3), (5, .long v5), (7, .int v7), (8, .int v8)] [] := by
  unfold b_X10_tells_62 at hf
  refine r_iload hc 4 (dc_at dX10_tells 35 rfl) rfl ?_
  refine r_iload hc 3 (dc_at dX10_tells 36 rfl) rfl ?_
  refine r_icmp_ge (tgt := 111) hc (dc_at dX10_tells 37 rfl) (by decide) hf (fun hf => ?_) (fun hf => ?_)
  · refine r_iconst (0 : Int32) hc (dc_at dX10_tells 62 rfl) (by decide) ?_
    refine r_istore [(8, .int ((0 : Int32))), (0, .ref (X.1 + v0)), (3, .long v3), (5, .long v5), (7, .int v7)] hc hr (dc_at dX10_tells 63 rfl) (by decide) rfl ?_
    exact gg_sub [1, 2, 3, 4, 0] rfl (tl_X10_tells_114 hc hr he hm hs  F _ _ _ _ _ _ hf)
  · refine r_aload_n hc 0 (dc_at dX10_tells 38 rfl) rfl ?_
    refine r_getR hc (dc_at dX10_tells 39 rfl) fl_X10_13 hf fun a1 hf => ?_
    refine r_bipush (9 : Int32) hc (dc_at dX10_tells 40 rfl) (by decide) ?_
    refine r_iload hc 4 (dc_at dX10_tells 41 rfl) rfl ?_
    refine r_iadd hc (dc_at dX10_tells 42 rfl) ?_
    refine r_iaload hc (dc_at dX10_tells 43 rfl) hf fun x2 hf => ?_
    refine r_i2l hc (dc_at dX10_tells 44 rfl) ?_
    refine r_lload_n hc 1 (dc_at dX10_tells 45 rfl) rfl ?_
    refine r_lcmp_ne (tgt := 105) hc (dc_at dX10_tells 46 rfl) (dc_at dX10_tells 47 rfl) (by decide) hf (fun hf => ?_) (fun hf => ?_)
    · exact gg_sub [0, 1, 2, 3, 4] rfl (t_X10_tells_105 hc hr he hm hs ih35 hf)
    · refine r_aload_n hc 0 (dc_at dX10_tells 48 rfl) rfl ?_
      refine r_getR hc (dc_at dX10_tells 49 rfl) fl_X10_13 hf fun a3 hf => ?_
      refine r_bipush (17 : Int32) hc (dc_at dX10_tells 50 rfl) (by decide) ?_
      refine r_iload hc 4 (dc_at dX10_tells 51 rfl) rfl ?_
      refine r_iadd hc (dc_at dX10_tells 52 rfl) ?_
      refine r_iaload hc (dc_at dX10_tells 53 rfl) hf fun x4 hf => ?_
      refine r_i2l hc (dc_at dX10_tells 54 rfl) ?_
      refine r_lload hc 2 (dc_at dX10_tells 55 rfl) rfl ?_
      refine r_lcmp_ne (tgt := 105) hc (dc_at dX10_tells 56 rfl) (dc_at dX10_tells 57 rfl) (by decide) hf (fun hf => ?_) (fun hf => ?_)
      · exact gg_sub [0, 1, 2, 3, 4] rfl (t_X10_tells_105 hc hr he hm hs ih35 hf)
      · refine r_bipush (-5 : Int32) hc (dc_at dX10_tells 58 rfl) (by decide) ?_
        exact r_iret hc he (hm) (hs) (dc_at dX10_tells 59 rfl) hf
def l_X10_tells_62 (F : Nat) : Nat → PH → Nat → Int64 → Int64 → Int32 → Int32 → Option (Int32 × PH)
  | 0 => fun _ _ _ _ _ _ => none
  | n + 1 => fun h v0 v3 v5 v7 v8 => b_X10_tells_62 F (l_X10_tells_62 F n) h v0 v3 v5 v7 v8
theorem tl_X10_tells_62 {M : MV} {X : XT} {F : Nat} {hz : PH} {r : Int32} {ce sl mc ms : Nat} (hc : Cx M X RX10 cX10_tells) (hr : Rx M 134 7774 mc ms 9) (he : Ex M X (some .int) "tells" (some (.int r)) hz mc ms) (hm : ce ≤ mc) (hs : sl ≤ ms) (n : Nat) : ∀ (h : PH) (v0 : Nat) (v3 : Int64) (v5 : Int64) (v7 : Int32) (v8 : Int32), l_X10_tells_62 F n h v0 v3 v5 v7 v8 = some (r, hz) → GG M X h ce sl 62 [(0, .ref (X.1 + v0)), (3, .long v3), (5, .long v5), (7, .int v7), (8, .int v8)] [] := by
  induction n with
  | zero => intro h v0 v3 v5 v7 v8 hf; cases hf
  | succ n ih => intro h v0 v3 v5 v7 v8 hf; exact tb_X10_tells_62 (F := F) hc hr he hm hs  ih hf
def b_X10_tells_0 (F : Nat) (h : PH) (v0 : Nat) (v1 : Int32) (v2 : Int32) : Option (Int32 × PH) := (pV 10 0 (.int (0 : Int32)) h v0).bind fun h1 => (cO 10 h1 v0 (bind2 (m_X10_asks h1 v0 (Int32.toInt64 v1) (Int32.toInt64 v2)) fun x2 h3 => (if x2 = 0 then (some ((-3 : Int32), h3)) else ((gL 10 16 h3 v0).bind fun x4 => (if x4 ≤ (99 : Int64) then ((gL 10 15 h3 v0).bind fun x5 => ((gL 10 16 h3 v0).bind fun x6 => ((gR 10 1 h3 v0).bind fun a7 => ((aI 0 h3 a7 (3 : Int32)).bind fun x8 => (if x8 = (8 : Int32) then (some ((-4 : Int32), h3)) else (l_X10_tells_62 F F h3 v0 x5 x6 x8 (0 : Int32))))))) else (some ((-3 : Int32), h3)))))))
set_option maxRecDepth 20000 in
theorem t_X10_tells_0 {M : MV} {X : XT} {F : Nat} {h hz : PH} {r : Int32} {ce sl mc ms : Nat} {v0 : Nat} {v1 : Int32} {v2 : Int32} (hc : Cx M X RX10 cX10_tells) (hr : Rx M 134 7774 mc ms 9) (he : Ex M X (some .int) "tells" (some (.int r)) hz mc ms) (hm : ce ≤ mc) (hs : sl ≤ ms) (hf : b_X10_tells_0 F h v0 v1 v2 = some (r, hz)) : GG M X h ce sl 0 [(0, .ref (X.1 + v0)), (1, .int v1), (2, .int v2)] [] := by
  unfold b_X10_tells_0 at hf
  refine r_aload_n hc 0 (dc_at dX10_tells 0 rfl) rfl ?_
  refine r_iconst (0 : Int32) hc (dc_at dX10_tells 1 rfl) (by decide) ?_
  refine r_putI hc he (dc_at dX10_tells 2 rfl) fp_X10_1 (fun q => by cases q) hf fun h1 hf => ?_
  refine r_aload_n hc 0 (dc_at dX10_tells 3 rfl) rfl ?_
  refine r_iload_n hc 1 (dc_at dX10_tells 4 rfl) rfl ?_
  refine r_i2l hc (dc_at dX10_tells 5 rfl) ?_
  refine r_iload_n hc 2 (dc_at dX10_tells 6 rfl) rfl ?_
  refine r_i2l hc (dc_at dX10_tells 7 rfl) ?_
  obtain ⟨ho, hf⟩ := cO_some hf
  refine ob2 hf fun x2 h3 ex hf => ?_
  refine r_callVi (As := [.long ((Int32.toInt64 v1)), .long ((Int32.toInt64 v2))]) (ci := 10) hc hr (dc_at dX10_tells 8 rfl) ml_X10_282 mv_X10_asks vi_X10_asks rfl ho rfl (mt_X10_asks ex) (by first | exact Nat.le_of_ble_eq_true rfl | omega) (by first | exact Nat.le_of_ble_eq_true rfl | omega) (by first | exact Nat.le_of_ble_eq_true rfl | omega) hm hs ?_
  refine r_if_eq (tgt := 27) hc (dc_at dX10_tells 9 rfl) (by decide) hf (fun hf => ?_) (fun hf => ?_)
  · refine r_bipush (-3 : Int32) hc (dc_at dX10_tells 15 rfl) (by decide) ?_
    exact r_iret hc he (hm) (hs) (dc_at dX10_tells 16 rfl) hf
  · refine r_aload_n hc 0 (dc_at dX10_tells 10 rfl) rfl ?_
    refine r_getL hc (dc_at dX10_tells 11 rfl) fl_X10_184 hf fun x4 hf => ?_
    refine r_ldc2 hc (dc_at dX10_tells 12 rfl) cl2_X10_328 ?_
    refine r_lcmp_le (tgt := 30) hc (dc_at dX10_tells 13 rfl) (dc_at dX10_tells 14 rfl) (by decide) hf (fun hf => ?_) (fun hf => ?_)
    · refine r_aload_n hc 0 (dc_at dX10_tells 17 rfl) rfl ?_
      refine r_getL hc (dc_at dX10_tells 18 rfl) fl_X10_180 hf fun x5 hf => ?_
      refine r_lstore_n [(3, .long x5), (0, .ref (X.1 + v0)), (1, .int v1), (2, .int v2)] hc hr (dc_at dX10_tells 19 rfl) (by decide) rfl ?_
      refine r_aload_n hc 1 (dc_at dX10_tells 20 rfl) rfl ?_
      refine r_getL hc (dc_at dX10_tells 21 rfl) fl_X10_184 hf fun x6 hf => ?_
      refine r_lstore [(5, .long x6), (3, .long x5), (0, .ref (X.1 + v0)), (1, .int v1), (2, .int v2)] hc hr (dc_at dX10_tells 22 rfl) (by decide) rfl ?_
      refine r_aload_n hc 2 (dc_at dX10_tells 23 rfl) rfl ?_
      refine r_getR hc (dc_at dX10_tells 24 rfl) fl_X10_13 hf fun a7 hf => ?_
      refine r_iconst (3 : Int32) hc (dc_at dX10_tells 25 rfl) (by decide) ?_
      refine r_iaload hc (dc_at dX10_tells 26 rfl) hf fun x8 hf => ?_
      refine r_istore [(7, .int x8), (5, .long x6), (3, .long x5), (0, .ref (X.1 + v0)), (1, .int v1), (2, .int v2)] hc hr (dc_at dX10_tells 27 rfl) (by decide) rfl ?_
      refine r_iload hc 0 (dc_at dX10_tells 28 rfl) rfl ?_
      refine r_bipush (8 : Int32) hc (dc_at dX10_tells 29 rfl) (by decide) ?_
      refine r_icmp_ne (tgt := 59) hc (dc_at dX10_tells 30 rfl) (by decide) hf (fun hf => ?_) (fun hf => ?_)
      · refine r_iconst (0 : Int32) hc (dc_at dX10_tells 33 rfl) (by decide) ?_
        refine r_istore [(8, .int ((0 : Int32))), (7, .int x8), (5, .long x6), (3, .long x5), (0, .ref (X.1 + v0)), (1, .int v1), (2, .int v2)] hc hr (dc_at dX10_tells 34 rfl) (by decide) rfl ?_
        exact gg_sub [4, 3, 2, 1, 0] rfl (tl_X10_tells_62 hc hr he hm hs  F _ _ _ _ _ _ hf)
      · refine r_bipush (-4 : Int32) hc (dc_at dX10_tells 31 rfl) (by decide) ?_
        exact r_iret hc he (hm) (hs) (dc_at dX10_tells 32 rfl) hf
    · refine r_bipush (-3 : Int32) hc (dc_at dX10_tells 15 rfl) (by decide) ?_
      exact r_iret hc he (hm) (hs) (dc_at dX10_tells 16 rfl) hf
def m_X10_tells (F : Nat) (h : PH) (p0 : Nat) (p1 : Int32) (p2 : Int32) : Option (Int32 × PH) := b_X10_tells_0 F h p0 p1 p2
theorem mt_X10_tells {l : Launch} {X : XT} {F : Nat} {h hz : PH} {p0 : Nat} {p1 : Int32} {p2 : Int32} {r : Int32} (ex : m_X10_tells F h p0 p1 p2 = some (r, hz)) : MT l X yX10_tells cX10_tells 9 (some .int) 134 7774 0 0 [.ref (X.1 + p0), .int p1, .int p2] h (some (.int r)) hz := MT.of (by decide) (Nat.le_of_ble_eq_true rfl) fun M hl hc hr he => by
  subst hl
  exact gg_sub [0, 1, 2] rfl (t_X10_tells_0  hc hr he (Nat.zero_le _) (Nat.zero_le _) ex)
/-! FractionLiftModel.forgets()V -/
def lX10_forgetsL : List (Nat × Instr × Nat × Nat) := [(0, .iconst 0, 1, 1), (1, .istore_n 1, 1, 2), (2, .iload_n 1, 1, 3), (3, .sipush 16384, 3, 6), (6, .if_icmp .ge 16, 3, 9), (9, .aload_n 0, 1, 10), (10, .getfield 52, 3, 13), (13, .iload_n 1, 1, 14), (14, .iconst (-1), 1, 15), (15, .iastore, 1, 16), (16, .iinc 1 1, 3, 19), (19, .goto (-17), 3, 22), (22, .aload_n 0, 1, 23), (23, .iconst 0, 1, 24), (24, .putfield 336, 3, 27), (27, .return_, 1, 28)]
set_option maxRecDepth 20000 in
theorem dX10_forgets : dcL cX10_forgets lX10_forgetsL = true := by decide +kernel
def b_X10_forgets_2 (F : Nat) (self2 : PH → Nat → Int32 → Option (Unit × PH)) (h : PH) (v0 : Nat) (v1 : Int32) : Option (Unit × PH) := if (16384 : Int32) ≤ v1 then ((pV 10 29 (.int (0 : Int32)) h v0).bind fun h1 => (some ((), h1))) else ((gR 10 28 h v0).bind fun a2 => ((sI 0 h a2 v1 (-1 : Int32)).bind fun h3 => (bindv (v1 + (1)) fun x4 => (self2 h3 v0 x4))))
set_option maxRecDepth 20000 in
theorem tb_X10_forgets_2 {M : MV} {X : XT} {F : Nat} {self2 : PH → Nat → Int32 → Option (Unit × PH)} {h hz : PH} {r : Unit} {ce sl mc ms : Nat} {v0 : Nat} {v1 : Int32} (hc : Cx M X RX10 cX10_forgets) (hr : Rx M 1 60 mc ms 2) (he : Ex M X none "forgets" none hz mc ms) (hm : ce ≤ mc) (hs : sl ≤ ms) (ih2 : ∀ (h : PH) (v0 : Nat) (v1 : Int32), self2 h v0 v1 = some (r, hz) → GG M X h ce sl 2 [(0, .ref (X.1 + v0)), (1, .int v1)] []) (hf : b_X10_forgets_2 F self2 h v0 v1 = some (r, hz)) : GG M X h ce sl 2 [(0, .ref (X.1 + v0)), (1, .int v1)] [] := by
  unfold b_X10_forgets_2 at hf
  refine r_iload_n hc 1 (dc_at dX10_forgets 2 rfl) rfl ?_
  refine r_sipush (16384 : Int32) hc (dc_at dX10_forgets 3 rfl) (by decide) ?_
  refine r_icmp_ge (tgt := 22) hc (dc_at dX10_forgets 4 rfl) (by decide) hf (fun hf => ?_) (fun hf => ?_)
  · refine r_aload_n hc 0 (dc_at dX10_forgets 12 rfl) rfl ?_
    refine r_iconst (0 : Int32) hc (dc_at dX10_forgets 13 rfl) (by decide) ?_
    refine r_putI hc he (dc_at dX10_forgets 14 rfl) fp_X10_336 (fun q => by cases q) hf fun h1 hf => ?_
    exact r_vret hc he (hm) (hs) (dc_at dX10_forgets 15 rfl) hf
  · refine r_aload_n hc 0 (dc_at dX10_forgets 5 rfl) rfl ?_
    refine r_getR hc (dc_at dX10_forgets 6 rfl) fl_X10_52 hf fun a2 hf => ?_
    refine r_iload_n hc 1 (dc_at dX10_forgets 7 rfl) rfl ?_
    refine r_iconst (-1 : Int32) hc (dc_at dX10_forgets 8 rfl) (by decide) ?_
    refine r_iastore hc (dc_at dX10_forgets 9 rfl) hf fun h3 hf => ?_
    refine obv hf fun x4 e_x4 hf => ?_
    refine r_iinc 1 [(1, .int x4), (0, .ref (X.1 + v0))] hc hr (dc_at dX10_forgets 10 rfl) rfl (by rw [e_x4]; rfl) (by decide) rfl ?_
    refine r_goto (tgt := 2) hc (dc_at dX10_forgets 11 rfl) (by decide) ?_
    exact gg_sub [1, 0] rfl (ih2 _ _ _ hf)
def l_X10_forgets_2 (F : Nat) : Nat → PH → Nat → Int32 → Option (Unit × PH)
  | 0 => fun _ _ _ => none
  | n + 1 => fun h v0 v1 => b_X10_forgets_2 F (l_X10_forgets_2 F n) h v0 v1
theorem tl_X10_forgets_2 {M : MV} {X : XT} {F : Nat} {hz : PH} {r : Unit} {ce sl mc ms : Nat} (hc : Cx M X RX10 cX10_forgets) (hr : Rx M 1 60 mc ms 2) (he : Ex M X none "forgets" none hz mc ms) (hm : ce ≤ mc) (hs : sl ≤ ms) (n : Nat) : ∀ (h : PH) (v0 : Nat) (v1 : Int32), l_X10_forgets_2 F n h v0 v1 = some (r, hz) → GG M X h ce sl 2 [(0, .ref (X.1 + v0)), (1, .int v1)] [] := by
  induction n with
  | zero => intro h v0 v1 hf; cases hf
  | succ n ih => intro h v0 v1 hf; exact tb_X10_forgets_2 (F := F) hc hr he hm hs  ih hf
def b_X10_forgets_0 (F : Nat) (h : PH) (v0 : Nat) : Option (Unit × PH) := l_X10_forgets_2 F F h v0 (0 : Int32)
set_option maxRecDepth 20000 in
theorem t_X10_forgets_0 {M : MV} {X : XT} {F : Nat} {h hz : PH} {r : Unit} {ce sl mc ms : Nat} {v0 : Nat} (hc : Cx M X RX10 cX10_forgets) (hr : Rx M 1 60 mc ms 2) (he : Ex M X none "forgets" none hz mc ms) (hm : ce ≤ mc) (hs : sl ≤ ms) (hf : b_X10_forgets_0 F h v0 = some (r, hz)) : GG M X h ce sl 0 [(0, .ref (X.1 + v0))] [] := by
  unfold b_X10_forgets_0 at hf
  refine r_iconst (0 : Int32) hc (dc_at dX10_forgets 0 rfl) (by decide) ?_
  refine r_istore_n [(1, .int ((0 : Int32))), (0, .ref (X.1 + v0))] hc hr (dc_at dX10_forgets 1 rfl) (by decide) rfl ?_
  exact gg_sub [1, 0] rfl (tl_X10_forgets_2 hc hr he hm hs  F _ _ _ hf)
def m_X10_forgets (F : Nat) (h : PH) (p0 : Nat) : Option (Unit × PH) := b_X10_forgets_0 F h p0
theorem mt_X10_forgets {l : Launch} {X : XT} {F : Nat} {h hz : PH} {p0 : Nat} {r : Unit} (ex : m_X10_forgets F h p0 = some (r, hz)) : MT l X yX10_forgets cX10_forgets 2 none 1 60 0 0 [.ref (X.1 + p0)] h none hz := MT.of (by decide) (Nat.le_of_ble_eq_true rfl) fun M hl hc hr he => by
  subst hl
  exact gg_sub [0] rfl (t_X10_forgets_0  hc hr he (Nat.zero_le _) (Nat.zero_le _) ex)
/-! FractionLiftModel.spot(JJ)I -/
def lX10_spotL : List (Nat × Instr × Nat × Nat) := [(0, .lload_n 0, 1, 1), (1, .ldc2_w 339, 3, 4), (4, .lmul, 1, 5), (5, .lload_n 2, 1, 6), (6, .ldc2_w 341, 3, 9), (9, .lmul, 1, 10), (10, .ladd, 1, 11), (11, .ldc2_w 343, 3, 14), (14, .lrem, 1, 15), (15, .l2i, 1, 16), (16, .ireturn, 1, 17)]
set_option maxRecDepth 20000 in
theorem dX10_spot : dcL cX10_spot lX10_spotL = true := by decide +kernel
def b_X10_spot_0 (v0 : Int64) (v2 : Int64) : Option Int32 := if (16381 : Int64) = 0 then none else (some ((Int64.toInt32 ((remL ((((v0 * (31 : Int64))) + ((v2 * (1009 : Int64))))) (16381 : Int64))))))
set_option maxRecDepth 20000 in
theorem t_X10_spot_0 {M : MV} {X : XT} {h : PH} {r : Int32} {ce sl mc ms : Nat} {v0 : Int64} {v2 : Int64} (hc : Cx M X RX10 cX10_spot) (hr : Rx M 1 60 mc ms 4) (he : Ex M X (some .int) "spot" (some (.int r)) h mc ms) (hm : ce ≤ mc) (hs : sl ≤ ms) (hf : b_X10_spot_0 v0 v2 = some r) : GG M X h ce sl 0 [(0, .long v0), (2, .long v2)] [] := by
  unfold b_X10_spot_0 at hf
  refine r_lload_n hc 0 (dc_at dX10_spot 0 rfl) rfl ?_
  refine r_ldc2 hc (dc_at dX10_spot 1 rfl) cl2_X10_339 ?_
  refine r_lmul hc (dc_at dX10_spot 2 rfl) ?_
  refine r_lload_n hc 1 (dc_at dX10_spot 3 rfl) rfl ?_
  refine r_ldc2 hc (dc_at dX10_spot 4 rfl) cl2_X10_341 ?_
  refine r_lmul hc (dc_at dX10_spot 5 rfl) ?_
  refine r_ladd hc (dc_at dX10_spot 6 rfl) ?_
  refine r_ldc2 hc (dc_at dX10_spot 7 rfl) cl2_X10_343 ?_
  refine r_lrem hc (dc_at dX10_spot 8 rfl) hf (fun hf => ?_)
  refine r_l2i hc (dc_at dX10_spot 9 rfl) ?_
  exact r_iretP hc he (hm) (hs) (dc_at dX10_spot 10 rfl) hf
def m_X10_spot (p0 : Int64) (p2 : Int64) : Option Int32 := b_X10_spot_0 p0 p2
theorem mt_X10_spot {l : Launch} {X : XT} {h : PH} {p0 : Int64} {p2 : Int64} {r : Int32} (ex : m_X10_spot p0 p2 = some r) : MT l X yX10_spot cX10_spot 4 (some .int) 1 60 0 0 [.long p0, .long p2] h (some (.int r)) h := MT.of (by decide) (Nat.le_of_ble_eq_true rfl) fun M hl hc hr he => by
  subst hl
  exact gg_sub [0, 1] rfl (t_X10_spot_0  hc hr he (Nat.zero_le _) (Nat.zero_le _) ex)
/-! FractionLiftModel.metAt(JJ)I -/
def lX10_metAtL : List (Nat × Instr × Nat × Nat) := [(0, .lload_n 1, 1, 1), (1, .lload_n 3, 1, 2), (2, .invokestatic 345, 3, 5), (5, .istore 5, 2, 7), (7, .aload_n 0, 1, 8), (8, .getfield 52, 3, 11), (11, .iload 5, 2, 13), (13, .iaload, 1, 14), (14, .iconst (-1), 1, 15), (15, .if_icmp .eq 68, 3, 18), (18, .aload_n 0, 1, 19), (19, .getfield 40, 3, 22), (22, .aload_n 0, 1, 23), (23, .getfield 52, 3, 26), (26, .iload 5, 2, 28), (28, .iaload, 1, 29), (29, .iaload, 1, 30), (30, .i2l, 1, 31), (31, .lload_n 1, 1, 32), (32, .lcmp, 1, 33), (33, .ifCond .ne 29, 3, 36), (36, .aload_n 0, 1, 37), (37, .getfield 43, 3, 40), (40, .aload_n 0, 1, 41), (41, .getfield 52, 3, 44), (44, .iload 5, 2, 46), (46, .iaload, 1, 47), (47, .iaload, 1, 48), (48, .i2l, 1, 49), (49, .lload_n 3, 1, 50), (50, .lcmp, 1, 51), (51, .ifCond .ne 11, 3, 54), (54, .aload_n 0, 1, 55), (55, .getfield 52, 3, 58), (58, .iload 5, 2, 60), (60, .iaload, 1, 61), (61, .ireturn, 1, 62), (62, .iload 5, 2, 64), (64, .sipush 16383, 3, 67), (67, .if_icmp .ne 7, 3, 70), (70, .iconst 0, 1, 71), (71, .goto 7, 3, 74), (74, .iload 5, 2, 76), (76, .iconst 1, 1, 77), (77, .iadd, 1, 78), (78, .istore 5, 2, 80), (80, .goto (-73), 3, 83), (83, .iconst (-1), 1, 84), (84, .ireturn, 1, 85)]
set_option maxRecDepth 20000 in
theorem dX10_metAt : dcL cX10_metAt lX10_metAtL = true := by decide +kernel
def b_X10_metAt_78 (F : Nat) (self4 : Nat → Int64 → Int64 → Int32 → Option Int32) (h : PH) (v0 : Nat) (v1 : Int64) (v3 : Int64) (s0 : Int32) : Option Int32 := self4 v0 v1 v3 s0
set_option maxRecDepth 20000 in
theorem t_X10_metAt_78 {M : MV} {X : XT} {F : Nat} {self4 : Nat → Int64 → Int64 → Int32 → Option Int32} {h : PH} {r : Int32} {ce sl mc ms : Nat} {v0 : Nat} {v1 : Int64} {v3 : Int64} {s0 : Int32} (hc : Cx M X RX10 cX10_metAt) (hr : Rx M 2 118 mc ms 6) (he : Ex M X (some .int) "metAt" (some (.int r)) h mc ms) (hm : ce ≤ mc) (hs : sl ≤ ms) (ih4 : ∀ (v0 : Nat) (v1 : Int64) (v3 : Int64) (v5 : Int32), self4 v0 v1 v3 v5 = some r → GG M X h ce sl 7 [(0, .ref (X.1 + v0)), (1, .long v1), (3, .long v3), (5, .int v5)] []) (hf : b_X10_metAt_78 F self4 h v0 v1 v3 s0 = some r) : GG M X h ce sl 78 [(0, .ref (X.1 + v0)), (1, .long v1), (3, .long v3)] [.int s0] := by
  unfold b_X10_metAt_78 at hf
  refine r_istore [(5, .int s0), (0, .ref (X.1 + v0)), (1, .long v1), (3, .long v3)] hc hr (dc_at dX10_metAt 45 rfl) (by decide) rfl ?_
  refine r_goto (tgt := 7) hc (dc_at dX10_metAt 46 rfl) (by decide) ?_
  exact gg_sub [1, 2, 3, 0] rfl (ih4 _ _ _ _ hf)
def b_X10_metAt_62 (F : Nat) (self4 : Nat → Int64 → Int64 → Int32 → Option Int32) (h : PH) (v0 : Nat) (v1 : Int64) (v3 : Int64) (v5 : Int32) : Option Int32 := if v5 = (16383 : Int32) then (b_X10_metAt_78 F self4 h v0 v1 v3 (0 : Int32)) else (b_X10_metAt_78 F self4 h v0 v1 v3 ((v5 + (1 : Int32))))
set_option maxRecDepth 20000 in
theorem t_X10_metAt_62 {M : MV} {X : XT} {F : Nat} {self4 : Nat → Int64 → Int64 → Int32 → Option Int32} {h : PH} {r : Int32} {ce sl mc ms : Nat} {v0 : Nat} {v1 : Int64} {v3 : Int64} {v5 : Int32} (hc : Cx M X RX10 cX10_metAt) (hr : Rx M 2 118 mc ms 6) (he : Ex M X (some .int) "metAt" (some (.int r)) h mc ms) (hm : ce ≤ mc) (hs : sl ≤ ms) (ih4 : ∀ (v0 : Nat) (v1 : Int64) (v3 : Int64) (v5 : Int32), self4 v0 v1 v3 v5 = some r → GG M X h ce sl 7 [(0, .ref (X.1 + v0)), (1, .long v1), (3, .long v3), (5, .int v5)] []) (hf : b_X10_metAt_62 F self4 h v0 v1 v3 v5 = some r) : GG M X h ce sl 62 [(0, .ref (X.1 + v0)), (1, .long v1), (3, .long v3), (5, .int v5)] [] := by
  unfold b_X10_metAt_62 at hf
  refine r_iload hc 3 (dc_at dX10_metAt 37 rfl) rfl ?_
  refine r_sipush (16383 : Int32) hc (dc_at dX10_metAt 38 rfl) (by decide) ?_
  refine r_icmp_ne (tgt := 74) hc (dc_at dX10_metAt 39 rfl) (by decide) hf (fun hf => ?_) (fun hf => ?_)
  · refine r_iload hc 3 (dc_at dX10_metAt 42 rfl) rfl ?_
    refine r_iconst (1 : Int32) hc (dc_at dX10_metAt 43 rfl) (by decide) ?_
    refine r_iadd hc (dc_at dX10_metAt 44 rfl) ?_
    exact gg_sub [0, 1, 2] rfl (t_X10_metAt_78 hc hr he hm hs ih4 hf)
  · refine r_iconst (0 : Int32) hc (dc_at dX10_metAt 40 rfl) (by decide) ?_
    refine r_goto (tgt := 78) hc (dc_at dX10_metAt 41 rfl) (by decide) ?_
    exact gg_sub [0, 1, 2] rfl (t_X10_metAt_78 hc hr he hm hs ih4 hf)
def b_X10_metAt_7 (F : Nat) (self4 : Nat → Int64 → Int64 → Int32 → Option Int32) (h : PH) (v0 : Nat) (v1 : Int64) (v3 : Int64) (v5 : Int32) : Option Int32 := (gR 10 28 h v0).bind fun a1 => ((aI 0 h a1 v5).bind fun x2 => (if x2 = (-1 : Int32) then (some (-1 : Int32)) else ((gR 10 24 h v0).bind fun a3 => ((gR 10 28 h v0).bind fun a4 => ((aI 0 h a4 v5).bind fun x5 => ((aI 0 h a3 x5).bind fun x6 => (if (Int32.toInt64 x6) = v1 then ((gR 10 25 h v0).bind fun a7 => ((gR 10 28 h v0).bind fun a8 => ((aI 0 h a8 v5).bind fun x9 => ((aI 0 h a7 x9).bind fun x10 => (if (Int32.toInt64 x10) = v3 then ((gR 10 28 h v0).bind fun a11 => ((aI 0 h a11 v5).bind fun x12 => (some x12))) else (b_X10_metAt_62 F self4 h v0 v1 v3 v5)))))) else (b_X10_metAt_62 F self4 h v0 v1 v3 v5))))))))
set_option maxRecDepth 20000 in
theorem tb_X10_metAt_7 {M : MV} {X : XT} {F : Nat} {self4 : Nat → Int64 → Int64 → Int32 → Option Int32} {h : PH} {r : Int32} {ce sl mc ms : Nat} {v0 : Nat} {v1 : Int64} {v3 : Int64} {v5 : Int32} (hc : Cx M X RX10 cX10_metAt) (hr : Rx M 2 118 mc ms 6) (he : Ex M X (some .int) "metAt" (some (.int r)) h mc ms) (hm : ce ≤ mc) (hs : sl ≤ ms) (ih4 : ∀ (v0 : Nat) (v1 : Int64) (v3 : Int64) (v5 : Int32), self4 v0 v1 v3 v5 = some r → GG M X h ce sl 7 [(0, .ref (X.1 + v0)), (1, .long v1), (3, .long v3), (5, .int v5)] []) (hf : b_X10_metAt_7 F self4 h v0 v1 v3 v5 = some r) : GG M X h ce sl 7 [(0, .ref (X.1 + v0)), (1, .long v1), (3, .long v3), (5, .int v5)] [] := by
  unfold b_X10_metAt_7 at hf
  refine r_aload_n hc 0 (dc_at dX10_metAt 4 rfl) rfl ?_
  refine r_getR hc (dc_at dX10_metAt 5 rfl) fl_X10_52 hf fun a1 hf => ?_
  refine r_iload hc 3 (dc_at dX10_metAt 6 rfl) rfl ?_
  refine r_iaload hc (dc_at dX10_metAt 7 rfl) hf fun x2 hf => ?_
  refine r_iconst (-1 : Int32) hc (dc_at dX10_metAt 8 rfl) (by decide) ?_
  refine r_icmp_eq (tgt := 83) hc (dc_at dX10_metAt 9 rfl) (by decide) hf (fun hf => ?_) (fun hf => ?_)
  · refine r_iconst (-1 : Int32) hc (dc_at dX10_metAt 47 rfl) (by decide) ?_
    exact r_iretP hc he (hm) (hs) (dc_at dX10_metAt 48 rfl) hf
  · refine r_aload_n hc 0 (dc_at dX10_metAt 10 rfl) rfl ?_
    refine r_getR hc (dc_at dX10_metAt 11 rfl) fl_X10_40 hf fun a3 hf => ?_
    refine r_aload_n hc 0 (dc_at dX10_metAt 12 rfl) rfl ?_
    refine r_getR hc (dc_at dX10_metAt 13 rfl) fl_X10_52 hf fun a4 hf => ?_
    refine r_iload hc 3 (dc_at dX10_metAt 14 rfl) rfl ?_
    refine r_iaload hc (dc_at dX10_metAt 15 rfl) hf fun x5 hf => ?_
    refine r_iaload hc (dc_at dX10_metAt 16 rfl) hf fun x6 hf => ?_
    refine r_i2l hc (dc_at dX10_metAt 17 rfl) ?_
    refine r_lload_n hc 1 (dc_at dX10_metAt 18 rfl) rfl ?_
    refine r_lcmp_ne (tgt := 62) hc (dc_at dX10_metAt 19 rfl) (dc_at dX10_metAt 20 rfl) (by decide) hf (fun hf => ?_) (fun hf => ?_)
    · exact gg_sub [0, 1, 2, 3] rfl (t_X10_metAt_62 hc hr he hm hs ih4 hf)
    · refine r_aload_n hc 0 (dc_at dX10_metAt 21 rfl) rfl ?_
      refine r_getR hc (dc_at dX10_metAt 22 rfl) fl_X10_43 hf fun a7 hf => ?_
      refine r_aload_n hc 0 (dc_at dX10_metAt 23 rfl) rfl ?_
      refine r_getR hc (dc_at dX10_metAt 24 rfl) fl_X10_52 hf fun a8 hf => ?_
      refine r_iload hc 3 (dc_at dX10_metAt 25 rfl) rfl ?_
      refine r_iaload hc (dc_at dX10_metAt 26 rfl) hf fun x9 hf => ?_
      refine r_iaload hc (dc_at dX10_metAt 27 rfl) hf fun x10 hf => ?_
      refine r_i2l hc (dc_at dX10_metAt 28 rfl) ?_
      refine r_lload_n hc 2 (dc_at dX10_metAt 29 rfl) rfl ?_
      refine r_lcmp_ne (tgt := 62) hc (dc_at dX10_metAt 30 rfl) (dc_at dX10_metAt 31 rfl) (by decide) hf (fun hf => ?_) (fun hf => ?_)
      · exact gg_sub [0, 1, 2, 3] rfl (t_X10_metAt_62 hc hr he hm hs ih4 hf)
      · refine r_aload_n hc 0 (dc_at dX10_metAt 32 rfl) rfl ?_
        refine r_getR hc (dc_at dX10_metAt 33 rfl) fl_X10_52 hf fun a11 hf => ?_
        refine r_iload hc 3 (dc_at dX10_metAt 34 rfl) rfl ?_
        refine r_iaload hc (dc_at dX10_metAt 35 rfl) hf fun x12 hf => ?_
        exact r_iretP hc he (hm) (hs) (dc_at dX10_metAt 36 rfl) hf
def l_X10_metAt_7 (F : Nat) (h : PH) : Nat → Nat → Int64 → Int64 → Int32 → Option Int32
  | 0 => fun _ _ _ _ => none
  | n + 1 => fun v0 v1 v3 v5 => b_X10_metAt_7 F (l_X10_metAt_7 F h n) h v0 v1 v3 v5
theorem tl_X10_metAt_7 {M : MV} {X : XT} {F : Nat} {h : PH} {r : Int32} {ce sl mc ms : Nat} (hc : Cx M X RX10 cX10_metAt) (hr : Rx M 2 118 mc ms 6) (he : Ex M X (some .int) "metAt" (some (.int r)) h mc ms) (hm : ce ≤ mc) (hs : sl ≤ ms) (n : Nat) : ∀ (v0 : Nat) (v1 : Int64) (v3 : Int64) (v5 : Int32), l_X10_metAt_7 F h n v0 v1 v3 v5 = some r → GG M X h ce sl 7 [(0, .ref (X.1 + v0)), (1, .long v1), (3, .long v3), (5, .int v5)] [] := by
  induction n with
  | zero => intro v0 v1 v3 v5 hf; cases hf
  | succ n ih => intro v0 v1 v3 v5 hf; exact tb_X10_metAt_7 (F := F) hc hr he hm hs  ih hf
def b_X10_metAt_0 (F : Nat) (h : PH) (v0 : Nat) (v1 : Int64) (v3 : Int64) : Option Int32 := (m_X10_spot v1 v3).bind fun x1 => (l_X10_metAt_7 F h F v0 v1 v3 x1)
set_option maxRecDepth 20000 in
theorem t_X10_metAt_0 {M : MV} {X : XT} {F : Nat} {h : PH} {r : Int32} {ce sl mc ms : Nat} {v0 : Nat} {v1 : Int64} {v3 : Int64} (hc : Cx M X RX10 cX10_metAt) (hr : Rx M 2 118 mc ms 6) (he : Ex M X (some .int) "metAt" (some (.int r)) h mc ms) (hm : ce ≤ mc) (hs : sl ≤ ms) (hf : b_X10_metAt_0 F h v0 v1 v3 = some r) : GG M X h ce sl 0 [(0, .ref (X.1 + v0)), (1, .long v1), (3, .long v3)] [] := by
  unfold b_X10_metAt_0 at hf
  refine r_lload_n hc 1 (dc_at dX10_metAt 0 rfl) rfl ?_
  refine r_lload_n hc 2 (dc_at dX10_metAt 1 rfl) rfl ?_
  refine ob hf fun x1 ex hf => ?_
  refine r_callSi (As := [.long v1, .long v3]) hc hr (dc_at dX10_metAt 2 rfl) ml_X10_345 mv_X10_spot st_X10_spot rfl (mt_X10_spot ex) (by first | exact Nat.le_of_ble_eq_true rfl | omega) (by first | exact Nat.le_of_ble_eq_true rfl | omega) (by first | exact Nat.le_of_ble_eq_true rfl | omega) hm hs ?_
  refine r_istore [(5, .int x1), (0, .ref (X.1 + v0)), (1, .long v1), (3, .long v3)] hc hr (dc_at dX10_metAt 3 rfl) (by decide) rfl ?_
  exact gg_sub [1, 2, 3, 0] rfl (tl_X10_metAt_7 hc hr he hm hs  F _ _ _ _ hf)
def m_X10_metAt (F : Nat) (h : PH) (p0 : Nat) (p1 : Int64) (p3 : Int64) : Option Int32 := b_X10_metAt_0 F h p0 p1 p3
theorem mt_X10_metAt {l : Launch} {X : XT} {F : Nat} {h : PH} {p0 : Nat} {p1 : Int64} {p3 : Int64} {r : Int32} (ex : m_X10_metAt F h p0 p1 p3 = some r) : MT l X yX10_metAt cX10_metAt 6 (some .int) 2 118 0 0 [.ref (X.1 + p0), .long p1, .long p3] h (some (.int r)) h := MT.of (by decide) (Nat.le_of_ble_eq_true rfl) fun M hl hc hr he => by
  subst hl
  exact gg_sub [0, 1, 2] rfl (t_X10_metAt_0  hc hr he (Nat.zero_le _) (Nat.zero_le _) ex)
/-! FractionLiftModel.meets(JJII)V -/
def lX10_meetsL : List (Nat × Instr × Nat × Nat) := [(0, .lload_n 1, 1, 1), (1, .lload_n 3, 1, 2), (2, .invokestatic 345, 3, 5), (5, .istore 7, 2, 7), (7, .aload_n 0, 1, 8), (8, .getfield 52, 3, 11), (11, .iload 7, 2, 13), (13, .iaload, 1, 14), (14, .iconst (-1), 1, 15), (15, .if_icmp .eq 24, 3, 18), (18, .iload 7, 2, 20), (20, .sipush 16383, 3, 23), (23, .if_icmp .ne 7, 3, 26), (26, .iconst 0, 1, 27), (27, .goto 7, 3, 30), (30, .iload 7, 2, 32), (32, .iconst 1, 1, 33), (33, .iadd, 1, 34), (34, .istore 7, 2, 36), (36, .goto (-29), 3, 39), (39, .aload_n 0, 1, 40), (40, .getfield 52, 3, 43), (43, .iload 7, 2, 45), (45, .aload_n 0, 1, 46), (46, .getfield 336, 3, 49), (49, .iastore, 1, 50), (50, .aload_n 0, 1, 51), (51, .getfield 40, 3, 54), (54, .aload_n 0, 1, 55), (55, .getfield 336, 3, 58), (58, .lload_n 1, 1, 59), (59, .l2i, 1, 60), (60, .iastore, 1, 61), (61, .aload_n 0, 1, 62), (62, .getfield 43, 3, 65), (65, .aload_n 0, 1, 66), (66, .getfield 336, 3, 69), (69, .lload_n 3, 1, 70), (70, .l2i, 1, 71), (71, .iastore, 1, 72), (72, .aload_n 0, 1, 73), (73, .getfield 46, 3, 76), (76, .aload_n 0, 1, 77), (77, .getfield 336, 3, 80), (80, .iload 5, 2, 82), (82, .iastore, 1, 83), (83, .aload_n 0, 1, 84), (84, .getfield 49, 3, 87), (87, .aload_n 0, 1, 88), (88, .getfield 336, 3, 91), (91, .iload 6, 2, 93), (93, .iastore, 1, 94), (94, .aload_n 0, 1, 95), (95, .dup, 1, 96), (96, .getfield 336, 3, 99), (99, .iconst 1, 1, 100), (100, .iadd, 1, 101), (101, .putfield 336, 3, 104), (104, .return_, 1, 105)]
set_option maxRecDepth 20000 in
theorem dX10_meets : dcL cX10_meets lX10_meetsL = true := by decide +kernel
def b_X10_meets_34 (F : Nat) (self4 : PH → Nat → Int64 → Int64 → Int32 → Int32 → Int32 → Option (Unit × PH)) (h : PH) (v0 : Nat) (v1 : Int64) (v3 : Int64) (v5 : Int32) (v6 : Int32) (s0 : Int32) : Option (Unit × PH) := self4 h v0 v1 v3 v5 v6 s0
set_option maxRecDepth 20000 in
theorem t_X10_meets_34 {M : MV} {X : XT} {F : Nat} {self4 : PH → Nat → Int64 → Int64 → Int32 → Int32 → Int32 → Option (Unit × PH)} {h hz : PH} {r : Unit} {ce sl mc ms : Nat} {v0 : Nat} {v1 : Int64} {v3 : Int64} {v5 : Int32} {v6 : Int32} {s0 : Int32} (hc : Cx M X RX10 cX10_meets) (hr : Rx M 2 118 mc ms 8) (he : Ex M X none "meets" none hz mc ms) (hm : ce ≤ mc) (hs : sl ≤ ms) (ih4 : ∀ (h : PH) (v0 : Nat) (v1 : Int64) (v3 : Int64) (v5 : Int32) (v6 : Int32) (v7 : Int32), self4 h v0 v1 v3 v5 v6 v7 = some (r, hz) → GG M X h ce sl 7 [(0, .ref (X.1 + v0)), (1, .long v1), (3, .long v3), (5, .int v5), (6, .int v6), (7, .int v7)] []) (hf : b_X10_meets_34 F self4 h v0 v1 v3 v5 v6 s0 = some (r, hz)) : GG M X h ce sl 34 [(0, .ref (X.1 + v0)), (1, .long v1), (3, .long v3), (5, .int v5), (6, .int v6)] [.int s0] := by
  unfold b_X10_meets_34 at hf
  refine r_istore [(7, .int s0), (0, .ref (X.1 + v0)), (1, .long v1), (3, .long v3), (5, .int v5), (6, .int v6)] hc hr (dc_at dX10_meets 18 rfl) (by decide) rfl ?_
  refine r_goto (tgt := 7) hc (dc_at dX10_meets 19 rfl) (by decide) ?_
  exact gg_sub [1, 2, 3, 4, 5, 0] rfl (ih4 _ _ _ _ _ _ _ hf)
def b_X10_meets_7 (F : Nat) (self4 : PH → Nat → Int64 → Int64 → Int32 → Int32 → Int32 → Option (Unit × PH)) (h : PH) (v0 : Nat) (v1 : Int64) (v3 : Int64) (v5 : Int32) (v6 : Int32) (v7 : Int32) : Option (Unit × PH) := (gR 10 28 h v0).bind fun a1 => ((aI 0 h a1 v7).bind fun x2 => (if x2 = (-1 : Int32) then ((gR 10 28 h v0).bind fun a3 => ((gI 10 29 h v0).bind fun x4 => ((sI 0 h a3 v7 x4).bind fun h5 => ((gR 10 24 h5 v0).bind fun a6 => ((gI 10 29 h5 v0).bind fun x7 => ((sI 0 h5 a6 x7 (Int64.toInt32 v1)).bind fun h8 => ((gR 10 25 h8 v0).bind fun a9 => ((gI 10 29 h8 v0).bind fun x10 => ((sI 0 h8 a9 x10 (Int64.toInt32 v3)).bind fun h11 => ((gR 10 26 h11 v0).bind fun a12 => ((gI 10 29 h11 v0).bind fun x13 => ((sI 0 h11 a12 x13 v5).bind fun h14 => ((gR 10 27 h14 v0).bind fun a15 => ((gI 10 29 h14 v0).bind fun x16 => ((sI 0 h14 a15 x16 v6).bind fun h17 => ((gI 10 29 h17 v0).bind fun x18 => ((pV 10 29 (.int ((x18 + (1 : Int32)))) h17 v0).bind fun h19 => (some ((), h19))))))))))))))))))) else (if v7 = (16383 : Int32) then (b_X10_meets_34 F self4 h v0 v1 v3 v5 v6 (0 : Int32)) else (b_X10_meets_34 F self4 h v0 v1 v3 v5 v6 ((v7 + (1 : Int32)))))))
set_option maxRecDepth 20000 in
theorem tb_X10_meets_7 {M : MV} {X : XT} {F : Nat} {self4 : PH → Nat → Int64 → Int64 → Int32 → Int32 → Int32 → Option (Unit × PH)} {h hz : PH} {r : Unit} {ce sl mc ms : Nat} {v0 : Nat} {v1 : Int64} {v3 : Int64} {v5 : Int32} {v6 : Int32} {v7 : Int32} (hc : Cx M X RX10 cX10_meets) (hr : Rx M 2 118 mc ms 8) (he : Ex M X none "meets" none hz mc ms) (hm : ce ≤ mc) (hs : sl ≤ ms) (ih4 : ∀ (h : PH) (v0 : Nat) (v1 : Int64) (v3 : Int64) (v5 : Int32) (v6 : Int32) (v7 : Int32), self4 h v0 v1 v3 v5 v6 v7 = some (r, hz) → GG M X h ce sl 7 [(0, .ref (X.1 + v0)), (1, .long v1), (3, .long v3), (5, .int v5), (6, .int v6), (7, .int v7)] []) (hf : b_X10_meets_7 F self4 h v0 v1 v3 v5 v6 v7 = some (r, hz)) : GG M X h ce sl 7 [(0, .ref (X.1 + v0)), (1, .long v1), (3, .long v3), (5, .int v5), (6, .int v6), (7, .int v7)] [] := by
  unfold b_X10_meets_7 at hf
  refine r_aload_n hc 0 (dc_at dX10_meets 4 rfl) rfl ?_
  refine r_getR hc (dc_at dX10_meets 5 rfl) fl_X10_52 hf fun a1 hf => ?_
  refine r_iload hc 5 (dc_at dX10_meets 6 rfl) rfl ?_
  refine r_iaload hc (dc_at dX10_meets 7 rfl) hf fun x2 hf => ?_
  refine r_iconst (-1 : Int32) hc (dc_at dX10_meets 8 rfl) (by decide) ?_
  refine r_icmp_eq (tgt := 39) hc (dc_at dX10_meets 9 rfl) (by decide) hf (fun hf => ?_) (fun hf => ?_)
  · refine r_aload_n hc 0 (dc_at dX10_meets 20 rfl) rfl ?_
    refine r_getR hc (dc_at dX10_meets 21 rfl) fl_X10_52 hf fun a3 hf => ?_
    refine r_iload hc 5 (dc_at dX10_meets 22 rfl) rfl ?_
    refine r_aload_n hc 0 (dc_at dX10_meets 23 rfl) rfl ?_
    refine r_getI hc (dc_at dX10_meets 24 rfl) fl_X10_336 hf fun x4 hf => ?_
    refine r_iastore hc (dc_at dX10_meets 25 rfl) hf fun h5 hf => ?_
    refine r_aload_n hc 0 (dc_at dX10_meets 26 rfl) rfl ?_
    refine r_getR hc (dc_at dX10_meets 27 rfl) fl_X10_40 hf fun a6 hf => ?_
    refine r_aload_n hc 0 (dc_at dX10_meets 28 rfl) rfl ?_
    refine r_getI hc (dc_at dX10_meets 29 rfl) fl_X10_336 hf fun x7 hf => ?_
    refine r_lload_n hc 1 (dc_at dX10_meets 30 rfl) rfl ?_
    refine r_l2i hc (dc_at dX10_meets 31 rfl) ?_
    refine r_iastore hc (dc_at dX10_meets 32 rfl) hf fun h8 hf => ?_
    refine r_aload_n hc 0 (dc_at dX10_meets 33 rfl) rfl ?_
    refine r_getR hc (dc_at dX10_meets 34 rfl) fl_X10_43 hf fun a9 hf => ?_
    refine r_aload_n hc 0 (dc_at dX10_meets 35 rfl) rfl ?_
    refine r_getI hc (dc_at dX10_meets 36 rfl) fl_X10_336 hf fun x10 hf => ?_
    refine r_lload_n hc 2 (dc_at dX10_meets 37 rfl) rfl ?_
    refine r_l2i hc (dc_at dX10_meets 38 rfl) ?_
    refine r_iastore hc (dc_at dX10_meets 39 rfl) hf fun h11 hf => ?_
    refine r_aload_n hc 0 (dc_at dX10_meets 40 rfl) rfl ?_
    refine r_getR hc (dc_at dX10_meets 41 rfl) fl_X10_46 hf fun a12 hf => ?_
    refine r_aload_n hc 0 (dc_at dX10_meets 42 rfl) rfl ?_
    refine r_getI hc (dc_at dX10_meets 43 rfl) fl_X10_336 hf fun x13 hf => ?_
    refine r_iload hc 3 (dc_at dX10_meets 44 rfl) rfl ?_
    refine r_iastore hc (dc_at dX10_meets 45 rfl) hf fun h14 hf => ?_
    refine r_aload_n hc 0 (dc_at dX10_meets 46 rfl) rfl ?_
    refine r_getR hc (dc_at dX10_meets 47 rfl) fl_X10_49 hf fun a15 hf => ?_
    refine r_aload_n hc 0 (dc_at dX10_meets 48 rfl) rfl ?_
    refine r_getI hc (dc_at dX10_meets 49 rfl) fl_X10_336 hf fun x16 hf => ?_
    refine r_iload hc 4 (dc_at dX10_meets 50 rfl) rfl ?_
    refine r_iastore hc (dc_at dX10_meets 51 rfl) hf fun h17 hf => ?_
    refine r_aload_n hc 0 (dc_at dX10_meets 52 rfl) rfl ?_
    refine r_dup hc (dc_at dX10_meets 53 rfl) rfl ?_
    refine r_getI hc (dc_at dX10_meets 54 rfl) fl_X10_336 hf fun x18 hf => ?_
    refine r_iconst (1 : Int32) hc (dc_at dX10_meets 55 rfl) (by decide) ?_
    refine r_iadd hc (dc_at dX10_meets 56 rfl) ?_
    refine r_putI hc he (dc_at dX10_meets 57 rfl) fp_X10_336 (fun q => by cases q) hf fun h19 hf => ?_
    exact r_vret hc he (hm) (hs) (dc_at dX10_meets 58 rfl) hf
  · refine r_iload hc 5 (dc_at dX10_meets 10 rfl) rfl ?_
    refine r_sipush (16383 : Int32) hc (dc_at dX10_meets 11 rfl) (by decide) ?_
    refine r_icmp_ne (tgt := 30) hc (dc_at dX10_meets 12 rfl) (by decide) hf (fun hf => ?_) (fun hf => ?_)
    · refine r_iload hc 5 (dc_at dX10_meets 15 rfl) rfl ?_
      refine r_iconst (1 : Int32) hc (dc_at dX10_meets 16 rfl) (by decide) ?_
      refine r_iadd hc (dc_at dX10_meets 17 rfl) ?_
      exact gg_sub [0, 1, 2, 3, 4] rfl (t_X10_meets_34 hc hr he hm hs ih4 hf)
    · refine r_iconst (0 : Int32) hc (dc_at dX10_meets 13 rfl) (by decide) ?_
      refine r_goto (tgt := 34) hc (dc_at dX10_meets 14 rfl) (by decide) ?_
      exact gg_sub [0, 1, 2, 3, 4] rfl (t_X10_meets_34 hc hr he hm hs ih4 hf)
def l_X10_meets_7 (F : Nat) : Nat → PH → Nat → Int64 → Int64 → Int32 → Int32 → Int32 → Option (Unit × PH)
  | 0 => fun _ _ _ _ _ _ _ => none
  | n + 1 => fun h v0 v1 v3 v5 v6 v7 => b_X10_meets_7 F (l_X10_meets_7 F n) h v0 v1 v3 v5 v6 v7
theorem tl_X10_meets_7 {M : MV} {X : XT} {F : Nat} {hz : PH} {r : Unit} {ce sl mc ms : Nat} (hc : Cx M X RX10 cX10_meets) (hr : Rx M 2 118 mc ms 8) (he : Ex M X none "meets" none hz mc ms) (hm : ce ≤ mc) (hs : sl ≤ ms) (n : Nat) : ∀ (h : PH) (v0 : Nat) (v1 : Int64) (v3 : Int64) (v5 : Int32) (v6 : Int32) (v7 : Int32), l_X10_meets_7 F n h v0 v1 v3 v5 v6 v7 = some (r, hz) → GG M X h ce sl 7 [(0, .ref (X.1 + v0)), (1, .long v1), (3, .long v3), (5, .int v5), (6, .int v6), (7, .int v7)] [] := by
  induction n with
  | zero => intro h v0 v1 v3 v5 v6 v7 hf; cases hf
  | succ n ih => intro h v0 v1 v3 v5 v6 v7 hf; exact tb_X10_meets_7 (F := F) hc hr he hm hs  ih hf
def b_X10_meets_0 (F : Nat) (h : PH) (v0 : Nat) (v1 : Int64) (v3 : Int64) (v5 : Int32) (v6 : Int32) : Option (Unit × PH) := (m_X10_spot v1 v3).bind fun x1 => (l_X10_meets_7 F F h v0 v1 v3 v5 v6 x1)
set_option maxRecDepth 20000 in
theorem t_X10_meets_0 {M : MV} {X : XT} {F : Nat} {h hz : PH} {r : Unit} {ce sl mc ms : Nat} {v0 : Nat} {v1 : Int64} {v3 : Int64} {v5 : Int32} {v6 : Int32} (hc : Cx M X RX10 cX10_meets) (hr : Rx M 2 118 mc ms 8) (he : Ex M X none "meets" none hz mc ms) (hm : ce ≤ mc) (hs : sl ≤ ms) (hf : b_X10_meets_0 F h v0 v1 v3 v5 v6 = some (r, hz)) : GG M X h ce sl 0 [(0, .ref (X.1 + v0)), (1, .long v1), (3, .long v3), (5, .int v5), (6, .int v6)] [] := by
  unfold b_X10_meets_0 at hf
  refine r_lload_n hc 1 (dc_at dX10_meets 0 rfl) rfl ?_
  refine r_lload_n hc 2 (dc_at dX10_meets 1 rfl) rfl ?_
  refine ob hf fun x1 ex hf => ?_
  refine r_callSi (As := [.long v1, .long v3]) hc hr (dc_at dX10_meets 2 rfl) ml_X10_345 mv_X10_spot st_X10_spot rfl (mt_X10_spot ex) (by first | exact Nat.le_of_ble_eq_true rfl | omega) (by first | exact Nat.le_of_ble_eq_true rfl | omega) (by first | exact Nat.le_of_ble_eq_true rfl | omega) hm hs ?_
  refine r_istore [(7, .int x1), (0, .ref (X.1 + v0)), (1, .long v1), (3, .long v3), (5, .int v5), (6, .int v6)] hc hr (dc_at dX10_meets 3 rfl) (by decide) rfl ?_
  exact gg_sub [1, 2, 3, 4, 5, 0] rfl (tl_X10_meets_7 hc hr he hm hs  F _ _ _ _ _ _ _ hf)
def m_X10_meets (F : Nat) (h : PH) (p0 : Nat) (p1 : Int64) (p3 : Int64) (p5 : Int32) (p6 : Int32) : Option (Unit × PH) := b_X10_meets_0 F h p0 p1 p3 p5 p6
theorem mt_X10_meets {l : Launch} {X : XT} {F : Nat} {h hz : PH} {p0 : Nat} {p1 : Int64} {p3 : Int64} {p5 : Int32} {p6 : Int32} {r : Unit} (ex : m_X10_meets F h p0 p1 p3 p5 p6 = some (r, hz)) : MT l X yX10_meets cX10_meets 8 none 2 118 0 0 [.ref (X.1 + p0), .long p1, .long p3, .int p5, .int p6] h none hz := MT.of (by decide) (Nat.le_of_ble_eq_true rfl) fun M hl hc hr he => by
  subst hl
  exact gg_sub [0, 1, 2, 3, 4] rfl (t_X10_meets_0  hc hr he (Nat.zero_le _) (Nat.zero_le _) ex)
/-! FractionLiftModel.seeks(JJ)I -/
def lX10_seeksL : List (Nat × Instr × Nat × Nat) := [(0, .aload_n 0, 1, 1), (1, .invokevirtual 348, 3, 4), (4, .aload_n 0, 1, 5), (5, .aload_n 0, 1, 6), (6, .getfield 13, 3, 9), (9, .bipush 7, 2, 11), (11, .iaload, 1, 12), (12, .i2l, 1, 13), (13, .aload_n 0, 1, 14), (14, .getfield 13, 3, 17), (17, .bipush 8, 2, 19), (19, .iaload, 1, 20), (20, .i2l, 1, 21), (21, .iconst (-1), 1, 22), (22, .iconst (-1), 1, 23), (23, .invokevirtual 351, 3, 26), (26, .aload_n 0, 1, 27), (27, .lload_n 1, 1, 28), (28, .lload_n 3, 1, 29), (29, .invokevirtual 355, 3, 32), (32, .iconst (-1), 1, 33), (33, .if_icmp .eq 5, 3, 36), (36, .iconst 0, 1, 37), (37, .ireturn, 1, 38), (38, .iconst 0, 1, 39), (39, .istore 5, 2, 41), (41, .iconst 1, 1, 42), (42, .istore 6, 2, 44), (44, .iload 6, 2, 46), (46, .bipush 8, 2, 48), (48, .if_icmp .gt 227, 3, 51), (51, .aload_n 0, 1, 52), (52, .getfield 336, 3, 55), (55, .istore 7, 2, 57), (57, .iload 5, 2, 59), (59, .istore 8, 2, 61), (61, .iload 8, 2, 63), (63, .iload 7, 2, 65), (65, .if_icmp .ge 175, 3, 68), (68, .iconst 0, 1, 69), (69, .istore 9, 2, 71), (71, .iload 9, 2, 73), (73, .aload_n 0, 1, 74), (74, .getfield 13, 3, 77), (77, .iconst 2, 1, 78), (78, .iaload, 1, 79), (79, .if_icmp .ge 155, 3, 82), (82, .aload_n 0, 1, 83), (83, .iload 9, 2, 85), (85, .aload_n 0, 1, 86), (86, .getfield 40, 3, 89), (89, .iload 8, 2, 91), (91, .iaload, 1, 92), (92, .i2l, 1, 93), (93, .aload_n 0, 1, 94), (94, .getfield 43, 3, 97), (97, .iload 8, 2, 99), (99, .iaload, 1, 100), (100, .i2l, 1, 101), (101, .invokevirtual 275, 3, 104), (104, .ifCond .eq 6, 3, 107), (107, .goto 121, 3, 110), (110, .aload_n 0, 1, 111), (111, .getfield 180, 3, 114), (114, .lload_n 1, 1, 115), (115, .lcmp, 1, 116), (116, .ifCond .ne 70, 3, 119), (119, .aload_n 0, 1, 120), (120, .getfield 184, 3, 123), (123, .lload_n 3, 1, 124), (124, .lcmp, 1, 125), (125, .ifCond .ne 61, 3, 128), (128, .aload_n 0, 1, 129), (129, .getfield 55, 3, 132), (132, .iload 6, 2, 134), (134, .iconst 1, 1, 135), (135, .isub, 1, 136), (136, .iload 9, 2, 138), (138, .iastore, 1, 139), (139, .iload 6, 2, 141), (141, .iconst 2, 1, 142), (142, .isub, 1, 143), (143, .istore 10, 2, 145), (145, .iload 8, 2, 147), (147, .istore 11, 2, 149), (149, .iload 10, 2, 151), (151, .ifCond .lt 32, 3, 154), (154, .aload_n 0, 1, 155), (155, .getfield 55, 3, 158), (158, .iload 10, 2, 160), (160, .aload_n 0, 1, 161), (161, .getfield 49, 3, 164), (164, .iload 11, 2, 166), (166, .iaload, 1, 167), (167, .iastore, 1, 168), (168, .iinc 10 (-1), 3, 171), (171, .aload_n 0, 1, 172), (172, .getfield 46, 3, 175), (175, .iload 11, 2, 177), (177, .iaload, 1, 178), (178, .istore 11, 2, 180), (180, .goto (-31), 3, 183), (183, .iload 6, 2, 185), (185, .ireturn, 1, 186), (186, .aload_n 0, 1, 187), (187, .getfield 336, 3, 190), (190, .sipush 2000, 3, 193), (193, .if_icmp .gt 35, 3, 196), (196, .aload_n 0, 1, 197), (197, .aload_n 0, 1, 198), (198, .getfield 180, 3, 201), (201, .aload_n 0, 1, 202), (202, .getfield 184, 3, 205), (205, .invokevirtual 355, 3, 208), (208, .iconst (-1), 1, 209), (209, .if_icmp .ne 19, 3, 212), (212, .aload_n 0, 1, 213), (213, .aload_n 0, 1, 214), (214, .getfield 180, 3, 217), (217, .aload_n 0, 1, 218), (218, .getfield 184, 3, 221), (221, .iload 8, 2, 223), (223, .iload 9, 2, 225), (225, .invokevirtual 351, 3, 228), (228, .iinc 9 1, 3, 231), (231, .goto (-160), 3, 234), (234, .iinc 8 1, 3, 237), (237, .goto (-176), 3, 240), (240, .aload_n 0, 1, 241), (241, .getfield 336, 3, 244), (244, .sipush 2000, 3, 247), (247, .if_icmp .le 7, 3, 250), (250, .sipush (-1000), 3, 253), (253, .ireturn, 1, 254), (254, .aload_n 0, 1, 255), (255, .getfield 336, 3, 258), (258, .iload 7, 2, 260), (260, .if_icmp .ne 5, 3, 263), (263, .iconst (-1), 1, 264), (264, .ireturn, 1, 265), (265, .iload 7, 2, 267), (267, .istore 5, 2, 269), (269, .iinc 6 1, 3, 272), (272, .goto (-228), 3, 275), (275, .iconst (-1), 1, 276), (276, .ireturn, 1, 277)]
set_option maxRecDepth 20000 in
theorem dX10_seeks : dcL cX10_seeks lX10_seeksL = true := by decide +kernel
def b_X10_seeks_228 (F : Nat) (self28 : PH → Nat → Int64 → Int64 → Int32 → Int32 → Option (Int32 × PH)) (self36 : PH → Nat → Int64 → Int64 → Int32 → Int32 → Int32 → Option (Int32 × PH)) (self41 : PH → Nat → Int64 → Int64 → Int32 → Int32 → Int32 → Int32 → Option (Int32 × PH)) (h : PH) (v0 : Nat) (v1 : Int64) (v3 : Int64) (v6 : Int32) (v7 : Int32) (v8 : Int32) (v9 : Int32) : Option (Int32 × PH) := bindv (v9 + (1)) fun x1 => (self41 h v0 v1 v3 v6 v7 v8 x1)
set_option maxRecDepth 20000 in
theorem t_X10_seeks_228 {M : MV} {X : XT} {F : Nat} {self28 : PH → Nat → Int64 → Int64 → Int32 → Int32 → Option (Int32 × PH)} {self36 : PH → Nat → Int64 → Int64 → Int32 → Int32 → Int32 → Option (Int32 × PH)} {self41 : PH → Nat → Int64 → Int64 → Int32 → Int32 → Int32 → Int32 → Option (Int32 × PH)} {h hz : PH} {r : Int32} {ce sl mc ms : Nat} {v0 : Nat} {v1 : Int64} {v3 : Int64} {v6 : Int32} {v7 : Int32} {v8 : Int32} {v9 : Int32} (hc : Cx M X RX10 cX10_seeks) (hr : Rx M 136 7890 mc ms 12) (he : Ex M X (some .int) "seeks" (some (.int r)) hz mc ms) (hm : ce ≤ mc) (hs : sl ≤ ms) (ih28 : ∀ (h : PH) (v0 : Nat) (v1 : Int64) (v3 : Int64) (v5 : Int32) (v6 : Int32), self28 h v0 v1 v3 v5 v6 = some (r, hz) → GG M X h ce sl 44 [(0, .ref (X.1 + v0)), (1, .long v1), (3, .long v3), (5, .int v5), (6, .int v6)] []) (ih36 : ∀ (h : PH) (v0 : Nat) (v1 : Int64) (v3 : Int64) (v6 : Int32) (v7 : Int32) (v8 : Int32), self36 h v0 v1 v3 v6 v7 v8 = some (r, hz) → GG M X h ce sl 61 [(0, .ref (X.1 + v0)), (1, .long v1), (3, .long v3), (6, .int v6), (7, .int v7), (8, .int v8)] []) (ih41 : ∀ (h : PH) (v0 : Nat) (v1 : Int64) (v3 : Int64) (v6 : Int32) (v7 : Int32) (v8 : Int32) (v9 : Int32), self41 h v0 v1 v3 v6 v7 v8 v9 = some (r, hz) → GG M X h ce sl 71 [(0, .ref (X.1 + v0)), (1, .long v1), (3, .long v3), (6, .int v6), (7, .int v7), (8, .int v8), (9, .int v9)] []) (hf : b_X10_seeks_228 F self28 self36 self41 h v0 v1 v3 v6 v7 v8 v9 = some (r, hz)) : GG M X h ce sl 228 [(0, .ref (X.1 + v0)), (1, .long v1), (3, .long v3), (6, .int v6), (7, .int v7), (8, .int v8), (9, .int v9)] [] := by
  unfold b_X10_seeks_228 at hf
  refine obv hf fun x1 e_x1 hf => ?_
  refine r_iinc 6 [(9, .int x1), (0, .ref (X.1 + v0)), (1, .long v1), (3, .long v3), (6, .int v6), (7, .int v7), (8, .int v8)] hc hr (dc_at dX10_seeks 124 rfl) rfl (by rw [e_x1]; rfl) (by decide) rfl ?_
  refine r_goto (tgt := 71) hc (dc_at dX10_seeks 125 rfl) (by decide) ?_
  exact gg_sub [1, 2, 3, 4, 5, 6, 0] rfl (ih41 _ _ _ _ _ _ _ _ hf)
def b_X10_seeks_186 (F : Nat) (self28 : PH → Nat → Int64 → Int64 → Int32 → Int32 → Option (Int32 × PH)) (self36 : PH → Nat → Int64 → Int64 → Int32 → Int32 → Int32 → Option (Int32 × PH)) (self41 : PH → Nat → Int64 → Int64 → Int32 → Int32 → Int32 → Int32 → Option (Int32 × PH)) (h : PH) (v0 : Nat) (v1 : Int64) (v3 : Int64) (v6 : Int32) (v7 : Int32) (v8 : Int32) (v9 : Int32) : Option (Int32 × PH) := (gI 10 29 h v0).bind fun x1 => (if (2000 : Int32) < x1 then (b_X10_seeks_228 F self28 self36 self41 h v0 v1 v3 v6 v7 v8 v9) else ((gL 10 15 h v0).bind fun x2 => ((gL 10 16 h v0).bind fun x3 => (cO 10 h v0 ((m_X10_metAt F h v0 x2 x3).bind fun x4 => (if x4 = (-1 : Int32) then ((gL 10 15 h v0).bind fun x5 => ((gL 10 16 h v0).bind fun x6 => (cO 10 h v0 (bind2 (m_X10_meets F h v0 x5 x6 v8 v9) fun _ h8 => (b_X10_seeks_228 F self28 self36 self41 h8 v0 v1 v3 v6 v7 v8 v9))))) else (b_X10_seeks_228 F self28 self36 self41 h v0 v1 v3 v6 v7 v8 v9)))))))
set_option maxRecDepth 20000 in
theorem t_X10_seeks_186 {M : MV} {X : XT} {F : Nat} {self28 : PH → Nat → Int64 → Int64 → Int32 → Int32 → Option (Int32 × PH)} {self36 : PH → Nat → Int64 → Int64 → Int32 → Int32 → Int32 → Option (Int32 × PH)} {self41 : PH → Nat → Int64 → Int64 → Int32 → Int32 → Int32 → Int32 → Option (Int32 × PH)} {h hz : PH} {r : Int32} {ce sl mc ms : Nat} {v0 : Nat} {v1 : Int64} {v3 : Int64} {v6 : Int32} {v7 : Int32} {v8 : Int32} {v9 : Int32} (hc : Cx M X RX10 cX10_seeks) (hr : Rx M 136 7890 mc ms 12) (he : Ex M X (some .int) "seeks" (some (.int r)) hz mc ms) (hm : ce ≤ mc) (hs : sl ≤ ms) (ih28 : ∀ (h : PH) (v0 : Nat) (v1 : Int64) (v3 : Int64) (v5 : Int32) (v6 : Int32), self28 h v0 v1 v3 v5 v6 = some (r, hz) → GG M X h ce sl 44 [(0, .ref (X.1 + v0)), (1, .long v1), (3, .long v3), (5, .int v5), (6, .int v6)] []) (ih36 : ∀ (h : PH) (v0 : Nat) (v1 : Int64) (v3 : Int64) (v6 : Int32) (v7 : Int32) (v8 : Int32), self36 h v0 v1 v3 v6 v7 v8 = some (r, hz) → GG M X h ce sl 61 [(0, .ref (X.1 + v0)), (1, .long v1), (3, .long v3), (6, .int v6), (7, .int v7), (8, .int v8)] []) (ih41 : ∀ (h : PH) (v0 : Nat) (v1 : Int64) (v3 : Int64) (v6 : Int32) (v7 : Int32) (v8 : Int32) (v9 : Int32), self41 h v0 v1 v3 v6 v7 v8 v9 = some (r, hz) → GG M X h ce sl 71 [(0, .ref (X.1 + v0)), (1, .long v1), (3, .long v3), (6, .int v6), (7, .int v7), (8, .int v8), (9, .int v9)] []) (hf : b_X10_seeks_186 F self28 self36 self41 h v0 v1 v3 v6 v7 v8 v9 = some (r, hz)) : GG M X h ce sl 186 [(0, .ref (X.1 + v0)), (1, .long v1), (3, .long v3), (6, .int v6), (7, .int v7), (8, .int v8), (9, .int v9)] [] := by
  unfold b_X10_seeks_186 at hf
  refine r_aload_n hc 0 (dc_at dX10_seeks 104 rfl) rfl ?_
  refine r_getI hc (dc_at dX10_seeks 105 rfl) fl_X10_336 hf fun x1 hf => ?_
  refine r_sipush (2000 : Int32) hc (dc_at dX10_seeks 106 rfl) (by decide) ?_
  refine r_icmp_gt (tgt := 228) hc (dc_at dX10_seeks 107 rfl) (by decide) hf (fun hf => ?_) (fun hf => ?_)
  · exact gg_sub [0, 1, 2, 3, 4, 5, 6] rfl (t_X10_seeks_228 hc hr he hm hs ih28 ih36 ih41 hf)
  · refine r_aload_n hc 0 (dc_at dX10_seeks 108 rfl) rfl ?_
    refine r_aload_n hc 0 (dc_at dX10_seeks 109 rfl) rfl ?_
    refine r_getL hc (dc_at dX10_seeks 110 rfl) fl_X10_180 hf fun x2 hf => ?_
    refine r_aload_n hc 0 (dc_at dX10_seeks 111 rfl) rfl ?_
    refine r_getL hc (dc_at dX10_seeks 112 rfl) fl_X10_184 hf fun x3 hf => ?_
    obtain ⟨ho, hf⟩ := cO_some hf
    refine ob hf fun x4 ex hf => ?_
    refine r_callVi (As := [.long x2, .long x3]) (ci := 10) hc hr (dc_at dX10_seeks 113 rfl) ml_X10_355 mv_X10_metAt vi_X10_metAt rfl ho rfl (mt_X10_metAt ex) (by first | exact Nat.le_of_ble_eq_true rfl | omega) (by first | exact Nat.le_of_ble_eq_true rfl | omega) (by first | exact Nat.le_of_ble_eq_true rfl | omega) hm hs ?_
    refine r_iconst (-1 : Int32) hc (dc_at dX10_seeks 114 rfl) (by decide) ?_
    refine r_icmp_ne (tgt := 228) hc (dc_at dX10_seeks 115 rfl) (by decide) hf (fun hf => ?_) (fun hf => ?_)
    · exact gg_sub [0, 1, 2, 3, 4, 5, 6] rfl (t_X10_seeks_228 hc hr he hm hs ih28 ih36 ih41 hf)
    · refine r_aload_n hc 0 (dc_at dX10_seeks 116 rfl) rfl ?_
      refine r_aload_n hc 0 (dc_at dX10_seeks 117 rfl) rfl ?_
      refine r_getL hc (dc_at dX10_seeks 118 rfl) fl_X10_180 hf fun x5 hf => ?_
      refine r_aload_n hc 0 (dc_at dX10_seeks 119 rfl) rfl ?_
      refine r_getL hc (dc_at dX10_seeks 120 rfl) fl_X10_184 hf fun x6 hf => ?_
      refine r_iload hc 5 (dc_at dX10_seeks 121 rfl) rfl ?_
      refine r_iload hc 6 (dc_at dX10_seeks 122 rfl) rfl ?_
      obtain ⟨ho, hf⟩ := cO_some hf
      refine ob2 hf fun u h8 ex hf => ?_
      refine r_callVv (As := [.long x5, .long x6, .int v8, .int v9]) (ci := 10) hc hr (dc_at dX10_seeks 123 rfl) ml_X10_351 mv_X10_meets vi_X10_meets rfl ho rfl (mt_X10_meets ex) (by first | exact Nat.le_of_ble_eq_true rfl | omega) (by first | exact Nat.le_of_ble_eq_true rfl | omega) (by first | exact Nat.le_of_ble_eq_true rfl | omega) hm hs ?_
      exact gg_sub [0, 1, 2, 3, 4, 5, 6] rfl (t_X10_seeks_228 hc hr he hm hs ih28 ih36 ih41 hf)
def b_X10_seeks_149 (F : Nat) (self85 : PH → Nat → Int32 → Int32 → Int32 → Option (Int32 × PH)) (h : PH) (v0 : Nat) (v6 : Int32) (v10 : Int32) (v11 : Int32) : Option (Int32 × PH) := if v10 < 0 then (some (v6, h)) else ((gR 10 30 h v0).bind fun a1 => ((gR 10 27 h v0).bind fun a2 => ((aI 0 h a2 v11).bind fun x3 => ((sI 0 h a1 v10 x3).bind fun h4 => (bindv (v10 + (-1)) fun x5 => ((gR 10 26 h4 v0).bind fun a6 => ((aI 0 h4 a6 v11).bind fun x7 => (self85 h4 v0 v6 x5 x7))))))))
set_option maxRecDepth 20000 in
theorem tb_X10_seeks_149 {M : MV} {X : XT} {F : Nat} {self85 : PH → Nat → Int32 → Int32 → Int32 → Option (Int32 × PH)} {h hz : PH} {r : Int32} {ce sl mc ms : Nat} {v0 : Nat} {v6 : Int32} {v10 : Int32} {v11 : Int32} (hc : Cx M X RX10 cX10_seeks) (hr : Rx M 136 7890 mc ms 12) (he : Ex M X (some .int) "seeks" (some (.int r)) hz mc ms) (hm : ce ≤ mc) (hs : sl ≤ ms) (ih85 : ∀ (h : PH) (v0 : Nat) (v6 : Int32) (v10 : Int32) (v11 : Int32), self85 h v0 v6 v10 v11 = some (r, hz) → GG M X h ce sl 149 [(0, .ref (X.1 + v0)), (6, .int v6), (10, .int v10), (11, .int v11)] []) (hf : b_X10_seeks_149 F self85 h v0 v6 v10 v11 = some (r, hz)) : GG M X h ce sl 149 [(0, .ref (X.1 + v0)), (6, .int v6), (10, .int v10), (11, .int v11)] [] := by
  unfold b_X10_seeks_149 at hf
  refine r_iload hc 2 (dc_at dX10_seeks 85 rfl) rfl ?_
  refine r_if_lt (tgt := 183) hc (dc_at dX10_seeks 86 rfl) (by decide) hf (fun hf => ?_) (fun hf => ?_)
  · refine r_iload hc 1 (dc_at dX10_seeks 102 rfl) rfl ?_
    exact r_iret hc he (hm) (hs) (dc_at dX10_seeks 103 rfl) hf
  · refine r_aload_n hc 0 (dc_at dX10_seeks 87 rfl) rfl ?_
    refine r_getR hc (dc_at dX10_seeks 88 rfl) fl_X10_55 hf fun a1 hf => ?_
    refine r_iload hc 2 (dc_at dX10_seeks 89 rfl) rfl ?_
    refine r_aload_n hc 0 (dc_at dX10_seeks 90 rfl) rfl ?_
    refine r_getR hc (dc_at dX10_seeks 91 rfl) fl_X10_49 hf fun a2 hf => ?_
    refine r_iload hc 3 (dc_at dX10_seeks 92 rfl) rfl ?_
    refine r_iaload hc (dc_at dX10_seeks 93 rfl) hf fun x3 hf => ?_
    refine r_iastore hc (dc_at dX10_seeks 94 rfl) hf fun h4 hf => ?_
    refine obv hf fun x5 e_x5 hf => ?_
    refine r_iinc 2 [(10, .int x5), (0, .ref (X.1 + v0)), (6, .int v6), (11, .int v11)] hc hr (dc_at dX10_seeks 95 rfl) rfl (by rw [e_x5]; rfl) (by decide) rfl ?_
    refine r_aload_n hc 1 (dc_at dX10_seeks 96 rfl) rfl ?_
    refine r_getR hc (dc_at dX10_seeks 97 rfl) fl_X10_46 hf fun a6 hf => ?_
    refine r_iload hc 3 (dc_at dX10_seeks 98 rfl) rfl ?_
    refine r_iaload hc (dc_at dX10_seeks 99 rfl) hf fun x7 hf => ?_
    refine r_istore [(11, .int x7), (10, .int x5), (0, .ref (X.1 + v0)), (6, .int v6)] hc hr (dc_at dX10_seeks 100 rfl) (by decide) rfl ?_
    refine r_goto (tgt := 149) hc (dc_at dX10_seeks 101 rfl) (by decide) ?_
    exact gg_sub [2, 3, 1, 0] rfl (ih85 _ _ _ _ _ hf)
def l_X10_seeks_149 (F : Nat) : Nat → PH → Nat → Int32 → Int32 → Int32 → Option (Int32 × PH)
  | 0 => fun _ _ _ _ _ => none
  | n + 1 => fun h v0 v6 v10 v11 => b_X10_seeks_149 F (l_X10_seeks_149 F n) h v0 v6 v10 v11
theorem tl_X10_seeks_149 {M : MV} {X : XT} {F : Nat} {hz : PH} {r : Int32} {ce sl mc ms : Nat} (hc : Cx M X RX10 cX10_seeks) (hr : Rx M 136 7890 mc ms 12) (he : Ex M X (some .int) "seeks" (some (.int r)) hz mc ms) (hm : ce ≤ mc) (hs : sl ≤ ms) (n : Nat) : ∀ (h : PH) (v0 : Nat) (v6 : Int32) (v10 : Int32) (v11 : Int32), l_X10_seeks_149 F n h v0 v6 v10 v11 = some (r, hz) → GG M X h ce sl 149 [(0, .ref (X.1 + v0)), (6, .int v6), (10, .int v10), (11, .int v11)] [] := by
  induction n with
  | zero => intro h v0 v6 v10 v11 hf; cases hf
  | succ n ih => intro h v0 v6 v10 v11 hf; exact tb_X10_seeks_149 (F := F) hc hr he hm hs  ih hf
def b_X10_seeks_71 (F : Nat) (self28 : PH → Nat → Int64 → Int64 → Int32 → Int32 → Option (Int32 × PH)) (self36 : PH → Nat → Int64 → Int64 → Int32 → Int32 → Int32 → Option (Int32 × PH)) (self41 : PH → Nat → Int64 → Int64 → Int32 → Int32 → Int32 → Int32 → Option (Int32 × PH)) (h : PH) (v0 : Nat) (v1 : Int64) (v3 : Int64) (v6 : Int32) (v7 : Int32) (v8 : Int32) (v9 : Int32) : Option (Int32 × PH) := (gR 10 1 h v0).bind fun a1 => ((aI 0 h a1 (2 : Int32)).bind fun x2 => (if x2 ≤ v9 then (bindv (v8 + (1)) fun x3 => (self36 h v0 v1 v3 v6 v7 x3)) else ((gR 10 24 h v0).bind fun a4 => ((aI 0 h a4 v8).bind fun x5 => ((gR 10 25 h v0).bind fun a6 => ((aI 0 h a6 v8).bind fun x7 => (cO 10 h v0 (bind2 (m_X10_leadsFrom F h v0 v9 (Int32.toInt64 x5) (Int32.toInt64 x7)) fun x8 h9 => (if x8 = 0 then ((gL 10 15 h9 v0).bind fun x10 => (if x10 = v1 then ((gL 10 16 h9 v0).bind fun x11 => (if x11 = v3 then ((gR 10 30 h9 v0).bind fun a12 => ((sI 0 h9 a12 ((v6 - (1 : Int32))) v9).bind fun h13 => (bindv ((v6 - (2 : Int32))) fun x14 => (l_X10_seeks_149 F F h13 v0 v6 x14 v8)))) else (b_X10_seeks_186 F self28 self36 self41 h9 v0 v1 v3 v6 v7 v8 v9))) else (b_X10_seeks_186 F self28 self36 self41 h9 v0 v1 v3 v6 v7 v8 v9))) else (b_X10_seeks_228 F self28 self36 self41 h9 v0 v1 v3 v6 v7 v8 v9))))))))))
set_option maxRecDepth 20000 in
theorem tb_X10_seeks_71 {M : MV} {X : XT} {F : Nat} {self28 : PH → Nat → Int64 → Int64 → Int32 → Int32 → Option (Int32 × PH)} {self36 : PH → Nat → Int64 → Int64 → Int32 → Int32 → Int32 → Option (Int32 × PH)} {self41 : PH → Nat → Int64 → Int64 → Int32 → Int32 → Int32 → Int32 → Option (Int32 × PH)} {h hz : PH} {r : Int32} {ce sl mc ms : Nat} {v0 : Nat} {v1 : Int64} {v3 : Int64} {v6 : Int32} {v7 : Int32} {v8 : Int32} {v9 : Int32} (hc : Cx M X RX10 cX10_seeks) (hr : Rx M 136 7890 mc ms 12) (he : Ex M X (some .int) "seeks" (some (.int r)) hz mc ms) (hm : ce ≤ mc) (hs : sl ≤ ms) (ih28 : ∀ (h : PH) (v0 : Nat) (v1 : Int64) (v3 : Int64) (v5 : Int32) (v6 : Int32), self28 h v0 v1 v3 v5 v6 = some (r, hz) → GG M X h ce sl 44 [(0, .ref (X.1 + v0)), (1, .long v1), (3, .long v3), (5, .int v5), (6, .int v6)] []) (ih36 : ∀ (h : PH) (v0 : Nat) (v1 : Int64) (v3 : Int64) (v6 : Int32) (v7 : Int32) (v8 : Int32), self36 h v0 v1 v3 v6 v7 v8 = some (r, hz) → GG M X h ce sl 61 [(0, .ref (X.1 + v0)), (1, .long v1), (3, .long v3), (6, .int v6), (7, .int v7), (8, .int v8)] []) (ih41 : ∀ (h : PH) (v0 : Nat) (v1 : Int64) (v3 : Int64) (v6 : Int32) (v7 : Int32) (v8 : Int32) (v9 : Int32), self41 h v0 v1 v3 v6 v7 v8 v9 = some (r, hz) → GG M X h ce sl 71 [(0, .ref (X.1 + v0)), (1, .long v1), (3, .long v3), (6, .int v6), (7, .int v7), (8, .int v8), (9, .int v9)] []) (hf : b_X10_seeks_71 F self28 self36 self41 h v0 v1 v3 v6 v7 v8 v9 = some (r, hz)) : GG M X h ce sl 71 [(0, .ref (X.1 + v0)), (1, .long v1), (3, .long v3), (6, .int v6), (7, .int v7), (8, .int v8), (9, .int v9)] [] := by
  unfold b_X10_seeks_71 at hf
  refine r_iload hc 6 (dc_at dX10_seeks 41 rfl) rfl ?_
  refine r_aload_n hc 0 (dc_at dX10_seeks 42 rfl) rfl ?_
  refine r_getR hc (dc_at dX10_seeks 43 rfl) fl_X10_13 hf fun a1 hf => ?_
  refine r_iconst (2 : Int32) hc (dc_at dX10_seeks 44 rfl) (by decide) ?_
  refine r_iaload hc (dc_at dX10_seeks 45 rfl) hf fun x2 hf => ?_
  refine r_icmp_ge (tgt := 234) hc (dc_at dX10_seeks 46 rfl) (by decide) hf (fun hf => ?_) (fun hf => ?_)
  · refine obv hf fun x3 e_x3 hf => ?_
    refine r_iinc 5 [(8, .int x3), (0, .ref (X.1 + v0)), (1, .long v1), (3, .long v3), (6, .int v6), (7, .int v7), (9, .int v9)] hc hr (dc_at dX10_seeks 126 rfl) rfl (by rw [e_x3]; rfl) (by decide) rfl ?_
    refine r_goto (tgt := 61) hc (dc_at dX10_seeks 127 rfl) (by decide) ?_
    exact gg_sub [1, 2, 3, 4, 5, 0] rfl (ih36 _ _ _ _ _ _ _ hf)
  · refine r_aload_n hc 0 (dc_at dX10_seeks 47 rfl) rfl ?_
    refine r_iload hc 6 (dc_at dX10_seeks 48 rfl) rfl ?_
    refine r_aload_n hc 0 (dc_at dX10_seeks 49 rfl) rfl ?_
    refine r_getR hc (dc_at dX10_seeks 50 rfl) fl_X10_40 hf fun a4 hf => ?_
    refine r_iload hc 5 (dc_at dX10_seeks 51 rfl) rfl ?_
    refine r_iaload hc (dc_at dX10_seeks 52 rfl) hf fun x5 hf => ?_
    refine r_i2l hc (dc_at dX10_seeks 53 rfl) ?_
    refine r_aload_n hc 0 (dc_at dX10_seeks 54 rfl) rfl ?_
    refine r_getR hc (dc_at dX10_seeks 55 rfl) fl_X10_43 hf fun a6 hf => ?_
    refine r_iload hc 5 (dc_at dX10_seeks 56 rfl) rfl ?_
    refine r_iaload hc (dc_at dX10_seeks 57 rfl) hf fun x7 hf => ?_
    refine r_i2l hc (dc_at dX10_seeks 58 rfl) ?_
    obtain ⟨ho, hf⟩ := cO_some hf
    refine ob2 hf fun x8 h9 ex hf => ?_
    refine r_callVi (As := [.int v9, .long ((Int32.toInt64 x5)), .long ((Int32.toInt64 x7))]) (ci := 10) hc hr (dc_at dX10_seeks 59 rfl) ml_X10_275 mv_X10_leadsFrom vi_X10_leadsFrom rfl ho rfl (mt_X10_leadsFrom ex) (by first | exact Nat.le_of_ble_eq_true rfl | omega) (by first | exact Nat.le_of_ble_eq_true rfl | omega) (by first | exact Nat.le_of_ble_eq_true rfl | omega) hm hs ?_
    refine r_if_eq (tgt := 110) hc (dc_at dX10_seeks 60 rfl) (by decide) hf (fun hf => ?_) (fun hf => ?_)
    · refine r_aload_n hc 0 (dc_at dX10_seeks 62 rfl) rfl ?_
      refine r_getL hc (dc_at dX10_seeks 63 rfl) fl_X10_180 hf fun x10 hf => ?_
      refine r_lload_n hc 1 (dc_at dX10_seeks 64 rfl) rfl ?_
      refine r_lcmp_ne (tgt := 186) hc (dc_at dX10_seeks 65 rfl) (dc_at dX10_seeks 66 rfl) (by decide) hf (fun hf => ?_) (fun hf => ?_)
      · exact gg_sub [0, 1, 2, 3, 4, 5, 6] rfl (t_X10_seeks_186 hc hr he hm hs ih28 ih36 ih41 hf)
      · refine r_aload_n hc 0 (dc_at dX10_seeks 67 rfl) rfl ?_
        refine r_getL hc (dc_at dX10_seeks 68 rfl) fl_X10_184 hf fun x11 hf => ?_
        refine r_lload_n hc 2 (dc_at dX10_seeks 69 rfl) rfl ?_
        refine r_lcmp_ne (tgt := 186) hc (dc_at dX10_seeks 70 rfl) (dc_at dX10_seeks 71 rfl) (by decide) hf (fun hf => ?_) (fun hf => ?_)
        · exact gg_sub [0, 1, 2, 3, 4, 5, 6] rfl (t_X10_seeks_186 hc hr he hm hs ih28 ih36 ih41 hf)
        · refine r_aload_n hc 0 (dc_at dX10_seeks 72 rfl) rfl ?_
          refine r_getR hc (dc_at dX10_seeks 73 rfl) fl_X10_55 hf fun a12 hf => ?_
          refine r_iload hc 3 (dc_at dX10_seeks 74 rfl) rfl ?_
          refine r_iconst (1 : Int32) hc (dc_at dX10_seeks 75 rfl) (by decide) ?_
          refine r_isub hc (dc_at dX10_seeks 76 rfl) ?_
          refine r_iload hc 6 (dc_at dX10_seeks 77 rfl) rfl ?_
          refine r_iastore hc (dc_at dX10_seeks 78 rfl) hf fun h13 hf => ?_
          refine r_iload hc 3 (dc_at dX10_seeks 79 rfl) rfl ?_
          refine r_iconst (2 : Int32) hc (dc_at dX10_seeks 80 rfl) (by decide) ?_
          refine r_isub hc (dc_at dX10_seeks 81 rfl) ?_
          refine r_nm (mk := Value.int) hf fun x14 hf => ?_
          refine r_istore [(10, .int x14), (0, .ref (X.1 + v0)), (1, .long v1), (3, .long v3), (6, .int v6), (7, .int v7), (8, .int v8), (9, .int v9)] hc hr (dc_at dX10_seeks 82 rfl) (by decide) rfl ?_
          refine r_iload hc 6 (dc_at dX10_seeks 83 rfl) rfl ?_
          refine r_istore [(11, .int v8), (10, .int x14), (0, .ref (X.1 + v0)), (1, .long v1), (3, .long v3), (6, .int v6), (7, .int v7), (8, .int v8), (9, .int v9)] hc hr (dc_at dX10_seeks 84 rfl) (by decide) rfl ?_
          exact gg_sub [2, 5, 1, 0] rfl (tl_X10_seeks_149 hc hr he hm hs  F _ _ _ _ _ hf)
    · refine r_goto (tgt := 228) hc (dc_at dX10_seeks 61 rfl) (by decide) ?_
      exact gg_sub [0, 1, 2, 3, 4, 5, 6] rfl (t_X10_seeks_228 hc hr he hm hs ih28 ih36 ih41 hf)
def l_X10_seeks_71 (F : Nat) (self28 : PH → Nat → Int64 → Int64 → Int32 → Int32 → Option (Int32 × PH)) (self36 : PH → Nat → Int64 → Int64 → Int32 → Int32 → Int32 → Option (Int32 × PH)) : Nat → PH → Nat → Int64 → Int64 → Int32 → Int32 → Int32 → Int32 → Option (Int32 × PH)
  | 0 => fun _ _ _ _ _ _ _ _ => none
  | n + 1 => fun h v0 v1 v3 v6 v7 v8 v9 => b_X10_seeks_71 F self28 self36 (l_X10_seeks_71 F self28 self36 n) h v0 v1 v3 v6 v7 v8 v9
theorem tl_X10_seeks_71 {M : MV} {X : XT} {F : Nat} {self28 : PH → Nat → Int64 → Int64 → Int32 → Int32 → Option (Int32 × PH)} {self36 : PH → Nat → Int64 → Int64 → Int32 → Int32 → Int32 → Option (Int32 × PH)} {hz : PH} {r : Int32} {ce sl mc ms : Nat} (hc : Cx M X RX10 cX10_seeks) (hr : Rx M 136 7890 mc ms 12) (he : Ex M X (some .int) "seeks" (some (.int r)) hz mc ms) (hm : ce ≤ mc) (hs : sl ≤ ms) (ih28 : ∀ (h : PH) (v0 : Nat) (v1 : Int64) (v3 : Int64) (v5 : Int32) (v6 : Int32), self28 h v0 v1 v3 v5 v6 = some (r, hz) → GG M X h ce sl 44 [(0, .ref (X.1 + v0)), (1, .long v1), (3, .long v3), (5, .int v5), (6, .int v6)] []) (ih36 : ∀ (h : PH) (v0 : Nat) (v1 : Int64) (v3 : Int64) (v6 : Int32) (v7 : Int32) (v8 : Int32), self36 h v0 v1 v3 v6 v7 v8 = some (r, hz) → GG M X h ce sl 61 [(0, .ref (X.1 + v0)), (1, .long v1), (3, .long v3), (6, .int v6), (7, .int v7), (8, .int v8)] []) (n : Nat) : ∀ (h : PH) (v0 : Nat) (v1 : Int64) (v3 : Int64) (v6 : Int32) (v7 : Int32) (v8 : Int32) (v9 : Int32), l_X10_seeks_71 F self28 self36 n h v0 v1 v3 v6 v7 v8 v9 = some (r, hz) → GG M X h ce sl 71 [(0, .ref (X.1 + v0)), (1, .long v1), (3, .long v3), (6, .int v6), (7, .int v7), (8, .int v8), (9, .int v9)] [] := by
  induction n with
  | zero => intro h v0 v1 v3 v6 v7 v8 v9 hf; cases hf
  | succ n ih => intro h v0 v1 v3 v6 v7 v8 v9 hf; exact tb_X10_seeks_71 (F := F) hc hr he hm hs ih28 ih36 ih hf
def b_X10_seeks_61 (F : Nat) (self28 : PH → Nat → Int64 → Int64 → Int32 → Int32 → Option (Int32 × PH)) (self36 : PH → Nat → Int64 → Int64 → Int32 → Int32 → Int32 → Option (Int32 × PH)) (h : PH) (v0 : Nat) (v1 : Int64) (v3 : Int64) (v6 : Int32) (v7 : Int32) (v8 : Int32) : Option (Int32 × PH) := if v7 ≤ v8 then ((gI 10 29 h v0).bind fun x1 => (if x1 ≤ (2000 : Int32) then ((gI 10 29 h v0).bind fun x2 => (if x2 = v7 then (some ((-1 : Int32), h)) else (bindv (v6 + (1)) fun x3 => (self28 h v0 v1 v3 v7 x3)))) else (some ((-1000 : Int32), h)))) else (l_X10_seeks_71 F self28 self36 F h v0 v1 v3 v6 v7 v8 (0 : Int32))
set_option maxRecDepth 20000 in
theorem tb_X10_seeks_61 {M : MV} {X : XT} {F : Nat} {self28 : PH → Nat → Int64 → Int64 → Int32 → Int32 → Option (Int32 × PH)} {self36 : PH → Nat → Int64 → Int64 → Int32 → Int32 → Int32 → Option (Int32 × PH)} {h hz : PH} {r : Int32} {ce sl mc ms : Nat} {v0 : Nat} {v1 : Int64} {v3 : Int64} {v6 : Int32} {v7 : Int32} {v8 : Int32} (hc : Cx M X RX10 cX10_seeks) (hr : Rx M 136 7890 mc ms 12) (he : Ex M X (some .int) "seeks" (some (.int r)) hz mc ms) (hm : ce ≤ mc) (hs : sl ≤ ms) (ih28 : ∀ (h : PH) (v0 : Nat) (v1 : Int64) (v3 : Int64) (v5 : Int32) (v6 : Int32), self28 h v0 v1 v3 v5 v6 = some (r, hz) → GG M X h ce sl 44 [(0, .ref (X.1 + v0)), (1, .long v1), (3, .long v3), (5, .int v5), (6, .int v6)] []) (ih36 : ∀ (h : PH) (v0 : Nat) (v1 : Int64) (v3 : Int64) (v6 : Int32) (v7 : Int32) (v8 : Int32), self36 h v0 v1 v3 v6 v7 v8 = some (r, hz) → GG M X h ce sl 61 [(0, .ref (X.1 + v0)), (1, .long v1), (3, .long v3), (6, .int v6), (7, .int v7), (8, .int v8)] []) (hf : b_X10_seeks_61 F self28 self36 h v0 v1 v3 v6 v7 v8 = some (r, hz)) : GG M X h ce sl 61 [(0, .ref (X.1 + v0)), (1, .long v1), (3, .long v3), (6, .int v6), (7, .int v7), (8, .int v8)] [] := by
  unfold b_X10_seeks_61 at hf
  refine r_iload hc 5 (dc_at dX10_seeks 36 rfl) rfl ?_
  refine r_iload hc 4 (dc_at dX10_seeks 37 rfl) rfl ?_
  refine r_icmp_ge (tgt := 240) hc (dc_at dX10_seeks 38 rfl) (by decide) hf (fun hf => ?_) (fun hf => ?_)
  · refine r_aload_n hc 0 (dc_at dX10_seeks 128 rfl) rfl ?_
    refine r_getI hc (dc_at dX10_seeks 129 rfl) fl_X10_336 hf fun x1 hf => ?_
    refine r_sipush (2000 : Int32) hc (dc_at dX10_seeks 130 rfl) (by decide) ?_
    refine r_icmp_le (tgt := 254) hc (dc_at dX10_seeks 131 rfl) (by decide) hf (fun hf => ?_) (fun hf => ?_)
    · refine r_aload_n hc 0 (dc_at dX10_seeks 134 rfl) rfl ?_
      refine r_getI hc (dc_at dX10_seeks 135 rfl) fl_X10_336 hf fun x2 hf => ?_
      refine r_iload hc 4 (dc_at dX10_seeks 136 rfl) rfl ?_
      refine r_icmp_ne (tgt := 265) hc (dc_at dX10_seeks 137 rfl) (by decide) hf (fun hf => ?_) (fun hf => ?_)
      · refine r_iload hc 4 (dc_at dX10_seeks 140 rfl) rfl ?_
        refine r_istore [(5, .int v7), (0, .ref (X.1 + v0)), (1, .long v1), (3, .long v3), (6, .int v6), (7, .int v7), (8, .int v8)] hc hr (dc_at dX10_seeks 141 rfl) (by decide) rfl ?_
        refine obv hf fun x3 e_x3 hf => ?_
        refine r_iinc 4 [(6, .int x3), (5, .int v7), (0, .ref (X.1 + v0)), (1, .long v1), (3, .long v3), (7, .int v7), (8, .int v8)] hc hr (dc_at dX10_seeks 142 rfl) rfl (by rw [e_x3]; rfl) (by decide) rfl ?_
        refine r_goto (tgt := 44) hc (dc_at dX10_seeks 143 rfl) (by decide) ?_
        exact gg_sub [2, 3, 4, 1, 0] rfl (ih28 _ _ _ _ _ _ hf)
      · refine r_iconst (-1 : Int32) hc (dc_at dX10_seeks 138 rfl) (by decide) ?_
        exact r_iret hc he (hm) (hs) (dc_at dX10_seeks 139 rfl) hf
    · refine r_sipush (-1000 : Int32) hc (dc_at dX10_seeks 132 rfl) (by decide) ?_
      exact r_iret hc he (hm) (hs) (dc_at dX10_seeks 133 rfl) hf
  · refine r_iconst (0 : Int32) hc (dc_at dX10_seeks 39 rfl) (by decide) ?_
    refine r_istore [(9, .int ((0 : Int32))), (0, .ref (X.1 + v0)), (1, .long v1), (3, .long v3), (6, .int v6), (7, .int v7), (8, .int v8)] hc hr (dc_at dX10_seeks 40 rfl) (by decide) rfl ?_
    exact gg_sub [1, 2, 3, 4, 5, 6, 0] rfl (tl_X10_seeks_71 hc hr he hm hs ih28 ih36 F _ _ _ _ _ _ _ _ hf)
def l_X10_seeks_61 (F : Nat) (self28 : PH → Nat → Int64 → Int64 → Int32 → Int32 → Option (Int32 × PH)) : Nat → PH → Nat → Int64 → Int64 → Int32 → Int32 → Int32 → Option (Int32 × PH)
  | 0 => fun _ _ _ _ _ _ _ => none
  | n + 1 => fun h v0 v1 v3 v6 v7 v8 => b_X10_seeks_61 F self28 (l_X10_seeks_61 F self28 n) h v0 v1 v3 v6 v7 v8
theorem tl_X10_seeks_61 {M : MV} {X : XT} {F : Nat} {self28 : PH → Nat → Int64 → Int64 → Int32 → Int32 → Option (Int32 × PH)} {hz : PH} {r : Int32} {ce sl mc ms : Nat} (hc : Cx M X RX10 cX10_seeks) (hr : Rx M 136 7890 mc ms 12) (he : Ex M X (some .int) "seeks" (some (.int r)) hz mc ms) (hm : ce ≤ mc) (hs : sl ≤ ms) (ih28 : ∀ (h : PH) (v0 : Nat) (v1 : Int64) (v3 : Int64) (v5 : Int32) (v6 : Int32), self28 h v0 v1 v3 v5 v6 = some (r, hz) → GG M X h ce sl 44 [(0, .ref (X.1 + v0)), (1, .long v1), (3, .long v3), (5, .int v5), (6, .int v6)] []) (n : Nat) : ∀ (h : PH) (v0 : Nat) (v1 : Int64) (v3 : Int64) (v6 : Int32) (v7 : Int32) (v8 : Int32), l_X10_seeks_61 F self28 n h v0 v1 v3 v6 v7 v8 = some (r, hz) → GG M X h ce sl 61 [(0, .ref (X.1 + v0)), (1, .long v1), (3, .long v3), (6, .int v6), (7, .int v7), (8, .int v8)] [] := by
  induction n with
  | zero => intro h v0 v1 v3 v6 v7 v8 hf; cases hf
  | succ n ih => intro h v0 v1 v3 v6 v7 v8 hf; exact tb_X10_seeks_61 (F := F) hc hr he hm hs ih28 ih hf
def b_X10_seeks_44 (F : Nat) (self28 : PH → Nat → Int64 → Int64 → Int32 → Int32 → Option (Int32 × PH)) (h : PH) (v0 : Nat) (v1 : Int64) (v3 : Int64) (v5 : Int32) (v6 : Int32) : Option (Int32 × PH) := if (8 : Int32) < v6 then (some ((-1 : Int32), h)) else ((gI 10 29 h v0).bind fun x1 => (l_X10_seeks_61 F self28 F h v0 v1 v3 v6 x1 v5))
set_option maxRecDepth 20000 in
theorem tb_X10_seeks_44 {M : MV} {X : XT} {F : Nat} {self28 : PH → Nat → Int64 → Int64 → Int32 → Int32 → Option (Int32 × PH)} {h hz : PH} {r : Int32} {ce sl mc ms : Nat} {v0 : Nat} {v1 : Int64} {v3 : Int64} {v5 : Int32} {v6 : Int32} (hc : Cx M X RX10 cX10_seeks) (hr : Rx M 136 7890 mc ms 12) (he : Ex M X (some .int) "seeks" (some (.int r)) hz mc ms) (hm : ce ≤ mc) (hs : sl ≤ ms) (ih28 : ∀ (h : PH) (v0 : Nat) (v1 : Int64) (v3 : Int64) (v5 : Int32) (v6 : Int32), self28 h v0 v1 v3 v5 v6 = some (r, hz) → GG M X h ce sl 44 [(0, .ref (X.1 + v0)), (1, .long v1), (3, .long v3), (5, .int v5), (6, .int v6)] []) (hf : b_X10_seeks_44 F self28 h v0 v1 v3 v5 v6 = some (r, hz)) : GG M X h ce sl 44 [(0, .ref (X.1 + v0)), (1, .long v1), (3, .long v3), (5, .int v5), (6, .int v6)] [] := by
  unfold b_X10_seeks_44 at hf
  refine r_iload hc 4 (dc_at dX10_seeks 28 rfl) rfl ?_
  refine r_bipush (8 : Int32) hc (dc_at dX10_seeks 29 rfl) (by decide) ?_
  refine r_icmp_gt (tgt := 275) hc (dc_at dX10_seeks 30 rfl) (by decide) hf (fun hf => ?_) (fun hf => ?_)
  · refine r_iconst (-1 : Int32) hc (dc_at dX10_seeks 144 rfl) (by decide) ?_
    exact r_iret hc he (hm) (hs) (dc_at dX10_seeks 145 rfl) hf
  · refine r_aload_n hc 0 (dc_at dX10_seeks 31 rfl) rfl ?_
    refine r_getI hc (dc_at dX10_seeks 32 rfl) fl_X10_336 hf fun x1 hf => ?_
    refine r_istore [(7, .int x1), (0, .ref (X.1 + v0)), (1, .long v1), (3, .long v3), (5, .int v5), (6, .int v6)] hc hr (dc_at dX10_seeks 33 rfl) (by decide) rfl ?_
    refine r_iload hc 4 (dc_at dX10_seeks 34 rfl) rfl ?_
    refine r_istore [(8, .int v5), (7, .int x1), (0, .ref (X.1 + v0)), (1, .long v1), (3, .long v3), (5, .int v5), (6, .int v6)] hc hr (dc_at dX10_seeks 35 rfl) (by decide) rfl ?_
    exact gg_sub [2, 3, 4, 6, 1, 0] rfl (tl_X10_seeks_61 hc hr he hm hs ih28 F _ _ _ _ _ _ _ hf)
def l_X10_seeks_44 (F : Nat) : Nat → PH → Nat → Int64 → Int64 → Int32 → Int32 → Option (Int32 × PH)
  | 0 => fun _ _ _ _ _ _ => none
  | n + 1 => fun h v0 v1 v3 v5 v6 => b_X10_seeks_44 F (l_X10_seeks_44 F n) h v0 v1 v3 v5 v6
theorem tl_X10_seeks_44 {M : MV} {X : XT} {F : Nat} {hz : PH} {r : Int32} {ce sl mc ms : Nat} (hc : Cx M X RX10 cX10_seeks) (hr : Rx M 136 7890 mc ms 12) (he : Ex M X (some .int) "seeks" (some (.int r)) hz mc ms) (hm : ce ≤ mc) (hs : sl ≤ ms) (n : Nat) : ∀ (h : PH) (v0 : Nat) (v1 : Int64) (v3 : Int64) (v5 : Int32) (v6 : Int32), l_X10_seeks_44 F n h v0 v1 v3 v5 v6 = some (r, hz) → GG M X h ce sl 44 [(0, .ref (X.1 + v0)), (1, .long v1), (3, .long v3), (5, .int v5), (6, .int v6)] [] := by
  induction n with
  | zero => intro h v0 v1 v3 v5 v6 hf; cases hf
  | succ n ih => intro h v0 v1 v3 v5 v6 hf; exact tb_X10_seeks_44 (F := F) hc hr he hm hs  ih hf
def b_X10_seeks_0 (F : Nat) (h : PH) (v0 : Nat) (v1 : Int64) (v3 : Int64) : Option (Int32 × PH) := cO 10 h v0 (bind2 (m_X10_forgets F h v0) fun _ h2 => ((gR 10 1 h2 v0).bind fun a3 => ((aI 0 h2 a3 (7 : Int32)).bind fun x4 => ((gR 10 1 h2 v0).bind fun a5 => ((aI 0 h2 a5 (8 : Int32)).bind fun x6 => (cO 10 h2 v0 (bind2 (m_X10_meets F h2 v0 (Int32.toInt64 x4) (Int32.toInt64 x6) (-1 : Int32) (-1 : Int32)) fun _ h8 => (cO 10 h8 v0 ((m_X10_metAt F h8 v0 v1 v3).bind fun x9 => (if x9 = (-1 : Int32) then (l_X10_seeks_44 F F h8 v0 v1 v3 (0 : Int32) (1 : Int32)) else (some ((0 : Int32), h8))))))))))))
set_option maxRecDepth 20000 in
theorem t_X10_seeks_0 {M : MV} {X : XT} {F : Nat} {h hz : PH} {r : Int32} {ce sl mc ms : Nat} {v0 : Nat} {v1 : Int64} {v3 : Int64} (hc : Cx M X RX10 cX10_seeks) (hr : Rx M 136 7890 mc ms 12) (he : Ex M X (some .int) "seeks" (some (.int r)) hz mc ms) (hm : ce ≤ mc) (hs : sl ≤ ms) (hf : b_X10_seeks_0 F h v0 v1 v3 = some (r, hz)) : GG M X h ce sl 0 [(0, .ref (X.1 + v0)), (1, .long v1), (3, .long v3)] [] := by
  unfold b_X10_seeks_0 at hf
  refine r_aload_n hc 0 (dc_at dX10_seeks 0 rfl) rfl ?_
  obtain ⟨ho, hf⟩ := cO_some hf
  refine ob2 hf fun u h2 ex hf => ?_
  refine r_callVv (As := []) (ci := 10) hc hr (dc_at dX10_seeks 1 rfl) ml_X10_348 mv_X10_forgets vi_X10_forgets rfl ho rfl (mt_X10_forgets ex) (by first | exact Nat.le_of_ble_eq_true rfl | omega) (by first | exact Nat.le_of_ble_eq_true rfl | omega) (by first | exact Nat.le_of_ble_eq_true rfl | omega) hm hs ?_
  refine r_aload_n hc 0 (dc_at dX10_seeks 2 rfl) rfl ?_
  refine r_aload_n hc 0 (dc_at dX10_seeks 3 rfl) rfl ?_
  refine r_getR hc (dc_at dX10_seeks 4 rfl) fl_X10_13 hf fun a3 hf => ?_
  refine r_bipush (7 : Int32) hc (dc_at dX10_seeks 5 rfl) (by decide) ?_
  refine r_iaload hc (dc_at dX10_seeks 6 rfl) hf fun x4 hf => ?_
  refine r_i2l hc (dc_at dX10_seeks 7 rfl) ?_
  refine r_aload_n hc 0 (dc_at dX10_seeks 8 rfl) rfl ?_
  refine r_getR hc (dc_at dX10_seeks 9 rfl) fl_X10_13 hf fun a5 hf => ?_
  refine r_bipush (8 : Int32) hc (dc_at dX10_seeks 10 rfl) (by decide) ?_
  refine r_iaload hc (dc_at dX10_seeks 11 rfl) hf fun x6 hf => ?_
  refine r_i2l hc (dc_at dX10_seeks 12 rfl) ?_
  refine r_iconst (-1 : Int32) hc (dc_at dX10_seeks 13 rfl) (by decide) ?_
  refine r_iconst (-1 : Int32) hc (dc_at dX10_seeks 14 rfl) (by decide) ?_
  obtain ⟨ho, hf⟩ := cO_some hf
  refine ob2 hf fun u h8 ex hf => ?_
  refine r_callVv (As := [.long ((Int32.toInt64 x4)), .long ((Int32.toInt64 x6)), .int ((-1 : Int32)), .int ((-1 : Int32))]) (ci := 10) hc hr (dc_at dX10_seeks 15 rfl) ml_X10_351 mv_X10_meets vi_X10_meets rfl ho rfl (mt_X10_meets ex) (by first | exact Nat.le_of_ble_eq_true rfl | omega) (by first | exact Nat.le_of_ble_eq_true rfl | omega) (by first | exact Nat.le_of_ble_eq_true rfl | omega) hm hs ?_
  refine r_aload_n hc 0 (dc_at dX10_seeks 16 rfl) rfl ?_
  refine r_lload_n hc 1 (dc_at dX10_seeks 17 rfl) rfl ?_
  refine r_lload_n hc 2 (dc_at dX10_seeks 18 rfl) rfl ?_
  obtain ⟨ho, hf⟩ := cO_some hf
  refine ob hf fun x9 ex hf => ?_
  refine r_callVi (As := [.long v1, .long v3]) (ci := 10) hc hr (dc_at dX10_seeks 19 rfl) ml_X10_355 mv_X10_metAt vi_X10_metAt rfl ho rfl (mt_X10_metAt ex) (by first | exact Nat.le_of_ble_eq_true rfl | omega) (by first | exact Nat.le_of_ble_eq_true rfl | omega) (by first | exact Nat.le_of_ble_eq_true rfl | omega) hm hs ?_
  refine r_iconst (-1 : Int32) hc (dc_at dX10_seeks 20 rfl) (by decide) ?_
  refine r_icmp_eq (tgt := 38) hc (dc_at dX10_seeks 21 rfl) (by decide) hf (fun hf => ?_) (fun hf => ?_)
  · refine r_iconst (0 : Int32) hc (dc_at dX10_seeks 24 rfl) (by decide) ?_
    refine r_istore [(5, .int ((0 : Int32))), (0, .ref (X.1 + v0)), (1, .long v1), (3, .long v3)] hc hr (dc_at dX10_seeks 25 rfl) (by decide) rfl ?_
    refine r_iconst (1 : Int32) hc (dc_at dX10_seeks 26 rfl) (by decide) ?_
    refine r_istore [(6, .int ((1 : Int32))), (5, .int ((0 : Int32))), (0, .ref (X.1 + v0)), (1, .long v1), (3, .long v3)] hc hr (dc_at dX10_seeks 27 rfl) (by decide) rfl ?_
    exact gg_sub [2, 3, 4, 1, 0] rfl (tl_X10_seeks_44 hc hr he hm hs  F _ _ _ _ _ _ hf)
  · refine r_iconst (0 : Int32) hc (dc_at dX10_seeks 22 rfl) (by decide) ?_
    exact r_iret hc he (hm) (hs) (dc_at dX10_seeks 23 rfl) hf
def m_X10_seeks (F : Nat) (h : PH) (p0 : Nat) (p1 : Int64) (p3 : Int64) : Option (Int32 × PH) := b_X10_seeks_0 F h p0 p1 p3
theorem mt_X10_seeks {l : Launch} {X : XT} {F : Nat} {h hz : PH} {p0 : Nat} {p1 : Int64} {p3 : Int64} {r : Int32} (ex : m_X10_seeks F h p0 p1 p3 = some (r, hz)) : MT l X yX10_seeks cX10_seeks 12 (some .int) 136 7890 0 0 [.ref (X.1 + p0), .long p1, .long p3] h (some (.int r)) hz := MT.of (by decide) (Nat.le_of_ble_eq_true rfl) fun M hl hc hr he => by
  subst hl
  exact gg_sub [0, 1, 2] rfl (t_X10_seeks_0  hc hr he (Nat.zero_le _) (Nat.zero_le _) ex)
/-! FractionLiftModel.fewest(III)I -/
def lX10_fewestL : List (Nat × Instr × Nat × Nat) := [(0, .aload_n 0, 1, 1), (1, .iconst 0, 1, 2), (2, .putfield 1, 3, 5), (5, .iload_n 3, 1, 6), (6, .ifCond .eq 20, 3, 9), (9, .iload_n 3, 1, 10), (10, .i2l, 1, 11), (11, .ldc2_w 358, 3, 14), (14, .ldc2_w 360, 3, 17), (17, .invokestatic 172, 3, 20), (20, .ifCond .ne 6, 3, 23), (23, .bipush (-2), 2, 25), (25, .ireturn, 1, 26), (26, .aload_n 0, 1, 27), (27, .iload_n 1, 1, 28), (28, .i2l, 1, 29), (29, .iload_n 2, 1, 30), (30, .i2l, 1, 31), (31, .invokevirtual 282, 3, 34), (34, .ifCond .ne 6, 3, 37), (37, .bipush (-3), 2, 39), (39, .ireturn, 1, 40), (40, .aload_n 0, 1, 41), (41, .aload_n 0, 1, 42), (42, .getfield 180, 3, 45), (45, .aload_n 0, 1, 46), (46, .getfield 184, 3, 49), (49, .invokevirtual 362, 3, 52), (52, .istore 4, 2, 54), (54, .iload 4, 2, 56), (56, .ifCond .lt 7, 3, 59), (59, .iload_n 3, 1, 60), (60, .ifCond .ne 8, 3, 63), (63, .iload 4, 2, 65), (65, .goto 25, 3, 68), (68, .iload_n 3, 1, 69), (69, .bipush 10, 2, 71), (71, .isub, 1, 72), (72, .iload 4, 2, 74), (74, .if_icmp .ge 15, 3, 77), (77, .aload_n 0, 1, 78), (78, .getfield 55, 3, 81), (81, .iload_n 3, 1, 82), (82, .bipush 10, 2, 84), (84, .isub, 1, 85), (85, .iaload, 1, 86), (86, .goto 4, 3, 89), (89, .iconst (-1), 1, 90), (90, .ireturn, 1, 91)]
set_option maxRecDepth 20000 in
theorem dX10_fewest : dcL cX10_fewest lX10_fewestL = true := by decide +kernel
def b_X10_fewest_26 (F : Nat) (h : PH) (v0 : Nat) (v1 : Int32) (v2 : Int32) (v3 : Int32) : Option (Int32 × PH) := cO 10 h v0 (bind2 (m_X10_asks h v0 (Int32.toInt64 v1) (Int32.toInt64 v2)) fun x1 h2 => (if x1 = 0 then (some ((-3 : Int32), h2)) else ((gL 10 15 h2 v0).bind fun x3 => ((gL 10 16 h2 v0).bind fun x4 => (cO 10 h2 v0 (bind2 (m_X10_seeks F h2 v0 x3 x4) fun x5 h6 => (if x5 < 0 then (some (x5, h6)) else (if v3 = 0 then (some (x5, h6)) else (if x5 ≤ ((v3 - (10 : Int32))) then (some ((-1 : Int32), h6)) else ((gR 10 30 h6 v0).bind fun a7 => ((aI 0 h6 a7 ((v3 - (10 : Int32)))).bind fun x8 => (some (x8, h6)))))))))))))
set_option maxRecDepth 20000 in
theorem t_X10_fewest_26 {M : MV} {X : XT} {F : Nat} {h hz : PH} {r : Int32} {ce sl mc ms : Nat} {v0 : Nat} {v1 : Int32} {v2 : Int32} {v3 : Int32} (hc : Cx M X RX10 cX10_fewest) (hr : Rx M 137 7948 mc ms 5) (he : Ex M X (some .int) "fewest" (some (.int r)) hz mc ms) (hm : ce ≤ mc) (hs : sl ≤ ms) (hf : b_X10_fewest_26 F h v0 v1 v2 v3 = some (r, hz)) : GG M X h ce sl 26 [(0, .ref (X.1 + v0)), (1, .int v1), (2, .int v2), (3, .int v3)] [] := by
  unfold b_X10_fewest_26 at hf
  refine r_aload_n hc 0 (dc_at dX10_fewest 13 rfl) rfl ?_
  refine r_iload_n hc 1 (dc_at dX10_fewest 14 rfl) rfl ?_
  refine r_i2l hc (dc_at dX10_fewest 15 rfl) ?_
  refine r_iload_n hc 2 (dc_at dX10_fewest 16 rfl) rfl ?_
  refine r_i2l hc (dc_at dX10_fewest 17 rfl) ?_
  obtain ⟨ho, hf⟩ := cO_some hf
  refine ob2 hf fun x1 h2 ex hf => ?_
  refine r_callVi (As := [.long ((Int32.toInt64 v1)), .long ((Int32.toInt64 v2))]) (ci := 10) hc hr (dc_at dX10_fewest 18 rfl) ml_X10_282 mv_X10_asks vi_X10_asks rfl ho rfl (mt_X10_asks ex) (by first | exact Nat.le_of_ble_eq_true rfl | omega) (by first | exact Nat.le_of_ble_eq_true rfl | omega) (by first | exact Nat.le_of_ble_eq_true rfl | omega) hm hs ?_
  refine r_if_ne (tgt := 40) hc (dc_at dX10_fewest 19 rfl) (by decide) hf (fun hf => ?_) (fun hf => ?_)
  · refine r_aload_n hc 0 (dc_at dX10_fewest 22 rfl) rfl ?_
    refine r_aload_n hc 0 (dc_at dX10_fewest 23 rfl) rfl ?_
    refine r_getL hc (dc_at dX10_fewest 24 rfl) fl_X10_180 hf fun x3 hf => ?_
    refine r_aload_n hc 0 (dc_at dX10_fewest 25 rfl) rfl ?_
    refine r_getL hc (dc_at dX10_fewest 26 rfl) fl_X10_184 hf fun x4 hf => ?_
    obtain ⟨ho, hf⟩ := cO_some hf
    refine ob2 hf fun x5 h6 ex hf => ?_
    refine r_callVi (As := [.long x3, .long x4]) (ci := 10) hc hr (dc_at dX10_fewest 27 rfl) ml_X10_362 mv_X10_seeks vi_X10_seeks rfl ho rfl (mt_X10_seeks ex) (by first | exact Nat.le_of_ble_eq_true rfl | omega) (by first | exact Nat.le_of_ble_eq_true rfl | omega) (by first | exact Nat.le_of_ble_eq_true rfl | omega) hm hs ?_
    refine r_istore [(4, .int x5), (0, .ref (X.1 + v0)), (1, .int v1), (2, .int v2), (3, .int v3)] hc hr (dc_at dX10_fewest 28 rfl) (by decide) rfl ?_
    refine r_iload hc 0 (dc_at dX10_fewest 29 rfl) rfl ?_
    refine r_if_lt (tgt := 63) hc (dc_at dX10_fewest 30 rfl) (by decide) hf (fun hf => ?_) (fun hf => ?_)
    · refine r_iload hc 0 (dc_at dX10_fewest 33 rfl) rfl ?_
      refine r_goto (tgt := 90) hc (dc_at dX10_fewest 34 rfl) (by decide) ?_
      exact r_iret hc he (hm) (hs) (dc_at dX10_fewest 48 rfl) hf
    · refine r_iload_n hc 4 (dc_at dX10_fewest 31 rfl) rfl ?_
      refine r_if_ne (tgt := 68) hc (dc_at dX10_fewest 32 rfl) (by decide) hf (fun hf => ?_) (fun hf => ?_)
      · refine r_iload_n hc 4 (dc_at dX10_fewest 35 rfl) rfl ?_
        refine r_bipush (10 : Int32) hc (dc_at dX10_fewest 36 rfl) (by decide) ?_
        refine r_isub hc (dc_at dX10_fewest 37 rfl) ?_
        refine r_iload hc 0 (dc_at dX10_fewest 38 rfl) rfl ?_
        refine r_icmp_ge (tgt := 89) hc (dc_at dX10_fewest 39 rfl) (by decide) hf (fun hf => ?_) (fun hf => ?_)
        · refine r_iconst (-1 : Int32) hc (dc_at dX10_fewest 47 rfl) (by decide) ?_
          exact r_iret hc he (hm) (hs) (dc_at dX10_fewest 48 rfl) hf
        · refine r_aload_n hc 1 (dc_at dX10_fewest 40 rfl) rfl ?_
          refine r_getR hc (dc_at dX10_fewest 41 rfl) fl_X10_55 hf fun a7 hf => ?_
          refine r_iload_n hc 4 (dc_at dX10_fewest 42 rfl) rfl ?_
          refine r_bipush (10 : Int32) hc (dc_at dX10_fewest 43 rfl) (by decide) ?_
          refine r_isub hc (dc_at dX10_fewest 44 rfl) ?_
          refine r_iaload hc (dc_at dX10_fewest 45 rfl) hf fun x8 hf => ?_
          refine r_goto (tgt := 90) hc (dc_at dX10_fewest 46 rfl) (by decide) ?_
          exact r_iret hc he (hm) (hs) (dc_at dX10_fewest 48 rfl) hf
      · refine r_iload hc 0 (dc_at dX10_fewest 33 rfl) rfl ?_
        refine r_goto (tgt := 90) hc (dc_at dX10_fewest 34 rfl) (by decide) ?_
        exact r_iret hc he (hm) (hs) (dc_at dX10_fewest 48 rfl) hf
  · refine r_bipush (-3 : Int32) hc (dc_at dX10_fewest 20 rfl) (by decide) ?_
    exact r_iret hc he (hm) (hs) (dc_at dX10_fewest 21 rfl) hf
def b_X10_fewest_0 (F : Nat) (h : PH) (v0 : Nat) (v1 : Int32) (v2 : Int32) (v3 : Int32) : Option (Int32 × PH) := (pV 10 0 (.int (0 : Int32)) h v0).bind fun h1 => (if v3 = 0 then (b_X10_fewest_26 F h1 v0 v1 v2 v3) else ((m_X10_within (Int32.toInt64 v3) (10 : Int64) (17 : Int64)).bind fun x2 => (if x2 = 0 then (some ((-2 : Int32), h1)) else (b_X10_fewest_26 F h1 v0 v1 v2 v3))))
set_option maxRecDepth 20000 in
theorem t_X10_fewest_0 {M : MV} {X : XT} {F : Nat} {h hz : PH} {r : Int32} {ce sl mc ms : Nat} {v0 : Nat} {v1 : Int32} {v2 : Int32} {v3 : Int32} (hc : Cx M X RX10 cX10_fewest) (hr : Rx M 137 7948 mc ms 5) (he : Ex M X (some .int) "fewest" (some (.int r)) hz mc ms) (hm : ce ≤ mc) (hs : sl ≤ ms) (hf : b_X10_fewest_0 F h v0 v1 v2 v3 = some (r, hz)) : GG M X h ce sl 0 [(0, .ref (X.1 + v0)), (1, .int v1), (2, .int v2), (3, .int v3)] [] := by
  unfold b_X10_fewest_0 at hf
  refine r_aload_n hc 0 (dc_at dX10_fewest 0 rfl) rfl ?_
  refine r_iconst (0 : Int32) hc (dc_at dX10_fewest 1 rfl) (by decide) ?_
  refine r_putI hc he (dc_at dX10_fewest 2 rfl) fp_X10_1 (fun q => by cases q) hf fun h1 hf => ?_
  refine r_iload_n hc 3 (dc_at dX10_fewest 3 rfl) rfl ?_
  refine r_if_eq (tgt := 26) hc (dc_at dX10_fewest 4 rfl) (by decide) hf (fun hf => ?_) (fun hf => ?_)
  · exact gg_sub [0, 1, 2, 3] rfl (t_X10_fewest_26 hc hr he hm hs  hf)
  · refine r_iload_n hc 3 (dc_at dX10_fewest 5 rfl) rfl ?_
    refine r_i2l hc (dc_at dX10_fewest 6 rfl) ?_
    refine r_ldc2 hc (dc_at dX10_fewest 7 rfl) cl2_X10_358 ?_
    refine r_ldc2 hc (dc_at dX10_fewest 8 rfl) cl2_X10_360 ?_
    refine ob hf fun x2 ex hf => ?_
    refine r_callSi (As := [.long ((Int32.toInt64 v3)), .long ((10 : Int64)), .long ((17 : Int64))]) hc hr (dc_at dX10_fewest 9 rfl) ml_X10_172 mv_X10_within st_X10_within rfl (mt_X10_within ex) (by first | exact Nat.le_of_ble_eq_true rfl | omega) (by first | exact Nat.le_of_ble_eq_true rfl | omega) (by first | exact Nat.le_of_ble_eq_true rfl | omega) hm hs ?_
    refine r_if_ne (tgt := 26) hc (dc_at dX10_fewest 10 rfl) (by decide) hf (fun hf => ?_) (fun hf => ?_)
    · exact gg_sub [0, 1, 2, 3] rfl (t_X10_fewest_26 hc hr he hm hs  hf)
    · refine r_bipush (-2 : Int32) hc (dc_at dX10_fewest 11 rfl) (by decide) ?_
      exact r_iret hc he (hm) (hs) (dc_at dX10_fewest 12 rfl) hf
def m_X10_fewest (F : Nat) (h : PH) (p0 : Nat) (p1 : Int32) (p2 : Int32) (p3 : Int32) : Option (Int32 × PH) := b_X10_fewest_0 F h p0 p1 p2 p3
theorem mt_X10_fewest {l : Launch} {X : XT} {F : Nat} {h hz : PH} {p0 : Nat} {p1 : Int32} {p2 : Int32} {p3 : Int32} {r : Int32} (ex : m_X10_fewest F h p0 p1 p2 p3 = some (r, hz)) : MT l X yX10_fewest cX10_fewest 5 (some .int) 137 7948 0 0 [.ref (X.1 + p0), .int p1, .int p2, .int p3] h (some (.int r)) hz := MT.of (by decide) (Nat.le_of_ble_eq_true rfl) fun M hl hc hr he => by
  subst hl
  exact gg_sub [0, 1, 2, 3] rfl (t_X10_fewest_0  hc hr he (Nat.zero_le _) (Nat.zero_le _) ex)
/-! FractionLiftModel.begins(II)V -/
def lX10_beginsL : List (Nat × Instr × Nat × Nat) := [(0, .aload_n 0, 1, 1), (1, .getfield 58, 3, 4), (4, .iconst 0, 1, 5), (5, .iload_n 1, 1, 6), (6, .iastore, 1, 7), (7, .aload_n 0, 1, 8), (8, .getfield 61, 3, 11), (11, .iconst 0, 1, 12), (12, .iload_n 2, 1, 13), (13, .iastore, 1, 14), (14, .aload_n 0, 1, 15), (15, .iconst 1, 1, 16), (16, .putfield 365, 3, 19), (19, .return_, 1, 20)]
set_option maxRecDepth 20000 in
theorem dX10_begins : dcL cX10_begins lX10_beginsL = true := by decide +kernel
def b_X10_begins_0 (h : PH) (v0 : Nat) (v1 : Int32) (v2 : Int32) : Option (Unit × PH) := (gR 10 31 h v0).bind fun a1 => ((sI 0 h a1 (0 : Int32) v1).bind fun h2 => ((gR 10 32 h2 v0).bind fun a3 => ((sI 0 h2 a3 (0 : Int32) v2).bind fun h4 => ((pV 10 33 (.int (1 : Int32)) h4 v0).bind fun h5 => (some ((), h5))))))
set_option maxRecDepth 20000 in
theorem t_X10_begins_0 {M : MV} {X : XT} {h hz : PH} {r : Unit} {ce sl mc ms : Nat} {v0 : Nat} {v1 : Int32} {v2 : Int32} (hc : Cx M X RX10 cX10_begins) (hr : Rx M 1 60 mc ms 3) (he : Ex M X none "begins" none hz mc ms) (hm : ce ≤ mc) (hs : sl ≤ ms) (hf : b_X10_begins_0 h v0 v1 v2 = some (r, hz)) : GG M X h ce sl 0 [(0, .ref (X.1 + v0)), (1, .int v1), (2, .int v2)] [] := by
  unfold b_X10_begins_0 at hf
  refine r_aload_n hc 0 (dc_at dX10_begins 0 rfl) rfl ?_
  refine r_getR hc (dc_at dX10_begins 1 rfl) fl_X10_58 hf fun a1 hf => ?_
  refine r_iconst (0 : Int32) hc (dc_at dX10_begins 2 rfl) (by decide) ?_
  refine r_iload_n hc 1 (dc_at dX10_begins 3 rfl) rfl ?_
  refine r_iastore hc (dc_at dX10_begins 4 rfl) hf fun h2 hf => ?_
  refine r_aload_n hc 0 (dc_at dX10_begins 5 rfl) rfl ?_
  refine r_getR hc (dc_at dX10_begins 6 rfl) fl_X10_61 hf fun a3 hf => ?_
  refine r_iconst (0 : Int32) hc (dc_at dX10_begins 7 rfl) (by decide) ?_
  refine r_iload_n hc 2 (dc_at dX10_begins 8 rfl) rfl ?_
  refine r_iastore hc (dc_at dX10_begins 9 rfl) hf fun h4 hf => ?_
  refine r_aload_n hc 0 (dc_at dX10_begins 10 rfl) rfl ?_
  refine r_iconst (1 : Int32) hc (dc_at dX10_begins 11 rfl) (by decide) ?_
  refine r_putI hc he (dc_at dX10_begins 12 rfl) fp_X10_365 (fun q => by cases q) hf fun h5 hf => ?_
  exact r_vret hc he (hm) (hs) (dc_at dX10_begins 13 rfl) hf
def m_X10_begins (h : PH) (p0 : Nat) (p1 : Int32) (p2 : Int32) : Option (Unit × PH) := b_X10_begins_0 h p0 p1 p2
theorem mt_X10_begins {l : Launch} {X : XT} {h hz : PH} {p0 : Nat} {p1 : Int32} {p2 : Int32} {r : Unit} (ex : m_X10_begins h p0 p1 p2 = some (r, hz)) : MT l X yX10_begins cX10_begins 3 none 1 60 0 0 [.ref (X.1 + p0), .int p1, .int p2] h none hz := MT.of (by decide) (Nat.le_of_ble_eq_true rfl) fun M hl hc hr he => by
  subst hl
  exact gg_sub [0, 1, 2] rfl (t_X10_begins_0  hc hr he (Nat.zero_le _) (Nat.zero_le _) ex)
/-! FractionLiftModel.goes(Z)V -/
def lX10_goesL : List (Nat × Instr × Nat × Nat) := [(0, .aload_n 0, 1, 1), (1, .invokevirtual 348, 3, 4), (4, .iconst 0, 1, 5), (5, .istore_n 2, 1, 6), (6, .iload_n 2, 1, 7), (7, .aload_n 0, 1, 8), (8, .getfield 365, 3, 11), (11, .if_icmp .ge 125, 3, 14), (14, .iload_n 1, 1, 15), (15, .ifCond .eq 45, 3, 18), (18, .aload_n 0, 1, 19), (19, .aload_n 0, 1, 20), (20, .getfield 58, 3, 23), (23, .iload_n 2, 1, 24), (24, .iaload, 1, 25), (25, .i2l, 1, 26), (26, .aload_n 0, 1, 27), (27, .getfield 61, 3, 30), (30, .iload_n 2, 1, 31), (31, .iaload, 1, 32), (32, .i2l, 1, 33), (33, .invokevirtual 355, 3, 36), (36, .iconst (-1), 1, 37), (37, .if_icmp .ne 23, 3, 40), (40, .aload_n 0, 1, 41), (41, .aload_n 0, 1, 42), (42, .getfield 58, 3, 45), (45, .iload_n 2, 1, 46), (46, .iaload, 1, 47), (47, .i2l, 1, 48), (48, .aload_n 0, 1, 49), (49, .getfield 61, 3, 52), (52, .iload_n 2, 1, 53), (53, .iaload, 1, 54), (54, .i2l, 1, 55), (55, .iconst (-1), 1, 56), (56, .iconst (-1), 1, 57), (57, .invokevirtual 351, 3, 60), (60, .iconst 0, 1, 61), (61, .istore_n 3, 1, 62), (62, .iload_n 3, 1, 63), (63, .aload_n 0, 1, 64), (64, .getfield 13, 3, 67), (67, .iconst 2, 1, 68), (68, .iaload, 1, 69), (69, .if_icmp .ge 61, 3, 72), (72, .aload_n 0, 1, 73), (73, .iload_n 3, 1, 74), (74, .aload_n 0, 1, 75), (75, .getfield 58, 3, 78), (78, .iload_n 2, 1, 79), (79, .iaload, 1, 80), (80, .i2l, 1, 81), (81, .aload_n 0, 1, 82), (82, .getfield 61, 3, 85), (85, .iload_n 2, 1, 86), (86, .iaload, 1, 87), (87, .i2l, 1, 88), (88, .invokevirtual 275, 3, 91), (91, .ifCond .ne 33, 3, 94), (94, .aload_n 0, 1, 95), (95, .aload_n 0, 1, 96), (96, .getfield 180, 3, 99), (99, .aload_n 0, 1, 100), (100, .getfield 184, 3, 103), (103, .invokevirtual 355, 3, 106), (106, .iconst (-1), 1, 107), (107, .if_icmp .ne 17, 3, 110), (110, .aload_n 0, 1, 111), (111, .aload_n 0, 1, 112), (112, .getfield 180, 3, 115), (115, .aload_n 0, 1, 116), (116, .getfield 184, 3, 119), (119, .iconst (-1), 1, 120), (120, .iconst (-1), 1, 121), (121, .invokevirtual 351, 3, 124), (124, .iinc 3 1, 3, 127), (127, .goto (-65), 3, 130), (130, .iinc 2 1, 3, 133), (133, .goto (-127), 3, 136), (136, .return_, 1, 137)]
set_option maxRecDepth 20000 in
theorem dX10_goes : dcL cX10_goes lX10_goesL = true := by decide +kernel
def b_X10_goes_124 (F : Nat) (self4 : PH → Nat → Int32 → Int32 → Option (Unit × PH)) (self40 : PH → Nat → Int32 → Int32 → Int32 → Option (Unit × PH)) (h : PH) (v0 : Nat) (v1 : Int32) (v2 : Int32) (v3 : Int32) : Option (Unit × PH) := bindv (v3 + (1)) fun x1 => (self40 h v0 v1 v2 x1)
set_option maxRecDepth 20000 in
theorem t_X10_goes_124 {M : MV} {X : XT} {F : Nat} {self4 : PH → Nat → Int32 → Int32 → Option (Unit × PH)} {self40 : PH → Nat → Int32 → Int32 → Int32 → Option (Unit × PH)} {h hz : PH} {r : Unit} {ce sl mc ms : Nat} {v0 : Nat} {v1 : Int32} {v2 : Int32} {v3 : Int32} (hc : Cx M X RX10 cX10_goes) (hr : Rx M 136 7890 mc ms 4) (he : Ex M X none "goes" none hz mc ms) (hm : ce ≤ mc) (hs : sl ≤ ms) (ih4 : ∀ (h : PH) (v0 : Nat) (v1 : Int32) (v2 : Int32), self4 h v0 v1 v2 = some (r, hz) → GG M X h ce sl 6 [(0, .ref (X.1 + v0)), (1, .int v1), (2, .int v2)] []) (ih40 : ∀ (h : PH) (v0 : Nat) (v1 : Int32) (v2 : Int32) (v3 : Int32), self40 h v0 v1 v2 v3 = some (r, hz) → GG M X h ce sl 62 [(0, .ref (X.1 + v0)), (1, .int v1), (2, .int v2), (3, .int v3)] []) (hf : b_X10_goes_124 F self4 self40 h v0 v1 v2 v3 = some (r, hz)) : GG M X h ce sl 124 [(0, .ref (X.1 + v0)), (1, .int v1), (2, .int v2), (3, .int v3)] [] := by
  unfold b_X10_goes_124 at hf
  refine obv hf fun x1 e_x1 hf => ?_
  refine r_iinc 3 [(3, .int x1), (0, .ref (X.1 + v0)), (1, .int v1), (2, .int v2)] hc hr (dc_at dX10_goes 76 rfl) rfl (by rw [e_x1]; rfl) (by decide) rfl ?_
  refine r_goto (tgt := 62) hc (dc_at dX10_goes 77 rfl) (by decide) ?_
  exact gg_sub [1, 2, 3, 0] rfl (ih40 _ _ _ _ _ hf)
def b_X10_goes_62 (F : Nat) (self4 : PH → Nat → Int32 → Int32 → Option (Unit × PH)) (self40 : PH → Nat → Int32 → Int32 → Int32 → Option (Unit × PH)) (h : PH) (v0 : Nat) (v1 : Int32) (v2 : Int32) (v3 : Int32) : Option (Unit × PH) := (gR 10 1 h v0).bind fun a1 => ((aI 0 h a1 (2 : Int32)).bind fun x2 => (if x2 ≤ v3 then (bindv (v2 + (1)) fun x3 => (self4 h v0 v1 x3)) else ((gR 10 31 h v0).bind fun a4 => ((aI 0 h a4 v2).bind fun x5 => ((gR 10 32 h v0).bind fun a6 => ((aI 0 h a6 v2).bind fun x7 => (cO 10 h v0 (bind2 (m_X10_leadsFrom F h v0 v3 (Int32.toInt64 x5) (Int32.toInt64 x7)) fun x8 h9 => (if x8 = 0 then ((gL 10 15 h9 v0).bind fun x10 => ((gL 10 16 h9 v0).bind fun x11 => (cO 10 h9 v0 ((m_X10_metAt F h9 v0 x10 x11).bind fun x12 => (if x12 = (-1 : Int32) then ((gL 10 15 h9 v0).bind fun x13 => ((gL 10 16 h9 v0).bind fun x14 => (cO 10 h9 v0 (bind2 (m_X10_meets F h9 v0 x13 x14 (-1 : Int32) (-1 : Int32)) fun _ h16 => (b_X10_goes_124 F self4 self40 h16 v0 v1 v2 v3))))) else (b_X10_goes_124 F self4 self40 h9 v0 v1 v2 v3)))))) else (b_X10_goes_124 F self4 self40 h9 v0 v1 v2 v3))))))))))
set_option maxRecDepth 20000 in
theorem tb_X10_goes_62 {M : MV} {X : XT} {F : Nat} {self4 : PH → Nat → Int32 → Int32 → Option (Unit × PH)} {self40 : PH → Nat → Int32 → Int32 → Int32 → Option (Unit × PH)} {h hz : PH} {r : Unit} {ce sl mc ms : Nat} {v0 : Nat} {v1 : Int32} {v2 : Int32} {v3 : Int32} (hc : Cx M X RX10 cX10_goes) (hr : Rx M 136 7890 mc ms 4) (he : Ex M X none "goes" none hz mc ms) (hm : ce ≤ mc) (hs : sl ≤ ms) (ih4 : ∀ (h : PH) (v0 : Nat) (v1 : Int32) (v2 : Int32), self4 h v0 v1 v2 = some (r, hz) → GG M X h ce sl 6 [(0, .ref (X.1 + v0)), (1, .int v1), (2, .int v2)] []) (ih40 : ∀ (h : PH) (v0 : Nat) (v1 : Int32) (v2 : Int32) (v3 : Int32), self40 h v0 v1 v2 v3 = some (r, hz) → GG M X h ce sl 62 [(0, .ref (X.1 + v0)), (1, .int v1), (2, .int v2), (3, .int v3)] []) (hf : b_X10_goes_62 F self4 self40 h v0 v1 v2 v3 = some (r, hz)) : GG M X h ce sl 62 [(0, .ref (X.1 + v0)), (1, .int v1), (2, .int v2), (3, .int v3)] [] := by
  unfold b_X10_goes_62 at hf
  refine r_iload_n hc 3 (dc_at dX10_goes 40 rfl) rfl ?_
  refine r_aload_n hc 0 (dc_at dX10_goes 41 rfl) rfl ?_
  refine r_getR hc (dc_at dX10_goes 42 rfl) fl_X10_13 hf fun a1 hf => ?_
  refine r_iconst (2 : Int32) hc (dc_at dX10_goes 43 rfl) (by decide) ?_
  refine r_iaload hc (dc_at dX10_goes 44 rfl) hf fun x2 hf => ?_
  refine r_icmp_ge (tgt := 130) hc (dc_at dX10_goes 45 rfl) (by decide) hf (fun hf => ?_) (fun hf => ?_)
  · refine obv hf fun x3 e_x3 hf => ?_
    refine r_iinc 2 [(2, .int x3), (0, .ref (X.1 + v0)), (1, .int v1), (3, .int v3)] hc hr (dc_at dX10_goes 78 rfl) rfl (by rw [e_x3]; rfl) (by decide) rfl ?_
    refine r_goto (tgt := 6) hc (dc_at dX10_goes 79 rfl) (by decide) ?_
    exact gg_sub [1, 2, 0] rfl (ih4 _ _ _ _ hf)
  · refine r_aload_n hc 0 (dc_at dX10_goes 46 rfl) rfl ?_
    refine r_iload_n hc 3 (dc_at dX10_goes 47 rfl) rfl ?_
    refine r_aload_n hc 0 (dc_at dX10_goes 48 rfl) rfl ?_
    refine r_getR hc (dc_at dX10_goes 49 rfl) fl_X10_58 hf fun a4 hf => ?_
    refine r_iload_n hc 2 (dc_at dX10_goes 50 rfl) rfl ?_
    refine r_iaload hc (dc_at dX10_goes 51 rfl) hf fun x5 hf => ?_
    refine r_i2l hc (dc_at dX10_goes 52 rfl) ?_
    refine r_aload_n hc 0 (dc_at dX10_goes 53 rfl) rfl ?_
    refine r_getR hc (dc_at dX10_goes 54 rfl) fl_X10_61 hf fun a6 hf => ?_
    refine r_iload_n hc 2 (dc_at dX10_goes 55 rfl) rfl ?_
    refine r_iaload hc (dc_at dX10_goes 56 rfl) hf fun x7 hf => ?_
    refine r_i2l hc (dc_at dX10_goes 57 rfl) ?_
    obtain ⟨ho, hf⟩ := cO_some hf
    refine ob2 hf fun x8 h9 ex hf => ?_
    refine r_callVi (As := [.int v3, .long ((Int32.toInt64 x5)), .long ((Int32.toInt64 x7))]) (ci := 10) hc hr (dc_at dX10_goes 58 rfl) ml_X10_275 mv_X10_leadsFrom vi_X10_leadsFrom rfl ho rfl (mt_X10_leadsFrom ex) (by first | exact Nat.le_of_ble_eq_true rfl | omega) (by first | exact Nat.le_of_ble_eq_true rfl | omega) (by first | exact Nat.le_of_ble_eq_true rfl | omega) hm hs ?_
    refine r_if_ne (tgt := 124) hc (dc_at dX10_goes 59 rfl) (by decide) hf (fun hf => ?_) (fun hf => ?_)
    · exact gg_sub [0, 1, 2, 3] rfl (t_X10_goes_124 hc hr he hm hs ih4 ih40 hf)
    · refine r_aload_n hc 0 (dc_at dX10_goes 60 rfl) rfl ?_
      refine r_aload_n hc 0 (dc_at dX10_goes 61 rfl) rfl ?_
      refine r_getL hc (dc_at dX10_goes 62 rfl) fl_X10_180 hf fun x10 hf => ?_
      refine r_aload_n hc 0 (dc_at dX10_goes 63 rfl) rfl ?_
      refine r_getL hc (dc_at dX10_goes 64 rfl) fl_X10_184 hf fun x11 hf => ?_
      obtain ⟨ho, hf⟩ := cO_some hf
      refine ob hf fun x12 ex hf => ?_
      refine r_callVi (As := [.long x10, .long x11]) (ci := 10) hc hr (dc_at dX10_goes 65 rfl) ml_X10_355 mv_X10_metAt vi_X10_metAt rfl ho rfl (mt_X10_metAt ex) (by first | exact Nat.le_of_ble_eq_true rfl | omega) (by first | exact Nat.le_of_ble_eq_true rfl | omega) (by first | exact Nat.le_of_ble_eq_true rfl | omega) hm hs ?_
      refine r_iconst (-1 : Int32) hc (dc_at dX10_goes 66 rfl) (by decide) ?_
      refine r_icmp_ne (tgt := 124) hc (dc_at dX10_goes 67 rfl) (by decide) hf (fun hf => ?_) (fun hf => ?_)
      · exact gg_sub [0, 1, 2, 3] rfl (t_X10_goes_124 hc hr he hm hs ih4 ih40 hf)
      · refine r_aload_n hc 0 (dc_at dX10_goes 68 rfl) rfl ?_
        refine r_aload_n hc 0 (dc_at dX10_goes 69 rfl) rfl ?_
        refine r_getL hc (dc_at dX10_goes 70 rfl) fl_X10_180 hf fun x13 hf => ?_
        refine r_aload_n hc 0 (dc_at dX10_goes 71 rfl) rfl ?_
        refine r_getL hc (dc_at dX10_goes 72 rfl) fl_X10_184 hf fun x14 hf => ?_
        refine r_iconst (-1 : Int32) hc (dc_at dX10_goes 73 rfl) (by decide) ?_
        refine r_iconst (-1 : Int32) hc (dc_at dX10_goes 74 rfl) (by decide) ?_
        obtain ⟨ho, hf⟩ := cO_some hf
        refine ob2 hf fun u h16 ex hf => ?_
        refine r_callVv (As := [.long x13, .long x14, .int ((-1 : Int32)), .int ((-1 : Int32))]) (ci := 10) hc hr (dc_at dX10_goes 75 rfl) ml_X10_351 mv_X10_meets vi_X10_meets rfl ho rfl (mt_X10_meets ex) (by first | exact Nat.le_of_ble_eq_true rfl | omega) (by first | exact Nat.le_of_ble_eq_true rfl | omega) (by first | exact Nat.le_of_ble_eq_true rfl | omega) hm hs ?_
        exact gg_sub [0, 1, 2, 3] rfl (t_X10_goes_124 hc hr he hm hs ih4 ih40 hf)
def l_X10_goes_62 (F : Nat) (self4 : PH → Nat → Int32 → Int32 → Option (Unit × PH)) : Nat → PH → Nat → Int32 → Int32 → Int32 → Option (Unit × PH)
  | 0 => fun _ _ _ _ _ => none
  | n + 1 => fun h v0 v1 v2 v3 => b_X10_goes_62 F self4 (l_X10_goes_62 F self4 n) h v0 v1 v2 v3
theorem tl_X10_goes_62 {M : MV} {X : XT} {F : Nat} {self4 : PH → Nat → Int32 → Int32 → Option (Unit × PH)} {hz : PH} {r : Unit} {ce sl mc ms : Nat} (hc : Cx M X RX10 cX10_goes) (hr : Rx M 136 7890 mc ms 4) (he : Ex M X none "goes" none hz mc ms) (hm : ce ≤ mc) (hs : sl ≤ ms) (ih4 : ∀ (h : PH) (v0 : Nat) (v1 : Int32) (v2 : Int32), self4 h v0 v1 v2 = some (r, hz) → GG M X h ce sl 6 [(0, .ref (X.1 + v0)), (1, .int v1), (2, .int v2)] []) (n : Nat) : ∀ (h : PH) (v0 : Nat) (v1 : Int32) (v2 : Int32) (v3 : Int32), l_X10_goes_62 F self4 n h v0 v1 v2 v3 = some (r, hz) → GG M X h ce sl 62 [(0, .ref (X.1 + v0)), (1, .int v1), (2, .int v2), (3, .int v3)] [] := by
  induction n with
  | zero => intro h v0 v1 v2 v3 hf; cases hf
  | succ n ih => intro h v0 v1 v2 v3 hf; exact tb_X10_goes_62 (F := F) hc hr he hm hs ih4 ih hf
def b_X10_goes_60 (F : Nat) (self4 : PH → Nat → Int32 → Int32 → Option (Unit × PH)) (h : PH) (v0 : Nat) (v1 : Int32) (v2 : Int32) : Option (Unit × PH) := l_X10_goes_62 F self4 F h v0 v1 v2 (0 : Int32)
set_option maxRecDepth 20000 in
theorem t_X10_goes_60 {M : MV} {X : XT} {F : Nat} {self4 : PH → Nat → Int32 → Int32 → Option (Unit × PH)} {h hz : PH} {r : Unit} {ce sl mc ms : Nat} {v0 : Nat} {v1 : Int32} {v2 : Int32} (hc : Cx M X RX10 cX10_goes) (hr : Rx M 136 7890 mc ms 4) (he : Ex M X none "goes" none hz mc ms) (hm : ce ≤ mc) (hs : sl ≤ ms) (ih4 : ∀ (h : PH) (v0 : Nat) (v1 : Int32) (v2 : Int32), self4 h v0 v1 v2 = some (r, hz) → GG M X h ce sl 6 [(0, .ref (X.1 + v0)), (1, .int v1), (2, .int v2)] []) (hf : b_X10_goes_60 F self4 h v0 v1 v2 = some (r, hz)) : GG M X h ce sl 60 [(0, .ref (X.1 + v0)), (1, .int v1), (2, .int v2)] [] := by
  unfold b_X10_goes_60 at hf
  refine r_iconst (0 : Int32) hc (dc_at dX10_goes 38 rfl) (by decide) ?_
  refine r_istore_n [(3, .int ((0 : Int32))), (0, .ref (X.1 + v0)), (1, .int v1), (2, .int v2)] hc hr (dc_at dX10_goes 39 rfl) (by decide) rfl ?_
  exact gg_sub [1, 2, 3, 0] rfl (tl_X10_goes_62 hc hr he hm hs ih4 F _ _ _ _ _ hf)
def b_X10_goes_6 (F : Nat) (self4 : PH → Nat → Int32 → Int32 → Option (Unit × PH)) (h : PH) (v0 : Nat) (v1 : Int32) (v2 : Int32) : Option (Unit × PH) := (gI 10 33 h v0).bind fun x1 => (if x1 ≤ v2 then (some ((), h)) else (if v1 = 0 then (b_X10_goes_60 F self4 h v0 v1 v2) else ((gR 10 31 h v0).bind fun a2 => ((aI 0 h a2 v2).bind fun x3 => ((gR 10 32 h v0).bind fun a4 => ((aI 0 h a4 v2).bind fun x5 => (cO 10 h v0 ((m_X10_metAt F h v0 (Int32.toInt64 x3) (Int32.toInt64 x5)).bind fun x6 => (if x6 = (-1 : Int32) then ((gR 10 31 h v0).bind fun a7 => ((aI 0 h a7 v2).bind fun x8 => ((gR 10 32 h v0).bind fun a9 => ((aI 0 h a9 v2).bind fun x10 => (cO 10 h v0 (bind2 (m_X10_meets F h v0 (Int32.toInt64 x8) (Int32.toInt64 x10) (-1 : Int32) (-1 : Int32)) fun _ h12 => (b_X10_goes_60 F self4 h12 v0 v1 v2))))))) else (b_X10_goes_60 F self4 h v0 v1 v2))))))))))
set_option maxRecDepth 20000 in
theorem tb_X10_goes_6 {M : MV} {X : XT} {F : Nat} {self4 : PH → Nat → Int32 → Int32 → Option (Unit × PH)} {h hz : PH} {r : Unit} {ce sl mc ms : Nat} {v0 : Nat} {v1 : Int32} {v2 : Int32} (hc : Cx M X RX10 cX10_goes) (hr : Rx M 136 7890 mc ms 4) (he : Ex M X none "goes" none hz mc ms) (hm : ce ≤ mc) (hs : sl ≤ ms) (ih4 : ∀ (h : PH) (v0 : Nat) (v1 : Int32) (v2 : Int32), self4 h v0 v1 v2 = some (r, hz) → GG M X h ce sl 6 [(0, .ref (X.1 + v0)), (1, .int v1), (2, .int v2)] []) (hf : b_X10_goes_6 F self4 h v0 v1 v2 = some (r, hz)) : GG M X h ce sl 6 [(0, .ref (X.1 + v0)), (1, .int v1), (2, .int v2)] [] := by
  unfold b_X10_goes_6 at hf
  refine r_iload_n hc 2 (dc_at dX10_goes 4 rfl) rfl ?_
  refine r_aload_n hc 0 (dc_at dX10_goes 5 rfl) rfl ?_
  refine r_getI hc (dc_at dX10_goes 6 rfl) fl_X10_365 hf fun x1 hf => ?_
  refine r_icmp_ge (tgt := 136) hc (dc_at dX10_goes 7 rfl) (by decide) hf (fun hf => ?_) (fun hf => ?_)
  · exact r_vret hc he (hm) (hs) (dc_at dX10_goes 80 rfl) hf
  · refine r_iload_n hc 1 (dc_at dX10_goes 8 rfl) rfl ?_
    refine r_if_eq (tgt := 60) hc (dc_at dX10_goes 9 rfl) (by decide) hf (fun hf => ?_) (fun hf => ?_)
    · exact gg_sub [0, 1, 2] rfl (t_X10_goes_60 hc hr he hm hs ih4 hf)
    · refine r_aload_n hc 0 (dc_at dX10_goes 10 rfl) rfl ?_
      refine r_aload_n hc 0 (dc_at dX10_goes 11 rfl) rfl ?_
      refine r_getR hc (dc_at dX10_goes 12 rfl) fl_X10_58 hf fun a2 hf => ?_
      refine r_iload_n hc 2 (dc_at dX10_goes 13 rfl) rfl ?_
      refine r_iaload hc (dc_at dX10_goes 14 rfl) hf fun x3 hf => ?_
      refine r_i2l hc (dc_at dX10_goes 15 rfl) ?_
      refine r_aload_n hc 0 (dc_at dX10_goes 16 rfl) rfl ?_
      refine r_getR hc (dc_at dX10_goes 17 rfl) fl_X10_61 hf fun a4 hf => ?_
      refine r_iload_n hc 2 (dc_at dX10_goes 18 rfl) rfl ?_
      refine r_iaload hc (dc_at dX10_goes 19 rfl) hf fun x5 hf => ?_
      refine r_i2l hc (dc_at dX10_goes 20 rfl) ?_
      obtain ⟨ho, hf⟩ := cO_some hf
      refine ob hf fun x6 ex hf => ?_
      refine r_callVi (As := [.long ((Int32.toInt64 x3)), .long ((Int32.toInt64 x5))]) (ci := 10) hc hr (dc_at dX10_goes 21 rfl) ml_X10_355 mv_X10_metAt vi_X10_metAt rfl ho rfl (mt_X10_metAt ex) (by first | exact Nat.le_of_ble_eq_true rfl | omega) (by first | exact Nat.le_of_ble_eq_true rfl | omega) (by first | exact Nat.le_of_ble_eq_true rfl | omega) hm hs ?_
      refine r_iconst (-1 : Int32) hc (dc_at dX10_goes 22 rfl) (by decide) ?_
      refine r_icmp_ne (tgt := 60) hc (dc_at dX10_goes 23 rfl) (by decide) hf (fun hf => ?_) (fun hf => ?_)
      · exact gg_sub [0, 1, 2] rfl (t_X10_goes_60 hc hr he hm hs ih4 hf)
      · refine r_aload_n hc 0 (dc_at dX10_goes 24 rfl) rfl ?_
        refine r_aload_n hc 0 (dc_at dX10_goes 25 rfl) rfl ?_
        refine r_getR hc (dc_at dX10_goes 26 rfl) fl_X10_58 hf fun a7 hf => ?_
        refine r_iload_n hc 2 (dc_at dX10_goes 27 rfl) rfl ?_
        refine r_iaload hc (dc_at dX10_goes 28 rfl) hf fun x8 hf => ?_
        refine r_i2l hc (dc_at dX10_goes 29 rfl) ?_
        refine r_aload_n hc 0 (dc_at dX10_goes 30 rfl) rfl ?_
        refine r_getR hc (dc_at dX10_goes 31 rfl) fl_X10_61 hf fun a9 hf => ?_
        refine r_iload_n hc 2 (dc_at dX10_goes 32 rfl) rfl ?_
        refine r_iaload hc (dc_at dX10_goes 33 rfl) hf fun x10 hf => ?_
        refine r_i2l hc (dc_at dX10_goes 34 rfl) ?_
        refine r_iconst (-1 : Int32) hc (dc_at dX10_goes 35 rfl) (by decide) ?_
        refine r_iconst (-1 : Int32) hc (dc_at dX10_goes 36 rfl) (by decide) ?_
        obtain ⟨ho, hf⟩ := cO_some hf
        refine ob2 hf fun u h12 ex hf => ?_
        refine r_callVv (As := [.long ((Int32.toInt64 x8)), .long ((Int32.toInt64 x10)), .int ((-1 : Int32)), .int ((-1 : Int32))]) (ci := 10) hc hr (dc_at dX10_goes 37 rfl) ml_X10_351 mv_X10_meets vi_X10_meets rfl ho rfl (mt_X10_meets ex) (by first | exact Nat.le_of_ble_eq_true rfl | omega) (by first | exact Nat.le_of_ble_eq_true rfl | omega) (by first | exact Nat.le_of_ble_eq_true rfl | omega) hm hs ?_
        exact gg_sub [0, 1, 2] rfl (t_X10_goes_60 hc hr he hm hs ih4 hf)
def l_X10_goes_6 (F : Nat) : Nat → PH → Nat → Int32 → Int32 → Option (Unit × PH)
  | 0 => fun _ _ _ _ => none
  | n + 1 => fun h v0 v1 v2 => b_X10_goes_6 F (l_X10_goes_6 F n) h v0 v1 v2
theorem tl_X10_goes_6 {M : MV} {X : XT} {F : Nat} {hz : PH} {r : Unit} {ce sl mc ms : Nat} (hc : Cx M X RX10 cX10_goes) (hr : Rx M 136 7890 mc ms 4) (he : Ex M X none "goes" none hz mc ms) (hm : ce ≤ mc) (hs : sl ≤ ms) (n : Nat) : ∀ (h : PH) (v0 : Nat) (v1 : Int32) (v2 : Int32), l_X10_goes_6 F n h v0 v1 v2 = some (r, hz) → GG M X h ce sl 6 [(0, .ref (X.1 + v0)), (1, .int v1), (2, .int v2)] [] := by
  induction n with
  | zero => intro h v0 v1 v2 hf; cases hf
  | succ n ih => intro h v0 v1 v2 hf; exact tb_X10_goes_6 (F := F) hc hr he hm hs  ih hf
def b_X10_goes_0 (F : Nat) (h : PH) (v0 : Nat) (v1 : Int32) : Option (Unit × PH) := cO 10 h v0 (bind2 (m_X10_forgets F h v0) fun _ h2 => (l_X10_goes_6 F F h2 v0 v1 (0 : Int32)))
set_option maxRecDepth 20000 in
theorem t_X10_goes_0 {M : MV} {X : XT} {F : Nat} {h hz : PH} {r : Unit} {ce sl mc ms : Nat} {v0 : Nat} {v1 : Int32} (hc : Cx M X RX10 cX10_goes) (hr : Rx M 136 7890 mc ms 4) (he : Ex M X none "goes" none hz mc ms) (hm : ce ≤ mc) (hs : sl ≤ ms) (hf : b_X10_goes_0 F h v0 v1 = some (r, hz)) : GG M X h ce sl 0 [(0, .ref (X.1 + v0)), (1, .int v1)] [] := by
  unfold b_X10_goes_0 at hf
  refine r_aload_n hc 0 (dc_at dX10_goes 0 rfl) rfl ?_
  obtain ⟨ho, hf⟩ := cO_some hf
  refine ob2 hf fun u h2 ex hf => ?_
  refine r_callVv (As := []) (ci := 10) hc hr (dc_at dX10_goes 1 rfl) ml_X10_348 mv_X10_forgets vi_X10_forgets rfl ho rfl (mt_X10_forgets ex) (by first | exact Nat.le_of_ble_eq_true rfl | omega) (by first | exact Nat.le_of_ble_eq_true rfl | omega) (by first | exact Nat.le_of_ble_eq_true rfl | omega) hm hs ?_
  refine r_iconst (0 : Int32) hc (dc_at dX10_goes 2 rfl) (by decide) ?_
  refine r_istore_n [(2, .int ((0 : Int32))), (0, .ref (X.1 + v0)), (1, .int v1)] hc hr (dc_at dX10_goes 3 rfl) (by decide) rfl ?_
  exact gg_sub [1, 2, 0] rfl (tl_X10_goes_6 hc hr he hm hs  F _ _ _ _ hf)
def m_X10_goes (F : Nat) (h : PH) (p0 : Nat) (p1 : Int32) : Option (Unit × PH) := b_X10_goes_0 F h p0 p1
theorem mt_X10_goes {l : Launch} {X : XT} {F : Nat} {h hz : PH} {p0 : Nat} {p1 : Int32} {r : Unit} (ex : m_X10_goes F h p0 p1 = some (r, hz)) : MT l X yX10_goes cX10_goes 4 none 136 7890 0 0 [.ref (X.1 + p0), .int p1] h none hz := MT.of (by decide) (Nat.le_of_ble_eq_true rfl) fun M hl hc hr he => by
  subst hl
  exact gg_sub [0, 1] rfl (t_X10_goes_0  hc hr he (Nat.zero_le _) (Nat.zero_le _) ex)
/-! FractionLiftModel.becomesMet()V -/
def lX10_becomesMetL : List (Nat × Instr × Nat × Nat) := [(0, .iconst 0, 1, 1), (1, .istore_n 1, 1, 2), (2, .iload_n 1, 1, 3), (3, .aload_n 0, 1, 4), (4, .getfield 336, 3, 7), (7, .if_icmp .ge 33, 3, 10), (10, .aload_n 0, 1, 11), (11, .getfield 58, 3, 14), (14, .iload_n 1, 1, 15), (15, .aload_n 0, 1, 16), (16, .getfield 40, 3, 19), (19, .iload_n 1, 1, 20), (20, .iaload, 1, 21), (21, .iastore, 1, 22), (22, .aload_n 0, 1, 23), (23, .getfield 61, 3, 26), (26, .iload_n 1, 1, 27), (27, .aload_n 0, 1, 28), (28, .getfield 43, 3, 31), (31, .iload_n 1, 1, 32), (32, .iaload, 1, 33), (33, .iastore, 1, 34), (34, .iinc 1 1, 3, 37), (37, .goto (-35), 3, 40), (40, .aload_n 0, 1, 41), (41, .aload_n 0, 1, 42), (42, .getfield 336, 3, 45), (45, .putfield 365, 3, 48), (48, .return_, 1, 49)]
set_option maxRecDepth 20000 in
theorem dX10_becomesMet : dcL cX10_becomesMet lX10_becomesMetL = true := by decide +kernel
def b_X10_becomesMet_2 (F : Nat) (self2 : PH → Nat → Int32 → Option (Unit × PH)) (h : PH) (v0 : Nat) (v1 : Int32) : Option (Unit × PH) := (gI 10 29 h v0).bind fun x1 => (if x1 ≤ v1 then ((gI 10 29 h v0).bind fun x2 => ((pV 10 33 (.int x2) h v0).bind fun h3 => (some ((), h3)))) else ((gR 10 31 h v0).bind fun a4 => ((gR 10 24 h v0).bind fun a5 => ((aI 0 h a5 v1).bind fun x6 => ((sI 0 h a4 v1 x6).bind fun h7 => ((gR 10 32 h7 v0).bind fun a8 => ((gR 10 25 h7 v0).bind fun a9 => ((aI 0 h7 a9 v1).bind fun x10 => ((sI 0 h7 a8 v1 x10).bind fun h11 => (bindv (v1 + (1)) fun x12 => (self2 h11 v0 x12)))))))))))
set_option maxRecDepth 20000 in
theorem tb_X10_becomesMet_2 {M : MV} {X : XT} {F : Nat} {self2 : PH → Nat → Int32 → Option (Unit × PH)} {h hz : PH} {r : Unit} {ce sl mc ms : Nat} {v0 : Nat} {v1 : Int32} (hc : Cx M X RX10 cX10_becomesMet) (hr : Rx M 1 60 mc ms 2) (he : Ex M X none "becomesMet" none hz mc ms) (hm : ce ≤ mc) (hs : sl ≤ ms) (ih2 : ∀ (h : PH) (v0 : Nat) (v1 : Int32), self2 h v0 v1 = some (r, hz) → GG M X h ce sl 2 [(0, .ref (X.1 + v0)), (1, .int v1)] []) (hf : b_X10_becomesMet_2 F self2 h v0 v1 = some (r, hz)) : GG M X h ce sl 2 [(0, .ref (X.1 + v0)), (1, .int v1)] [] := by
  unfold b_X10_becomesMet_2 at hf
  refine r_iload_n hc 1 (dc_at dX10_becomesMet 2 rfl) rfl ?_
  refine r_aload_n hc 0 (dc_at dX10_becomesMet 3 rfl) rfl ?_
  refine r_getI hc (dc_at dX10_becomesMet 4 rfl) fl_X10_336 hf fun x1 hf => ?_
  refine r_icmp_ge (tgt := 40) hc (dc_at dX10_becomesMet 5 rfl) (by decide) hf (fun hf => ?_) (fun hf => ?_)
  · refine r_aload_n hc 0 (dc_at dX10_becomesMet 24 rfl) rfl ?_
    refine r_aload_n hc 0 (dc_at dX10_becomesMet 25 rfl) rfl ?_
    refine r_getI hc (dc_at dX10_becomesMet 26 rfl) fl_X10_336 hf fun x2 hf => ?_
    refine r_putI hc he (dc_at dX10_becomesMet 27 rfl) fp_X10_365 (fun q => by cases q) hf fun h3 hf => ?_
    exact r_vret hc he (hm) (hs) (dc_at dX10_becomesMet 28 rfl) hf
  · refine r_aload_n hc 0 (dc_at dX10_becomesMet 6 rfl) rfl ?_
    refine r_getR hc (dc_at dX10_becomesMet 7 rfl) fl_X10_58 hf fun a4 hf => ?_
    refine r_iload_n hc 1 (dc_at dX10_becomesMet 8 rfl) rfl ?_
    refine r_aload_n hc 0 (dc_at dX10_becomesMet 9 rfl) rfl ?_
    refine r_getR hc (dc_at dX10_becomesMet 10 rfl) fl_X10_40 hf fun a5 hf => ?_
    refine r_iload_n hc 1 (dc_at dX10_becomesMet 11 rfl) rfl ?_
    refine r_iaload hc (dc_at dX10_becomesMet 12 rfl) hf fun x6 hf => ?_
    refine r_iastore hc (dc_at dX10_becomesMet 13 rfl) hf fun h7 hf => ?_
    refine r_aload_n hc 0 (dc_at dX10_becomesMet 14 rfl) rfl ?_
    refine r_getR hc (dc_at dX10_becomesMet 15 rfl) fl_X10_61 hf fun a8 hf => ?_
    refine r_iload_n hc 1 (dc_at dX10_becomesMet 16 rfl) rfl ?_
    refine r_aload_n hc 0 (dc_at dX10_becomesMet 17 rfl) rfl ?_
    refine r_getR hc (dc_at dX10_becomesMet 18 rfl) fl_X10_43 hf fun a9 hf => ?_
    refine r_iload_n hc 1 (dc_at dX10_becomesMet 19 rfl) rfl ?_
    refine r_iaload hc (dc_at dX10_becomesMet 20 rfl) hf fun x10 hf => ?_
    refine r_iastore hc (dc_at dX10_becomesMet 21 rfl) hf fun h11 hf => ?_
    refine obv hf fun x12 e_x12 hf => ?_
    refine r_iinc 1 [(1, .int x12), (0, .ref (X.1 + v0))] hc hr (dc_at dX10_becomesMet 22 rfl) rfl (by rw [e_x12]; rfl) (by decide) rfl ?_
    refine r_goto (tgt := 2) hc (dc_at dX10_becomesMet 23 rfl) (by decide) ?_
    exact gg_sub [1, 0] rfl (ih2 _ _ _ hf)
def l_X10_becomesMet_2 (F : Nat) : Nat → PH → Nat → Int32 → Option (Unit × PH)
  | 0 => fun _ _ _ => none
  | n + 1 => fun h v0 v1 => b_X10_becomesMet_2 F (l_X10_becomesMet_2 F n) h v0 v1
theorem tl_X10_becomesMet_2 {M : MV} {X : XT} {F : Nat} {hz : PH} {r : Unit} {ce sl mc ms : Nat} (hc : Cx M X RX10 cX10_becomesMet) (hr : Rx M 1 60 mc ms 2) (he : Ex M X none "becomesMet" none hz mc ms) (hm : ce ≤ mc) (hs : sl ≤ ms) (n : Nat) : ∀ (h : PH) (v0 : Nat) (v1 : Int32), l_X10_becomesMet_2 F n h v0 v1 = some (r, hz) → GG M X h ce sl 2 [(0, .ref (X.1 + v0)), (1, .int v1)] [] := by
  induction n with
  | zero => intro h v0 v1 hf; cases hf
  | succ n ih => intro h v0 v1 hf; exact tb_X10_becomesMet_2 (F := F) hc hr he hm hs  ih hf
def b_X10_becomesMet_0 (F : Nat) (h : PH) (v0 : Nat) : Option (Unit × PH) := l_X10_becomesMet_2 F F h v0 (0 : Int32)
set_option maxRecDepth 20000 in
theorem t_X10_becomesMet_0 {M : MV} {X : XT} {F : Nat} {h hz : PH} {r : Unit} {ce sl mc ms : Nat} {v0 : Nat} (hc : Cx M X RX10 cX10_becomesMet) (hr : Rx M 1 60 mc ms 2) (he : Ex M X none "becomesMet" none hz mc ms) (hm : ce ≤ mc) (hs : sl ≤ ms) (hf : b_X10_becomesMet_0 F h v0 = some (r, hz)) : GG M X h ce sl 0 [(0, .ref (X.1 + v0))] [] := by
  unfold b_X10_becomesMet_0 at hf
  refine r_iconst (0 : Int32) hc (dc_at dX10_becomesMet 0 rfl) (by decide) ?_
  refine r_istore_n [(1, .int ((0 : Int32))), (0, .ref (X.1 + v0))] hc hr (dc_at dX10_becomesMet 1 rfl) (by decide) rfl ?_
  exact gg_sub [1, 0] rfl (tl_X10_becomesMet_2 hc hr he hm hs  F _ _ _ hf)
def m_X10_becomesMet (F : Nat) (h : PH) (p0 : Nat) : Option (Unit × PH) := b_X10_becomesMet_0 F h p0
theorem mt_X10_becomesMet {l : Launch} {X : XT} {F : Nat} {h hz : PH} {p0 : Nat} {r : Unit} (ex : m_X10_becomesMet F h p0 = some (r, hz)) : MT l X yX10_becomesMet cX10_becomesMet 2 none 1 60 0 0 [.ref (X.1 + p0)] h none hz := MT.of (by decide) (Nat.le_of_ble_eq_true rfl) fun M hl hc hr he => by
  subst hl
  exact gg_sub [0] rfl (t_X10_becomesMet_0  hc hr he (Nat.zero_le _) (Nat.zero_le _) ex)
/-! FractionLiftModel.laysReach(I)V -/
def lX10_laysReachL : List (Nat × Instr × Nat × Nat) := [(0, .aload_n 0, 1, 1), (1, .aload_n 0, 1, 2), (2, .getfield 13, 3, 5), (5, .bipush 7, 2, 7), (7, .iaload, 1, 8), (8, .aload_n 0, 1, 9), (9, .getfield 13, 3, 12), (12, .bipush 8, 2, 14), (14, .iaload, 1, 15), (15, .invokevirtual 368, 3, 18), (18, .iconst 0, 1, 19), (19, .istore_n 2, 1, 20), (20, .iload_n 2, 1, 21), (21, .iload_n 1, 1, 22), (22, .if_icmp .ge 18, 3, 25), (25, .aload_n 0, 1, 26), (26, .iconst 0, 1, 27), (27, .invokevirtual 371, 3, 30), (30, .aload_n 0, 1, 31), (31, .invokevirtual 375, 3, 34), (34, .iinc 2 1, 3, 37), (37, .goto (-17), 3, 40), (40, .return_, 1, 41)]
set_option maxRecDepth 20000 in
theorem dX10_laysReach : dcL cX10_laysReach lX10_laysReachL = true := by decide +kernel
def b_X10_laysReach_20 (F : Nat) (self12 : PH → Nat → Int32 → Int32 → Option (Unit × PH)) (h : PH) (v0 : Nat) (v1 : Int32) (v2 : Int32) : Option (Unit × PH) := if v1 ≤ v2 then (some ((), h)) else (cO 10 h v0 (bind2 (m_X10_goes F h v0 (0 : Int32)) fun _ h2 => (cO 10 h2 v0 (bind2 (m_X10_becomesMet F h2 v0) fun _ h4 => (bindv (v2 + (1)) fun x5 => (self12 h4 v0 v1 x5))))))
set_option maxRecDepth 20000 in
theorem tb_X10_laysReach_20 {M : MV} {X : XT} {F : Nat} {self12 : PH → Nat → Int32 → Int32 → Option (Unit × PH)} {h hz : PH} {r : Unit} {ce sl mc ms : Nat} {v0 : Nat} {v1 : Int32} {v2 : Int32} (hc : Cx M X RX10 cX10_laysReach) (hr : Rx M 137 7948 mc ms 3) (he : Ex M X none "laysReach" none hz mc ms) (hm : ce ≤ mc) (hs : sl ≤ ms) (ih12 : ∀ (h : PH) (v0 : Nat) (v1 : Int32) (v2 : Int32), self12 h v0 v1 v2 = some (r, hz) → GG M X h ce sl 20 [(0, .ref (X.1 + v0)), (1, .int v1), (2, .int v2)] []) (hf : b_X10_laysReach_20 F self12 h v0 v1 v2 = some (r, hz)) : GG M X h ce sl 20 [(0, .ref (X.1 + v0)), (1, .int v1), (2, .int v2)] [] := by
  unfold b_X10_laysReach_20 at hf
  refine r_iload_n hc 2 (dc_at dX10_laysReach 12 rfl) rfl ?_
  refine r_iload_n hc 1 (dc_at dX10_laysReach 13 rfl) rfl ?_
  refine r_icmp_ge (tgt := 40) hc (dc_at dX10_laysReach 14 rfl) (by decide) hf (fun hf => ?_) (fun hf => ?_)
  · exact r_vret hc he (hm) (hs) (dc_at dX10_laysReach 22 rfl) hf
  · refine r_aload_n hc 0 (dc_at dX10_laysReach 15 rfl) rfl ?_
    refine r_iconst (0 : Int32) hc (dc_at dX10_laysReach 16 rfl) (by decide) ?_
    obtain ⟨ho, hf⟩ := cO_some hf
    refine ob2 hf fun u h2 ex hf => ?_
    refine r_callVv (As := [.int ((0 : Int32))]) (ci := 10) hc hr (dc_at dX10_laysReach 17 rfl) ml_X10_371 mv_X10_goes vi_X10_goes rfl ho rfl (mt_X10_goes ex) (by first | exact Nat.le_of_ble_eq_true rfl | omega) (by first | exact Nat.le_of_ble_eq_true rfl | omega) (by first | exact Nat.le_of_ble_eq_true rfl | omega) hm hs ?_
    refine r_aload_n hc 0 (dc_at dX10_laysReach 18 rfl) rfl ?_
    obtain ⟨ho, hf⟩ := cO_some hf
    refine ob2 hf fun u h4 ex hf => ?_
    refine r_callVv (As := []) (ci := 10) hc hr (dc_at dX10_laysReach 19 rfl) ml_X10_375 mv_X10_becomesMet vi_X10_becomesMet rfl ho rfl (mt_X10_becomesMet ex) (by first | exact Nat.le_of_ble_eq_true rfl | omega) (by first | exact Nat.le_of_ble_eq_true rfl | omega) (by first | exact Nat.le_of_ble_eq_true rfl | omega) hm hs ?_
    refine obv hf fun x5 e_x5 hf => ?_
    refine r_iinc 2 [(2, .int x5), (0, .ref (X.1 + v0)), (1, .int v1)] hc hr (dc_at dX10_laysReach 20 rfl) rfl (by rw [e_x5]; rfl) (by decide) rfl ?_
    refine r_goto (tgt := 20) hc (dc_at dX10_laysReach 21 rfl) (by decide) ?_
    exact gg_sub [1, 2, 0] rfl (ih12 _ _ _ _ hf)
def l_X10_laysReach_20 (F : Nat) : Nat → PH → Nat → Int32 → Int32 → Option (Unit × PH)
  | 0 => fun _ _ _ _ => none
  | n + 1 => fun h v0 v1 v2 => b_X10_laysReach_20 F (l_X10_laysReach_20 F n) h v0 v1 v2
theorem tl_X10_laysReach_20 {M : MV} {X : XT} {F : Nat} {hz : PH} {r : Unit} {ce sl mc ms : Nat} (hc : Cx M X RX10 cX10_laysReach) (hr : Rx M 137 7948 mc ms 3) (he : Ex M X none "laysReach" none hz mc ms) (hm : ce ≤ mc) (hs : sl ≤ ms) (n : Nat) : ∀ (h : PH) (v0 : Nat) (v1 : Int32) (v2 : Int32), l_X10_laysReach_20 F n h v0 v1 v2 = some (r, hz) → GG M X h ce sl 20 [(0, .ref (X.1 + v0)), (1, .int v1), (2, .int v2)] [] := by
  induction n with
  | zero => intro h v0 v1 v2 hf; cases hf
  | succ n ih => intro h v0 v1 v2 hf; exact tb_X10_laysReach_20 (F := F) hc hr he hm hs  ih hf
def b_X10_laysReach_0 (F : Nat) (h : PH) (v0 : Nat) (v1 : Int32) : Option (Unit × PH) := (gR 10 1 h v0).bind fun a1 => ((aI 0 h a1 (7 : Int32)).bind fun x2 => ((gR 10 1 h v0).bind fun a3 => ((aI 0 h a3 (8 : Int32)).bind fun x4 => (cO 10 h v0 (bind2 (m_X10_begins h v0 x2 x4) fun _ h6 => (l_X10_laysReach_20 F F h6 v0 v1 (0 : Int32)))))))
set_option maxRecDepth 20000 in
theorem t_X10_laysReach_0 {M : MV} {X : XT} {F : Nat} {h hz : PH} {r : Unit} {ce sl mc ms : Nat} {v0 : Nat} {v1 : Int32} (hc : Cx M X RX10 cX10_laysReach) (hr : Rx M 137 7948 mc ms 3) (he : Ex M X none "laysReach" none hz mc ms) (hm : ce ≤ mc) (hs : sl ≤ ms) (hf : b_X10_laysReach_0 F h v0 v1 = some (r, hz)) : GG M X h ce sl 0 [(0, .ref (X.1 + v0)), (1, .int v1)] [] := by
  unfold b_X10_laysReach_0 at hf
  refine r_aload_n hc 0 (dc_at dX10_laysReach 0 rfl) rfl ?_
  refine r_aload_n hc 0 (dc_at dX10_laysReach 1 rfl) rfl ?_
  refine r_getR hc (dc_at dX10_laysReach 2 rfl) fl_X10_13 hf fun a1 hf => ?_
  refine r_bipush (7 : Int32) hc (dc_at dX10_laysReach 3 rfl) (by decide) ?_
  refine r_iaload hc (dc_at dX10_laysReach 4 rfl) hf fun x2 hf => ?_
  refine r_aload_n hc 0 (dc_at dX10_laysReach 5 rfl) rfl ?_
  refine r_getR hc (dc_at dX10_laysReach 6 rfl) fl_X10_13 hf fun a3 hf => ?_
  refine r_bipush (8 : Int32) hc (dc_at dX10_laysReach 7 rfl) (by decide) ?_
  refine r_iaload hc (dc_at dX10_laysReach 8 rfl) hf fun x4 hf => ?_
  obtain ⟨ho, hf⟩ := cO_some hf
  refine ob2 hf fun u h6 ex hf => ?_
  refine r_callVv (As := [.int x2, .int x4]) (ci := 10) hc hr (dc_at dX10_laysReach 9 rfl) ml_X10_368 mv_X10_begins vi_X10_begins rfl ho rfl (mt_X10_begins ex) (by first | exact Nat.le_of_ble_eq_true rfl | omega) (by first | exact Nat.le_of_ble_eq_true rfl | omega) (by first | exact Nat.le_of_ble_eq_true rfl | omega) hm hs ?_
  refine r_iconst (0 : Int32) hc (dc_at dX10_laysReach 10 rfl) (by decide) ?_
  refine r_istore_n [(2, .int ((0 : Int32))), (0, .ref (X.1 + v0)), (1, .int v1)] hc hr (dc_at dX10_laysReach 11 rfl) (by decide) rfl ?_
  exact gg_sub [1, 2, 0] rfl (tl_X10_laysReach_20 hc hr he hm hs  F _ _ _ _ hf)
def m_X10_laysReach (F : Nat) (h : PH) (p0 : Nat) (p1 : Int32) : Option (Unit × PH) := b_X10_laysReach_0 F h p0 p1
theorem mt_X10_laysReach {l : Launch} {X : XT} {F : Nat} {h hz : PH} {p0 : Nat} {p1 : Int32} {r : Unit} (ex : m_X10_laysReach F h p0 p1 = some (r, hz)) : MT l X yX10_laysReach cX10_laysReach 3 none 137 7948 0 0 [.ref (X.1 + p0), .int p1] h none hz := MT.of (by decide) (Nat.le_of_ble_eq_true rfl) fun M hl hc hr he => by
  subst hl
  exact gg_sub [0, 1] rfl (t_X10_laysReach_0  hc hr he (Nat.zero_le _) (Nat.zero_le _) ex)
/-! FractionLiftModel.reach(I)I -/
def lX10_reachL : List (Nat × Instr × Nat × Nat) := [(0, .aload_n 0, 1, 1), (1, .iconst 0, 1, 2), (2, .putfield 1, 3, 5), (5, .iload_n 1, 1, 6), (6, .i2l, 1, 7), (7, .lconst 0, 1, 8), (8, .ldc2_w 378, 3, 11), (11, .invokestatic 172, 3, 14), (14, .ifCond .ne 6, 3, 17), (17, .bipush (-3), 2, 19), (19, .ireturn, 1, 20), (20, .aload_n 0, 1, 21), (21, .iload_n 1, 1, 22), (22, .invokevirtual 380, 3, 25), (25, .aload_n 0, 1, 26), (26, .getfield 365, 3, 29), (29, .ireturn, 1, 30)]
set_option maxRecDepth 20000 in
theorem dX10_reach : dcL cX10_reach lX10_reachL = true := by decide +kernel
def b_X10_reach_0 (F : Nat) (h : PH) (v0 : Nat) (v1 : Int32) : Option (Int32 × PH) := (pV 10 0 (.int (0 : Int32)) h v0).bind fun h1 => ((m_X10_within (Int32.toInt64 v1) (0 : Int64) (5 : Int64)).bind fun x2 => (if x2 = 0 then (some ((-3 : Int32), h1)) else (cO 10 h1 v0 (bind2 (m_X10_laysReach F h1 v0 v1) fun _ h4 => ((gI 10 33 h4 v0).bind fun x5 => (some (x5, h4)))))))
set_option maxRecDepth 20000 in
theorem t_X10_reach_0 {M : MV} {X : XT} {F : Nat} {h hz : PH} {r : Int32} {ce sl mc ms : Nat} {v0 : Nat} {v1 : Int32} (hc : Cx M X RX10 cX10_reach) (hr : Rx M 138 8006 mc ms 2) (he : Ex M X (some .int) "reach" (some (.int r)) hz mc ms) (hm : ce ≤ mc) (hs : sl ≤ ms) (hf : b_X10_reach_0 F h v0 v1 = some (r, hz)) : GG M X h ce sl 0 [(0, .ref (X.1 + v0)), (1, .int v1)] [] := by
  unfold b_X10_reach_0 at hf
  refine r_aload_n hc 0 (dc_at dX10_reach 0 rfl) rfl ?_
  refine r_iconst (0 : Int32) hc (dc_at dX10_reach 1 rfl) (by decide) ?_
  refine r_putI hc he (dc_at dX10_reach 2 rfl) fp_X10_1 (fun q => by cases q) hf fun h1 hf => ?_
  refine r_iload_n hc 1 (dc_at dX10_reach 3 rfl) rfl ?_
  refine r_i2l hc (dc_at dX10_reach 4 rfl) ?_
  refine r_lconst (0 : Int64) hc (dc_at dX10_reach 5 rfl) (by decide) ?_
  refine r_ldc2 hc (dc_at dX10_reach 6 rfl) cl2_X10_378 ?_
  refine ob hf fun x2 ex hf => ?_
  refine r_callSi (As := [.long ((Int32.toInt64 v1)), .long ((0 : Int64)), .long ((5 : Int64))]) hc hr (dc_at dX10_reach 7 rfl) ml_X10_172 mv_X10_within st_X10_within rfl (mt_X10_within ex) (by first | exact Nat.le_of_ble_eq_true rfl | omega) (by first | exact Nat.le_of_ble_eq_true rfl | omega) (by first | exact Nat.le_of_ble_eq_true rfl | omega) hm hs ?_
  refine r_if_ne (tgt := 20) hc (dc_at dX10_reach 8 rfl) (by decide) hf (fun hf => ?_) (fun hf => ?_)
  · refine r_aload_n hc 0 (dc_at dX10_reach 11 rfl) rfl ?_
    refine r_iload_n hc 1 (dc_at dX10_reach 12 rfl) rfl ?_
    obtain ⟨ho, hf⟩ := cO_some hf
    refine ob2 hf fun u h4 ex hf => ?_
    refine r_callVv (As := [.int v1]) (ci := 10) hc hr (dc_at dX10_reach 13 rfl) ml_X10_380 mv_X10_laysReach vi_X10_laysReach rfl ho rfl (mt_X10_laysReach ex) (by first | exact Nat.le_of_ble_eq_true rfl | omega) (by first | exact Nat.le_of_ble_eq_true rfl | omega) (by first | exact Nat.le_of_ble_eq_true rfl | omega) hm hs ?_
    refine r_aload_n hc 0 (dc_at dX10_reach 14 rfl) rfl ?_
    refine r_getI hc (dc_at dX10_reach 15 rfl) fl_X10_365 hf fun x5 hf => ?_
    exact r_iret hc he (hm) (hs) (dc_at dX10_reach 16 rfl) hf
  · refine r_bipush (-3 : Int32) hc (dc_at dX10_reach 9 rfl) (by decide) ?_
    exact r_iret hc he (hm) (hs) (dc_at dX10_reach 10 rfl) hf
def m_X10_reach (F : Nat) (h : PH) (p0 : Nat) (p1 : Int32) : Option (Int32 × PH) := b_X10_reach_0 F h p0 p1
theorem mt_X10_reach {l : Launch} {X : XT} {F : Nat} {h hz : PH} {p0 : Nat} {p1 : Int32} {r : Int32} (ex : m_X10_reach F h p0 p1 = some (r, hz)) : MT l X yX10_reach cX10_reach 2 (some .int) 138 8006 0 0 [.ref (X.1 + p0), .int p1] h (some (.int r)) hz := MT.of (by decide) (Nat.le_of_ble_eq_true rfl) fun M hl hc hr he => by
  subst hl
  exact gg_sub [0, 1] rfl (t_X10_reach_0  hc hr he (Nat.zero_le _) (Nat.zero_le _) ex)
/-! FractionLiftModel.highest(II)I -/
def lX10_highestL : List (Nat × Instr × Nat × Nat) := [(0, .aload_n 0, 1, 1), (1, .iconst 0, 1, 2), (2, .putfield 1, 3, 5), (5, .iload_n 2, 1, 6), (6, .i2l, 1, 7), (7, .lconst 0, 1, 8), (8, .lconst 1, 1, 9), (9, .invokestatic 172, 3, 12), (12, .ifCond .ne 6, 3, 15), (15, .bipush (-2), 2, 17), (17, .ireturn, 1, 18), (18, .iload_n 1, 1, 19), (19, .i2l, 1, 20), (20, .lconst 0, 1, 21), (21, .ldc2_w 378, 3, 24), (24, .invokestatic 172, 3, 27), (27, .ifCond .ne 6, 3, 30), (30, .bipush (-3), 2, 32), (32, .ireturn, 1, 33), (33, .aload_n 0, 1, 34), (34, .iload_n 1, 1, 35), (35, .invokevirtual 380, 3, 38), (38, .iconst (-1), 1, 39), (39, .istore_n 3, 1, 40), (40, .iconst 0, 1, 41), (41, .istore 4, 2, 43), (43, .iload 4, 2, 45), (45, .aload_n 0, 1, 46), (46, .getfield 365, 3, 49), (49, .if_icmp .ge 53, 3, 52), (52, .iload_n 3, 1, 53), (53, .iconst (-1), 1, 54), (54, .if_icmp .eq 39, 3, 57), (57, .aload_n 0, 1, 58), (58, .getfield 58, 3, 61), (61, .iload 4, 2, 63), (63, .iaload, 1, 64), (64, .i2l, 1, 65), (65, .aload_n 0, 1, 66), (66, .getfield 61, 3, 69), (69, .iload 4, 2, 71), (71, .iaload, 1, 72), (72, .i2l, 1, 73), (73, .aload_n 0, 1, 74), (74, .getfield 58, 3, 77), (77, .iload_n 3, 1, 78), (78, .iaload, 1, 79), (79, .i2l, 1, 80), (80, .aload_n 0, 1, 81), (81, .getfield 61, 3, 84), (84, .iload_n 3, 1, 85), (85, .iaload, 1, 86), (86, .i2l, 1, 87), (87, .invokestatic 243, 3, 90), (90, .ifCond .le 6, 3, 93), (93, .iload 4, 2, 95), (95, .istore_n 3, 1, 96), (96, .iinc 4 1, 3, 99), (99, .goto (-56), 3, 102), (102, .iload_n 3, 1, 103), (103, .iconst (-1), 1, 104), (104, .if_icmp .ne 7, 3, 107), (107, .iconst (-1), 1, 108), (108, .goto 22, 3, 111), (111, .iload_n 2, 1, 112), (112, .ifCond .ne 12, 3, 115), (115, .aload_n 0, 1, 116), (116, .getfield 58, 3, 119), (119, .iload_n 3, 1, 120), (120, .iaload, 1, 121), (121, .goto 9, 3, 124), (124, .aload_n 0, 1, 125), (125, .getfield 61, 3, 128), (128, .iload_n 3, 1, 129), (129, .iaload, 1, 130), (130, .ireturn, 1, 131)]
set_option maxRecDepth 20000 in
theorem dX10_highest : dcL cX10_highest lX10_highestL = true := by decide +kernel
def b_X10_highest_96 (F : Nat) (self26 : PH → Nat → Int32 → Int32 → Int32 → Option (Int32 × PH)) (h : PH) (v0 : Nat) (v2 : Int32) (v3 : Int32) (v4 : Int32) : Option (Int32 × PH) := bindv (v4 + (1)) fun x1 => (self26 h v0 v2 v3 x1)
set_option maxRecDepth 20000 in
theorem t_X10_highest_96 {M : MV} {X : XT} {F : Nat} {self26 : PH → Nat → Int32 → Int32 → Int32 → Option (Int32 × PH)} {h hz : PH} {r : Int32} {ce sl mc ms : Nat} {v0 : Nat} {v2 : Int32} {v3 : Int32} {v4 : Int32} (hc : Cx M X RX10 cX10_highest) (hr : Rx M 138 8006 mc ms 5) (he : Ex M X (some .int) "highest" (some (.int r)) hz mc ms) (hm : ce ≤ mc) (hs : sl ≤ ms) (ih26 : ∀ (h : PH) (v0 : Nat) (v2 : Int32) (v3 : Int32) (v4 : Int32), self26 h v0 v2 v3 v4 = some (r, hz) → GG M X h ce sl 43 [(0, .ref (X.1 + v0)), (2, .int v2), (3, .int v3), (4, .int v4)] []) (hf : b_X10_highest_96 F self26 h v0 v2 v3 v4 = some (r, hz)) : GG M X h ce sl 96 [(0, .ref (X.1 + v0)), (2, .int v2), (3, .int v3), (4, .int v4)] [] := by
  unfold b_X10_highest_96 at hf
  refine obv hf fun x1 e_x1 hf => ?_
  refine r_iinc 3 [(4, .int x1), (0, .ref (X.1 + v0)), (2, .int v2), (3, .int v3)] hc hr (dc_at dX10_highest 57 rfl) rfl (by rw [e_x1]; rfl) (by decide) rfl ?_
  refine r_goto (tgt := 43) hc (dc_at dX10_highest 58 rfl) (by decide) ?_
  exact gg_sub [1, 2, 3, 0] rfl (ih26 _ _ _ _ _ hf)
def b_X10_highest_93 (F : Nat) (self26 : PH → Nat → Int32 → Int32 → Int32 → Option (Int32 × PH)) (h : PH) (v0 : Nat) (v2 : Int32) (v4 : Int32) : Option (Int32 × PH) := b_X10_highest_96 F self26 h v0 v2 v4 v4
set_option maxRecDepth 20000 in
theorem t_X10_highest_93 {M : MV} {X : XT} {F : Nat} {self26 : PH → Nat → Int32 → Int32 → Int32 → Option (Int32 × PH)} {h hz : PH} {r : Int32} {ce sl mc ms : Nat} {v0 : Nat} {v2 : Int32} {v4 : Int32} (hc : Cx M X RX10 cX10_highest) (hr : Rx M 138 8006 mc ms 5) (he : Ex M X (some .int) "highest" (some (.int r)) hz mc ms) (hm : ce ≤ mc) (hs : sl ≤ ms) (ih26 : ∀ (h : PH) (v0 : Nat) (v2 : Int32) (v3 : Int32) (v4 : Int32), self26 h v0 v2 v3 v4 = some (r, hz) → GG M X h ce sl 43 [(0, .ref (X.1 + v0)), (2, .int v2), (3, .int v3), (4, .int v4)] []) (hf : b_X10_highest_93 F self26 h v0 v2 v4 = some (r, hz)) : GG M X h ce sl 93 [(0, .ref (X.1 + v0)), (2, .int v2), (4, .int v4)] [] := by
  unfold b_X10_highest_93 at hf
  refine r_iload hc 2 (dc_at dX10_highest 55 rfl) rfl ?_
  refine r_istore_n [(3, .int v4), (0, .ref (X.1 + v0)), (2, .int v2), (4, .int v4)] hc hr (dc_at dX10_highest 56 rfl) (by decide) rfl ?_
  exact gg_sub [1, 2, 0, 3] rfl (t_X10_highest_96 hc hr he hm hs ih26 hf)
def b_X10_highest_43 (F : Nat) (self26 : PH → Nat → Int32 → Int32 → Int32 → Option (Int32 × PH)) (h : PH) (v0 : Nat) (v2 : Int32) (v3 : Int32) (v4 : Int32) : Option (Int32 × PH) := (gI 10 33 h v0).bind fun x1 => (if x1 ≤ v4 then (if v3 = (-1 : Int32) then (some ((-1 : Int32), h)) else (if v2 = 0 then ((gR 10 31 h v0).bind fun a4 => ((aI 0 h a4 v3).bind fun x5 => (some (x5, h)))) else ((gR 10 32 h v0).bind fun a2 => ((aI 0 h a2 v3).bind fun x3 => (some (x3, h)))))) else (if v3 = (-1 : Int32) then (b_X10_highest_93 F self26 h v0 v2 v4) else ((gR 10 31 h v0).bind fun a6 => ((aI 0 h a6 v4).bind fun x7 => ((gR 10 32 h v0).bind fun a8 => ((aI 0 h a8 v4).bind fun x9 => ((gR 10 31 h v0).bind fun a10 => ((aI 0 h a10 v3).bind fun x11 => ((gR 10 32 h v0).bind fun a12 => ((aI 0 h a12 v3).bind fun x13 => ((m_X10_against (Int32.toInt64 x7) (Int32.toInt64 x9) (Int32.toInt64 x11) (Int32.toInt64 x13)).bind fun x14 => (if x14 ≤ 0 then (b_X10_highest_96 F self26 h v0 v2 v3 v4) else (b_X10_highest_93 F self26 h v0 v2 v4)))))))))))))
set_option maxRecDepth 20000 in
theorem tb_X10_highest_43 {M : MV} {X : XT} {F : Nat} {self26 : PH → Nat → Int32 → Int32 → Int32 → Option (Int32 × PH)} {h hz : PH} {r : Int32} {ce sl mc ms : Nat} {v0 : Nat} {v2 : Int32} {v3 : Int32} {v4 : Int32} (hc : Cx M X RX10 cX10_highest) (hr : Rx M 138 8006 mc ms 5) (he : Ex M X (some .int) "highest" (some (.int r)) hz mc ms) (hm : ce ≤ mc) (hs : sl ≤ ms) (ih26 : ∀ (h : PH) (v0 : Nat) (v2 : Int32) (v3 : Int32) (v4 : Int32), self26 h v0 v2 v3 v4 = some (r, hz) → GG M X h ce sl 43 [(0, .ref (X.1 + v0)), (2, .int v2), (3, .int v3), (4, .int v4)] []) (hf : b_X10_highest_43 F self26 h v0 v2 v3 v4 = some (r, hz)) : GG M X h ce sl 43 [(0, .ref (X.1 + v0)), (2, .int v2), (3, .int v3), (4, .int v4)] [] := by
  unfold b_X10_highest_43 at hf
  refine r_iload hc 3 (dc_at dX10_highest 26 rfl) rfl ?_
  refine r_aload_n hc 0 (dc_at dX10_highest 27 rfl) rfl ?_
  refine r_getI hc (dc_at dX10_highest 28 rfl) fl_X10_365 hf fun x1 hf => ?_
  refine r_icmp_ge (tgt := 102) hc (dc_at dX10_highest 29 rfl) (by decide) hf (fun hf => ?_) (fun hf => ?_)
  · refine r_iload_n hc 2 (dc_at dX10_highest 59 rfl) rfl ?_
    refine r_iconst (-1 : Int32) hc (dc_at dX10_highest 60 rfl) (by decide) ?_
    refine r_icmp_ne (tgt := 111) hc (dc_at dX10_highest 61 rfl) (by decide) hf (fun hf => ?_) (fun hf => ?_)
    · refine r_iload_n hc 1 (dc_at dX10_highest 64 rfl) rfl ?_
      refine r_if_ne (tgt := 124) hc (dc_at dX10_highest 65 rfl) (by decide) hf (fun hf => ?_) (fun hf => ?_)
      · refine r_aload_n hc 0 (dc_at dX10_highest 71 rfl) rfl ?_
        refine r_getR hc (dc_at dX10_highest 72 rfl) fl_X10_61 hf fun a2 hf => ?_
        refine r_iload_n hc 2 (dc_at dX10_highest 73 rfl) rfl ?_
        refine r_iaload hc (dc_at dX10_highest 74 rfl) hf fun x3 hf => ?_
        exact r_iret hc he (hm) (hs) (dc_at dX10_highest 75 rfl) hf
      · refine r_aload_n hc 0 (dc_at dX10_highest 66 rfl) rfl ?_
        refine r_getR hc (dc_at dX10_highest 67 rfl) fl_X10_58 hf fun a4 hf => ?_
        refine r_iload_n hc 2 (dc_at dX10_highest 68 rfl) rfl ?_
        refine r_iaload hc (dc_at dX10_highest 69 rfl) hf fun x5 hf => ?_
        refine r_goto (tgt := 130) hc (dc_at dX10_highest 70 rfl) (by decide) ?_
        exact r_iret hc he (hm) (hs) (dc_at dX10_highest 75 rfl) hf
    · refine r_iconst (-1 : Int32) hc (dc_at dX10_highest 62 rfl) (by decide) ?_
      refine r_goto (tgt := 130) hc (dc_at dX10_highest 63 rfl) (by decide) ?_
      exact r_iret hc he (hm) (hs) (dc_at dX10_highest 75 rfl) hf
  · refine r_iload_n hc 2 (dc_at dX10_highest 30 rfl) rfl ?_
    refine r_iconst (-1 : Int32) hc (dc_at dX10_highest 31 rfl) (by decide) ?_
    refine r_icmp_eq (tgt := 93) hc (dc_at dX10_highest 32 rfl) (by decide) hf (fun hf => ?_) (fun hf => ?_)
    · exact gg_sub [0, 1, 3] rfl (t_X10_highest_93 hc hr he hm hs ih26 hf)
    · refine r_aload_n hc 0 (dc_at dX10_highest 33 rfl) rfl ?_
      refine r_getR hc (dc_at dX10_highest 34 rfl) fl_X10_58 hf fun a6 hf => ?_
      refine r_iload hc 3 (dc_at dX10_highest 35 rfl) rfl ?_
      refine r_iaload hc (dc_at dX10_highest 36 rfl) hf fun x7 hf => ?_
      refine r_i2l hc (dc_at dX10_highest 37 rfl) ?_
      refine r_aload_n hc 0 (dc_at dX10_highest 38 rfl) rfl ?_
      refine r_getR hc (dc_at dX10_highest 39 rfl) fl_X10_61 hf fun a8 hf => ?_
      refine r_iload hc 3 (dc_at dX10_highest 40 rfl) rfl ?_
      refine r_iaload hc (dc_at dX10_highest 41 rfl) hf fun x9 hf => ?_
      refine r_i2l hc (dc_at dX10_highest 42 rfl) ?_
      refine r_aload_n hc 0 (dc_at dX10_highest 43 rfl) rfl ?_
      refine r_getR hc (dc_at dX10_highest 44 rfl) fl_X10_58 hf fun a10 hf => ?_
      refine r_iload_n hc 2 (dc_at dX10_highest 45 rfl) rfl ?_
      refine r_iaload hc (dc_at dX10_highest 46 rfl) hf fun x11 hf => ?_
      refine r_i2l hc (dc_at dX10_highest 47 rfl) ?_
      refine r_aload_n hc 0 (dc_at dX10_highest 48 rfl) rfl ?_
      refine r_getR hc (dc_at dX10_highest 49 rfl) fl_X10_61 hf fun a12 hf => ?_
      refine r_iload_n hc 2 (dc_at dX10_highest 50 rfl) rfl ?_
      refine r_iaload hc (dc_at dX10_highest 51 rfl) hf fun x13 hf => ?_
      refine r_i2l hc (dc_at dX10_highest 52 rfl) ?_
      refine ob hf fun x14 ex hf => ?_
      refine r_callSi (As := [.long ((Int32.toInt64 x7)), .long ((Int32.toInt64 x9)), .long ((Int32.toInt64 x11)), .long ((Int32.toInt64 x13))]) hc hr (dc_at dX10_highest 53 rfl) ml_X10_243 mv_X10_against st_X10_against rfl (mt_X10_against ex) (by first | exact Nat.le_of_ble_eq_true rfl | omega) (by first | exact Nat.le_of_ble_eq_true rfl | omega) (by first | exact Nat.le_of_ble_eq_true rfl | omega) hm hs ?_
      refine r_if_le (tgt := 96) hc (dc_at dX10_highest 54 rfl) (by decide) hf (fun hf => ?_) (fun hf => ?_)
      · exact gg_sub [0, 1, 2, 3] rfl (t_X10_highest_96 hc hr he hm hs ih26 hf)
      · exact gg_sub [0, 1, 3] rfl (t_X10_highest_93 hc hr he hm hs ih26 hf)
def l_X10_highest_43 (F : Nat) : Nat → PH → Nat → Int32 → Int32 → Int32 → Option (Int32 × PH)
  | 0 => fun _ _ _ _ _ => none
  | n + 1 => fun h v0 v2 v3 v4 => b_X10_highest_43 F (l_X10_highest_43 F n) h v0 v2 v3 v4
theorem tl_X10_highest_43 {M : MV} {X : XT} {F : Nat} {hz : PH} {r : Int32} {ce sl mc ms : Nat} (hc : Cx M X RX10 cX10_highest) (hr : Rx M 138 8006 mc ms 5) (he : Ex M X (some .int) "highest" (some (.int r)) hz mc ms) (hm : ce ≤ mc) (hs : sl ≤ ms) (n : Nat) : ∀ (h : PH) (v0 : Nat) (v2 : Int32) (v3 : Int32) (v4 : Int32), l_X10_highest_43 F n h v0 v2 v3 v4 = some (r, hz) → GG M X h ce sl 43 [(0, .ref (X.1 + v0)), (2, .int v2), (3, .int v3), (4, .int v4)] [] := by
  induction n with
  | zero => intro h v0 v2 v3 v4 hf; cases hf
  | succ n ih => intro h v0 v2 v3 v4 hf; exact tb_X10_highest_43 (F := F) hc hr he hm hs  ih hf
def b_X10_highest_0 (F : Nat) (h : PH) (v0 : Nat) (v1 : Int32) (v2 : Int32) : Option (Int32 × PH) := (pV 10 0 (.int (0 : Int32)) h v0).bind fun h1 => ((m_X10_within (Int32.toInt64 v2) (0 : Int64) (1 : Int64)).bind fun x2 => (if x2 = 0 then (some ((-2 : Int32), h1)) else ((m_X10_within (Int32.toInt64 v1) (0 : Int64) (5 : Int64)).bind fun x3 => (if x3 = 0 then (some ((-3 : Int32), h1)) else (cO 10 h1 v0 (bind2 (m_X10_laysReach F h1 v0 v1) fun _ h5 => (l_X10_highest_43 F F h5 v0 v2 (-1 : Int32) (0 : Int32))))))))
set_option maxRecDepth 20000 in
theorem t_X10_highest_0 {M : MV} {X : XT} {F : Nat} {h hz : PH} {r : Int32} {ce sl mc ms : Nat} {v0 : Nat} {v1 : Int32} {v2 : Int32} (hc : Cx M X RX10 cX10_highest) (hr : Rx M 138 8006 mc ms 5) (he : Ex M X (some .int) "highest" (some (.int r)) hz mc ms) (hm : ce ≤ mc) (hs : sl ≤ ms) (hf : b_X10_highest_0 F h v0 v1 v2 = some (r, hz)) : GG M X h ce sl 0 [(0, .ref (X.1 + v0)), (1, .int v1), (2, .int v2)] [] := by
  unfold b_X10_highest_0 at hf
  refine r_aload_n hc 0 (dc_at dX10_highest 0 rfl) rfl ?_
  refine r_iconst (0 : Int32) hc (dc_at dX10_highest 1 rfl) (by decide) ?_
  refine r_putI hc he (dc_at dX10_highest 2 rfl) fp_X10_1 (fun q => by cases q) hf fun h1 hf => ?_
  refine r_iload_n hc 2 (dc_at dX10_highest 3 rfl) rfl ?_
  refine r_i2l hc (dc_at dX10_highest 4 rfl) ?_
  refine r_lconst (0 : Int64) hc (dc_at dX10_highest 5 rfl) (by decide) ?_
  refine r_lconst (1 : Int64) hc (dc_at dX10_highest 6 rfl) (by decide) ?_
  refine ob hf fun x2 ex hf => ?_
  refine r_callSi (As := [.long ((Int32.toInt64 v2)), .long ((0 : Int64)), .long ((1 : Int64))]) hc hr (dc_at dX10_highest 7 rfl) ml_X10_172 mv_X10_within st_X10_within rfl (mt_X10_within ex) (by first | exact Nat.le_of_ble_eq_true rfl | omega) (by first | exact Nat.le_of_ble_eq_true rfl | omega) (by first | exact Nat.le_of_ble_eq_true rfl | omega) hm hs ?_
  refine r_if_ne (tgt := 18) hc (dc_at dX10_highest 8 rfl) (by decide) hf (fun hf => ?_) (fun hf => ?_)
  · refine r_iload_n hc 1 (dc_at dX10_highest 11 rfl) rfl ?_
    refine r_i2l hc (dc_at dX10_highest 12 rfl) ?_
    refine r_lconst (0 : Int64) hc (dc_at dX10_highest 13 rfl) (by decide) ?_
    refine r_ldc2 hc (dc_at dX10_highest 14 rfl) cl2_X10_378 ?_
    refine ob hf fun x3 ex hf => ?_
    refine r_callSi (As := [.long ((Int32.toInt64 v1)), .long ((0 : Int64)), .long ((5 : Int64))]) hc hr (dc_at dX10_highest 15 rfl) ml_X10_172 mv_X10_within st_X10_within rfl (mt_X10_within ex) (by first | exact Nat.le_of_ble_eq_true rfl | omega) (by first | exact Nat.le_of_ble_eq_true rfl | omega) (by first | exact Nat.le_of_ble_eq_true rfl | omega) hm hs ?_
    refine r_if_ne (tgt := 33) hc (dc_at dX10_highest 16 rfl) (by decide) hf (fun hf => ?_) (fun hf => ?_)
    · refine r_aload_n hc 0 (dc_at dX10_highest 19 rfl) rfl ?_
      refine r_iload_n hc 1 (dc_at dX10_highest 20 rfl) rfl ?_
      obtain ⟨ho, hf⟩ := cO_some hf
      refine ob2 hf fun u h5 ex hf => ?_
      refine r_callVv (As := [.int v1]) (ci := 10) hc hr (dc_at dX10_highest 21 rfl) ml_X10_380 mv_X10_laysReach vi_X10_laysReach rfl ho rfl (mt_X10_laysReach ex) (by first | exact Nat.le_of_ble_eq_true rfl | omega) (by first | exact Nat.le_of_ble_eq_true rfl | omega) (by first | exact Nat.le_of_ble_eq_true rfl | omega) hm hs ?_
      refine r_iconst (-1 : Int32) hc (dc_at dX10_highest 22 rfl) (by decide) ?_
      refine r_istore_n [(3, .int ((-1 : Int32))), (0, .ref (X.1 + v0)), (1, .int v1), (2, .int v2)] hc hr (dc_at dX10_highest 23 rfl) (by decide) rfl ?_
      refine r_iconst (0 : Int32) hc (dc_at dX10_highest 24 rfl) (by decide) ?_
      refine r_istore [(4, .int ((0 : Int32))), (3, .int ((-1 : Int32))), (0, .ref (X.1 + v0)), (1, .int v1), (2, .int v2)] hc hr (dc_at dX10_highest 25 rfl) (by decide) rfl ?_
      exact gg_sub [2, 4, 1, 0] rfl (tl_X10_highest_43 hc hr he hm hs  F _ _ _ _ _ hf)
    · refine r_bipush (-3 : Int32) hc (dc_at dX10_highest 17 rfl) (by decide) ?_
      exact r_iret hc he (hm) (hs) (dc_at dX10_highest 18 rfl) hf
  · refine r_bipush (-2 : Int32) hc (dc_at dX10_highest 9 rfl) (by decide) ?_
    exact r_iret hc he (hm) (hs) (dc_at dX10_highest 10 rfl) hf
def m_X10_highest (F : Nat) (h : PH) (p0 : Nat) (p1 : Int32) (p2 : Int32) : Option (Int32 × PH) := b_X10_highest_0 F h p0 p1 p2
theorem mt_X10_highest {l : Launch} {X : XT} {F : Nat} {h hz : PH} {p0 : Nat} {p1 : Int32} {p2 : Int32} {r : Int32} (ex : m_X10_highest F h p0 p1 p2 = some (r, hz)) : MT l X yX10_highest cX10_highest 5 (some .int) 138 8006 0 0 [.ref (X.1 + p0), .int p1, .int p2] h (some (.int r)) hz := MT.of (by decide) (Nat.le_of_ble_eq_true rfl) fun M hl hc hr he => by
  subst hl
  exact gg_sub [0, 1, 2] rfl (t_X10_highest_0  hc hr he (Nat.zero_le _) (Nat.zero_le _) ex)
/-! FractionLiftModel.rowsOf(I)I -/
def lX10_rowsOfL : List (Nat × Instr × Nat × Nat) := [(0, .iconst 1, 1, 1), (1, .istore_n 2, 1, 2), (2, .iconst 0, 1, 3), (3, .istore_n 3, 1, 4), (4, .iload_n 3, 1, 5), (5, .iload_n 1, 1, 6), (6, .if_icmp .ge 18, 3, 9), (9, .iload_n 2, 1, 10), (10, .aload_n 0, 1, 11), (11, .getfield 13, 3, 14), (14, .iconst 2, 1, 15), (15, .iaload, 1, 16), (16, .imul, 1, 17), (17, .istore_n 2, 1, 18), (18, .iinc 3 1, 3, 21), (21, .goto (-17), 3, 24), (24, .iload_n 2, 1, 25), (25, .ireturn, 1, 26)]
set_option maxRecDepth 20000 in
theorem dX10_rowsOf : dcL cX10_rowsOf lX10_rowsOfL = true := by decide +kernel
def b_X10_rowsOf_4 (F : Nat) (self4 : Nat → Int32 → Int32 → Int32 → Option Int32) (h : PH) (v0 : Nat) (v1 : Int32) (v2 : Int32) (v3 : Int32) : Option Int32 := if v1 ≤ v3 then (some v2) else ((gR 10 1 h v0).bind fun a1 => ((aI 0 h a1 (2 : Int32)).bind fun x2 => (bindv (v2 * x2) fun x3 => (bindv (v3 + (1)) fun x4 => (self4 v0 v1 x3 x4)))))
set_option maxRecDepth 20000 in
theorem tb_X10_rowsOf_4 {M : MV} {X : XT} {F : Nat} {self4 : Nat → Int32 → Int32 → Int32 → Option Int32} {h : PH} {r : Int32} {ce sl mc ms : Nat} {v0 : Nat} {v1 : Int32} {v2 : Int32} {v3 : Int32} (hc : Cx M X RX10 cX10_rowsOf) (hr : Rx M 1 60 mc ms 4) (he : Ex M X (some .int) "rowsOf" (some (.int r)) h mc ms) (hm : ce ≤ mc) (hs : sl ≤ ms) (ih4 : ∀ (v0 : Nat) (v1 : Int32) (v2 : Int32) (v3 : Int32), self4 v0 v1 v2 v3 = some r → GG M X h ce sl 4 [(0, .ref (X.1 + v0)), (1, .int v1), (2, .int v2), (3, .int v3)] []) (hf : b_X10_rowsOf_4 F self4 h v0 v1 v2 v3 = some r) : GG M X h ce sl 4 [(0, .ref (X.1 + v0)), (1, .int v1), (2, .int v2), (3, .int v3)] [] := by
  unfold b_X10_rowsOf_4 at hf
  refine r_iload_n hc 3 (dc_at dX10_rowsOf 4 rfl) rfl ?_
  refine r_iload_n hc 1 (dc_at dX10_rowsOf 5 rfl) rfl ?_
  refine r_icmp_ge (tgt := 24) hc (dc_at dX10_rowsOf 6 rfl) (by decide) hf (fun hf => ?_) (fun hf => ?_)
  · refine r_iload_n hc 2 (dc_at dX10_rowsOf 16 rfl) rfl ?_
    exact r_iretP hc he (hm) (hs) (dc_at dX10_rowsOf 17 rfl) hf
  · refine r_iload_n hc 2 (dc_at dX10_rowsOf 7 rfl) rfl ?_
    refine r_aload_n hc 0 (dc_at dX10_rowsOf 8 rfl) rfl ?_
    refine r_getR hc (dc_at dX10_rowsOf 9 rfl) fl_X10_13 hf fun a1 hf => ?_
    refine r_iconst (2 : Int32) hc (dc_at dX10_rowsOf 10 rfl) (by decide) ?_
    refine r_iaload hc (dc_at dX10_rowsOf 11 rfl) hf fun x2 hf => ?_
    refine r_imul hc (dc_at dX10_rowsOf 12 rfl) ?_
    refine r_nm (mk := Value.int) hf fun x3 hf => ?_
    refine r_istore_n [(2, .int x3), (0, .ref (X.1 + v0)), (1, .int v1), (3, .int v3)] hc hr (dc_at dX10_rowsOf 13 rfl) (by decide) rfl ?_
    refine obv hf fun x4 e_x4 hf => ?_
    refine r_iinc 3 [(3, .int x4), (2, .int x3), (0, .ref (X.1 + v0)), (1, .int v1)] hc hr (dc_at dX10_rowsOf 14 rfl) rfl (by rw [e_x4]; rfl) (by decide) rfl ?_
    refine r_goto (tgt := 4) hc (dc_at dX10_rowsOf 15 rfl) (by decide) ?_
    exact gg_sub [2, 3, 1, 0] rfl (ih4 _ _ _ _ hf)
def l_X10_rowsOf_4 (F : Nat) (h : PH) : Nat → Nat → Int32 → Int32 → Int32 → Option Int32
  | 0 => fun _ _ _ _ => none
  | n + 1 => fun v0 v1 v2 v3 => b_X10_rowsOf_4 F (l_X10_rowsOf_4 F h n) h v0 v1 v2 v3
theorem tl_X10_rowsOf_4 {M : MV} {X : XT} {F : Nat} {h : PH} {r : Int32} {ce sl mc ms : Nat} (hc : Cx M X RX10 cX10_rowsOf) (hr : Rx M 1 60 mc ms 4) (he : Ex M X (some .int) "rowsOf" (some (.int r)) h mc ms) (hm : ce ≤ mc) (hs : sl ≤ ms) (n : Nat) : ∀ (v0 : Nat) (v1 : Int32) (v2 : Int32) (v3 : Int32), l_X10_rowsOf_4 F h n v0 v1 v2 v3 = some r → GG M X h ce sl 4 [(0, .ref (X.1 + v0)), (1, .int v1), (2, .int v2), (3, .int v3)] [] := by
  induction n with
  | zero => intro v0 v1 v2 v3 hf; cases hf
  | succ n ih => intro v0 v1 v2 v3 hf; exact tb_X10_rowsOf_4 (F := F) hc hr he hm hs  ih hf
def b_X10_rowsOf_0 (F : Nat) (h : PH) (v0 : Nat) (v1 : Int32) : Option Int32 := l_X10_rowsOf_4 F h F v0 v1 (1 : Int32) (0 : Int32)
set_option maxRecDepth 20000 in
theorem t_X10_rowsOf_0 {M : MV} {X : XT} {F : Nat} {h : PH} {r : Int32} {ce sl mc ms : Nat} {v0 : Nat} {v1 : Int32} (hc : Cx M X RX10 cX10_rowsOf) (hr : Rx M 1 60 mc ms 4) (he : Ex M X (some .int) "rowsOf" (some (.int r)) h mc ms) (hm : ce ≤ mc) (hs : sl ≤ ms) (hf : b_X10_rowsOf_0 F h v0 v1 = some r) : GG M X h ce sl 0 [(0, .ref (X.1 + v0)), (1, .int v1)] [] := by
  unfold b_X10_rowsOf_0 at hf
  refine r_iconst (1 : Int32) hc (dc_at dX10_rowsOf 0 rfl) (by decide) ?_
  refine r_istore_n [(2, .int ((1 : Int32))), (0, .ref (X.1 + v0)), (1, .int v1)] hc hr (dc_at dX10_rowsOf 1 rfl) (by decide) rfl ?_
  refine r_iconst (0 : Int32) hc (dc_at dX10_rowsOf 2 rfl) (by decide) ?_
  refine r_istore_n [(3, .int ((0 : Int32))), (2, .int ((1 : Int32))), (0, .ref (X.1 + v0)), (1, .int v1)] hc hr (dc_at dX10_rowsOf 3 rfl) (by decide) rfl ?_
  exact gg_sub [2, 3, 1, 0] rfl (tl_X10_rowsOf_4 hc hr he hm hs  F _ _ _ _ hf)
def m_X10_rowsOf (F : Nat) (h : PH) (p0 : Nat) (p1 : Int32) : Option Int32 := b_X10_rowsOf_0 F h p0 p1
theorem mt_X10_rowsOf {l : Launch} {X : XT} {F : Nat} {h : PH} {p0 : Nat} {p1 : Int32} {r : Int32} (ex : m_X10_rowsOf F h p0 p1 = some r) : MT l X yX10_rowsOf cX10_rowsOf 4 (some .int) 1 60 0 0 [.ref (X.1 + p0), .int p1] h (some (.int r)) h := MT.of (by decide) (Nat.le_of_ble_eq_true rfl) fun M hl hc hr he => by
  subst hl
  exact gg_sub [0, 1] rfl (t_X10_rowsOf_0  hc hr he (Nat.zero_le _) (Nat.zero_le _) ex)
/-! FractionLiftModel.digit(III)I -/
def lX10_digitL : List (Nat × Instr × Nat × Nat) := [(0, .iload_n 1, 1, 1), (1, .istore 4, 2, 3), (3, .iload_n 2, 1, 4), (4, .iconst 1, 1, 5), (5, .isub, 1, 6), (6, .istore 5, 2, 8), (8, .iload 5, 2, 10), (10, .iload_n 3, 1, 11), (11, .if_icmp .le 20, 3, 14), (14, .iload 4, 2, 16), (16, .aload_n 0, 1, 17), (17, .getfield 13, 3, 20), (20, .iconst 2, 1, 21), (21, .iaload, 1, 22), (22, .idiv, 1, 23), (23, .istore 4, 2, 25), (25, .iinc 5 (-1), 3, 28), (28, .goto (-20), 3, 31), (31, .iload 4, 2, 33), (33, .aload_n 0, 1, 34), (34, .getfield 13, 3, 37), (37, .iconst 2, 1, 38), (38, .iaload, 1, 39), (39, .irem, 1, 40), (40, .ireturn, 1, 41)]
set_option maxRecDepth 20000 in
theorem dX10_digit : dcL cX10_digit lX10_digitL = true := by decide +kernel
def b_X10_digit_8 (F : Nat) (self6 : Nat → Int32 → Int32 → Int32 → Option Int32) (h : PH) (v0 : Nat) (v3 : Int32) (v4 : Int32) (v5 : Int32) : Option Int32 := if v5 ≤ v3 then ((gR 10 1 h v0).bind fun a1 => ((aI 0 h a1 (2 : Int32)).bind fun x2 => (if x2 = 0 then none else (some (remI v4 x2))))) else ((gR 10 1 h v0).bind fun a3 => ((aI 0 h a3 (2 : Int32)).bind fun x4 => (if x4 = 0 then none else (bindv (v4 / x4) fun x5 => (bindv (v5 + (-1)) fun x6 => (self6 v0 v3 x5 x6))))))
set_option maxRecDepth 20000 in
theorem tb_X10_digit_8 {M : MV} {X : XT} {F : Nat} {self6 : Nat → Int32 → Int32 → Int32 → Option Int32} {h : PH} {r : Int32} {ce sl mc ms : Nat} {v0 : Nat} {v3 : Int32} {v4 : Int32} {v5 : Int32} (hc : Cx M X RX10 cX10_digit) (hr : Rx M 1 60 mc ms 6) (he : Ex M X (some .int) "digit" (some (.int r)) h mc ms) (hm : ce ≤ mc) (hs : sl ≤ ms) (ih6 : ∀ (v0 : Nat) (v3 : Int32) (v4 : Int32) (v5 : Int32), self6 v0 v3 v4 v5 = some r → GG M X h ce sl 8 [(0, .ref (X.1 + v0)), (3, .int v3), (4, .int v4), (5, .int v5)] []) (hf : b_X10_digit_8 F self6 h v0 v3 v4 v5 = some r) : GG M X h ce sl 8 [(0, .ref (X.1 + v0)), (3, .int v3), (4, .int v4), (5, .int v5)] [] := by
  unfold b_X10_digit_8 at hf
  refine r_iload hc 3 (dc_at dX10_digit 6 rfl) rfl ?_
  refine r_iload_n hc 1 (dc_at dX10_digit 7 rfl) rfl ?_
  refine r_icmp_le (tgt := 31) hc (dc_at dX10_digit 8 rfl) (by decide) hf (fun hf => ?_) (fun hf => ?_)
  · refine r_iload hc 2 (dc_at dX10_digit 18 rfl) rfl ?_
    refine r_aload_n hc 0 (dc_at dX10_digit 19 rfl) rfl ?_
    refine r_getR hc (dc_at dX10_digit 20 rfl) fl_X10_13 hf fun a1 hf => ?_
    refine r_iconst (2 : Int32) hc (dc_at dX10_digit 21 rfl) (by decide) ?_
    refine r_iaload hc (dc_at dX10_digit 22 rfl) hf fun x2 hf => ?_
    refine r_irem hc (dc_at dX10_digit 23 rfl) hf (fun hf => ?_)
    exact r_iretP hc he (hm) (hs) (dc_at dX10_digit 24 rfl) hf
  · refine r_iload hc 2 (dc_at dX10_digit 9 rfl) rfl ?_
    refine r_aload_n hc 0 (dc_at dX10_digit 10 rfl) rfl ?_
    refine r_getR hc (dc_at dX10_digit 11 rfl) fl_X10_13 hf fun a3 hf => ?_
    refine r_iconst (2 : Int32) hc (dc_at dX10_digit 12 rfl) (by decide) ?_
    refine r_iaload hc (dc_at dX10_digit 13 rfl) hf fun x4 hf => ?_
    refine r_idiv hc (dc_at dX10_digit 14 rfl) hf (fun hf => ?_)
    refine r_nm (mk := Value.int) hf fun x5 hf => ?_
    refine r_istore [(4, .int x5), (0, .ref (X.1 + v0)), (3, .int v3), (5, .int v5)] hc hr (dc_at dX10_digit 15 rfl) (by decide) rfl ?_
    refine obv hf fun x6 e_x6 hf => ?_
    refine r_iinc 3 [(5, .int x6), (4, .int x5), (0, .ref (X.1 + v0)), (3, .int v3)] hc hr (dc_at dX10_digit 16 rfl) rfl (by rw [e_x6]; rfl) (by decide) rfl ?_
    refine r_goto (tgt := 8) hc (dc_at dX10_digit 17 rfl) (by decide) ?_
    exact gg_sub [2, 3, 1, 0] rfl (ih6 _ _ _ _ hf)
def l_X10_digit_8 (F : Nat) (h : PH) : Nat → Nat → Int32 → Int32 → Int32 → Option Int32
  | 0 => fun _ _ _ _ => none
  | n + 1 => fun v0 v3 v4 v5 => b_X10_digit_8 F (l_X10_digit_8 F h n) h v0 v3 v4 v5
theorem tl_X10_digit_8 {M : MV} {X : XT} {F : Nat} {h : PH} {r : Int32} {ce sl mc ms : Nat} (hc : Cx M X RX10 cX10_digit) (hr : Rx M 1 60 mc ms 6) (he : Ex M X (some .int) "digit" (some (.int r)) h mc ms) (hm : ce ≤ mc) (hs : sl ≤ ms) (n : Nat) : ∀ (v0 : Nat) (v3 : Int32) (v4 : Int32) (v5 : Int32), l_X10_digit_8 F h n v0 v3 v4 v5 = some r → GG M X h ce sl 8 [(0, .ref (X.1 + v0)), (3, .int v3), (4, .int v4), (5, .int v5)] [] := by
  induction n with
  | zero => intro v0 v3 v4 v5 hf; cases hf
  | succ n ih => intro v0 v3 v4 v5 hf; exact tb_X10_digit_8 (F := F) hc hr he hm hs  ih hf
def b_X10_digit_0 (F : Nat) (h : PH) (v0 : Nat) (v1 : Int32) (v2 : Int32) (v3 : Int32) : Option Int32 := bindv ((v2 - (1 : Int32))) fun x1 => (l_X10_digit_8 F h F v0 v3 v1 x1)
set_option maxRecDepth 20000 in
theorem t_X10_digit_0 {M : MV} {X : XT} {F : Nat} {h : PH} {r : Int32} {ce sl mc ms : Nat} {v0 : Nat} {v1 : Int32} {v2 : Int32} {v3 : Int32} (hc : Cx M X RX10 cX10_digit) (hr : Rx M 1 60 mc ms 6) (he : Ex M X (some .int) "digit" (some (.int r)) h mc ms) (hm : ce ≤ mc) (hs : sl ≤ ms) (hf : b_X10_digit_0 F h v0 v1 v2 v3 = some r) : GG M X h ce sl 0 [(0, .ref (X.1 + v0)), (1, .int v1), (2, .int v2), (3, .int v3)] [] := by
  unfold b_X10_digit_0 at hf
  refine r_iload_n hc 1 (dc_at dX10_digit 0 rfl) rfl ?_
  refine r_istore [(4, .int v1), (0, .ref (X.1 + v0)), (1, .int v1), (2, .int v2), (3, .int v3)] hc hr (dc_at dX10_digit 1 rfl) (by decide) rfl ?_
  refine r_iload_n hc 3 (dc_at dX10_digit 2 rfl) rfl ?_
  refine r_iconst (1 : Int32) hc (dc_at dX10_digit 3 rfl) (by decide) ?_
  refine r_isub hc (dc_at dX10_digit 4 rfl) ?_
  refine r_nm (mk := Value.int) hf fun x1 hf => ?_
  refine r_istore [(5, .int x1), (4, .int v1), (0, .ref (X.1 + v0)), (1, .int v1), (2, .int v2), (3, .int v3)] hc hr (dc_at dX10_digit 5 rfl) (by decide) rfl ?_
  exact gg_sub [2, 5, 1, 0] rfl (tl_X10_digit_8 hc hr he hm hs  F _ _ _ _ hf)
def m_X10_digit (F : Nat) (h : PH) (p0 : Nat) (p1 : Int32) (p2 : Int32) (p3 : Int32) : Option Int32 := b_X10_digit_0 F h p0 p1 p2 p3
theorem mt_X10_digit {l : Launch} {X : XT} {F : Nat} {h : PH} {p0 : Nat} {p1 : Int32} {p2 : Int32} {p3 : Int32} {r : Int32} (ex : m_X10_digit F h p0 p1 p2 p3 = some r) : MT l X yX10_digit cX10_digit 6 (some .int) 1 60 0 0 [.ref (X.1 + p0), .int p1, .int p2, .int p3] h (some (.int r)) h := MT.of (by decide) (Nat.le_of_ble_eq_true rfl) fun M hl hc hr he => by
  subst hl
  exact gg_sub [0, 1, 2, 3] rfl (t_X10_digit_0  hc hr he (Nat.zero_le _) (Nat.zero_le _) ex)
/-! FractionLiftModel.leadsRow(II)Z -/
def lX10_leadsRowL : List (Nat × Instr × Nat × Nat) := [(0, .aload_n 0, 1, 1), (1, .getfield 13, 3, 4), (4, .bipush 7, 2, 6), (6, .iaload, 1, 7), (7, .i2l, 1, 8), (8, .lstore_n 3, 1, 9), (9, .aload_n 0, 1, 10), (10, .getfield 13, 3, 13), (13, .bipush 8, 2, 15), (15, .iaload, 1, 16), (16, .i2l, 1, 17), (17, .lstore 5, 2, 19), (19, .iconst 0, 1, 20), (20, .istore 7, 2, 22), (22, .iload 7, 2, 24), (24, .iload_n 2, 1, 25), (25, .if_icmp .ge 40, 3, 28), (28, .aload_n 0, 1, 29), (29, .aload_n 0, 1, 30), (30, .iload_n 1, 1, 31), (31, .iload_n 2, 1, 32), (32, .iload 7, 2, 34), (34, .invokevirtual 383, 3, 37), (37, .lload_n 3, 1, 38), (38, .lload 5, 2, 40), (40, .invokevirtual 275, 3, 43), (43, .ifCond .eq 5, 3, 46), (46, .iconst 0, 1, 47), (47, .ireturn, 1, 48), (48, .aload_n 0, 1, 49), (49, .getfield 180, 3, 52), (52, .lstore_n 3, 1, 53), (53, .aload_n 0, 1, 54), (54, .getfield 184, 3, 57), (57, .lstore 5, 2, 59), (59, .iinc 7 1, 3, 62), (62, .goto (-40), 3, 65), (65, .iconst 1, 1, 66), (66, .ireturn, 1, 67)]
set_option maxRecDepth 20000 in
theorem dX10_leadsRow : dcL cX10_leadsRow lX10_leadsRowL = true := by decide +kernel
def b_X10_leadsRow_22 (F : Nat) (self14 : PH → Nat → Int32 → Int32 → Int64 → Int64 → Int32 → Option (Int32 × PH)) (h : PH) (v0 : Nat) (v1 : Int32) (v2 : Int32) (v3 : Int64) (v5 : Int64) (v7 : Int32) : Option (Int32 × PH) := if v2 ≤ v7 then (rZ (1 : Int32) h) else (cO 10 h v0 ((m_X10_digit F h v0 v1 v2 v7).bind fun x1 => (cO 10 h v0 (bind2 (m_X10_leadsFrom F h v0 x1 v3 v5) fun x2 h3 => (if x2 = 0 then ((gL 10 15 h3 v0).bind fun x4 => ((gL 10 16 h3 v0).bind fun x5 => (bindv (v7 + (1)) fun x6 => (self14 h3 v0 v1 v2 x4 x5 x6)))) else (rZ (0 : Int32) h3))))))
set_option maxRecDepth 20000 in
theorem tb_X10_leadsRow_22 {M : MV} {X : XT} {F : Nat} {self14 : PH → Nat → Int32 → Int32 → Int64 → Int64 → Int32 → Option (Int32 × PH)} {h hz : PH} {r : Int32} {ce sl mc ms : Nat} {v0 : Nat} {v1 : Int32} {v2 : Int32} {v3 : Int64} {v5 : Int64} {v7 : Int32} (hc : Cx M X RX10 cX10_leadsRow) (hr : Rx M 136 7890 mc ms 8) (he : Ex M X (some .boolean) "leadsRow" (some (.int r)) hz mc ms) (hm : ce ≤ mc) (hs : sl ≤ ms) (ih14 : ∀ (h : PH) (v0 : Nat) (v1 : Int32) (v2 : Int32) (v3 : Int64) (v5 : Int64) (v7 : Int32), self14 h v0 v1 v2 v3 v5 v7 = some (r, hz) → GG M X h ce sl 22 [(0, .ref (X.1 + v0)), (1, .int v1), (2, .int v2), (3, .long v3), (5, .long v5), (7, .int v7)] []) (hf : b_X10_leadsRow_22 F self14 h v0 v1 v2 v3 v5 v7 = some (r, hz)) : GG M X h ce sl 22 [(0, .ref (X.1 + v0)), (1, .int v1), (2, .int v2), (3, .long v3), (5, .long v5), (7, .int v7)] [] := by
  unfold b_X10_leadsRow_22 at hf
  refine r_iload hc 5 (dc_at dX10_leadsRow 14 rfl) rfl ?_
  refine r_iload_n hc 2 (dc_at dX10_leadsRow 15 rfl) rfl ?_
  refine r_icmp_ge (tgt := 65) hc (dc_at dX10_leadsRow 16 rfl) (by decide) hf (fun hf => ?_) (fun hf => ?_)
  · refine r_iconst (1 : Int32) hc (dc_at dX10_leadsRow 37 rfl) (by decide) ?_
    exact r_zret hc he (hm) (hs) (dc_at dX10_leadsRow 38 rfl) hf
  · refine r_aload_n hc 0 (dc_at dX10_leadsRow 17 rfl) rfl ?_
    refine r_aload_n hc 0 (dc_at dX10_leadsRow 18 rfl) rfl ?_
    refine r_iload_n hc 1 (dc_at dX10_leadsRow 19 rfl) rfl ?_
    refine r_iload_n hc 2 (dc_at dX10_leadsRow 20 rfl) rfl ?_
    refine r_iload hc 5 (dc_at dX10_leadsRow 21 rfl) rfl ?_
    obtain ⟨ho, hf⟩ := cO_some hf
    refine ob hf fun x1 ex hf => ?_
    refine r_callVi (As := [.int v1, .int v2, .int v7]) (ci := 10) hc hr (dc_at dX10_leadsRow 22 rfl) ml_X10_383 mv_X10_digit vi_X10_digit rfl ho rfl (mt_X10_digit ex) (by first | exact Nat.le_of_ble_eq_true rfl | omega) (by first | exact Nat.le_of_ble_eq_true rfl | omega) (by first | exact Nat.le_of_ble_eq_true rfl | omega) hm hs ?_
    refine r_lload_n hc 3 (dc_at dX10_leadsRow 23 rfl) rfl ?_
    refine r_lload hc 4 (dc_at dX10_leadsRow 24 rfl) rfl ?_
    obtain ⟨ho, hf⟩ := cO_some hf
    refine ob2 hf fun x2 h3 ex hf => ?_
    refine r_callVi (As := [.int x1, .long v3, .long v5]) (ci := 10) hc hr (dc_at dX10_leadsRow 25 rfl) ml_X10_275 mv_X10_leadsFrom vi_X10_leadsFrom rfl ho rfl (mt_X10_leadsFrom ex) (by first | exact Nat.le_of_ble_eq_true rfl | omega) (by first | exact Nat.le_of_ble_eq_true rfl | omega) (by first | exact Nat.le_of_ble_eq_true rfl | omega) hm hs ?_
    refine r_if_eq (tgt := 48) hc (dc_at dX10_leadsRow 26 rfl) (by decide) hf (fun hf => ?_) (fun hf => ?_)
    · refine r_aload_n hc 0 (dc_at dX10_leadsRow 29 rfl) rfl ?_
      refine r_getL hc (dc_at dX10_leadsRow 30 rfl) fl_X10_180 hf fun x4 hf => ?_
      refine r_lstore_n [(3, .long x4), (0, .ref (X.1 + v0)), (1, .int v1), (2, .int v2), (5, .long v5), (7, .int v7)] hc hr (dc_at dX10_leadsRow 31 rfl) (by decide) rfl ?_
      refine r_aload_n hc 1 (dc_at dX10_leadsRow 32 rfl) rfl ?_
      refine r_getL hc (dc_at dX10_leadsRow 33 rfl) fl_X10_184 hf fun x5 hf => ?_
      refine r_lstore [(5, .long x5), (3, .long x4), (0, .ref (X.1 + v0)), (1, .int v1), (2, .int v2), (7, .int v7)] hc hr (dc_at dX10_leadsRow 34 rfl) (by decide) rfl ?_
      refine obv hf fun x6 e_x6 hf => ?_
      refine r_iinc 5 [(7, .int x6), (5, .long x5), (3, .long x4), (0, .ref (X.1 + v0)), (1, .int v1), (2, .int v2)] hc hr (dc_at dX10_leadsRow 35 rfl) rfl (by rw [e_x6]; rfl) (by decide) rfl ?_
      refine r_goto (tgt := 22) hc (dc_at dX10_leadsRow 36 rfl) (by decide) ?_
      exact gg_sub [3, 4, 5, 2, 1, 0] rfl (ih14 _ _ _ _ _ _ _ hf)
    · refine r_iconst (0 : Int32) hc (dc_at dX10_leadsRow 27 rfl) (by decide) ?_
      exact r_zret hc he (hm) (hs) (dc_at dX10_leadsRow 28 rfl) hf
def l_X10_leadsRow_22 (F : Nat) : Nat → PH → Nat → Int32 → Int32 → Int64 → Int64 → Int32 → Option (Int32 × PH)
  | 0 => fun _ _ _ _ _ _ _ => none
  | n + 1 => fun h v0 v1 v2 v3 v5 v7 => b_X10_leadsRow_22 F (l_X10_leadsRow_22 F n) h v0 v1 v2 v3 v5 v7
theorem tl_X10_leadsRow_22 {M : MV} {X : XT} {F : Nat} {hz : PH} {r : Int32} {ce sl mc ms : Nat} (hc : Cx M X RX10 cX10_leadsRow) (hr : Rx M 136 7890 mc ms 8) (he : Ex M X (some .boolean) "leadsRow" (some (.int r)) hz mc ms) (hm : ce ≤ mc) (hs : sl ≤ ms) (n : Nat) : ∀ (h : PH) (v0 : Nat) (v1 : Int32) (v2 : Int32) (v3 : Int64) (v5 : Int64) (v7 : Int32), l_X10_leadsRow_22 F n h v0 v1 v2 v3 v5 v7 = some (r, hz) → GG M X h ce sl 22 [(0, .ref (X.1 + v0)), (1, .int v1), (2, .int v2), (3, .long v3), (5, .long v5), (7, .int v7)] [] := by
  induction n with
  | zero => intro h v0 v1 v2 v3 v5 v7 hf; cases hf
  | succ n ih => intro h v0 v1 v2 v3 v5 v7 hf; exact tb_X10_leadsRow_22 (F := F) hc hr he hm hs  ih hf
def b_X10_leadsRow_0 (F : Nat) (h : PH) (v0 : Nat) (v1 : Int32) (v2 : Int32) : Option (Int32 × PH) := (gR 10 1 h v0).bind fun a1 => ((aI 0 h a1 (7 : Int32)).bind fun x2 => (bindv (Int32.toInt64 x2) fun x3 => ((gR 10 1 h v0).bind fun a4 => ((aI 0 h a4 (8 : Int32)).bind fun x5 => (bindv (Int32.toInt64 x5) fun x6 => (l_X10_leadsRow_22 F F h v0 v1 v2 x3 x6 (0 : Int32)))))))
set_option maxRecDepth 20000 in
theorem t_X10_leadsRow_0 {M : MV} {X : XT} {F : Nat} {h hz : PH} {r : Int32} {ce sl mc ms : Nat} {v0 : Nat} {v1 : Int32} {v2 : Int32} (hc : Cx M X RX10 cX10_leadsRow) (hr : Rx M 136 7890 mc ms 8) (he : Ex M X (some .boolean) "leadsRow" (some (.int r)) hz mc ms) (hm : ce ≤ mc) (hs : sl ≤ ms) (hf : b_X10_leadsRow_0 F h v0 v1 v2 = some (r, hz)) : GG M X h ce sl 0 [(0, .ref (X.1 + v0)), (1, .int v1), (2, .int v2)] [] := by
  unfold b_X10_leadsRow_0 at hf
  refine r_aload_n hc 0 (dc_at dX10_leadsRow 0 rfl) rfl ?_
  refine r_getR hc (dc_at dX10_leadsRow 1 rfl) fl_X10_13 hf fun a1 hf => ?_
  refine r_bipush (7 : Int32) hc (dc_at dX10_leadsRow 2 rfl) (by decide) ?_
  refine r_iaload hc (dc_at dX10_leadsRow 3 rfl) hf fun x2 hf => ?_
  refine r_i2l hc (dc_at dX10_leadsRow 4 rfl) ?_
  refine r_nm (mk := Value.long) hf fun x3 hf => ?_
  refine r_lstore_n [(3, .long x3), (0, .ref (X.1 + v0)), (1, .int v1), (2, .int v2)] hc hr (dc_at dX10_leadsRow 5 rfl) (by decide) rfl ?_
  refine r_aload_n hc 1 (dc_at dX10_leadsRow 6 rfl) rfl ?_
  refine r_getR hc (dc_at dX10_leadsRow 7 rfl) fl_X10_13 hf fun a4 hf => ?_
  refine r_bipush (8 : Int32) hc (dc_at dX10_leadsRow 8 rfl) (by decide) ?_
  refine r_iaload hc (dc_at dX10_leadsRow 9 rfl) hf fun x5 hf => ?_
  refine r_i2l hc (dc_at dX10_leadsRow 10 rfl) ?_
  refine r_nm (mk := Value.long) hf fun x6 hf => ?_
  refine r_lstore [(5, .long x6), (3, .long x3), (0, .ref (X.1 + v0)), (1, .int v1), (2, .int v2)] hc hr (dc_at dX10_leadsRow 11 rfl) (by decide) rfl ?_
  refine r_iconst (0 : Int32) hc (dc_at dX10_leadsRow 12 rfl) (by decide) ?_
  refine r_istore [(7, .int ((0 : Int32))), (5, .long x6), (3, .long x3), (0, .ref (X.1 + v0)), (1, .int v1), (2, .int v2)] hc hr (dc_at dX10_leadsRow 13 rfl) (by decide) rfl ?_
  exact gg_sub [3, 4, 5, 2, 1, 0] rfl (tl_X10_leadsRow_22 hc hr he hm hs  F _ _ _ _ _ _ _ hf)
def m_X10_leadsRow (F : Nat) (h : PH) (p0 : Nat) (p1 : Int32) (p2 : Int32) : Option (Int32 × PH) := b_X10_leadsRow_0 F h p0 p1 p2
theorem mt_X10_leadsRow {l : Launch} {X : XT} {F : Nat} {h hz : PH} {p0 : Nat} {p1 : Int32} {p2 : Int32} {r : Int32} (ex : m_X10_leadsRow F h p0 p1 p2 = some (r, hz)) : MT l X yX10_leadsRow cX10_leadsRow 8 (some .boolean) 136 7890 0 0 [.ref (X.1 + p0), .int p1, .int p2] h (some (.int r)) hz := MT.of (by decide) (Nat.le_of_ble_eq_true rfl) fun M hl hc hr he => by
  subst hl
  exact gg_sub [0, 1, 2] rfl (t_X10_leadsRow_0  hc hr he (Nat.zero_le _) (Nat.zero_le _) ex)
/-! FractionLiftModel.laysTwins()I -/
def lX10_laysTwinsL : List (Nat × Instr × Nat × Nat) := [(0, .iconst 1, 1, 1), (1, .istore_n 1, 1, 2), (2, .iload_n 1, 1, 3), (3, .iconst 5, 1, 4), (4, .if_icmp .gt 91, 3, 7), (7, .aload_n 0, 1, 8), (8, .invokevirtual 348, 3, 11), (11, .iconst 0, 1, 12), (12, .istore_n 2, 1, 13), (13, .iload_n 2, 1, 14), (14, .aload_n 0, 1, 15), (15, .iload_n 1, 1, 16), (16, .invokevirtual 387, 3, 19), (19, .if_icmp .ge 70, 3, 22), (22, .aload_n 0, 1, 23), (23, .iload_n 2, 1, 24), (24, .iload_n 1, 1, 25), (25, .invokevirtual 390, 3, 28), (28, .ifCond .ne 6, 3, 31), (31, .goto 52, 3, 34), (34, .aload_n 0, 1, 35), (35, .aload_n 0, 1, 36), (36, .getfield 180, 3, 39), (39, .aload_n 0, 1, 40), (40, .getfield 184, 3, 43), (43, .invokevirtual 355, 3, 46), (46, .istore_n 3, 1, 47), (47, .iload_n 3, 1, 48), (48, .iconst (-1), 1, 49), (49, .if_icmp .eq 20, 3, 52), (52, .aload_n 0, 1, 53), (53, .aload_n 0, 1, 54), (54, .getfield 49, 3, 57), (57, .iload_n 3, 1, 58), (58, .iaload, 1, 59), (59, .putfield 394, 3, 62), (62, .aload_n 0, 1, 63), (63, .iload_n 2, 1, 64), (64, .putfield 397, 3, 67), (67, .iload_n 1, 1, 68), (68, .ireturn, 1, 69), (69, .aload_n 0, 1, 70), (70, .aload_n 0, 1, 71), (71, .getfield 180, 3, 74), (74, .aload_n 0, 1, 75), (75, .getfield 184, 3, 78), (78, .iconst (-1), 1, 79), (79, .iload_n 2, 1, 80), (80, .invokevirtual 351, 3, 83), (83, .iinc 2 1, 3, 86), (86, .goto (-73), 3, 89), (89, .iinc 1 1, 3, 92), (92, .goto (-90), 3, 95), (95, .iconst (-1), 1, 96), (96, .ireturn, 1, 97)]
set_option maxRecDepth 20000 in
theorem dX10_laysTwins : dcL cX10_laysTwins lX10_laysTwinsL = true := by decide +kernel
def b_X10_laysTwins_83 (F : Nat) (self2 : PH → Nat → Int32 → Option (Int32 × PH)) (self9 : PH → Nat → Int32 → Int32 → Option (Int32 × PH)) (h : PH) (v0 : Nat) (v1 : Int32) (v2 : Int32) : Option (Int32 × PH) := bindv (v2 + (1)) fun x1 => (self9 h v0 v1 x1)
set_option maxRecDepth 20000 in
theorem t_X10_laysTwins_83 {M : MV} {X : XT} {F : Nat} {self2 : PH → Nat → Int32 → Option (Int32 × PH)} {self9 : PH → Nat → Int32 → Int32 → Option (Int32 × PH)} {h hz : PH} {r : Int32} {ce sl mc ms : Nat} {v0 : Nat} {v1 : Int32} {v2 : Int32} (hc : Cx M X RX10 cX10_laysTwins) (hr : Rx M 137 7948 mc ms 4) (he : Ex M X (some .int) "laysTwins" (some (.int r)) hz mc ms) (hm : ce ≤ mc) (hs : sl ≤ ms) (ih2 : ∀ (h : PH) (v0 : Nat) (v1 : Int32), self2 h v0 v1 = some (r, hz) → GG M X h ce sl 2 [(0, .ref (X.1 + v0)), (1, .int v1)] []) (ih9 : ∀ (h : PH) (v0 : Nat) (v1 : Int32) (v2 : Int32), self9 h v0 v1 v2 = some (r, hz) → GG M X h ce sl 13 [(0, .ref (X.1 + v0)), (1, .int v1), (2, .int v2)] []) (hf : b_X10_laysTwins_83 F self2 self9 h v0 v1 v2 = some (r, hz)) : GG M X h ce sl 83 [(0, .ref (X.1 + v0)), (1, .int v1), (2, .int v2)] [] := by
  unfold b_X10_laysTwins_83 at hf
  refine obv hf fun x1 e_x1 hf => ?_
  refine r_iinc 2 [(2, .int x1), (0, .ref (X.1 + v0)), (1, .int v1)] hc hr (dc_at dX10_laysTwins 49 rfl) rfl (by rw [e_x1]; rfl) (by decide) rfl ?_
  refine r_goto (tgt := 13) hc (dc_at dX10_laysTwins 50 rfl) (by decide) ?_
  exact gg_sub [1, 2, 0] rfl (ih9 _ _ _ _ hf)
def b_X10_laysTwins_13 (F : Nat) (self2 : PH → Nat → Int32 → Option (Int32 × PH)) (self9 : PH → Nat → Int32 → Int32 → Option (Int32 × PH)) (h : PH) (v0 : Nat) (v1 : Int32) (v2 : Int32) : Option (Int32 × PH) := cO 10 h v0 ((m_X10_rowsOf F h v0 v1).bind fun x1 => (if x1 ≤ v2 then (bindv (v1 + (1)) fun x2 => (self2 h v0 x2)) else (cO 10 h v0 (bind2 (m_X10_leadsRow F h v0 v2 v1) fun x3 h4 => (if x3 = 0 then (b_X10_laysTwins_83 F self2 self9 h4 v0 v1 v2) else ((gL 10 15 h4 v0).bind fun x5 => ((gL 10 16 h4 v0).bind fun x6 => (cO 10 h4 v0 ((m_X10_metAt F h4 v0 x5 x6).bind fun x7 => (if x7 = (-1 : Int32) then ((gL 10 15 h4 v0).bind fun x8 => ((gL 10 16 h4 v0).bind fun x9 => (cO 10 h4 v0 (bind2 (m_X10_meets F h4 v0 x8 x9 (-1 : Int32) v2) fun _ h11 => (b_X10_laysTwins_83 F self2 self9 h11 v0 v1 v2))))) else ((gR 10 27 h4 v0).bind fun a12 => ((aI 0 h4 a12 x7).bind fun x13 => ((pV 10 34 (.int x13) h4 v0).bind fun h14 => ((pV 10 35 (.int v2) h14 v0).bind fun h15 => (some (v1, h15))))))))))))))))
set_option maxRecDepth 20000 in
theorem tb_X10_laysTwins_13 {M : MV} {X : XT} {F : Nat} {self2 : PH → Nat → Int32 → Option (Int32 × PH)} {self9 : PH → Nat → Int32 → Int32 → Option (Int32 × PH)} {h hz : PH} {r : Int32} {ce sl mc ms : Nat} {v0 : Nat} {v1 : Int32} {v2 : Int32} (hc : Cx M X RX10 cX10_laysTwins) (hr : Rx M 137 7948 mc ms 4) (he : Ex M X (some .int) "laysTwins" (some (.int r)) hz mc ms) (hm : ce ≤ mc) (hs : sl ≤ ms) (ih2 : ∀ (h : PH) (v0 : Nat) (v1 : Int32), self2 h v0 v1 = some (r, hz) → GG M X h ce sl 2 [(0, .ref (X.1 + v0)), (1, .int v1)] []) (ih9 : ∀ (h : PH) (v0 : Nat) (v1 : Int32) (v2 : Int32), self9 h v0 v1 v2 = some (r, hz) → GG M X h ce sl 13 [(0, .ref (X.1 + v0)), (1, .int v1), (2, .int v2)] []) (hf : b_X10_laysTwins_13 F self2 self9 h v0 v1 v2 = some (r, hz)) : GG M X h ce sl 13 [(0, .ref (X.1 + v0)), (1, .int v1), (2, .int v2)] [] := by
  unfold b_X10_laysTwins_13 at hf
  refine r_iload_n hc 2 (dc_at dX10_laysTwins 9 rfl) rfl ?_
  refine r_aload_n hc 0 (dc_at dX10_laysTwins 10 rfl) rfl ?_
  refine r_iload_n hc 1 (dc_at dX10_laysTwins 11 rfl) rfl ?_
  obtain ⟨ho, hf⟩ := cO_some hf
  refine ob hf fun x1 ex hf => ?_
  refine r_callVi (As := [.int v1]) (ci := 10) hc hr (dc_at dX10_laysTwins 12 rfl) ml_X10_387 mv_X10_rowsOf vi_X10_rowsOf rfl ho rfl (mt_X10_rowsOf ex) (by first | exact Nat.le_of_ble_eq_true rfl | omega) (by first | exact Nat.le_of_ble_eq_true rfl | omega) (by first | exact Nat.le_of_ble_eq_true rfl | omega) hm hs ?_
  refine r_icmp_ge (tgt := 89) hc (dc_at dX10_laysTwins 13 rfl) (by decide) hf (fun hf => ?_) (fun hf => ?_)
  · refine obv hf fun x2 e_x2 hf => ?_
    refine r_iinc 1 [(1, .int x2), (0, .ref (X.1 + v0)), (2, .int v2)] hc hr (dc_at dX10_laysTwins 51 rfl) rfl (by rw [e_x2]; rfl) (by decide) rfl ?_
    refine r_goto (tgt := 2) hc (dc_at dX10_laysTwins 52 rfl) (by decide) ?_
    exact gg_sub [1, 0] rfl (ih2 _ _ _ hf)
  · refine r_aload_n hc 0 (dc_at dX10_laysTwins 14 rfl) rfl ?_
    refine r_iload_n hc 2 (dc_at dX10_laysTwins 15 rfl) rfl ?_
    refine r_iload_n hc 1 (dc_at dX10_laysTwins 16 rfl) rfl ?_
    obtain ⟨ho, hf⟩ := cO_some hf
    refine ob2 hf fun x3 h4 ex hf => ?_
    refine r_callVi (As := [.int v2, .int v1]) (ci := 10) hc hr (dc_at dX10_laysTwins 17 rfl) ml_X10_390 mv_X10_leadsRow vi_X10_leadsRow rfl ho rfl (mt_X10_leadsRow ex) (by first | exact Nat.le_of_ble_eq_true rfl | omega) (by first | exact Nat.le_of_ble_eq_true rfl | omega) (by first | exact Nat.le_of_ble_eq_true rfl | omega) hm hs ?_
    refine r_if_ne (tgt := 34) hc (dc_at dX10_laysTwins 18 rfl) (by decide) hf (fun hf => ?_) (fun hf => ?_)
    · refine r_aload_n hc 0 (dc_at dX10_laysTwins 20 rfl) rfl ?_
      refine r_aload_n hc 0 (dc_at dX10_laysTwins 21 rfl) rfl ?_
      refine r_getL hc (dc_at dX10_laysTwins 22 rfl) fl_X10_180 hf fun x5 hf => ?_
      refine r_aload_n hc 0 (dc_at dX10_laysTwins 23 rfl) rfl ?_
      refine r_getL hc (dc_at dX10_laysTwins 24 rfl) fl_X10_184 hf fun x6 hf => ?_
      obtain ⟨ho, hf⟩ := cO_some hf
      refine ob hf fun x7 ex hf => ?_
      refine r_callVi (As := [.long x5, .long x6]) (ci := 10) hc hr (dc_at dX10_laysTwins 25 rfl) ml_X10_355 mv_X10_metAt vi_X10_metAt rfl ho rfl (mt_X10_metAt ex) (by first | exact Nat.le_of_ble_eq_true rfl | omega) (by first | exact Nat.le_of_ble_eq_true rfl | omega) (by first | exact Nat.le_of_ble_eq_true rfl | omega) hm hs ?_
      refine r_istore_n [(3, .int x7), (0, .ref (X.1 + v0)), (1, .int v1), (2, .int v2)] hc hr (dc_at dX10_laysTwins 26 rfl) (by decide) rfl ?_
      refine r_iload_n hc 0 (dc_at dX10_laysTwins 27 rfl) rfl ?_
      refine r_iconst (-1 : Int32) hc (dc_at dX10_laysTwins 28 rfl) (by decide) ?_
      refine r_icmp_eq (tgt := 69) hc (dc_at dX10_laysTwins 29 rfl) (by decide) hf (fun hf => ?_) (fun hf => ?_)
      · refine r_aload_n hc 1 (dc_at dX10_laysTwins 41 rfl) rfl ?_
        refine r_aload_n hc 1 (dc_at dX10_laysTwins 42 rfl) rfl ?_
        refine r_getL hc (dc_at dX10_laysTwins 43 rfl) fl_X10_180 hf fun x8 hf => ?_
        refine r_aload_n hc 1 (dc_at dX10_laysTwins 44 rfl) rfl ?_
        refine r_getL hc (dc_at dX10_laysTwins 45 rfl) fl_X10_184 hf fun x9 hf => ?_
        refine r_iconst (-1 : Int32) hc (dc_at dX10_laysTwins 46 rfl) (by decide) ?_
        refine r_iload_n hc 3 (dc_at dX10_laysTwins 47 rfl) rfl ?_
        obtain ⟨ho, hf⟩ := cO_some hf
        refine ob2 hf fun u h11 ex hf => ?_
        refine r_callVv (As := [.long x8, .long x9, .int ((-1 : Int32)), .int v2]) (ci := 10) hc hr (dc_at dX10_laysTwins 48 rfl) ml_X10_351 mv_X10_meets vi_X10_meets rfl ho rfl (mt_X10_meets ex) (by first | exact Nat.le_of_ble_eq_true rfl | omega) (by first | exact Nat.le_of_ble_eq_true rfl | omega) (by first | exact Nat.le_of_ble_eq_true rfl | omega) hm hs ?_
        exact gg_sub [1, 2, 3] rfl (t_X10_laysTwins_83 hc hr he hm hs ih2 ih9 hf)
      · refine r_aload_n hc 1 (dc_at dX10_laysTwins 30 rfl) rfl ?_
        refine r_aload_n hc 1 (dc_at dX10_laysTwins 31 rfl) rfl ?_
        refine r_getR hc (dc_at dX10_laysTwins 32 rfl) fl_X10_49 hf fun a12 hf => ?_
        refine r_iload_n hc 0 (dc_at dX10_laysTwins 33 rfl) rfl ?_
        refine r_iaload hc (dc_at dX10_laysTwins 34 rfl) hf fun x13 hf => ?_
        refine r_putI hc he (dc_at dX10_laysTwins 35 rfl) fp_X10_394 (fun q => by cases q) hf fun h14 hf => ?_
        refine r_aload_n hc 1 (dc_at dX10_laysTwins 36 rfl) rfl ?_
        refine r_iload_n hc 3 (dc_at dX10_laysTwins 37 rfl) rfl ?_
        refine r_putI hc he (dc_at dX10_laysTwins 38 rfl) fp_X10_397 (fun q => by cases q) hf fun h15 hf => ?_
        refine r_iload_n hc 2 (dc_at dX10_laysTwins 39 rfl) rfl ?_
        exact r_iret hc he (hm) (hs) (dc_at dX10_laysTwins 40 rfl) hf
    · refine r_goto (tgt := 83) hc (dc_at dX10_laysTwins 19 rfl) (by decide) ?_
      exact gg_sub [0, 1, 2] rfl (t_X10_laysTwins_83 hc hr he hm hs ih2 ih9 hf)
def l_X10_laysTwins_13 (F : Nat) (self2 : PH → Nat → Int32 → Option (Int32 × PH)) : Nat → PH → Nat → Int32 → Int32 → Option (Int32 × PH)
  | 0 => fun _ _ _ _ => none
  | n + 1 => fun h v0 v1 v2 => b_X10_laysTwins_13 F self2 (l_X10_laysTwins_13 F self2 n) h v0 v1 v2
theorem tl_X10_laysTwins_13 {M : MV} {X : XT} {F : Nat} {self2 : PH → Nat → Int32 → Option (Int32 × PH)} {hz : PH} {r : Int32} {ce sl mc ms : Nat} (hc : Cx M X RX10 cX10_laysTwins) (hr : Rx M 137 7948 mc ms 4) (he : Ex M X (some .int) "laysTwins" (some (.int r)) hz mc ms) (hm : ce ≤ mc) (hs : sl ≤ ms) (ih2 : ∀ (h : PH) (v0 : Nat) (v1 : Int32), self2 h v0 v1 = some (r, hz) → GG M X h ce sl 2 [(0, .ref (X.1 + v0)), (1, .int v1)] []) (n : Nat) : ∀ (h : PH) (v0 : Nat) (v1 : Int32) (v2 : Int32), l_X10_laysTwins_13 F self2 n h v0 v1 v2 = some (r, hz) → GG M X h ce sl 13 [(0, .ref (X.1 + v0)), (1, .int v1), (2, .int v2)] [] := by
  induction n with
  | zero => intro h v0 v1 v2 hf; cases hf
  | succ n ih => intro h v0 v1 v2 hf; exact tb_X10_laysTwins_13 (F := F) hc hr he hm hs ih2 ih hf
def b_X10_laysTwins_2 (F : Nat) (self2 : PH → Nat → Int32 → Option (Int32 × PH)) (h : PH) (v0 : Nat) (v1 : Int32) : Option (Int32 × PH) := if (5 : Int32) < v1 then (some ((-1 : Int32), h)) else (cO 10 h v0 (bind2 (m_X10_forgets F h v0) fun _ h2 => (l_X10_laysTwins_13 F self2 F h2 v0 v1 (0 : Int32))))
set_option maxRecDepth 20000 in
theorem tb_X10_laysTwins_2 {M : MV} {X : XT} {F : Nat} {self2 : PH → Nat → Int32 → Option (Int32 × PH)} {h hz : PH} {r : Int32} {ce sl mc ms : Nat} {v0 : Nat} {v1 : Int32} (hc : Cx M X RX10 cX10_laysTwins) (hr : Rx M 137 7948 mc ms 4) (he : Ex M X (some .int) "laysTwins" (some (.int r)) hz mc ms) (hm : ce ≤ mc) (hs : sl ≤ ms) (ih2 : ∀ (h : PH) (v0 : Nat) (v1 : Int32), self2 h v0 v1 = some (r, hz) → GG M X h ce sl 2 [(0, .ref (X.1 + v0)), (1, .int v1)] []) (hf : b_X10_laysTwins_2 F self2 h v0 v1 = some (r, hz)) : GG M X h ce sl 2 [(0, .ref (X.1 + v0)), (1, .int v1)] [] := by
  unfold b_X10_laysTwins_2 at hf
  refine r_iload_n hc 1 (dc_at dX10_laysTwins 2 rfl) rfl ?_
  refine r_iconst (5 : Int32) hc (dc_at dX10_laysTwins 3 rfl) (by decide) ?_
  refine r_icmp_gt (tgt := 95) hc (dc_at dX10_laysTwins 4 rfl) (by decide) hf (fun hf => ?_) (fun hf => ?_)
  · refine r_iconst (-1 : Int32) hc (dc_at dX10_laysTwins 53 rfl) (by decide) ?_
    exact r_iret hc he (hm) (hs) (dc_at dX10_laysTwins 54 rfl) hf
  · refine r_aload_n hc 0 (dc_at dX10_laysTwins 5 rfl) rfl ?_
    obtain ⟨ho, hf⟩ := cO_some hf
    refine ob2 hf fun u h2 ex hf => ?_
    refine r_callVv (As := []) (ci := 10) hc hr (dc_at dX10_laysTwins 6 rfl) ml_X10_348 mv_X10_forgets vi_X10_forgets rfl ho rfl (mt_X10_forgets ex) (by first | exact Nat.le_of_ble_eq_true rfl | omega) (by first | exact Nat.le_of_ble_eq_true rfl | omega) (by first | exact Nat.le_of_ble_eq_true rfl | omega) hm hs ?_
    refine r_iconst (0 : Int32) hc (dc_at dX10_laysTwins 7 rfl) (by decide) ?_
    refine r_istore_n [(2, .int ((0 : Int32))), (0, .ref (X.1 + v0)), (1, .int v1)] hc hr (dc_at dX10_laysTwins 8 rfl) (by decide) rfl ?_
    exact gg_sub [1, 2, 0] rfl (tl_X10_laysTwins_13 hc hr he hm hs ih2 F _ _ _ _ hf)
def l_X10_laysTwins_2 (F : Nat) : Nat → PH → Nat → Int32 → Option (Int32 × PH)
  | 0 => fun _ _ _ => none
  | n + 1 => fun h v0 v1 => b_X10_laysTwins_2 F (l_X10_laysTwins_2 F n) h v0 v1
theorem tl_X10_laysTwins_2 {M : MV} {X : XT} {F : Nat} {hz : PH} {r : Int32} {ce sl mc ms : Nat} (hc : Cx M X RX10 cX10_laysTwins) (hr : Rx M 137 7948 mc ms 4) (he : Ex M X (some .int) "laysTwins" (some (.int r)) hz mc ms) (hm : ce ≤ mc) (hs : sl ≤ ms) (n : Nat) : ∀ (h : PH) (v0 : Nat) (v1 : Int32), l_X10_laysTwins_2 F n h v0 v1 = some (r, hz) → GG M X h ce sl 2 [(0, .ref (X.1 + v0)), (1, .int v1)] [] := by
  induction n with
  | zero => intro h v0 v1 hf; cases hf
  | succ n ih => intro h v0 v1 hf; exact tb_X10_laysTwins_2 (F := F) hc hr he hm hs  ih hf
def b_X10_laysTwins_0 (F : Nat) (h : PH) (v0 : Nat) : Option (Int32 × PH) := l_X10_laysTwins_2 F F h v0 (1 : Int32)
set_option maxRecDepth 20000 in
theorem t_X10_laysTwins_0 {M : MV} {X : XT} {F : Nat} {h hz : PH} {r : Int32} {ce sl mc ms : Nat} {v0 : Nat} (hc : Cx M X RX10 cX10_laysTwins) (hr : Rx M 137 7948 mc ms 4) (he : Ex M X (some .int) "laysTwins" (some (.int r)) hz mc ms) (hm : ce ≤ mc) (hs : sl ≤ ms) (hf : b_X10_laysTwins_0 F h v0 = some (r, hz)) : GG M X h ce sl 0 [(0, .ref (X.1 + v0))] [] := by
  unfold b_X10_laysTwins_0 at hf
  refine r_iconst (1 : Int32) hc (dc_at dX10_laysTwins 0 rfl) (by decide) ?_
  refine r_istore_n [(1, .int ((1 : Int32))), (0, .ref (X.1 + v0))] hc hr (dc_at dX10_laysTwins 1 rfl) (by decide) rfl ?_
  exact gg_sub [1, 0] rfl (tl_X10_laysTwins_2 hc hr he hm hs  F _ _ _ hf)
def m_X10_laysTwins (F : Nat) (h : PH) (p0 : Nat) : Option (Int32 × PH) := b_X10_laysTwins_0 F h p0
theorem mt_X10_laysTwins {l : Launch} {X : XT} {F : Nat} {h hz : PH} {p0 : Nat} {r : Int32} (ex : m_X10_laysTwins F h p0 = some (r, hz)) : MT l X yX10_laysTwins cX10_laysTwins 4 (some .int) 137 7948 0 0 [.ref (X.1 + p0)] h (some (.int r)) hz := MT.of (by decide) (Nat.le_of_ble_eq_true rfl) fun M hl hc hr he => by
  subst hl
  exact gg_sub [0] rfl (t_X10_laysTwins_0  hc hr he (Nat.zero_le _) (Nat.zero_le _) ex)
/-! FractionLiftModel.twins(I)I -/
def lX10_twinsL : List (Nat × Instr × Nat × Nat) := [(0, .aload_n 0, 1, 1), (1, .iconst 0, 1, 2), (2, .putfield 1, 3, 5), (5, .iload_n 1, 1, 6), (6, .ifCond .eq 34, 3, 9), (9, .iload_n 1, 1, 10), (10, .i2l, 1, 11), (11, .ldc2_w 358, 3, 14), (14, .ldc2_w 400, 3, 17), (17, .invokestatic 172, 3, 20), (20, .ifCond .ne 20, 3, 23), (23, .iload_n 1, 1, 24), (24, .i2l, 1, 25), (25, .ldc2_w 402, 3, 28), (28, .ldc2_w 404, 3, 31), (31, .invokestatic 172, 3, 34), (34, .ifCond .ne 6, 3, 37), (37, .bipush (-2), 2, 39), (39, .ireturn, 1, 40), (40, .aload_n 0, 1, 41), (41, .invokevirtual 406, 3, 44), (44, .istore_n 2, 1, 45), (45, .iload_n 2, 1, 46), (46, .iconst (-1), 1, 47), (47, .if_icmp .eq 7, 3, 50), (50, .iload_n 1, 1, 51), (51, .ifCond .ne 5, 3, 54), (54, .iload_n 2, 1, 55), (55, .ireturn, 1, 56), (56, .iload_n 1, 1, 57), (57, .bipush 10, 2, 59), (59, .irem, 1, 60), (60, .istore_n 3, 1, 61), (61, .iload_n 3, 1, 62), (62, .iload_n 2, 1, 63), (63, .if_icmp .lt 7, 3, 66), (66, .iconst (-1), 1, 67), (67, .goto 26, 3, 70), (70, .aload_n 0, 1, 71), (71, .iload_n 1, 1, 72), (72, .bipush 20, 2, 74), (74, .if_icmp .ge 10, 3, 77), (77, .aload_n 0, 1, 78), (78, .getfield 394, 3, 81), (81, .goto 7, 3, 84), (84, .aload_n 0, 1, 85), (85, .getfield 397, 3, 88), (88, .iload_n 2, 1, 89), (89, .iload_n 3, 1, 90), (90, .invokevirtual 383, 3, 93), (93, .ireturn, 1, 94)]
set_option maxRecDepth 20000 in
theorem dX10_twins : dcL cX10_twins lX10_twinsL = true := by decide +kernel
def b_X10_twins_88 (F : Nat) (h : PH) (v2 : Int32) (v3 : Int32) (s0 : Nat) (s1 : Int32) : Option (Int32 × PH) := cO 10 h s0 ((m_X10_digit F h s0 s1 v2 v3).bind fun x1 => (some (x1, h)))
set_option maxRecDepth 20000 in
theorem t_X10_twins_88 {M : MV} {X : XT} {F : Nat} {h hz : PH} {r : Int32} {ce sl mc ms : Nat} {v2 : Int32} {v3 : Int32} {s0 : Nat} {s1 : Int32} (hc : Cx M X RX10 cX10_twins) (hr : Rx M 138 8006 mc ms 4) (he : Ex M X (some .int) "twins" (some (.int r)) hz mc ms) (hm : ce ≤ mc) (hs : sl ≤ ms) (hf : b_X10_twins_88 F h v2 v3 s0 s1 = some (r, hz)) : GG M X h ce sl 88 [(2, .int v2), (3, .int v3)] [.int s1, .ref (X.1 + s0)] := by
  unfold b_X10_twins_88 at hf
  refine r_iload_n hc 0 (dc_at dX10_twins 47 rfl) rfl ?_
  refine r_iload_n hc 1 (dc_at dX10_twins 48 rfl) rfl ?_
  obtain ⟨ho, hf⟩ := cO_some hf
  refine ob hf fun x1 ex hf => ?_
  refine r_callVi (As := [.int s1, .int v2, .int v3]) (ci := 10) hc hr (dc_at dX10_twins 49 rfl) ml_X10_383 mv_X10_digit vi_X10_digit rfl ho rfl (mt_X10_digit ex) (by first | exact Nat.le_of_ble_eq_true rfl | omega) (by first | exact Nat.le_of_ble_eq_true rfl | omega) (by first | exact Nat.le_of_ble_eq_true rfl | omega) hm hs ?_
  exact r_iret hc he (hm) (hs) (dc_at dX10_twins 50 rfl) hf
def b_X10_twins_40 (F : Nat) (h : PH) (v0 : Nat) (v1 : Int32) : Option (Int32 × PH) := cO 10 h v0 (bind2 (m_X10_laysTwins F h v0) fun x1 h2 => (if x1 = (-1 : Int32) then (some (x1, h2)) else (if v1 = 0 then (some (x1, h2)) else (if (10 : Int32) = 0 then none else (bindv ((remI v1 (10 : Int32))) fun x3 => (if x3 < x1 then (if (20 : Int32) ≤ v1 then ((gI 10 35 h2 v0).bind fun x4 => (b_X10_twins_88 F h2 x1 x3 v0 x4)) else ((gI 10 34 h2 v0).bind fun x5 => (b_X10_twins_88 F h2 x1 x3 v0 x5))) else (some ((-1 : Int32), h2))))))))
set_option maxRecDepth 20000 in
theorem t_X10_twins_40 {M : MV} {X : XT} {F : Nat} {h hz : PH} {r : Int32} {ce sl mc ms : Nat} {v0 : Nat} {v1 : Int32} (hc : Cx M X RX10 cX10_twins) (hr : Rx M 138 8006 mc ms 4) (he : Ex M X (some .int) "twins" (some (.int r)) hz mc ms) (hm : ce ≤ mc) (hs : sl ≤ ms) (hf : b_X10_twins_40 F h v0 v1 = some (r, hz)) : GG M X h ce sl 40 [(0, .ref (X.1 + v0)), (1, .int v1)] [] := by
  unfold b_X10_twins_40 at hf
  refine r_aload_n hc 0 (dc_at dX10_twins 19 rfl) rfl ?_
  obtain ⟨ho, hf⟩ := cO_some hf
  refine ob2 hf fun x1 h2 ex hf => ?_
  refine r_callVi (As := []) (ci := 10) hc hr (dc_at dX10_twins 20 rfl) ml_X10_406 mv_X10_laysTwins vi_X10_laysTwins rfl ho rfl (mt_X10_laysTwins ex) (by first | exact Nat.le_of_ble_eq_true rfl | omega) (by first | exact Nat.le_of_ble_eq_true rfl | omega) (by first | exact Nat.le_of_ble_eq_true rfl | omega) hm hs ?_
  refine r_istore_n [(2, .int x1), (0, .ref (X.1 + v0)), (1, .int v1)] hc hr (dc_at dX10_twins 21 rfl) (by decide) rfl ?_
  refine r_iload_n hc 0 (dc_at dX10_twins 22 rfl) rfl ?_
  refine r_iconst (-1 : Int32) hc (dc_at dX10_twins 23 rfl) (by decide) ?_
  refine r_icmp_eq (tgt := 54) hc (dc_at dX10_twins 24 rfl) (by decide) hf (fun hf => ?_) (fun hf => ?_)
  · refine r_iload_n hc 0 (dc_at dX10_twins 27 rfl) rfl ?_
    exact r_iret hc he (hm) (hs) (dc_at dX10_twins 28 rfl) hf
  · refine r_iload_n hc 2 (dc_at dX10_twins 25 rfl) rfl ?_
    refine r_if_ne (tgt := 56) hc (dc_at dX10_twins 26 rfl) (by decide) hf (fun hf => ?_) (fun hf => ?_)
    · refine r_iload_n hc 2 (dc_at dX10_twins 29 rfl) rfl ?_
      refine r_bipush (10 : Int32) hc (dc_at dX10_twins 30 rfl) (by decide) ?_
      refine r_irem hc (dc_at dX10_twins 31 rfl) hf (fun hf => ?_)
      refine r_nm (mk := Value.int) hf fun x3 hf => ?_
      refine r_istore_n [(3, .int x3), (2, .int x1), (0, .ref (X.1 + v0)), (1, .int v1)] hc hr (dc_at dX10_twins 32 rfl) (by decide) rfl ?_
      refine r_iload_n hc 0 (dc_at dX10_twins 33 rfl) rfl ?_
      refine r_iload_n hc 1 (dc_at dX10_twins 34 rfl) rfl ?_
      refine r_icmp_lt (tgt := 70) hc (dc_at dX10_twins 35 rfl) (by decide) hf (fun hf => ?_) (fun hf => ?_)
      · refine r_aload_n hc 2 (dc_at dX10_twins 38 rfl) rfl ?_
        refine r_iload_n hc 3 (dc_at dX10_twins 39 rfl) rfl ?_
        refine r_bipush (20 : Int32) hc (dc_at dX10_twins 40 rfl) (by decide) ?_
        refine r_icmp_ge (tgt := 84) hc (dc_at dX10_twins 41 rfl) (by decide) hf (fun hf => ?_) (fun hf => ?_)
        · refine r_aload_n hc 2 (dc_at dX10_twins 45 rfl) rfl ?_
          refine r_getI hc (dc_at dX10_twins 46 rfl) fl_X10_397 hf fun x4 hf => ?_
          exact gg_sub [1, 0] rfl (t_X10_twins_88 hc hr he hm hs  hf)
        · refine r_aload_n hc 2 (dc_at dX10_twins 42 rfl) rfl ?_
          refine r_getI hc (dc_at dX10_twins 43 rfl) fl_X10_394 hf fun x5 hf => ?_
          refine r_goto (tgt := 88) hc (dc_at dX10_twins 44 rfl) (by decide) ?_
          exact gg_sub [1, 0] rfl (t_X10_twins_88 hc hr he hm hs  hf)
      · refine r_iconst (-1 : Int32) hc (dc_at dX10_twins 36 rfl) (by decide) ?_
        refine r_goto (tgt := 93) hc (dc_at dX10_twins 37 rfl) (by decide) ?_
        exact r_iret hc he (hm) (hs) (dc_at dX10_twins 50 rfl) hf
    · refine r_iload_n hc 0 (dc_at dX10_twins 27 rfl) rfl ?_
      exact r_iret hc he (hm) (hs) (dc_at dX10_twins 28 rfl) hf
def b_X10_twins_0 (F : Nat) (h : PH) (v0 : Nat) (v1 : Int32) : Option (Int32 × PH) := (pV 10 0 (.int (0 : Int32)) h v0).bind fun h1 => (if v1 = 0 then (b_X10_twins_40 F h1 v0 v1) else ((m_X10_within (Int32.toInt64 v1) (10 : Int64) (14 : Int64)).bind fun x2 => (if x2 = 0 then ((m_X10_within (Int32.toInt64 v1) (20 : Int64) (24 : Int64)).bind fun x3 => (if x3 = 0 then (some ((-2 : Int32), h1)) else (b_X10_twins_40 F h1 v0 v1))) else (b_X10_twins_40 F h1 v0 v1))))
set_option maxRecDepth 20000 in
theorem t_X10_twins_0 {M : MV} {X : XT} {F : Nat} {h hz : PH} {r : Int32} {ce sl mc ms : Nat} {v0 : Nat} {v1 : Int32} (hc : Cx M X RX10 cX10_twins) (hr : Rx M 138 8006 mc ms 4) (he : Ex M X (some .int) "twins" (some (.int r)) hz mc ms) (hm : ce ≤ mc) (hs : sl ≤ ms) (hf : b_X10_twins_0 F h v0 v1 = some (r, hz)) : GG M X h ce sl 0 [(0, .ref (X.1 + v0)), (1, .int v1)] [] := by
  unfold b_X10_twins_0 at hf
  refine r_aload_n hc 0 (dc_at dX10_twins 0 rfl) rfl ?_
  refine r_iconst (0 : Int32) hc (dc_at dX10_twins 1 rfl) (by decide) ?_
  refine r_putI hc he (dc_at dX10_twins 2 rfl) fp_X10_1 (fun q => by cases q) hf fun h1 hf => ?_
  refine r_iload_n hc 1 (dc_at dX10_twins 3 rfl) rfl ?_
  refine r_if_eq (tgt := 40) hc (dc_at dX10_twins 4 rfl) (by decide) hf (fun hf => ?_) (fun hf => ?_)
  · exact gg_sub [0, 1] rfl (t_X10_twins_40 hc hr he hm hs  hf)
  · refine r_iload_n hc 1 (dc_at dX10_twins 5 rfl) rfl ?_
    refine r_i2l hc (dc_at dX10_twins 6 rfl) ?_
    refine r_ldc2 hc (dc_at dX10_twins 7 rfl) cl2_X10_358 ?_
    refine r_ldc2 hc (dc_at dX10_twins 8 rfl) cl2_X10_400 ?_
    refine ob hf fun x2 ex hf => ?_
    refine r_callSi (As := [.long ((Int32.toInt64 v1)), .long ((10 : Int64)), .long ((14 : Int64))]) hc hr (dc_at dX10_twins 9 rfl) ml_X10_172 mv_X10_within st_X10_within rfl (mt_X10_within ex) (by first | exact Nat.le_of_ble_eq_true rfl | omega) (by first | exact Nat.le_of_ble_eq_true rfl | omega) (by first | exact Nat.le_of_ble_eq_true rfl | omega) hm hs ?_
    refine r_if_ne (tgt := 40) hc (dc_at dX10_twins 10 rfl) (by decide) hf (fun hf => ?_) (fun hf => ?_)
    · exact gg_sub [0, 1] rfl (t_X10_twins_40 hc hr he hm hs  hf)
    · refine r_iload_n hc 1 (dc_at dX10_twins 11 rfl) rfl ?_
      refine r_i2l hc (dc_at dX10_twins 12 rfl) ?_
      refine r_ldc2 hc (dc_at dX10_twins 13 rfl) cl2_X10_402 ?_
      refine r_ldc2 hc (dc_at dX10_twins 14 rfl) cl2_X10_404 ?_
      refine ob hf fun x3 ex hf => ?_
      refine r_callSi (As := [.long ((Int32.toInt64 v1)), .long ((20 : Int64)), .long ((24 : Int64))]) hc hr (dc_at dX10_twins 15 rfl) ml_X10_172 mv_X10_within st_X10_within rfl (mt_X10_within ex) (by first | exact Nat.le_of_ble_eq_true rfl | omega) (by first | exact Nat.le_of_ble_eq_true rfl | omega) (by first | exact Nat.le_of_ble_eq_true rfl | omega) hm hs ?_
      refine r_if_ne (tgt := 40) hc (dc_at dX10_twins 16 rfl) (by decide) hf (fun hf => ?_) (fun hf => ?_)
      · exact gg_sub [0, 1] rfl (t_X10_twins_40 hc hr he hm hs  hf)
      · refine r_bipush (-2 : Int32) hc (dc_at dX10_twins 17 rfl) (by decide) ?_
        exact r_iret hc he (hm) (hs) (dc_at dX10_twins 18 rfl) hf
def m_X10_twins (F : Nat) (h : PH) (p0 : Nat) (p1 : Int32) : Option (Int32 × PH) := b_X10_twins_0 F h p0 p1
theorem mt_X10_twins {l : Launch} {X : XT} {F : Nat} {h hz : PH} {p0 : Nat} {p1 : Int32} {r : Int32} (ex : m_X10_twins F h p0 p1 = some (r, hz)) : MT l X yX10_twins cX10_twins 4 (some .int) 138 8006 0 0 [.ref (X.1 + p0), .int p1] h (some (.int r)) hz := MT.of (by decide) (Nat.le_of_ble_eq_true rfl) fun M hl hc hr he => by
  subst hl
  exact gg_sub [0, 1] rfl (t_X10_twins_0  hc hr he (Nat.zero_le _) (Nat.zero_le _) ex)
