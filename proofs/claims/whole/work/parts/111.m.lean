/-! FractionLiftModel.inverse(II)I -/
def lX10_inverseL : List (Nat × Instr × Nat × Nat) := [(0, .iconst 1, 1, 1), (1, .istore_n 2, 1, 2), (2, .iload_n 2, 1, 3), (3, .iload_n 1, 1, 4), (4, .if_icmp .ge 20, 3, 7), (7, .iload_n 0, 1, 8), (8, .iload_n 2, 1, 9), (9, .imul, 1, 10), (10, .iload_n 1, 1, 11), (11, .irem, 1, 12), (12, .iconst 1, 1, 13), (13, .if_icmp .ne 5, 3, 16), (16, .iload_n 2, 1, 17), (17, .ireturn, 1, 18), (18, .iinc 2 1, 3, 21), (21, .goto (-19), 3, 24), (24, .iconst (-1), 1, 25), (25, .ireturn, 1, 26)]
set_option maxRecDepth 20000 in
theorem dX10_inverse : dcL cX10_inverse lX10_inverseL = true := by decide +kernel
def b_X10_inverse_2 (F : Nat) (self2 : Int32 → Int32 → Int32 → Option Int32) (v0 : Int32) (v1 : Int32) (v2 : Int32) : Option Int32 := if v1 ≤ v2 then (some (-1 : Int32)) else (if v1 = 0 then none else (if ((remI (v0 * v2) v1)) = (1 : Int32) then (some v2) else (bindv (v2 + (1)) fun x1 => (self2 v0 v1 x1))))
set_option maxRecDepth 20000 in
theorem tb_X10_inverse_2 {M : MV} {X : XT} {F : Nat} {self2 : Int32 → Int32 → Int32 → Option Int32} {h : PH} {r : Int32} {ce sl mc ms : Nat} {v0 : Int32} {v1 : Int32} {v2 : Int32} (hc : Cx M X RX10 cX10_inverse) (hr : Rx M 1 60 mc ms 3) (he : Ex M X (some .int) "inverse" (some (.int r)) h mc ms) (hm : ce ≤ mc) (hs : sl ≤ ms) (ih2 : ∀ (v0 : Int32) (v1 : Int32) (v2 : Int32), self2 v0 v1 v2 = some r → GG M X h ce sl 2 [(0, .int v0), (1, .int v1), (2, .int v2)] []) (hf : b_X10_inverse_2 F self2 v0 v1 v2 = some r) : GG M X h ce sl 2 [(0, .int v0), (1, .int v1), (2, .int v2)] [] := by
  unfold b_X10_inverse_2 at hf
  refine r_iload_n hc 2 (dc_at dX10_inverse 2 rfl) rfl ?_
  refine r_iload_n hc 1 (dc_at dX10_inverse 3 rfl) rfl ?_
  refine r_icmp_ge (tgt := 24) hc (dc_at dX10_inverse 4 rfl) (by decide) hf (fun hf => ?_) (fun hf => ?_)
  · refine r_iconst (-1 : Int32) hc (dc_at dX10_inverse 16 rfl) (by decide) ?_
    exact r_iretP hc he (hm) (hs) (dc_at dX10_inverse 17 rfl) hf
  · refine r_iload_n hc 0 (dc_at dX10_inverse 5 rfl) rfl ?_
    refine r_iload_n hc 2 (dc_at dX10_inverse 6 rfl) rfl ?_
    refine r_imul hc (dc_at dX10_inverse 7 rfl) ?_
    refine r_iload_n hc 1 (dc_at dX10_inverse 8 rfl) rfl ?_
    refine r_irem hc (dc_at dX10_inverse 9 rfl) hf (fun hf => ?_)
    refine r_iconst (1 : Int32) hc (dc_at dX10_inverse 10 rfl) (by decide) ?_
    refine r_icmp_ne (tgt := 18) hc (dc_at dX10_inverse 11 rfl) (by decide) hf (fun hf => ?_) (fun hf => ?_)
    · refine obv hf fun x1 e_x1 hf => ?_
      refine r_iinc 2 [(2, .int x1), (0, .int v0), (1, .int v1)] hc hr (dc_at dX10_inverse 14 rfl) rfl (by rw [e_x1]; rfl) (by decide) rfl ?_
      refine r_goto (tgt := 2) hc (dc_at dX10_inverse 15 rfl) (by decide) ?_
      exact gg_sub [1, 2, 0] rfl (ih2 _ _ _ hf)
    · refine r_iload_n hc 2 (dc_at dX10_inverse 12 rfl) rfl ?_
      exact r_iretP hc he (hm) (hs) (dc_at dX10_inverse 13 rfl) hf
def l_X10_inverse_2 (F : Nat) : Nat → Int32 → Int32 → Int32 → Option Int32
  | 0 => fun _ _ _ => none
  | n + 1 => fun v0 v1 v2 => b_X10_inverse_2 F (l_X10_inverse_2 F n) v0 v1 v2
theorem tl_X10_inverse_2 {M : MV} {X : XT} {F : Nat} {h : PH} {r : Int32} {ce sl mc ms : Nat} (hc : Cx M X RX10 cX10_inverse) (hr : Rx M 1 60 mc ms 3) (he : Ex M X (some .int) "inverse" (some (.int r)) h mc ms) (hm : ce ≤ mc) (hs : sl ≤ ms) (n : Nat) : ∀ (v0 : Int32) (v1 : Int32) (v2 : Int32), l_X10_inverse_2 F n v0 v1 v2 = some r → GG M X h ce sl 2 [(0, .int v0), (1, .int v1), (2, .int v2)] [] := by
  induction n with
  | zero => intro v0 v1 v2 hf; cases hf
  | succ n ih => intro v0 v1 v2 hf; exact tb_X10_inverse_2 (F := F) hc hr he hm hs  ih hf
def b_X10_inverse_0 (F : Nat) (v0 : Int32) (v1 : Int32) : Option Int32 := l_X10_inverse_2 F F v0 v1 (1 : Int32)
set_option maxRecDepth 20000 in
theorem t_X10_inverse_0 {M : MV} {X : XT} {F : Nat} {h : PH} {r : Int32} {ce sl mc ms : Nat} {v0 : Int32} {v1 : Int32} (hc : Cx M X RX10 cX10_inverse) (hr : Rx M 1 60 mc ms 3) (he : Ex M X (some .int) "inverse" (some (.int r)) h mc ms) (hm : ce ≤ mc) (hs : sl ≤ ms) (hf : b_X10_inverse_0 F v0 v1 = some r) : GG M X h ce sl 0 [(0, .int v0), (1, .int v1)] [] := by
  unfold b_X10_inverse_0 at hf
  refine r_iconst (1 : Int32) hc (dc_at dX10_inverse 0 rfl) (by decide) ?_
  refine r_istore_n [(2, .int ((1 : Int32))), (0, .int v0), (1, .int v1)] hc hr (dc_at dX10_inverse 1 rfl) (by decide) rfl ?_
  exact gg_sub [1, 2, 0] rfl (tl_X10_inverse_2 hc hr he hm hs  F _ _ _ hf)
def m_X10_inverse (F : Nat) (p0 : Int32) (p1 : Int32) : Option Int32 := b_X10_inverse_0 F p0 p1
theorem mt_X10_inverse {l : Launch} {X : XT} {F : Nat} {h : PH} {p0 : Int32} {p1 : Int32} {r : Int32} (ex : m_X10_inverse F p0 p1 = some r) : MT l X yX10_inverse cX10_inverse 3 (some .int) 1 60 0 0 [.int p0, .int p1] h (some (.int r)) h := MT.of (by decide) (Nat.le_of_ble_eq_true rfl) fun M hl hc hr he => by
  subst hl
  exact gg_sub [0, 1] rfl (t_X10_inverse_0  hc hr he (Nat.zero_le _) (Nat.zero_le _) ex)
/-! FractionLiftModel.restOf(JJI)I -/
def lX10_restOfL : List (Nat × Instr × Nat × Nat) := [(0, .lload_n 2, 1, 1), (1, .iload 4, 2, 3), (3, .i2l, 1, 4), (4, .lrem, 1, 5), (5, .l2i, 1, 6), (6, .iload 4, 2, 8), (8, .invokestatic 409, 3, 11), (11, .istore 5, 2, 13), (13, .iload 5, 2, 15), (15, .iconst (-1), 1, 16), (16, .if_icmp .ne 7, 3, 19), (19, .iconst (-1), 1, 20), (20, .goto 15, 3, 23), (23, .lload_n 0, 1, 24), (24, .iload 4, 2, 26), (26, .i2l, 1, 27), (27, .lrem, 1, 28), (28, .l2i, 1, 29), (29, .iload 5, 2, 31), (31, .imul, 1, 32), (32, .iload 4, 2, 34), (34, .irem, 1, 35), (35, .ireturn, 1, 36)]
set_option maxRecDepth 20000 in
theorem dX10_restOf : dcL cX10_restOf lX10_restOfL = true := by decide +kernel
def b_X10_restOf_0 (F : Nat) (v0 : Int64) (v2 : Int64) (v4 : Int32) : Option Int32 := if (Int32.toInt64 v4) = 0 then none else ((m_X10_inverse F ((Int64.toInt32 ((remL v2 (Int32.toInt64 v4))))) v4).bind fun x1 => (if x1 = (-1 : Int32) then (some (-1 : Int32)) else (if (Int32.toInt64 v4) = 0 then none else (if v4 = 0 then none else (some ((remI ((((Int64.toInt32 ((remL v0 (Int32.toInt64 v4))))) * x1)) v4)))))))
set_option maxRecDepth 20000 in
theorem t_X10_restOf_0 {M : MV} {X : XT} {F : Nat} {h : PH} {r : Int32} {ce sl mc ms : Nat} {v0 : Int64} {v2 : Int64} {v4 : Int32} (hc : Cx M X RX10 cX10_restOf) (hr : Rx M 2 118 mc ms 6) (he : Ex M X (some .int) "restOf" (some (.int r)) h mc ms) (hm : ce ≤ mc) (hs : sl ≤ ms) (hf : b_X10_restOf_0 F v0 v2 v4 = some r) : GG M X h ce sl 0 [(0, .long v0), (2, .long v2), (4, .int v4)] [] := by
  unfold b_X10_restOf_0 at hf
  refine r_lload_n hc 1 (dc_at dX10_restOf 0 rfl) rfl ?_
  refine r_iload hc 2 (dc_at dX10_restOf 1 rfl) rfl ?_
  refine r_i2l hc (dc_at dX10_restOf 2 rfl) ?_
  refine r_lrem hc (dc_at dX10_restOf 3 rfl) hf (fun hf => ?_)
  refine r_l2i hc (dc_at dX10_restOf 4 rfl) ?_
  refine r_iload hc 2 (dc_at dX10_restOf 5 rfl) rfl ?_
  refine ob hf fun x1 ex hf => ?_
  refine r_callSi (As := [.int ((Int64.toInt32 ((remL v2 (Int32.toInt64 v4))))), .int v4]) hc hr (dc_at dX10_restOf 6 rfl) ml_X10_409 mv_X10_inverse st_X10_inverse rfl (mt_X10_inverse ex) (by first | exact Nat.le_of_ble_eq_true rfl | omega) (by first | exact Nat.le_of_ble_eq_true rfl | omega) (by first | exact Nat.le_of_ble_eq_true rfl | omega) hm hs ?_
  refine r_istore [(5, .int x1), (0, .long v0), (2, .long v2), (4, .int v4)] hc hr (dc_at dX10_restOf 7 rfl) (by decide) rfl ?_
  refine r_iload hc 0 (dc_at dX10_restOf 8 rfl) rfl ?_
  refine r_iconst (-1 : Int32) hc (dc_at dX10_restOf 9 rfl) (by decide) ?_
  refine r_icmp_ne (tgt := 23) hc (dc_at dX10_restOf 10 rfl) (by decide) hf (fun hf => ?_) (fun hf => ?_)
  · refine r_lload_n hc 1 (dc_at dX10_restOf 13 rfl) rfl ?_
    refine r_iload hc 3 (dc_at dX10_restOf 14 rfl) rfl ?_
    refine r_i2l hc (dc_at dX10_restOf 15 rfl) ?_
    refine r_lrem hc (dc_at dX10_restOf 16 rfl) hf (fun hf => ?_)
    refine r_l2i hc (dc_at dX10_restOf 17 rfl) ?_
    refine r_iload hc 0 (dc_at dX10_restOf 18 rfl) rfl ?_
    refine r_imul hc (dc_at dX10_restOf 19 rfl) ?_
    refine r_iload hc 3 (dc_at dX10_restOf 20 rfl) rfl ?_
    refine r_irem hc (dc_at dX10_restOf 21 rfl) hf (fun hf => ?_)
    exact r_iretP hc he (hm) (hs) (dc_at dX10_restOf 22 rfl) hf
  · refine r_iconst (-1 : Int32) hc (dc_at dX10_restOf 11 rfl) (by decide) ?_
    refine r_goto (tgt := 35) hc (dc_at dX10_restOf 12 rfl) (by decide) ?_
    exact r_iretP hc he (hm) (hs) (dc_at dX10_restOf 22 rfl) hf
def m_X10_restOf (F : Nat) (p0 : Int64) (p2 : Int64) (p4 : Int32) : Option Int32 := b_X10_restOf_0 F p0 p2 p4
theorem mt_X10_restOf {l : Launch} {X : XT} {F : Nat} {h : PH} {p0 : Int64} {p2 : Int64} {p4 : Int32} {r : Int32} (ex : m_X10_restOf F p0 p2 p4 = some r) : MT l X yX10_restOf cX10_restOf 6 (some .int) 2 118 0 0 [.long p0, .long p2, .int p4] h (some (.int r)) h := MT.of (by decide) (Nat.le_of_ble_eq_true rfl) fun M hl hc hr he => by
  subst hl
  exact gg_sub [0, 1, 2] rfl (t_X10_restOf_0  hc hr he (Nat.zero_le _) (Nat.zero_le _) ex)
/-! FractionLiftModel.leadsRest(III)I -/
def lX10_leadsRestL : List (Nat × Instr × Nat × Nat) := [(0, .iconst 0, 1, 1), (1, .istore 4, 2, 3), (3, .iconst 0, 1, 4), (4, .istore 5, 2, 6), (6, .iload 5, 2, 8), (8, .aload_n 0, 1, 9), (9, .getfield 13, 3, 12), (12, .bipush 67, 2, 14), (14, .iload_n 1, 1, 15), (15, .iadd, 1, 16), (16, .iaload, 1, 17), (17, .if_icmp .ge 190, 3, 20), (20, .aload_n 0, 1, 21), (21, .getfield 13, 3, 24), (24, .bipush 99, 2, 26), (26, .aload_n 0, 1, 27), (27, .getfield 13, 3, 30), (30, .bipush 61, 2, 32), (32, .iload_n 1, 1, 33), (33, .iadd, 1, 34), (34, .iaload, 1, 35), (35, .iadd, 1, 36), (36, .iload 5, 2, 38), (38, .iadd, 1, 39), (39, .iaload, 1, 40), (40, .istore 6, 2, 42), (42, .iload 6, 2, 44), (44, .sipush 3000, 3, 47), (47, .if_icmp .ge 49, 3, 50), (50, .aload_n 0, 1, 51), (51, .getfield 64, 3, 54), (54, .iload 4, 2, 56), (56, .iload 6, 2, 58), (58, .sipush 1000, 3, 61), (61, .if_icmp .ge 8, 3, 64), (64, .iload 6, 2, 66), (66, .goto 21, 3, 69), (69, .iload 6, 2, 71), (71, .sipush 1000, 3, 74), (74, .if_icmp .ne 7, 3, 77), (77, .iload_n 2, 1, 78), (78, .goto 9, 3, 81), (81, .aload_n 0, 1, 82), (82, .getfield 13, 3, 85), (85, .iconst 1, 1, 86), (86, .iaload, 1, 87), (87, .iload_n 3, 1, 88), (88, .irem, 1, 89), (89, .iastore, 1, 90), (90, .iinc 4 1, 3, 93), (93, .goto 108, 3, 96), (96, .iinc 4 (-1), 3, 99), (99, .aload_n 0, 1, 100), (100, .getfield 64, 3, 103), (103, .iload 4, 2, 105), (105, .iconst 1, 1, 106), (106, .isub, 1, 107), (107, .iaload, 1, 108), (108, .istore 7, 2, 110), (110, .aload_n 0, 1, 111), (111, .getfield 64, 3, 114), (114, .iload 4, 2, 116), (116, .iaload, 1, 117), (117, .istore 8, 2, 119), (119, .iload 6, 2, 121), (121, .sipush 3003, 3, 124), (124, .if_icmp .ne 23, 3, 127), (127, .iload 8, 2, 129), (129, .iload_n 3, 1, 130), (130, .invokestatic 409, 3, 133), (133, .istore 9, 2, 135), (135, .iload 9, 2, 137), (137, .iconst (-1), 1, 138), (138, .if_icmp .ne 5, 3, 141), (141, .iconst (-1), 1, 142), (142, .ireturn, 1, 143), (143, .iload 9, 2, 145), (145, .istore 8, 2, 147), (147, .aload_n 0, 1, 148), (148, .getfield 64, 3, 151), (151, .iload 4, 2, 153), (153, .iconst 1, 1, 154), (154, .isub, 1, 155), (155, .iload 6, 2, 157), (157, .sipush 3000, 3, 160), (160, .if_icmp .ne 13, 3, 163), (163, .iload 7, 2, 165), (165, .iload 8, 2, 167), (167, .iadd, 1, 168), (168, .iload_n 3, 1, 169), (169, .irem, 1, 170), (170, .goto 30, 3, 173), (173, .iload 6, 2, 175), (175, .sipush 3001, 3, 178), (178, .if_icmp .ne 15, 3, 181), (181, .iload 7, 2, 183), (183, .iload 8, 2, 185), (185, .isub, 1, 186), (186, .iload_n 3, 1, 187), (187, .iadd, 1, 188), (188, .iload_n 3, 1, 189), (189, .irem, 1, 190), (190, .goto 10, 3, 193), (193, .iload 7, 2, 195), (195, .iload 8, 2, 197), (197, .imul, 1, 198), (198, .iload_n 3, 1, 199), (199, .irem, 1, 200), (200, .iastore, 1, 201), (201, .iinc 5 1, 3, 204), (204, .goto (-198), 3, 207), (207, .aload_n 0, 1, 208), (208, .getfield 64, 3, 211), (211, .iconst 0, 1, 212), (212, .iaload, 1, 213), (213, .ireturn, 1, 214)]
set_option maxRecDepth 20000 in
theorem dX10_leadsRest : dcL cX10_leadsRest lX10_leadsRestL = true := by decide +kernel
def b_X10_leadsRest_201 (F : Nat) (self4 : PH → Nat → Int32 → Int32 → Int32 → Int32 → Int32 → Option (Int32 × PH)) (h : PH) (v0 : Nat) (v1 : Int32) (v2 : Int32) (v3 : Int32) (v4 : Int32) (v5 : Int32) : Option (Int32 × PH) := bindv (v5 + (1)) fun x1 => (self4 h v0 v1 v2 v3 v4 x1)
set_option maxRecDepth 20000 in
theorem t_X10_leadsRest_201 {M : MV} {X : XT} {F : Nat} {self4 : PH → Nat → Int32 → Int32 → Int32 → Int32 → Int32 → Option (Int32 × PH)} {h hz : PH} {r : Int32} {ce sl mc ms : Nat} {v0 : Nat} {v1 : Int32} {v2 : Int32} {v3 : Int32} {v4 : Int32} {v5 : Int32} (hc : Cx M X RX10 cX10_leadsRest) (hr : Rx M 2 118 mc ms 10) (he : Ex M X (some .int) "leadsRest" (some (.int r)) hz mc ms) (hm : ce ≤ mc) (hs : sl ≤ ms) (ih4 : ∀ (h : PH) (v0 : Nat) (v1 : Int32) (v2 : Int32) (v3 : Int32) (v4 : Int32) (v5 : Int32), self4 h v0 v1 v2 v3 v4 v5 = some (r, hz) → GG M X h ce sl 6 [(0, .ref (X.1 + v0)), (1, .int v1), (2, .int v2), (3, .int v3), (4, .int v4), (5, .int v5)] []) (hf : b_X10_leadsRest_201 F self4 h v0 v1 v2 v3 v4 v5 = some (r, hz)) : GG M X h ce sl 201 [(0, .ref (X.1 + v0)), (1, .int v1), (2, .int v2), (3, .int v3), (4, .int v4), (5, .int v5)] [] := by
  unfold b_X10_leadsRest_201 at hf
  refine obv hf fun x1 e_x1 hf => ?_
  refine r_iinc 5 [(5, .int x1), (0, .ref (X.1 + v0)), (1, .int v1), (2, .int v2), (3, .int v3), (4, .int v4)] hc hr (dc_at dX10_leadsRest 109 rfl) rfl (by rw [e_x1]; rfl) (by decide) rfl ?_
  refine r_goto (tgt := 6) hc (dc_at dX10_leadsRest 110 rfl) (by decide) ?_
  exact gg_sub [1, 2, 3, 4, 5, 0] rfl (ih4 _ _ _ _ _ _ _ hf)
def b_X10_leadsRest_87 (F : Nat) (self4 : PH → Nat → Int32 → Int32 → Int32 → Int32 → Int32 → Option (Int32 × PH)) (h : PH) (v0 : Nat) (v1 : Int32) (v2 : Int32) (v3 : Int32) (v4 : Int32) (v5 : Int32) (s0 : Nat) (s1 : Int32) (s2 : Int32) : Option (Int32 × PH) := if v3 = 0 then none else ((sI 0 h s0 s1 (remI s2 v3)).bind fun h1 => (bindv (v4 + (1)) fun x2 => (b_X10_leadsRest_201 F self4 h1 v0 v1 v2 v3 x2 v5)))
set_option maxRecDepth 20000 in
theorem t_X10_leadsRest_87 {M : MV} {X : XT} {F : Nat} {self4 : PH → Nat → Int32 → Int32 → Int32 → Int32 → Int32 → Option (Int32 × PH)} {h hz : PH} {r : Int32} {ce sl mc ms : Nat} {v0 : Nat} {v1 : Int32} {v2 : Int32} {v3 : Int32} {v4 : Int32} {v5 : Int32} {s0 : Nat} {s1 : Int32} {s2 : Int32} (hc : Cx M X RX10 cX10_leadsRest) (hr : Rx M 2 118 mc ms 10) (he : Ex M X (some .int) "leadsRest" (some (.int r)) hz mc ms) (hm : ce ≤ mc) (hs : sl ≤ ms) (ih4 : ∀ (h : PH) (v0 : Nat) (v1 : Int32) (v2 : Int32) (v3 : Int32) (v4 : Int32) (v5 : Int32), self4 h v0 v1 v2 v3 v4 v5 = some (r, hz) → GG M X h ce sl 6 [(0, .ref (X.1 + v0)), (1, .int v1), (2, .int v2), (3, .int v3), (4, .int v4), (5, .int v5)] []) (hf : b_X10_leadsRest_87 F self4 h v0 v1 v2 v3 v4 v5 s0 s1 s2 = some (r, hz)) : GG M X h ce sl 87 [(0, .ref (X.1 + v0)), (1, .int v1), (2, .int v2), (3, .int v3), (4, .int v4), (5, .int v5)] [.int s2, .int s1, .ref (X.1 + s0)] := by
  unfold b_X10_leadsRest_87 at hf
  refine r_iload_n hc 3 (dc_at dX10_leadsRest 46 rfl) rfl ?_
  refine r_irem hc (dc_at dX10_leadsRest 47 rfl) hf (fun hf => ?_)
  refine r_iastore hc (dc_at dX10_leadsRest 48 rfl) hf fun h1 hf => ?_
  refine obv hf fun x2 e_x2 hf => ?_
  refine r_iinc 4 [(4, .int x2), (0, .ref (X.1 + v0)), (1, .int v1), (2, .int v2), (3, .int v3), (5, .int v5)] hc hr (dc_at dX10_leadsRest 49 rfl) rfl (by rw [e_x2]; rfl) (by decide) rfl ?_
  refine r_goto (tgt := 201) hc (dc_at dX10_leadsRest 50 rfl) (by decide) ?_
  exact gg_sub [1, 2, 3, 4, 0, 5] rfl (t_X10_leadsRest_201 hc hr he hm hs ih4 hf)
def b_X10_leadsRest_200 (F : Nat) (self4 : PH → Nat → Int32 → Int32 → Int32 → Int32 → Int32 → Option (Int32 × PH)) (h : PH) (v0 : Nat) (v1 : Int32) (v2 : Int32) (v3 : Int32) (v4 : Int32) (v5 : Int32) (s0 : Nat) (s1 : Int32) (s2 : Int32) : Option (Int32 × PH) := (sI 0 h s0 s1 s2).bind fun h1 => (b_X10_leadsRest_201 F self4 h1 v0 v1 v2 v3 v4 v5)
set_option maxRecDepth 20000 in
theorem t_X10_leadsRest_200 {M : MV} {X : XT} {F : Nat} {self4 : PH → Nat → Int32 → Int32 → Int32 → Int32 → Int32 → Option (Int32 × PH)} {h hz : PH} {r : Int32} {ce sl mc ms : Nat} {v0 : Nat} {v1 : Int32} {v2 : Int32} {v3 : Int32} {v4 : Int32} {v5 : Int32} {s0 : Nat} {s1 : Int32} {s2 : Int32} (hc : Cx M X RX10 cX10_leadsRest) (hr : Rx M 2 118 mc ms 10) (he : Ex M X (some .int) "leadsRest" (some (.int r)) hz mc ms) (hm : ce ≤ mc) (hs : sl ≤ ms) (ih4 : ∀ (h : PH) (v0 : Nat) (v1 : Int32) (v2 : Int32) (v3 : Int32) (v4 : Int32) (v5 : Int32), self4 h v0 v1 v2 v3 v4 v5 = some (r, hz) → GG M X h ce sl 6 [(0, .ref (X.1 + v0)), (1, .int v1), (2, .int v2), (3, .int v3), (4, .int v4), (5, .int v5)] []) (hf : b_X10_leadsRest_200 F self4 h v0 v1 v2 v3 v4 v5 s0 s1 s2 = some (r, hz)) : GG M X h ce sl 200 [(0, .ref (X.1 + v0)), (1, .int v1), (2, .int v2), (3, .int v3), (4, .int v4), (5, .int v5)] [.int s2, .int s1, .ref (X.1 + s0)] := by
  unfold b_X10_leadsRest_200 at hf
  refine r_iastore hc (dc_at dX10_leadsRest 108 rfl) hf fun h1 hf => ?_
  exact gg_sub [0, 1, 2, 3, 4, 5] rfl (t_X10_leadsRest_201 hc hr he hm hs ih4 hf)
def b_X10_leadsRest_147 (F : Nat) (self4 : PH → Nat → Int32 → Int32 → Int32 → Int32 → Int32 → Option (Int32 × PH)) (h : PH) (v0 : Nat) (v1 : Int32) (v2 : Int32) (v3 : Int32) (v4 : Int32) (v5 : Int32) (v6 : Int32) (v7 : Int32) (v8 : Int32) : Option (Int32 × PH) := (gR 10 36 h v0).bind fun a1 => (if v6 = (3000 : Int32) then (if v3 = 0 then none else (b_X10_leadsRest_200 F self4 h v0 v1 v2 v3 v4 v5 a1 ((v4 - (1 : Int32))) ((remI (v7 + v8) v3)))) else (if v6 = (3001 : Int32) then (if v3 = 0 then none else (b_X10_leadsRest_200 F self4 h v0 v1 v2 v3 v4 v5 a1 ((v4 - (1 : Int32))) ((remI (((v7 - v8) + v3)) v3)))) else (if v3 = 0 then none else (b_X10_leadsRest_200 F self4 h v0 v1 v2 v3 v4 v5 a1 ((v4 - (1 : Int32))) ((remI (v7 * v8) v3))))))
set_option maxRecDepth 20000 in
theorem t_X10_leadsRest_147 {M : MV} {X : XT} {F : Nat} {self4 : PH → Nat → Int32 → Int32 → Int32 → Int32 → Int32 → Option (Int32 × PH)} {h hz : PH} {r : Int32} {ce sl mc ms : Nat} {v0 : Nat} {v1 : Int32} {v2 : Int32} {v3 : Int32} {v4 : Int32} {v5 : Int32} {v6 : Int32} {v7 : Int32} {v8 : Int32} (hc : Cx M X RX10 cX10_leadsRest) (hr : Rx M 2 118 mc ms 10) (he : Ex M X (some .int) "leadsRest" (some (.int r)) hz mc ms) (hm : ce ≤ mc) (hs : sl ≤ ms) (ih4 : ∀ (h : PH) (v0 : Nat) (v1 : Int32) (v2 : Int32) (v3 : Int32) (v4 : Int32) (v5 : Int32), self4 h v0 v1 v2 v3 v4 v5 = some (r, hz) → GG M X h ce sl 6 [(0, .ref (X.1 + v0)), (1, .int v1), (2, .int v2), (3, .int v3), (4, .int v4), (5, .int v5)] []) (hf : b_X10_leadsRest_147 F self4 h v0 v1 v2 v3 v4 v5 v6 v7 v8 = some (r, hz)) : GG M X h ce sl 147 [(0, .ref (X.1 + v0)), (1, .int v1), (2, .int v2), (3, .int v3), (4, .int v4), (5, .int v5), (6, .int v6), (7, .int v7), (8, .int v8)] [] := by
  unfold b_X10_leadsRest_147 at hf
  refine r_aload_n hc 0 (dc_at dX10_leadsRest 78 rfl) rfl ?_
  refine r_getR hc (dc_at dX10_leadsRest 79 rfl) fl_X10_64 hf fun a1 hf => ?_
  refine r_iload hc 4 (dc_at dX10_leadsRest 80 rfl) rfl ?_
  refine r_iconst (1 : Int32) hc (dc_at dX10_leadsRest 81 rfl) (by decide) ?_
  refine r_isub hc (dc_at dX10_leadsRest 82 rfl) ?_
  refine r_iload hc 6 (dc_at dX10_leadsRest 83 rfl) rfl ?_
  refine r_sipush (3000 : Int32) hc (dc_at dX10_leadsRest 84 rfl) (by decide) ?_
  refine r_icmp_ne (tgt := 173) hc (dc_at dX10_leadsRest 85 rfl) (by decide) hf (fun hf => ?_) (fun hf => ?_)
  · refine r_iload hc 6 (dc_at dX10_leadsRest 92 rfl) rfl ?_
    refine r_sipush (3001 : Int32) hc (dc_at dX10_leadsRest 93 rfl) (by decide) ?_
    refine r_icmp_ne (tgt := 193) hc (dc_at dX10_leadsRest 94 rfl) (by decide) hf (fun hf => ?_) (fun hf => ?_)
    · refine r_iload hc 7 (dc_at dX10_leadsRest 103 rfl) rfl ?_
      refine r_iload hc 8 (dc_at dX10_leadsRest 104 rfl) rfl ?_
      refine r_imul hc (dc_at dX10_leadsRest 105 rfl) ?_
      refine r_iload_n hc 3 (dc_at dX10_leadsRest 106 rfl) rfl ?_
      refine r_irem hc (dc_at dX10_leadsRest 107 rfl) hf (fun hf => ?_)
      exact gg_sub [0, 1, 2, 3, 4, 5] rfl (t_X10_leadsRest_200 hc hr he hm hs ih4 hf)
    · refine r_iload hc 7 (dc_at dX10_leadsRest 95 rfl) rfl ?_
      refine r_iload hc 8 (dc_at dX10_leadsRest 96 rfl) rfl ?_
      refine r_isub hc (dc_at dX10_leadsRest 97 rfl) ?_
      refine r_iload_n hc 3 (dc_at dX10_leadsRest 98 rfl) rfl ?_
      refine r_iadd hc (dc_at dX10_leadsRest 99 rfl) ?_
      refine r_iload_n hc 3 (dc_at dX10_leadsRest 100 rfl) rfl ?_
      refine r_irem hc (dc_at dX10_leadsRest 101 rfl) hf (fun hf => ?_)
      refine r_goto (tgt := 200) hc (dc_at dX10_leadsRest 102 rfl) (by decide) ?_
      exact gg_sub [0, 1, 2, 3, 4, 5] rfl (t_X10_leadsRest_200 hc hr he hm hs ih4 hf)
  · refine r_iload hc 7 (dc_at dX10_leadsRest 86 rfl) rfl ?_
    refine r_iload hc 8 (dc_at dX10_leadsRest 87 rfl) rfl ?_
    refine r_iadd hc (dc_at dX10_leadsRest 88 rfl) ?_
    refine r_iload_n hc 3 (dc_at dX10_leadsRest 89 rfl) rfl ?_
    refine r_irem hc (dc_at dX10_leadsRest 90 rfl) hf (fun hf => ?_)
    refine r_goto (tgt := 200) hc (dc_at dX10_leadsRest 91 rfl) (by decide) ?_
    exact gg_sub [0, 1, 2, 3, 4, 5] rfl (t_X10_leadsRest_200 hc hr he hm hs ih4 hf)
def b_X10_leadsRest_6 (F : Nat) (self4 : PH → Nat → Int32 → Int32 → Int32 → Int32 → Int32 → Option (Int32 × PH)) (h : PH) (v0 : Nat) (v1 : Int32) (v2 : Int32) (v3 : Int32) (v4 : Int32) (v5 : Int32) : Option (Int32 × PH) := (gR 10 1 h v0).bind fun a1 => ((aI 0 h a1 (((67 : Int32) + v1))).bind fun x2 => (if x2 ≤ v5 then ((gR 10 36 h v0).bind fun a3 => ((aI 0 h a3 (0 : Int32)).bind fun x4 => (some (x4, h)))) else ((gR 10 1 h v0).bind fun a5 => ((gR 10 1 h v0).bind fun a6 => ((aI 0 h a6 (((61 : Int32) + v1))).bind fun x7 => ((aI 0 h a5 (((((99 : Int32) + x7)) + v5))).bind fun x8 => (if (3000 : Int32) ≤ x8 then (bindv (v4 + (-1)) fun x9 => ((gR 10 36 h v0).bind fun a10 => ((aI 0 h a10 ((x9 - (1 : Int32)))).bind fun x11 => ((gR 10 36 h v0).bind fun a12 => ((aI 0 h a12 x9).bind fun x13 => (if x8 = (3003 : Int32) then ((m_X10_inverse F x13 v3).bind fun x14 => (if x14 = (-1 : Int32) then (some ((-1 : Int32), h)) else (b_X10_leadsRest_147 F self4 h v0 v1 v2 v3 x9 v5 x8 x11 x14))) else (b_X10_leadsRest_147 F self4 h v0 v1 v2 v3 x9 v5 x8 x11 x13))))))) else ((gR 10 36 h v0).bind fun a15 => (if (1000 : Int32) ≤ x8 then (if x8 = (1000 : Int32) then (b_X10_leadsRest_87 F self4 h v0 v1 v2 v3 v4 v5 a15 v4 v2) else ((gR 10 1 h v0).bind fun a16 => ((aI 0 h a16 (1 : Int32)).bind fun x17 => (b_X10_leadsRest_87 F self4 h v0 v1 v2 v3 v4 v5 a15 v4 x17)))) else (b_X10_leadsRest_87 F self4 h v0 v1 v2 v3 v4 v5 a15 v4 x8))))))))))
set_option maxRecDepth 20000 in
theorem tb_X10_leadsRest_6 {M : MV} {X : XT} {F : Nat} {self4 : PH → Nat → Int32 → Int32 → Int32 → Int32 → Int32 → Option (Int32 × PH)} {h hz : PH} {r : Int32} {ce sl mc ms : Nat} {v0 : Nat} {v1 : Int32} {v2 : Int32} {v3 : Int32} {v4 : Int32} {v5 : Int32} (hc : Cx M X RX10 cX10_leadsRest) (hr : Rx M 2 118 mc ms 10) (he : Ex M X (some .int) "leadsRest" (some (.int r)) hz mc ms) (hm : ce ≤ mc) (hs : sl ≤ ms) (ih4 : ∀ (h : PH) (v0 : Nat) (v1 : Int32) (v2 : Int32) (v3 : Int32) (v4 : Int32) (v5 : Int32), self4 h v0 v1 v2 v3 v4 v5 = some (r, hz) → GG M X h ce sl 6 [(0, .ref (X.1 + v0)), (1, .int v1), (2, .int v2), (3, .int v3), (4, .int v4), (5, .int v5)] []) (hf : b_X10_leadsRest_6 F self4 h v0 v1 v2 v3 v4 v5 = some (r, hz)) : GG M X h ce sl 6 [(0, .ref (X.1 + v0)), (1, .int v1), (2, .int v2), (3, .int v3), (4, .int v4), (5, .int v5)] [] := by
  unfold b_X10_leadsRest_6 at hf
  refine r_iload hc 5 (dc_at dX10_leadsRest 4 rfl) rfl ?_
  refine r_aload_n hc 0 (dc_at dX10_leadsRest 5 rfl) rfl ?_
  refine r_getR hc (dc_at dX10_leadsRest 6 rfl) fl_X10_13 hf fun a1 hf => ?_
  refine r_bipush (67 : Int32) hc (dc_at dX10_leadsRest 7 rfl) (by decide) ?_
  refine r_iload_n hc 1 (dc_at dX10_leadsRest 8 rfl) rfl ?_
  refine r_iadd hc (dc_at dX10_leadsRest 9 rfl) ?_
  refine r_iaload hc (dc_at dX10_leadsRest 10 rfl) hf fun x2 hf => ?_
  refine r_icmp_ge (tgt := 207) hc (dc_at dX10_leadsRest 11 rfl) (by decide) hf (fun hf => ?_) (fun hf => ?_)
  · refine r_aload_n hc 0 (dc_at dX10_leadsRest 111 rfl) rfl ?_
    refine r_getR hc (dc_at dX10_leadsRest 112 rfl) fl_X10_64 hf fun a3 hf => ?_
    refine r_iconst (0 : Int32) hc (dc_at dX10_leadsRest 113 rfl) (by decide) ?_
    refine r_iaload hc (dc_at dX10_leadsRest 114 rfl) hf fun x4 hf => ?_
    exact r_iret hc he (hm) (hs) (dc_at dX10_leadsRest 115 rfl) hf
  · refine r_aload_n hc 0 (dc_at dX10_leadsRest 12 rfl) rfl ?_
    refine r_getR hc (dc_at dX10_leadsRest 13 rfl) fl_X10_13 hf fun a5 hf => ?_
    refine r_bipush (99 : Int32) hc (dc_at dX10_leadsRest 14 rfl) (by decide) ?_
    refine r_aload_n hc 0 (dc_at dX10_leadsRest 15 rfl) rfl ?_
    refine r_getR hc (dc_at dX10_leadsRest 16 rfl) fl_X10_13 hf fun a6 hf => ?_
    refine r_bipush (61 : Int32) hc (dc_at dX10_leadsRest 17 rfl) (by decide) ?_
    refine r_iload_n hc 1 (dc_at dX10_leadsRest 18 rfl) rfl ?_
    refine r_iadd hc (dc_at dX10_leadsRest 19 rfl) ?_
    refine r_iaload hc (dc_at dX10_leadsRest 20 rfl) hf fun x7 hf => ?_
    refine r_iadd hc (dc_at dX10_leadsRest 21 rfl) ?_
    refine r_iload hc 5 (dc_at dX10_leadsRest 22 rfl) rfl ?_
    refine r_iadd hc (dc_at dX10_leadsRest 23 rfl) ?_
    refine r_iaload hc (dc_at dX10_leadsRest 24 rfl) hf fun x8 hf => ?_
    refine r_istore [(6, .int x8), (0, .ref (X.1 + v0)), (1, .int v1), (2, .int v2), (3, .int v3), (4, .int v4), (5, .int v5)] hc hr (dc_at dX10_leadsRest 25 rfl) (by decide) rfl ?_
    refine r_iload hc 0 (dc_at dX10_leadsRest 26 rfl) rfl ?_
    refine r_sipush (3000 : Int32) hc (dc_at dX10_leadsRest 27 rfl) (by decide) ?_
    refine r_icmp_ge (tgt := 96) hc (dc_at dX10_leadsRest 28 rfl) (by decide) hf (fun hf => ?_) (fun hf => ?_)
    · refine obv hf fun x9 e_x9 hf => ?_
      refine r_iinc 5 [(4, .int x9), (6, .int x8), (0, .ref (X.1 + v0)), (1, .int v1), (2, .int v2), (3, .int v3), (5, .int v5)] hc hr (dc_at dX10_leadsRest 51 rfl) rfl (by rw [e_x9]; rfl) (by decide) rfl ?_
      refine r_aload_n hc 2 (dc_at dX10_leadsRest 52 rfl) rfl ?_
      refine r_getR hc (dc_at dX10_leadsRest 53 rfl) fl_X10_64 hf fun a10 hf => ?_
      refine r_iload hc 0 (dc_at dX10_leadsRest 54 rfl) rfl ?_
      refine r_iconst (1 : Int32) hc (dc_at dX10_leadsRest 55 rfl) (by decide) ?_
      refine r_isub hc (dc_at dX10_leadsRest 56 rfl) ?_
      refine r_iaload hc (dc_at dX10_leadsRest 57 rfl) hf fun x11 hf => ?_
      refine r_istore [(7, .int x11), (4, .int x9), (6, .int x8), (0, .ref (X.1 + v0)), (1, .int v1), (2, .int v2), (3, .int v3), (5, .int v5)] hc hr (dc_at dX10_leadsRest 58 rfl) (by decide) rfl ?_
      refine r_aload_n hc 3 (dc_at dX10_leadsRest 59 rfl) rfl ?_
      refine r_getR hc (dc_at dX10_leadsRest 60 rfl) fl_X10_64 hf fun a12 hf => ?_
      refine r_iload hc 1 (dc_at dX10_leadsRest 61 rfl) rfl ?_
      refine r_iaload hc (dc_at dX10_leadsRest 62 rfl) hf fun x13 hf => ?_
      refine r_istore [(8, .int x13), (7, .int x11), (4, .int x9), (6, .int x8), (0, .ref (X.1 + v0)), (1, .int v1), (2, .int v2), (3, .int v3), (5, .int v5)] hc hr (dc_at dX10_leadsRest 63 rfl) (by decide) rfl ?_
      refine r_iload hc 3 (dc_at dX10_leadsRest 64 rfl) rfl ?_
      refine r_sipush (3003 : Int32) hc (dc_at dX10_leadsRest 65 rfl) (by decide) ?_
      refine r_icmp_ne (tgt := 147) hc (dc_at dX10_leadsRest 66 rfl) (by decide) hf (fun hf => ?_) (fun hf => ?_)
      · exact gg_sub [4, 5, 6, 7, 2, 8, 3, 1, 0] rfl (t_X10_leadsRest_147 hc hr he hm hs ih4 hf)
      · refine r_iload hc 0 (dc_at dX10_leadsRest 67 rfl) rfl ?_
        refine r_iload_n hc 7 (dc_at dX10_leadsRest 68 rfl) rfl ?_
        refine ob hf fun x14 ex hf => ?_
        refine r_callSi (As := [.int x13, .int v3]) hc hr (dc_at dX10_leadsRest 69 rfl) ml_X10_409 mv_X10_inverse st_X10_inverse rfl (mt_X10_inverse ex) (by first | exact Nat.le_of_ble_eq_true rfl | omega) (by first | exact Nat.le_of_ble_eq_true rfl | omega) (by first | exact Nat.le_of_ble_eq_true rfl | omega) hm hs ?_
        refine r_istore [(9, .int x14), (8, .int x13), (7, .int x11), (4, .int x9), (6, .int x8), (0, .ref (X.1 + v0)), (1, .int v1), (2, .int v2), (3, .int v3), (5, .int v5)] hc hr (dc_at dX10_leadsRest 70 rfl) (by decide) rfl ?_
        refine r_iload hc 0 (dc_at dX10_leadsRest 71 rfl) rfl ?_
        refine r_iconst (-1 : Int32) hc (dc_at dX10_leadsRest 72 rfl) (by decide) ?_
        refine r_icmp_ne (tgt := 143) hc (dc_at dX10_leadsRest 73 rfl) (by decide) hf (fun hf => ?_) (fun hf => ?_)
        · refine r_iload hc 0 (dc_at dX10_leadsRest 76 rfl) rfl ?_
          refine r_istore [(8, .int x14), (9, .int x14), (7, .int x11), (4, .int x9), (6, .int x8), (0, .ref (X.1 + v0)), (1, .int v1), (2, .int v2), (3, .int v3), (5, .int v5)] hc hr (dc_at dX10_leadsRest 77 rfl) (by decide) rfl ?_
          exact gg_sub [5, 6, 7, 8, 3, 9, 4, 2, 0] rfl (t_X10_leadsRest_147 hc hr he hm hs ih4 hf)
        · refine r_iconst (-1 : Int32) hc (dc_at dX10_leadsRest 74 rfl) (by decide) ?_
          exact r_iret hc he (hm) (hs) (dc_at dX10_leadsRest 75 rfl) hf
    · refine r_aload_n hc 1 (dc_at dX10_leadsRest 29 rfl) rfl ?_
      refine r_getR hc (dc_at dX10_leadsRest 30 rfl) fl_X10_64 hf fun a15 hf => ?_
      refine r_iload hc 5 (dc_at dX10_leadsRest 31 rfl) rfl ?_
      refine r_iload hc 0 (dc_at dX10_leadsRest 32 rfl) rfl ?_
      refine r_sipush (1000 : Int32) hc (dc_at dX10_leadsRest 33 rfl) (by decide) ?_
      refine r_icmp_ge (tgt := 69) hc (dc_at dX10_leadsRest 34 rfl) (by decide) hf (fun hf => ?_) (fun hf => ?_)
      · refine r_iload hc 0 (dc_at dX10_leadsRest 37 rfl) rfl ?_
        refine r_sipush (1000 : Int32) hc (dc_at dX10_leadsRest 38 rfl) (by decide) ?_
        refine r_icmp_ne (tgt := 81) hc (dc_at dX10_leadsRest 39 rfl) (by decide) hf (fun hf => ?_) (fun hf => ?_)
        · refine r_aload_n hc 1 (dc_at dX10_leadsRest 42 rfl) rfl ?_
          refine r_getR hc (dc_at dX10_leadsRest 43 rfl) fl_X10_13 hf fun a16 hf => ?_
          refine r_iconst (1 : Int32) hc (dc_at dX10_leadsRest 44 rfl) (by decide) ?_
          refine r_iaload hc (dc_at dX10_leadsRest 45 rfl) hf fun x17 hf => ?_
          exact gg_sub [1, 2, 3, 4, 5, 6] rfl (t_X10_leadsRest_87 hc hr he hm hs ih4 hf)
        · refine r_iload_n hc 3 (dc_at dX10_leadsRest 40 rfl) rfl ?_
          refine r_goto (tgt := 87) hc (dc_at dX10_leadsRest 41 rfl) (by decide) ?_
          exact gg_sub [1, 2, 3, 4, 5, 6] rfl (t_X10_leadsRest_87 hc hr he hm hs ih4 hf)
      · refine r_iload hc 0 (dc_at dX10_leadsRest 35 rfl) rfl ?_
        refine r_goto (tgt := 87) hc (dc_at dX10_leadsRest 36 rfl) (by decide) ?_
        exact gg_sub [1, 2, 3, 4, 5, 6] rfl (t_X10_leadsRest_87 hc hr he hm hs ih4 hf)
def l_X10_leadsRest_6 (F : Nat) : Nat → PH → Nat → Int32 → Int32 → Int32 → Int32 → Int32 → Option (Int32 × PH)
  | 0 => fun _ _ _ _ _ _ _ => none
  | n + 1 => fun h v0 v1 v2 v3 v4 v5 => b_X10_leadsRest_6 F (l_X10_leadsRest_6 F n) h v0 v1 v2 v3 v4 v5
theorem tl_X10_leadsRest_6 {M : MV} {X : XT} {F : Nat} {hz : PH} {r : Int32} {ce sl mc ms : Nat} (hc : Cx M X RX10 cX10_leadsRest) (hr : Rx M 2 118 mc ms 10) (he : Ex M X (some .int) "leadsRest" (some (.int r)) hz mc ms) (hm : ce ≤ mc) (hs : sl ≤ ms) (n : Nat) : ∀ (h : PH) (v0 : Nat) (v1 : Int32) (v2 : Int32) (v3 : Int32) (v4 : Int32) (v5 : Int32), l_X10_leadsRest_6 F n h v0 v1 v2 v3 v4 v5 = some (r, hz) → GG M X h ce sl 6 [(0, .ref (X.1 + v0)), (1, .int v1), (2, .int v2), (3, .int v3), (4, .int v4), (5, .int v5)] [] := by
  induction n with
  | zero => intro h v0 v1 v2 v3 v4 v5 hf; cases hf
  | succ n ih => intro h v0 v1 v2 v3 v4 v5 hf; exact tb_X10_leadsRest_6 (F := F) hc hr he hm hs  ih hf
def b_X10_leadsRest_0 (F : Nat) (h : PH) (v0 : Nat) (v1 : Int32) (v2 : Int32) (v3 : Int32) : Option (Int32 × PH) := l_X10_leadsRest_6 F F h v0 v1 v2 v3 (0 : Int32) (0 : Int32)
set_option maxRecDepth 20000 in
theorem t_X10_leadsRest_0 {M : MV} {X : XT} {F : Nat} {h hz : PH} {r : Int32} {ce sl mc ms : Nat} {v0 : Nat} {v1 : Int32} {v2 : Int32} {v3 : Int32} (hc : Cx M X RX10 cX10_leadsRest) (hr : Rx M 2 118 mc ms 10) (he : Ex M X (some .int) "leadsRest" (some (.int r)) hz mc ms) (hm : ce ≤ mc) (hs : sl ≤ ms) (hf : b_X10_leadsRest_0 F h v0 v1 v2 v3 = some (r, hz)) : GG M X h ce sl 0 [(0, .ref (X.1 + v0)), (1, .int v1), (2, .int v2), (3, .int v3)] [] := by
  unfold b_X10_leadsRest_0 at hf
  refine r_iconst (0 : Int32) hc (dc_at dX10_leadsRest 0 rfl) (by decide) ?_
  refine r_istore [(4, .int ((0 : Int32))), (0, .ref (X.1 + v0)), (1, .int v1), (2, .int v2), (3, .int v3)] hc hr (dc_at dX10_leadsRest 1 rfl) (by decide) rfl ?_
  refine r_iconst (0 : Int32) hc (dc_at dX10_leadsRest 2 rfl) (by decide) ?_
  refine r_istore [(5, .int ((0 : Int32))), (4, .int ((0 : Int32))), (0, .ref (X.1 + v0)), (1, .int v1), (2, .int v2), (3, .int v3)] hc hr (dc_at dX10_leadsRest 3 rfl) (by decide) rfl ?_
  exact gg_sub [2, 3, 4, 5, 1, 0] rfl (tl_X10_leadsRest_6 hc hr he hm hs  F _ _ _ _ _ _ _ hf)
def m_X10_leadsRest (F : Nat) (h : PH) (p0 : Nat) (p1 : Int32) (p2 : Int32) (p3 : Int32) : Option (Int32 × PH) := b_X10_leadsRest_0 F h p0 p1 p2 p3
theorem mt_X10_leadsRest {l : Launch} {X : XT} {F : Nat} {h hz : PH} {p0 : Nat} {p1 : Int32} {p2 : Int32} {p3 : Int32} {r : Int32} (ex : m_X10_leadsRest F h p0 p1 p2 p3 = some (r, hz)) : MT l X yX10_leadsRest cX10_leadsRest 10 (some .int) 2 118 0 0 [.ref (X.1 + p0), .int p1, .int p2, .int p3] h (some (.int r)) hz := MT.of (by decide) (Nat.le_of_ble_eq_true rfl) fun M hl hc hr he => by
  subst hl
  exact gg_sub [0, 1, 2, 3] rfl (t_X10_leadsRest_0  hc hr he (Nat.zero_le _) (Nat.zero_le _) ex)
/-! FractionLiftModel.restsOf(I)I -/
def lX10_restsOfL : List (Nat × Instr × Nat × Nat) := [(0, .iconst 1, 1, 1), (1, .iload_n 1, 1, 2), (2, .ishl, 1, 3), (3, .iconst 1, 1, 4), (4, .isub, 1, 5), (5, .istore_n 2, 1, 6), (6, .aload_n 0, 1, 7), (7, .getfield 13, 3, 10), (10, .bipush 7, 2, 12), (12, .iaload, 1, 13), (13, .i2l, 1, 14), (14, .aload_n 0, 1, 15), (15, .getfield 13, 3, 18), (18, .bipush 8, 2, 20), (20, .iaload, 1, 21), (21, .i2l, 1, 22), (22, .iload_n 1, 1, 23), (23, .invokestatic 412, 3, 26), (26, .istore_n 3, 1, 27), (27, .iload_n 3, 1, 28), (28, .iconst (-1), 1, 29), (29, .if_icmp .ne 5, 3, 32), (32, .iload_n 2, 1, 33), (33, .ireturn, 1, 34), (34, .iconst 1, 1, 35), (35, .iload_n 3, 1, 36), (36, .ishl, 1, 37), (37, .istore 4, 2, 39), (39, .iconst 0, 1, 40), (40, .istore 5, 2, 42), (42, .iload 4, 2, 44), (44, .iload 5, 2, 46), (46, .if_icmp .eq 86, 3, 49), (49, .iload 4, 2, 51), (51, .istore 5, 2, 53), (53, .iconst 0, 1, 54), (54, .istore 6, 2, 56), (56, .iload 6, 2, 58), (58, .iload_n 1, 1, 59), (59, .if_icmp .ge 70, 3, 62), (62, .iload 5, 2, 64), (64, .iload 6, 2, 66), (66, .ishr, 1, 67), (67, .iconst 1, 1, 68), (68, .iand, 1, 69), (69, .ifCond .ne 6, 3, 72), (72, .goto 51, 3, 75), (75, .iconst 0, 1, 76), (76, .istore 7, 2, 78), (78, .iload 7, 2, 80), (80, .aload_n 0, 1, 81), (81, .getfield 13, 3, 84), (84, .iconst 2, 1, 85), (85, .iaload, 1, 86), (86, .if_icmp .ge 37, 3, 89), (89, .aload_n 0, 1, 90), (90, .iload 7, 2, 92), (92, .iload 6, 2, 94), (94, .iload_n 1, 1, 95), (95, .invokevirtual 416, 3, 98), (98, .istore 8, 2, 100), (100, .iload 8, 2, 102), (102, .iconst (-1), 1, 103), (103, .if_icmp .ne 5, 3, 106), (106, .iload_n 2, 1, 107), (107, .ireturn, 1, 108), (108, .iload 4, 2, 110), (110, .iconst 1, 1, 111), (111, .iload 8, 2, 113), (113, .ishl, 1, 114), (114, .ior, 1, 115), (115, .istore 4, 2, 117), (117, .iinc 7 1, 3, 120), (120, .goto (-42), 3, 123), (123, .iinc 6 1, 3, 126), (126, .goto (-70), 3, 129), (129, .goto (-87), 3, 132), (132, .iload 4, 2, 134), (134, .ireturn, 1, 135)]
set_option maxRecDepth 20000 in
theorem dX10_restsOf : dcL cX10_restsOf lX10_restsOfL = true := by decide +kernel
def b_X10_restsOf_123 (F : Nat) (self30 : PH → Nat → Int32 → Int32 → Int32 → Int32 → Option (Int32 × PH)) (self37 : PH → Nat → Int32 → Int32 → Int32 → Int32 → Int32 → Option (Int32 × PH)) (h : PH) (v0 : Nat) (v1 : Int32) (v2 : Int32) (v4 : Int32) (v5 : Int32) (v6 : Int32) : Option (Int32 × PH) := bindv (v6 + (1)) fun x1 => (self37 h v0 v1 v2 v4 v5 x1)
set_option maxRecDepth 20000 in
theorem t_X10_restsOf_123 {M : MV} {X : XT} {F : Nat} {self30 : PH → Nat → Int32 → Int32 → Int32 → Int32 → Option (Int32 × PH)} {self37 : PH → Nat → Int32 → Int32 → Int32 → Int32 → Int32 → Option (Int32 × PH)} {h hz : PH} {r : Int32} {ce sl mc ms : Nat} {v0 : Nat} {v1 : Int32} {v2 : Int32} {v4 : Int32} {v5 : Int32} {v6 : Int32} (hc : Cx M X RX10 cX10_restsOf) (hr : Rx M 3 176 mc ms 9) (he : Ex M X (some .int) "restsOf" (some (.int r)) hz mc ms) (hm : ce ≤ mc) (hs : sl ≤ ms) (ih30 : ∀ (h : PH) (v0 : Nat) (v1 : Int32) (v2 : Int32) (v4 : Int32) (v5 : Int32), self30 h v0 v1 v2 v4 v5 = some (r, hz) → GG M X h ce sl 42 [(0, .ref (X.1 + v0)), (1, .int v1), (2, .int v2), (4, .int v4), (5, .int v5)] []) (ih37 : ∀ (h : PH) (v0 : Nat) (v1 : Int32) (v2 : Int32) (v4 : Int32) (v5 : Int32) (v6 : Int32), self37 h v0 v1 v2 v4 v5 v6 = some (r, hz) → GG M X h ce sl 56 [(0, .ref (X.1 + v0)), (1, .int v1), (2, .int v2), (4, .int v4), (5, .int v5), (6, .int v6)] []) (hf : b_X10_restsOf_123 F self30 self37 h v0 v1 v2 v4 v5 v6 = some (r, hz)) : GG M X h ce sl 123 [(0, .ref (X.1 + v0)), (1, .int v1), (2, .int v2), (4, .int v4), (5, .int v5), (6, .int v6)] [] := by
  unfold b_X10_restsOf_123 at hf
  refine obv hf fun x1 e_x1 hf => ?_
  refine r_iinc 5 [(6, .int x1), (0, .ref (X.1 + v0)), (1, .int v1), (2, .int v2), (4, .int v4), (5, .int v5)] hc hr (dc_at dX10_restsOf 74 rfl) rfl (by rw [e_x1]; rfl) (by decide) rfl ?_
  refine r_goto (tgt := 56) hc (dc_at dX10_restsOf 75 rfl) (by decide) ?_
  exact gg_sub [1, 2, 3, 4, 5, 0] rfl (ih37 _ _ _ _ _ _ _ hf)
def b_X10_restsOf_78 (F : Nat) (self30 : PH → Nat → Int32 → Int32 → Int32 → Int32 → Option (Int32 × PH)) (self37 : PH → Nat → Int32 → Int32 → Int32 → Int32 → Int32 → Option (Int32 × PH)) (self49 : PH → Nat → Int32 → Int32 → Int32 → Int32 → Int32 → Int32 → Option (Int32 × PH)) (h : PH) (v0 : Nat) (v1 : Int32) (v2 : Int32) (v4 : Int32) (v5 : Int32) (v6 : Int32) (v7 : Int32) : Option (Int32 × PH) := (gR 10 1 h v0).bind fun a1 => ((aI 0 h a1 (2 : Int32)).bind fun x2 => (if x2 ≤ v7 then (b_X10_restsOf_123 F self30 self37 h v0 v1 v2 v4 v5 v6) else (cO 10 h v0 (bind2 (m_X10_leadsRest F h v0 v7 v6 v1) fun x3 h4 => (if x3 = (-1 : Int32) then (some (v2, h4)) else (bindv ((v4 ||| (((1 : Int32) <<< (x3 &&& 31))))) fun x5 => (bindv (v7 + (1)) fun x6 => (self49 h4 v0 v1 v2 x5 v5 v6 x6))))))))
set_option maxRecDepth 20000 in
theorem tb_X10_restsOf_78 {M : MV} {X : XT} {F : Nat} {self30 : PH → Nat → Int32 → Int32 → Int32 → Int32 → Option (Int32 × PH)} {self37 : PH → Nat → Int32 → Int32 → Int32 → Int32 → Int32 → Option (Int32 × PH)} {self49 : PH → Nat → Int32 → Int32 → Int32 → Int32 → Int32 → Int32 → Option (Int32 × PH)} {h hz : PH} {r : Int32} {ce sl mc ms : Nat} {v0 : Nat} {v1 : Int32} {v2 : Int32} {v4 : Int32} {v5 : Int32} {v6 : Int32} {v7 : Int32} (hc : Cx M X RX10 cX10_restsOf) (hr : Rx M 3 176 mc ms 9) (he : Ex M X (some .int) "restsOf" (some (.int r)) hz mc ms) (hm : ce ≤ mc) (hs : sl ≤ ms) (ih30 : ∀ (h : PH) (v0 : Nat) (v1 : Int32) (v2 : Int32) (v4 : Int32) (v5 : Int32), self30 h v0 v1 v2 v4 v5 = some (r, hz) → GG M X h ce sl 42 [(0, .ref (X.1 + v0)), (1, .int v1), (2, .int v2), (4, .int v4), (5, .int v5)] []) (ih37 : ∀ (h : PH) (v0 : Nat) (v1 : Int32) (v2 : Int32) (v4 : Int32) (v5 : Int32) (v6 : Int32), self37 h v0 v1 v2 v4 v5 v6 = some (r, hz) → GG M X h ce sl 56 [(0, .ref (X.1 + v0)), (1, .int v1), (2, .int v2), (4, .int v4), (5, .int v5), (6, .int v6)] []) (ih49 : ∀ (h : PH) (v0 : Nat) (v1 : Int32) (v2 : Int32) (v4 : Int32) (v5 : Int32) (v6 : Int32) (v7 : Int32), self49 h v0 v1 v2 v4 v5 v6 v7 = some (r, hz) → GG M X h ce sl 78 [(0, .ref (X.1 + v0)), (1, .int v1), (2, .int v2), (4, .int v4), (5, .int v5), (6, .int v6), (7, .int v7)] []) (hf : b_X10_restsOf_78 F self30 self37 self49 h v0 v1 v2 v4 v5 v6 v7 = some (r, hz)) : GG M X h ce sl 78 [(0, .ref (X.1 + v0)), (1, .int v1), (2, .int v2), (4, .int v4), (5, .int v5), (6, .int v6), (7, .int v7)] [] := by
  unfold b_X10_restsOf_78 at hf
  refine r_iload hc 6 (dc_at dX10_restsOf 49 rfl) rfl ?_
  refine r_aload_n hc 0 (dc_at dX10_restsOf 50 rfl) rfl ?_
  refine r_getR hc (dc_at dX10_restsOf 51 rfl) fl_X10_13 hf fun a1 hf => ?_
  refine r_iconst (2 : Int32) hc (dc_at dX10_restsOf 52 rfl) (by decide) ?_
  refine r_iaload hc (dc_at dX10_restsOf 53 rfl) hf fun x2 hf => ?_
  refine r_icmp_ge (tgt := 123) hc (dc_at dX10_restsOf 54 rfl) (by decide) hf (fun hf => ?_) (fun hf => ?_)
  · exact gg_sub [0, 1, 2, 3, 4, 5] rfl (t_X10_restsOf_123 hc hr he hm hs ih30 ih37 hf)
  · refine r_aload_n hc 0 (dc_at dX10_restsOf 55 rfl) rfl ?_
    refine r_iload hc 6 (dc_at dX10_restsOf 56 rfl) rfl ?_
    refine r_iload hc 5 (dc_at dX10_restsOf 57 rfl) rfl ?_
    refine r_iload_n hc 1 (dc_at dX10_restsOf 58 rfl) rfl ?_
    obtain ⟨ho, hf⟩ := cO_some hf
    refine ob2 hf fun x3 h4 ex hf => ?_
    refine r_callVi (As := [.int v7, .int v6, .int v1]) (ci := 10) hc hr (dc_at dX10_restsOf 59 rfl) ml_X10_416 mv_X10_leadsRest vi_X10_leadsRest rfl ho rfl (mt_X10_leadsRest ex) (by first | exact Nat.le_of_ble_eq_true rfl | omega) (by first | exact Nat.le_of_ble_eq_true rfl | omega) (by first | exact Nat.le_of_ble_eq_true rfl | omega) hm hs ?_
    refine r_istore [(8, .int x3), (0, .ref (X.1 + v0)), (1, .int v1), (2, .int v2), (4, .int v4), (5, .int v5), (6, .int v6), (7, .int v7)] hc hr (dc_at dX10_restsOf 60 rfl) (by decide) rfl ?_
    refine r_iload hc 0 (dc_at dX10_restsOf 61 rfl) rfl ?_
    refine r_iconst (-1 : Int32) hc (dc_at dX10_restsOf 62 rfl) (by decide) ?_
    refine r_icmp_ne (tgt := 108) hc (dc_at dX10_restsOf 63 rfl) (by decide) hf (fun hf => ?_) (fun hf => ?_)
    · refine r_iload hc 4 (dc_at dX10_restsOf 66 rfl) rfl ?_
      refine r_iconst (1 : Int32) hc (dc_at dX10_restsOf 67 rfl) (by decide) ?_
      refine r_iload hc 0 (dc_at dX10_restsOf 68 rfl) rfl ?_
      refine r_ishl hc (dc_at dX10_restsOf 69 rfl) ?_
      refine r_ior hc (dc_at dX10_restsOf 70 rfl) ?_
      refine r_nm (mk := Value.int) hf fun x5 hf => ?_
      refine r_istore [(4, .int x5), (8, .int x3), (0, .ref (X.1 + v0)), (1, .int v1), (2, .int v2), (5, .int v5), (6, .int v6), (7, .int v7)] hc hr (dc_at dX10_restsOf 71 rfl) (by decide) rfl ?_
      refine obv hf fun x6 e_x6 hf => ?_
      refine r_iinc 7 [(7, .int x6), (4, .int x5), (8, .int x3), (0, .ref (X.1 + v0)), (1, .int v1), (2, .int v2), (5, .int v5), (6, .int v6)] hc hr (dc_at dX10_restsOf 72 rfl) rfl (by rw [e_x6]; rfl) (by decide) rfl ?_
      refine r_goto (tgt := 78) hc (dc_at dX10_restsOf 73 rfl) (by decide) ?_
      exact gg_sub [3, 4, 5, 1, 6, 7, 0] rfl (ih49 _ _ _ _ _ _ _ _ hf)
    · refine r_iload_n hc 3 (dc_at dX10_restsOf 64 rfl) rfl ?_
      exact r_iret hc he (hm) (hs) (dc_at dX10_restsOf 65 rfl) hf
def l_X10_restsOf_78 (F : Nat) (self30 : PH → Nat → Int32 → Int32 → Int32 → Int32 → Option (Int32 × PH)) (self37 : PH → Nat → Int32 → Int32 → Int32 → Int32 → Int32 → Option (Int32 × PH)) : Nat → PH → Nat → Int32 → Int32 → Int32 → Int32 → Int32 → Int32 → Option (Int32 × PH)
  | 0 => fun _ _ _ _ _ _ _ _ => none
  | n + 1 => fun h v0 v1 v2 v4 v5 v6 v7 => b_X10_restsOf_78 F self30 self37 (l_X10_restsOf_78 F self30 self37 n) h v0 v1 v2 v4 v5 v6 v7
theorem tl_X10_restsOf_78 {M : MV} {X : XT} {F : Nat} {self30 : PH → Nat → Int32 → Int32 → Int32 → Int32 → Option (Int32 × PH)} {self37 : PH → Nat → Int32 → Int32 → Int32 → Int32 → Int32 → Option (Int32 × PH)} {hz : PH} {r : Int32} {ce sl mc ms : Nat} (hc : Cx M X RX10 cX10_restsOf) (hr : Rx M 3 176 mc ms 9) (he : Ex M X (some .int) "restsOf" (some (.int r)) hz mc ms) (hm : ce ≤ mc) (hs : sl ≤ ms) (ih30 : ∀ (h : PH) (v0 : Nat) (v1 : Int32) (v2 : Int32) (v4 : Int32) (v5 : Int32), self30 h v0 v1 v2 v4 v5 = some (r, hz) → GG M X h ce sl 42 [(0, .ref (X.1 + v0)), (1, .int v1), (2, .int v2), (4, .int v4), (5, .int v5)] []) (ih37 : ∀ (h : PH) (v0 : Nat) (v1 : Int32) (v2 : Int32) (v4 : Int32) (v5 : Int32) (v6 : Int32), self37 h v0 v1 v2 v4 v5 v6 = some (r, hz) → GG M X h ce sl 56 [(0, .ref (X.1 + v0)), (1, .int v1), (2, .int v2), (4, .int v4), (5, .int v5), (6, .int v6)] []) (n : Nat) : ∀ (h : PH) (v0 : Nat) (v1 : Int32) (v2 : Int32) (v4 : Int32) (v5 : Int32) (v6 : Int32) (v7 : Int32), l_X10_restsOf_78 F self30 self37 n h v0 v1 v2 v4 v5 v6 v7 = some (r, hz) → GG M X h ce sl 78 [(0, .ref (X.1 + v0)), (1, .int v1), (2, .int v2), (4, .int v4), (5, .int v5), (6, .int v6), (7, .int v7)] [] := by
  induction n with
  | zero => intro h v0 v1 v2 v4 v5 v6 v7 hf; cases hf
  | succ n ih => intro h v0 v1 v2 v4 v5 v6 v7 hf; exact tb_X10_restsOf_78 (F := F) hc hr he hm hs ih30 ih37 ih hf
def b_X10_restsOf_56 (F : Nat) (self30 : PH → Nat → Int32 → Int32 → Int32 → Int32 → Option (Int32 × PH)) (self37 : PH → Nat → Int32 → Int32 → Int32 → Int32 → Int32 → Option (Int32 × PH)) (h : PH) (v0 : Nat) (v1 : Int32) (v2 : Int32) (v4 : Int32) (v5 : Int32) (v6 : Int32) : Option (Int32 × PH) := if v1 ≤ v6 then (self30 h v0 v1 v2 v4 v5) else (if ((((v5 >>> (v6 &&& 31))) &&& (1 : Int32))) = 0 then (b_X10_restsOf_123 F self30 self37 h v0 v1 v2 v4 v5 v6) else (l_X10_restsOf_78 F self30 self37 F h v0 v1 v2 v4 v5 v6 (0 : Int32)))
set_option maxRecDepth 20000 in
theorem tb_X10_restsOf_56 {M : MV} {X : XT} {F : Nat} {self30 : PH → Nat → Int32 → Int32 → Int32 → Int32 → Option (Int32 × PH)} {self37 : PH → Nat → Int32 → Int32 → Int32 → Int32 → Int32 → Option (Int32 × PH)} {h hz : PH} {r : Int32} {ce sl mc ms : Nat} {v0 : Nat} {v1 : Int32} {v2 : Int32} {v4 : Int32} {v5 : Int32} {v6 : Int32} (hc : Cx M X RX10 cX10_restsOf) (hr : Rx M 3 176 mc ms 9) (he : Ex M X (some .int) "restsOf" (some (.int r)) hz mc ms) (hm : ce ≤ mc) (hs : sl ≤ ms) (ih30 : ∀ (h : PH) (v0 : Nat) (v1 : Int32) (v2 : Int32) (v4 : Int32) (v5 : Int32), self30 h v0 v1 v2 v4 v5 = some (r, hz) → GG M X h ce sl 42 [(0, .ref (X.1 + v0)), (1, .int v1), (2, .int v2), (4, .int v4), (5, .int v5)] []) (ih37 : ∀ (h : PH) (v0 : Nat) (v1 : Int32) (v2 : Int32) (v4 : Int32) (v5 : Int32) (v6 : Int32), self37 h v0 v1 v2 v4 v5 v6 = some (r, hz) → GG M X h ce sl 56 [(0, .ref (X.1 + v0)), (1, .int v1), (2, .int v2), (4, .int v4), (5, .int v5), (6, .int v6)] []) (hf : b_X10_restsOf_56 F self30 self37 h v0 v1 v2 v4 v5 v6 = some (r, hz)) : GG M X h ce sl 56 [(0, .ref (X.1 + v0)), (1, .int v1), (2, .int v2), (4, .int v4), (5, .int v5), (6, .int v6)] [] := by
  unfold b_X10_restsOf_56 at hf
  refine r_iload hc 5 (dc_at dX10_restsOf 37 rfl) rfl ?_
  refine r_iload_n hc 1 (dc_at dX10_restsOf 38 rfl) rfl ?_
  refine r_icmp_ge (tgt := 129) hc (dc_at dX10_restsOf 39 rfl) (by decide) hf (fun hf => ?_) (fun hf => ?_)
  · refine r_goto (tgt := 42) hc (dc_at dX10_restsOf 76 rfl) (by decide) ?_
    exact gg_sub [0, 1, 2, 3, 4] rfl (ih30 _ _ _ _ _ _ hf)
  · refine r_iload hc 4 (dc_at dX10_restsOf 40 rfl) rfl ?_
    refine r_iload hc 5 (dc_at dX10_restsOf 41 rfl) rfl ?_
    refine r_ishr hc (dc_at dX10_restsOf 42 rfl) ?_
    refine r_iconst (1 : Int32) hc (dc_at dX10_restsOf 43 rfl) (by decide) ?_
    refine r_iand hc (dc_at dX10_restsOf 44 rfl) ?_
    refine r_if_ne (tgt := 75) hc (dc_at dX10_restsOf 45 rfl) (by decide) hf (fun hf => ?_) (fun hf => ?_)
    · refine r_iconst (0 : Int32) hc (dc_at dX10_restsOf 47 rfl) (by decide) ?_
      refine r_istore [(7, .int ((0 : Int32))), (0, .ref (X.1 + v0)), (1, .int v1), (2, .int v2), (4, .int v4), (5, .int v5), (6, .int v6)] hc hr (dc_at dX10_restsOf 48 rfl) (by decide) rfl ?_
      exact gg_sub [1, 2, 3, 4, 5, 6, 0] rfl (tl_X10_restsOf_78 hc hr he hm hs ih30 ih37 F _ _ _ _ _ _ _ _ hf)
    · refine r_goto (tgt := 123) hc (dc_at dX10_restsOf 46 rfl) (by decide) ?_
      exact gg_sub [0, 1, 2, 3, 4, 5] rfl (t_X10_restsOf_123 hc hr he hm hs ih30 ih37 hf)
def l_X10_restsOf_56 (F : Nat) (self30 : PH → Nat → Int32 → Int32 → Int32 → Int32 → Option (Int32 × PH)) : Nat → PH → Nat → Int32 → Int32 → Int32 → Int32 → Int32 → Option (Int32 × PH)
  | 0 => fun _ _ _ _ _ _ _ => none
  | n + 1 => fun h v0 v1 v2 v4 v5 v6 => b_X10_restsOf_56 F self30 (l_X10_restsOf_56 F self30 n) h v0 v1 v2 v4 v5 v6
theorem tl_X10_restsOf_56 {M : MV} {X : XT} {F : Nat} {self30 : PH → Nat → Int32 → Int32 → Int32 → Int32 → Option (Int32 × PH)} {hz : PH} {r : Int32} {ce sl mc ms : Nat} (hc : Cx M X RX10 cX10_restsOf) (hr : Rx M 3 176 mc ms 9) (he : Ex M X (some .int) "restsOf" (some (.int r)) hz mc ms) (hm : ce ≤ mc) (hs : sl ≤ ms) (ih30 : ∀ (h : PH) (v0 : Nat) (v1 : Int32) (v2 : Int32) (v4 : Int32) (v5 : Int32), self30 h v0 v1 v2 v4 v5 = some (r, hz) → GG M X h ce sl 42 [(0, .ref (X.1 + v0)), (1, .int v1), (2, .int v2), (4, .int v4), (5, .int v5)] []) (n : Nat) : ∀ (h : PH) (v0 : Nat) (v1 : Int32) (v2 : Int32) (v4 : Int32) (v5 : Int32) (v6 : Int32), l_X10_restsOf_56 F self30 n h v0 v1 v2 v4 v5 v6 = some (r, hz) → GG M X h ce sl 56 [(0, .ref (X.1 + v0)), (1, .int v1), (2, .int v2), (4, .int v4), (5, .int v5), (6, .int v6)] [] := by
  induction n with
  | zero => intro h v0 v1 v2 v4 v5 v6 hf; cases hf
  | succ n ih => intro h v0 v1 v2 v4 v5 v6 hf; exact tb_X10_restsOf_56 (F := F) hc hr he hm hs ih30 ih hf
def b_X10_restsOf_42 (F : Nat) (self30 : PH → Nat → Int32 → Int32 → Int32 → Int32 → Option (Int32 × PH)) (h : PH) (v0 : Nat) (v1 : Int32) (v2 : Int32) (v4 : Int32) (v5 : Int32) : Option (Int32 × PH) := if v4 = v5 then (some (v4, h)) else (l_X10_restsOf_56 F self30 F h v0 v1 v2 v4 v4 (0 : Int32))
set_option maxRecDepth 20000 in
theorem tb_X10_restsOf_42 {M : MV} {X : XT} {F : Nat} {self30 : PH → Nat → Int32 → Int32 → Int32 → Int32 → Option (Int32 × PH)} {h hz : PH} {r : Int32} {ce sl mc ms : Nat} {v0 : Nat} {v1 : Int32} {v2 : Int32} {v4 : Int32} {v5 : Int32} (hc : Cx M X RX10 cX10_restsOf) (hr : Rx M 3 176 mc ms 9) (he : Ex M X (some .int) "restsOf" (some (.int r)) hz mc ms) (hm : ce ≤ mc) (hs : sl ≤ ms) (ih30 : ∀ (h : PH) (v0 : Nat) (v1 : Int32) (v2 : Int32) (v4 : Int32) (v5 : Int32), self30 h v0 v1 v2 v4 v5 = some (r, hz) → GG M X h ce sl 42 [(0, .ref (X.1 + v0)), (1, .int v1), (2, .int v2), (4, .int v4), (5, .int v5)] []) (hf : b_X10_restsOf_42 F self30 h v0 v1 v2 v4 v5 = some (r, hz)) : GG M X h ce sl 42 [(0, .ref (X.1 + v0)), (1, .int v1), (2, .int v2), (4, .int v4), (5, .int v5)] [] := by
  unfold b_X10_restsOf_42 at hf
  refine r_iload hc 3 (dc_at dX10_restsOf 30 rfl) rfl ?_
  refine r_iload hc 4 (dc_at dX10_restsOf 31 rfl) rfl ?_
  refine r_icmp_eq (tgt := 132) hc (dc_at dX10_restsOf 32 rfl) (by decide) hf (fun hf => ?_) (fun hf => ?_)
  · refine r_iload hc 3 (dc_at dX10_restsOf 77 rfl) rfl ?_
    exact r_iret hc he (hm) (hs) (dc_at dX10_restsOf 78 rfl) hf
  · refine r_iload hc 3 (dc_at dX10_restsOf 33 rfl) rfl ?_
    refine r_istore [(5, .int v4), (0, .ref (X.1 + v0)), (1, .int v1), (2, .int v2), (4, .int v4)] hc hr (dc_at dX10_restsOf 34 rfl) (by decide) rfl ?_
    refine r_iconst (0 : Int32) hc (dc_at dX10_restsOf 35 rfl) (by decide) ?_
    refine r_istore [(6, .int ((0 : Int32))), (5, .int v4), (0, .ref (X.1 + v0)), (1, .int v1), (2, .int v2), (4, .int v4)] hc hr (dc_at dX10_restsOf 36 rfl) (by decide) rfl ?_
    exact gg_sub [2, 3, 4, 5, 1, 0] rfl (tl_X10_restsOf_56 hc hr he hm hs ih30 F _ _ _ _ _ _ _ hf)
def l_X10_restsOf_42 (F : Nat) : Nat → PH → Nat → Int32 → Int32 → Int32 → Int32 → Option (Int32 × PH)
  | 0 => fun _ _ _ _ _ _ => none
  | n + 1 => fun h v0 v1 v2 v4 v5 => b_X10_restsOf_42 F (l_X10_restsOf_42 F n) h v0 v1 v2 v4 v5
theorem tl_X10_restsOf_42 {M : MV} {X : XT} {F : Nat} {hz : PH} {r : Int32} {ce sl mc ms : Nat} (hc : Cx M X RX10 cX10_restsOf) (hr : Rx M 3 176 mc ms 9) (he : Ex M X (some .int) "restsOf" (some (.int r)) hz mc ms) (hm : ce ≤ mc) (hs : sl ≤ ms) (n : Nat) : ∀ (h : PH) (v0 : Nat) (v1 : Int32) (v2 : Int32) (v4 : Int32) (v5 : Int32), l_X10_restsOf_42 F n h v0 v1 v2 v4 v5 = some (r, hz) → GG M X h ce sl 42 [(0, .ref (X.1 + v0)), (1, .int v1), (2, .int v2), (4, .int v4), (5, .int v5)] [] := by
  induction n with
  | zero => intro h v0 v1 v2 v4 v5 hf; cases hf
  | succ n ih => intro h v0 v1 v2 v4 v5 hf; exact tb_X10_restsOf_42 (F := F) hc hr he hm hs  ih hf
def b_X10_restsOf_0 (F : Nat) (h : PH) (v0 : Nat) (v1 : Int32) : Option (Int32 × PH) := bindv (((((1 : Int32) <<< (v1 &&& 31))) - (1 : Int32))) fun x1 => ((gR 10 1 h v0).bind fun a2 => ((aI 0 h a2 (7 : Int32)).bind fun x3 => ((gR 10 1 h v0).bind fun a4 => ((aI 0 h a4 (8 : Int32)).bind fun x5 => ((m_X10_restOf F (Int32.toInt64 x3) (Int32.toInt64 x5) v1).bind fun x6 => (if x6 = (-1 : Int32) then (some (x1, h)) else (bindv (((1 : Int32) <<< (x6 &&& 31))) fun x7 => (l_X10_restsOf_42 F F h v0 v1 x1 x7 (0 : Int32)))))))))
set_option maxRecDepth 20000 in
theorem t_X10_restsOf_0 {M : MV} {X : XT} {F : Nat} {h hz : PH} {r : Int32} {ce sl mc ms : Nat} {v0 : Nat} {v1 : Int32} (hc : Cx M X RX10 cX10_restsOf) (hr : Rx M 3 176 mc ms 9) (he : Ex M X (some .int) "restsOf" (some (.int r)) hz mc ms) (hm : ce ≤ mc) (hs : sl ≤ ms) (hf : b_X10_restsOf_0 F h v0 v1 = some (r, hz)) : GG M X h ce sl 0 [(0, .ref (X.1 + v0)), (1, .int v1)] [] := by
  unfold b_X10_restsOf_0 at hf
  refine r_iconst (1 : Int32) hc (dc_at dX10_restsOf 0 rfl) (by decide) ?_
  refine r_iload_n hc 1 (dc_at dX10_restsOf 1 rfl) rfl ?_
  refine r_ishl hc (dc_at dX10_restsOf 2 rfl) ?_
  refine r_iconst (1 : Int32) hc (dc_at dX10_restsOf 3 rfl) (by decide) ?_
  refine r_isub hc (dc_at dX10_restsOf 4 rfl) ?_
  refine r_nm (mk := Value.int) hf fun x1 hf => ?_
  refine r_istore_n [(2, .int x1), (0, .ref (X.1 + v0)), (1, .int v1)] hc hr (dc_at dX10_restsOf 5 rfl) (by decide) rfl ?_
  refine r_aload_n hc 1 (dc_at dX10_restsOf 6 rfl) rfl ?_
  refine r_getR hc (dc_at dX10_restsOf 7 rfl) fl_X10_13 hf fun a2 hf => ?_
  refine r_bipush (7 : Int32) hc (dc_at dX10_restsOf 8 rfl) (by decide) ?_
  refine r_iaload hc (dc_at dX10_restsOf 9 rfl) hf fun x3 hf => ?_
  refine r_i2l hc (dc_at dX10_restsOf 10 rfl) ?_
  refine r_aload_n hc 1 (dc_at dX10_restsOf 11 rfl) rfl ?_
  refine r_getR hc (dc_at dX10_restsOf 12 rfl) fl_X10_13 hf fun a4 hf => ?_
  refine r_bipush (8 : Int32) hc (dc_at dX10_restsOf 13 rfl) (by decide) ?_
  refine r_iaload hc (dc_at dX10_restsOf 14 rfl) hf fun x5 hf => ?_
  refine r_i2l hc (dc_at dX10_restsOf 15 rfl) ?_
  refine r_iload_n hc 2 (dc_at dX10_restsOf 16 rfl) rfl ?_
  refine ob hf fun x6 ex hf => ?_
  refine r_callSi (As := [.long ((Int32.toInt64 x3)), .long ((Int32.toInt64 x5)), .int v1]) hc hr (dc_at dX10_restsOf 17 rfl) ml_X10_412 mv_X10_restOf st_X10_restOf rfl (mt_X10_restOf ex) (by first | exact Nat.le_of_ble_eq_true rfl | omega) (by first | exact Nat.le_of_ble_eq_true rfl | omega) (by first | exact Nat.le_of_ble_eq_true rfl | omega) hm hs ?_
  refine r_istore_n [(3, .int x6), (2, .int x1), (0, .ref (X.1 + v0)), (1, .int v1)] hc hr (dc_at dX10_restsOf 18 rfl) (by decide) rfl ?_
  refine r_iload_n hc 0 (dc_at dX10_restsOf 19 rfl) rfl ?_
  refine r_iconst (-1 : Int32) hc (dc_at dX10_restsOf 20 rfl) (by decide) ?_
  refine r_icmp_ne (tgt := 34) hc (dc_at dX10_restsOf 21 rfl) (by decide) hf (fun hf => ?_) (fun hf => ?_)
  · refine r_iconst (1 : Int32) hc (dc_at dX10_restsOf 24 rfl) (by decide) ?_
    refine r_iload_n hc 0 (dc_at dX10_restsOf 25 rfl) rfl ?_
    refine r_ishl hc (dc_at dX10_restsOf 26 rfl) ?_
    refine r_nm (mk := Value.int) hf fun x7 hf => ?_
    refine r_istore [(4, .int x7), (3, .int x6), (2, .int x1), (0, .ref (X.1 + v0)), (1, .int v1)] hc hr (dc_at dX10_restsOf 27 rfl) (by decide) rfl ?_
    refine r_iconst (0 : Int32) hc (dc_at dX10_restsOf 28 rfl) (by decide) ?_
    refine r_istore [(5, .int ((0 : Int32))), (4, .int x7), (3, .int x6), (2, .int x1), (0, .ref (X.1 + v0)), (1, .int v1)] hc hr (dc_at dX10_restsOf 29 rfl) (by decide) rfl ?_
    exact gg_sub [4, 5, 3, 1, 0] rfl (tl_X10_restsOf_42 hc hr he hm hs  F _ _ _ _ _ _ hf)
  · refine r_iload_n hc 1 (dc_at dX10_restsOf 22 rfl) rfl ?_
    exact r_iret hc he (hm) (hs) (dc_at dX10_restsOf 23 rfl) hf
def m_X10_restsOf (F : Nat) (h : PH) (p0 : Nat) (p1 : Int32) : Option (Int32 × PH) := b_X10_restsOf_0 F h p0 p1
theorem mt_X10_restsOf {l : Launch} {X : XT} {F : Nat} {h hz : PH} {p0 : Nat} {p1 : Int32} {r : Int32} (ex : m_X10_restsOf F h p0 p1 = some (r, hz)) : MT l X yX10_restsOf cX10_restsOf 9 (some .int) 3 176 0 0 [.ref (X.1 + p0), .int p1] h (some (.int r)) hz := MT.of (by decide) (Nat.le_of_ble_eq_true rfl) fun M hl hc hr he => by
  subst hl
  exact gg_sub [0, 1] rfl (t_X10_restsOf_0  hc hr he (Nat.zero_le _) (Nat.zero_le _) ex)
/-! FractionLiftModel.isNever(IJJ)Z -/
def lX10_isNeverL : List (Nat × Instr × Nat × Nat) := [(0, .lload_n 2, 1, 1), (1, .lload 4, 2, 3), (3, .iload_n 1, 1, 4), (4, .invokestatic 412, 3, 7), (7, .istore 6, 2, 9), (9, .iload 6, 2, 11), (11, .iconst (-1), 1, 12), (12, .if_icmp .eq 20, 3, 15), (15, .aload_n 0, 1, 16), (16, .iload_n 1, 1, 17), (17, .invokevirtual 419, 3, 20), (20, .iload 6, 2, 22), (22, .ishr, 1, 23), (23, .iconst 1, 1, 24), (24, .iand, 1, 25), (25, .ifCond .ne 7, 3, 28), (28, .iconst 1, 1, 29), (29, .goto 4, 3, 32), (32, .iconst 0, 1, 33), (33, .ireturn, 1, 34)]
set_option maxRecDepth 20000 in
theorem dX10_isNever : dcL cX10_isNever lX10_isNeverL = true := by decide +kernel
def b_X10_isNever_0 (F : Nat) (h : PH) (v0 : Nat) (v1 : Int32) (v2 : Int64) (v4 : Int64) : Option (Int32 × PH) := (m_X10_restOf F v2 v4 v1).bind fun x1 => (if x1 = (-1 : Int32) then (rZ (0 : Int32) h) else (cO 10 h v0 (bind2 (m_X10_restsOf F h v0 v1) fun x2 h3 => (if ((((x2 >>> (x1 &&& 31))) &&& (1 : Int32))) = 0 then (rZ (1 : Int32) h3) else (rZ (0 : Int32) h3)))))
set_option maxRecDepth 20000 in
theorem t_X10_isNever_0 {M : MV} {X : XT} {F : Nat} {h hz : PH} {r : Int32} {ce sl mc ms : Nat} {v0 : Nat} {v1 : Int32} {v2 : Int64} {v4 : Int64} (hc : Cx M X RX10 cX10_isNever) (hr : Rx M 4 234 mc ms 7) (he : Ex M X (some .boolean) "isNever" (some (.int r)) hz mc ms) (hm : ce ≤ mc) (hs : sl ≤ ms) (hf : b_X10_isNever_0 F h v0 v1 v2 v4 = some (r, hz)) : GG M X h ce sl 0 [(0, .ref (X.1 + v0)), (1, .int v1), (2, .long v2), (4, .long v4)] [] := by
  unfold b_X10_isNever_0 at hf
  refine r_lload_n hc 2 (dc_at dX10_isNever 0 rfl) rfl ?_
  refine r_lload hc 3 (dc_at dX10_isNever 1 rfl) rfl ?_
  refine r_iload_n hc 1 (dc_at dX10_isNever 2 rfl) rfl ?_
  refine ob hf fun x1 ex hf => ?_
  refine r_callSi (As := [.long v2, .long v4, .int v1]) hc hr (dc_at dX10_isNever 3 rfl) ml_X10_412 mv_X10_restOf st_X10_restOf rfl (mt_X10_restOf ex) (by first | exact Nat.le_of_ble_eq_true rfl | omega) (by first | exact Nat.le_of_ble_eq_true rfl | omega) (by first | exact Nat.le_of_ble_eq_true rfl | omega) hm hs ?_
  refine r_istore [(6, .int x1), (0, .ref (X.1 + v0)), (1, .int v1), (2, .long v2), (4, .long v4)] hc hr (dc_at dX10_isNever 4 rfl) (by decide) rfl ?_
  refine r_iload hc 0 (dc_at dX10_isNever 5 rfl) rfl ?_
  refine r_iconst (-1 : Int32) hc (dc_at dX10_isNever 6 rfl) (by decide) ?_
  refine r_icmp_eq (tgt := 32) hc (dc_at dX10_isNever 7 rfl) (by decide) hf (fun hf => ?_) (fun hf => ?_)
  · refine r_iconst (0 : Int32) hc (dc_at dX10_isNever 18 rfl) (by decide) ?_
    exact r_zret hc he (hm) (hs) (dc_at dX10_isNever 19 rfl) hf
  · refine r_aload_n hc 1 (dc_at dX10_isNever 8 rfl) rfl ?_
    refine r_iload_n hc 2 (dc_at dX10_isNever 9 rfl) rfl ?_
    obtain ⟨ho, hf⟩ := cO_some hf
    refine ob2 hf fun x2 h3 ex hf => ?_
    refine r_callVi (As := [.int v1]) (ci := 10) hc hr (dc_at dX10_isNever 10 rfl) ml_X10_419 mv_X10_restsOf vi_X10_restsOf rfl ho rfl (mt_X10_restsOf ex) (by first | exact Nat.le_of_ble_eq_true rfl | omega) (by first | exact Nat.le_of_ble_eq_true rfl | omega) (by first | exact Nat.le_of_ble_eq_true rfl | omega) hm hs ?_
    refine r_iload hc 0 (dc_at dX10_isNever 11 rfl) rfl ?_
    refine r_ishr hc (dc_at dX10_isNever 12 rfl) ?_
    refine r_iconst (1 : Int32) hc (dc_at dX10_isNever 13 rfl) (by decide) ?_
    refine r_iand hc (dc_at dX10_isNever 14 rfl) ?_
    refine r_if_ne (tgt := 32) hc (dc_at dX10_isNever 15 rfl) (by decide) hf (fun hf => ?_) (fun hf => ?_)
    · refine r_iconst (0 : Int32) hc (dc_at dX10_isNever 18 rfl) (by decide) ?_
      exact r_zret hc he (hm) (hs) (dc_at dX10_isNever 19 rfl) hf
    · refine r_iconst (1 : Int32) hc (dc_at dX10_isNever 16 rfl) (by decide) ?_
      refine r_goto (tgt := 33) hc (dc_at dX10_isNever 17 rfl) (by decide) ?_
      exact r_zret hc he (hm) (hs) (dc_at dX10_isNever 19 rfl) hf
def m_X10_isNever (F : Nat) (h : PH) (p0 : Nat) (p1 : Int32) (p2 : Int64) (p4 : Int64) : Option (Int32 × PH) := b_X10_isNever_0 F h p0 p1 p2 p4
theorem mt_X10_isNever {l : Launch} {X : XT} {F : Nat} {h hz : PH} {p0 : Nat} {p1 : Int32} {p2 : Int64} {p4 : Int64} {r : Int32} (ex : m_X10_isNever F h p0 p1 p2 p4 = some (r, hz)) : MT l X yX10_isNever cX10_isNever 7 (some .boolean) 4 234 0 0 [.ref (X.1 + p0), .int p1, .long p2, .long p4] h (some (.int r)) hz := MT.of (by decide) (Nat.le_of_ble_eq_true rfl) fun M hl hc hr he => by
  subst hl
  exact gg_sub [0, 1, 2, 3] rfl (t_X10_isNever_0  hc hr he (Nat.zero_le _) (Nat.zero_le _) ex)
/-! FractionLiftModel.never(III)I -/
def lX10_neverL : List (Nat × Instr × Nat × Nat) := [(0, .aload_n 0, 1, 1), (1, .iconst 0, 1, 2), (2, .putfield 1, 3, 5), (5, .iload_n 1, 1, 6), (6, .i2l, 1, 7), (7, .ldc2_w 292, 3, 10), (10, .ldc2_w 422, 3, 13), (13, .invokestatic 172, 3, 16), (16, .ifCond .eq 14, 3, 19), (19, .aload_n 0, 1, 20), (20, .iload_n 2, 1, 21), (21, .i2l, 1, 22), (22, .iload_n 3, 1, 23), (23, .i2l, 1, 24), (24, .invokevirtual 282, 3, 27), (27, .ifCond .ne 6, 3, 30), (30, .bipush (-3), 2, 32), (32, .ireturn, 1, 33), (33, .aload_n 0, 1, 34), (34, .iload_n 1, 1, 35), (35, .aload_n 0, 1, 36), (36, .getfield 180, 3, 39), (39, .aload_n 0, 1, 40), (40, .getfield 184, 3, 43), (43, .invokevirtual 424, 3, 46), (46, .ifCond .eq 7, 3, 49), (49, .iconst 1, 1, 50), (50, .goto 4, 3, 53), (53, .iconst 0, 1, 54), (54, .ireturn, 1, 55)]
set_option maxRecDepth 20000 in
theorem dX10_never : dcL cX10_never lX10_neverL = true := by decide +kernel
def b_X10_never_0 (F : Nat) (h : PH) (v0 : Nat) (v1 : Int32) (v2 : Int32) (v3 : Int32) : Option (Int32 × PH) := (pV 10 0 (.int (0 : Int32)) h v0).bind fun h1 => ((m_X10_within (Int32.toInt64 v1) (2 : Int64) (30 : Int64)).bind fun x2 => (if x2 = 0 then (some ((-3 : Int32), h1)) else (cO 10 h1 v0 (bind2 (m_X10_asks h1 v0 (Int32.toInt64 v2) (Int32.toInt64 v3)) fun x3 h4 => (if x3 = 0 then (some ((-3 : Int32), h4)) else ((gL 10 15 h4 v0).bind fun x5 => ((gL 10 16 h4 v0).bind fun x6 => (cO 10 h4 v0 (bind2 (m_X10_isNever F h4 v0 v1 x5 x6) fun x7 h8 => (if x7 = 0 then (some ((0 : Int32), h8)) else (some ((1 : Int32), h8))))))))))))
set_option maxRecDepth 20000 in
theorem t_X10_never_0 {M : MV} {X : XT} {F : Nat} {h hz : PH} {r : Int32} {ce sl mc ms : Nat} {v0 : Nat} {v1 : Int32} {v2 : Int32} {v3 : Int32} (hc : Cx M X RX10 cX10_never) (hr : Rx M 134 7774 mc ms 4) (he : Ex M X (some .int) "never" (some (.int r)) hz mc ms) (hm : ce ≤ mc) (hs : sl ≤ ms) (hf : b_X10_never_0 F h v0 v1 v2 v3 = some (r, hz)) : GG M X h ce sl 0 [(0, .ref (X.1 + v0)), (1, .int v1), (2, .int v2), (3, .int v3)] [] := by
  unfold b_X10_never_0 at hf
  refine r_aload_n hc 0 (dc_at dX10_never 0 rfl) rfl ?_
  refine r_iconst (0 : Int32) hc (dc_at dX10_never 1 rfl) (by decide) ?_
  refine r_putI hc he (dc_at dX10_never 2 rfl) fp_X10_1 (fun q => by cases q) hf fun h1 hf => ?_
  refine r_iload_n hc 1 (dc_at dX10_never 3 rfl) rfl ?_
  refine r_i2l hc (dc_at dX10_never 4 rfl) ?_
  refine r_ldc2 hc (dc_at dX10_never 5 rfl) cl2_X10_292 ?_
  refine r_ldc2 hc (dc_at dX10_never 6 rfl) cl2_X10_422 ?_
  refine ob hf fun x2 ex hf => ?_
  refine r_callSi (As := [.long ((Int32.toInt64 v1)), .long ((2 : Int64)), .long ((30 : Int64))]) hc hr (dc_at dX10_never 7 rfl) ml_X10_172 mv_X10_within st_X10_within rfl (mt_X10_within ex) (by first | exact Nat.le_of_ble_eq_true rfl | omega) (by first | exact Nat.le_of_ble_eq_true rfl | omega) (by first | exact Nat.le_of_ble_eq_true rfl | omega) hm hs ?_
  refine r_if_eq (tgt := 30) hc (dc_at dX10_never 8 rfl) (by decide) hf (fun hf => ?_) (fun hf => ?_)
  · refine r_bipush (-3 : Int32) hc (dc_at dX10_never 16 rfl) (by decide) ?_
    exact r_iret hc he (hm) (hs) (dc_at dX10_never 17 rfl) hf
  · refine r_aload_n hc 0 (dc_at dX10_never 9 rfl) rfl ?_
    refine r_iload_n hc 2 (dc_at dX10_never 10 rfl) rfl ?_
    refine r_i2l hc (dc_at dX10_never 11 rfl) ?_
    refine r_iload_n hc 3 (dc_at dX10_never 12 rfl) rfl ?_
    refine r_i2l hc (dc_at dX10_never 13 rfl) ?_
    obtain ⟨ho, hf⟩ := cO_some hf
    refine ob2 hf fun x3 h4 ex hf => ?_
    refine r_callVi (As := [.long ((Int32.toInt64 v2)), .long ((Int32.toInt64 v3))]) (ci := 10) hc hr (dc_at dX10_never 14 rfl) ml_X10_282 mv_X10_asks vi_X10_asks rfl ho rfl (mt_X10_asks ex) (by first | exact Nat.le_of_ble_eq_true rfl | omega) (by first | exact Nat.le_of_ble_eq_true rfl | omega) (by first | exact Nat.le_of_ble_eq_true rfl | omega) hm hs ?_
    refine r_if_ne (tgt := 33) hc (dc_at dX10_never 15 rfl) (by decide) hf (fun hf => ?_) (fun hf => ?_)
    · refine r_aload_n hc 0 (dc_at dX10_never 18 rfl) rfl ?_
      refine r_iload_n hc 1 (dc_at dX10_never 19 rfl) rfl ?_
      refine r_aload_n hc 0 (dc_at dX10_never 20 rfl) rfl ?_
      refine r_getL hc (dc_at dX10_never 21 rfl) fl_X10_180 hf fun x5 hf => ?_
      refine r_aload_n hc 0 (dc_at dX10_never 22 rfl) rfl ?_
      refine r_getL hc (dc_at dX10_never 23 rfl) fl_X10_184 hf fun x6 hf => ?_
      obtain ⟨ho, hf⟩ := cO_some hf
      refine ob2 hf fun x7 h8 ex hf => ?_
      refine r_callVi (As := [.int v1, .long x5, .long x6]) (ci := 10) hc hr (dc_at dX10_never 24 rfl) ml_X10_424 mv_X10_isNever vi_X10_isNever rfl ho rfl (mt_X10_isNever ex) (by first | exact Nat.le_of_ble_eq_true rfl | omega) (by first | exact Nat.le_of_ble_eq_true rfl | omega) (by first | exact Nat.le_of_ble_eq_true rfl | omega) hm hs ?_
      refine r_if_eq (tgt := 53) hc (dc_at dX10_never 25 rfl) (by decide) hf (fun hf => ?_) (fun hf => ?_)
      · refine r_iconst (0 : Int32) hc (dc_at dX10_never 28 rfl) (by decide) ?_
        exact r_iret hc he (hm) (hs) (dc_at dX10_never 29 rfl) hf
      · refine r_iconst (1 : Int32) hc (dc_at dX10_never 26 rfl) (by decide) ?_
        refine r_goto (tgt := 54) hc (dc_at dX10_never 27 rfl) (by decide) ?_
        exact r_iret hc he (hm) (hs) (dc_at dX10_never 29 rfl) hf
    · refine r_bipush (-3 : Int32) hc (dc_at dX10_never 16 rfl) (by decide) ?_
      exact r_iret hc he (hm) (hs) (dc_at dX10_never 17 rfl) hf
def m_X10_never (F : Nat) (h : PH) (p0 : Nat) (p1 : Int32) (p2 : Int32) (p3 : Int32) : Option (Int32 × PH) := b_X10_never_0 F h p0 p1 p2 p3
theorem mt_X10_never {l : Launch} {X : XT} {F : Nat} {h hz : PH} {p0 : Nat} {p1 : Int32} {p2 : Int32} {p3 : Int32} {r : Int32} (ex : m_X10_never F h p0 p1 p2 p3 = some (r, hz)) : MT l X yX10_never cX10_never 4 (some .int) 134 7774 0 0 [.ref (X.1 + p0), .int p1, .int p2, .int p3] h (some (.int r)) hz := MT.of (by decide) (Nat.le_of_ble_eq_true rfl) fun M hl hc hr he => by
  subst hl
  exact gg_sub [0, 1, 2, 3] rfl (t_X10_never_0  hc hr he (Nat.zero_le _) (Nat.zero_le _) ex)
/-! FractionLiftModel.shown(II)I -/
def lX10_shownL : List (Nat × Instr × Nat × Nat) := [(0, .aload_n 0, 1, 1), (1, .iconst 0, 1, 2), (2, .putfield 1, 3, 5), (5, .aload_n 0, 1, 6), (6, .iload_n 1, 1, 7), (7, .i2l, 1, 8), (8, .iload_n 2, 1, 9), (9, .i2l, 1, 10), (10, .invokevirtual 282, 3, 13), (13, .ifCond .ne 6, 3, 16), (16, .bipush (-3), 2, 18), (18, .ireturn, 1, 19), (19, .aload_n 0, 1, 20), (20, .getfield 180, 3, 23), (23, .lstore_n 3, 1, 24), (24, .aload_n 0, 1, 25), (25, .getfield 184, 3, 28), (28, .lstore 5, 2, 30), (30, .iconst 2, 1, 31), (31, .istore 7, 2, 33), (33, .iload 7, 2, 35), (35, .bipush 30, 2, 37), (37, .if_icmp .gt 24, 3, 40), (40, .aload_n 0, 1, 41), (41, .iload 7, 2, 43), (43, .lload_n 3, 1, 44), (44, .lload 5, 2, 46), (46, .invokevirtual 424, 3, 49), (49, .ifCond .eq 6, 3, 52), (52, .iload 7, 2, 54), (54, .ireturn, 1, 55), (55, .iinc 7 1, 3, 58), (58, .goto (-25), 3, 61), (61, .iconst (-1), 1, 62), (62, .ireturn, 1, 63)]
set_option maxRecDepth 20000 in
theorem dX10_shown : dcL cX10_shown lX10_shownL = true := by decide +kernel
def b_X10_shown_33 (F : Nat) (self20 : PH → Nat → Int64 → Int64 → Int32 → Option (Int32 × PH)) (h : PH) (v0 : Nat) (v3 : Int64) (v5 : Int64) (v7 : Int32) : Option (Int32 × PH) := if (30 : Int32) < v7 then (some ((-1 : Int32), h)) else (cO 10 h v0 (bind2 (m_X10_isNever F h v0 v7 v3 v5) fun x1 h2 => (if x1 = 0 then (bindv (v7 + (1)) fun x3 => (self20 h2 v0 v3 v5 x3)) else (some (v7, h2)))))
set_option maxRecDepth 20000 in
theorem tb_X10_shown_33 {M : MV} {X : XT} {F : Nat} {self20 : PH → Nat → Int64 → Int64 → Int32 → Option (Int32 × PH)} {h hz : PH} {r : Int32} {ce sl mc ms : Nat} {v0 : Nat} {v3 : Int64} {v5 : Int64} {v7 : Int32} (hc : Cx M X RX10 cX10_shown) (hr : Rx M 134 7774 mc ms 8) (he : Ex M X (some .int) "shown" (some (.int r)) hz mc ms) (hm : ce ≤ mc) (hs : sl ≤ ms) (ih20 : ∀ (h : PH) (v0 : Nat) (v3 : Int64) (v5 : Int64) (v7 : Int32), self20 h v0 v3 v5 v7 = some (r, hz) → GG M X h ce sl 33 [(0, .ref (X.1 + v0)), (3, .long v3), (5, .long v5), (7, .int v7)] []) (hf : b_X10_shown_33 F self20 h v0 v3 v5 v7 = some (r, hz)) : GG M X h ce sl 33 [(0, .ref (X.1 + v0)), (3, .long v3), (5, .long v5), (7, .int v7)] [] := by
  unfold b_X10_shown_33 at hf
  refine r_iload hc 3 (dc_at dX10_shown 20 rfl) rfl ?_
  refine r_bipush (30 : Int32) hc (dc_at dX10_shown 21 rfl) (by decide) ?_
  refine r_icmp_gt (tgt := 61) hc (dc_at dX10_shown 22 rfl) (by decide) hf (fun hf => ?_) (fun hf => ?_)
  · refine r_iconst (-1 : Int32) hc (dc_at dX10_shown 33 rfl) (by decide) ?_
    exact r_iret hc he (hm) (hs) (dc_at dX10_shown 34 rfl) hf
  · refine r_aload_n hc 0 (dc_at dX10_shown 23 rfl) rfl ?_
    refine r_iload hc 3 (dc_at dX10_shown 24 rfl) rfl ?_
    refine r_lload_n hc 1 (dc_at dX10_shown 25 rfl) rfl ?_
    refine r_lload hc 2 (dc_at dX10_shown 26 rfl) rfl ?_
    obtain ⟨ho, hf⟩ := cO_some hf
    refine ob2 hf fun x1 h2 ex hf => ?_
    refine r_callVi (As := [.int v7, .long v3, .long v5]) (ci := 10) hc hr (dc_at dX10_shown 27 rfl) ml_X10_424 mv_X10_isNever vi_X10_isNever rfl ho rfl (mt_X10_isNever ex) (by first | exact Nat.le_of_ble_eq_true rfl | omega) (by first | exact Nat.le_of_ble_eq_true rfl | omega) (by first | exact Nat.le_of_ble_eq_true rfl | omega) hm hs ?_
    refine r_if_eq (tgt := 55) hc (dc_at dX10_shown 28 rfl) (by decide) hf (fun hf => ?_) (fun hf => ?_)
    · refine obv hf fun x3 e_x3 hf => ?_
      refine r_iinc 3 [(7, .int x3), (0, .ref (X.1 + v0)), (3, .long v3), (5, .long v5)] hc hr (dc_at dX10_shown 31 rfl) rfl (by rw [e_x3]; rfl) (by decide) rfl ?_
      refine r_goto (tgt := 33) hc (dc_at dX10_shown 32 rfl) (by decide) ?_
      exact gg_sub [1, 2, 3, 0] rfl (ih20 _ _ _ _ _ hf)
    · refine r_iload hc 3 (dc_at dX10_shown 29 rfl) rfl ?_
      exact r_iret hc he (hm) (hs) (dc_at dX10_shown 30 rfl) hf
def l_X10_shown_33 (F : Nat) : Nat → PH → Nat → Int64 → Int64 → Int32 → Option (Int32 × PH)
  | 0 => fun _ _ _ _ _ => none
  | n + 1 => fun h v0 v3 v5 v7 => b_X10_shown_33 F (l_X10_shown_33 F n) h v0 v3 v5 v7
theorem tl_X10_shown_33 {M : MV} {X : XT} {F : Nat} {hz : PH} {r : Int32} {ce sl mc ms : Nat} (hc : Cx M X RX10 cX10_shown) (hr : Rx M 134 7774 mc ms 8) (he : Ex M X (some .int) "shown" (some (.int r)) hz mc ms) (hm : ce ≤ mc) (hs : sl ≤ ms) (n : Nat) : ∀ (h : PH) (v0 : Nat) (v3 : Int64) (v5 : Int64) (v7 : Int32), l_X10_shown_33 F n h v0 v3 v5 v7 = some (r, hz) → GG M X h ce sl 33 [(0, .ref (X.1 + v0)), (3, .long v3), (5, .long v5), (7, .int v7)] [] := by
  induction n with
  | zero => intro h v0 v3 v5 v7 hf; cases hf
  | succ n ih => intro h v0 v3 v5 v7 hf; exact tb_X10_shown_33 (F := F) hc hr he hm hs  ih hf
def b_X10_shown_0 (F : Nat) (h : PH) (v0 : Nat) (v1 : Int32) (v2 : Int32) : Option (Int32 × PH) := (pV 10 0 (.int (0 : Int32)) h v0).bind fun h1 => (cO 10 h1 v0 (bind2 (m_X10_asks h1 v0 (Int32.toInt64 v1) (Int32.toInt64 v2)) fun x2 h3 => (if x2 = 0 then (some ((-3 : Int32), h3)) else ((gL 10 15 h3 v0).bind fun x4 => ((gL 10 16 h3 v0).bind fun x5 => (l_X10_shown_33 F F h3 v0 x4 x5 (2 : Int32)))))))
set_option maxRecDepth 20000 in
theorem t_X10_shown_0 {M : MV} {X : XT} {F : Nat} {h hz : PH} {r : Int32} {ce sl mc ms : Nat} {v0 : Nat} {v1 : Int32} {v2 : Int32} (hc : Cx M X RX10 cX10_shown) (hr : Rx M 134 7774 mc ms 8) (he : Ex M X (some .int) "shown" (some (.int r)) hz mc ms) (hm : ce ≤ mc) (hs : sl ≤ ms) (hf : b_X10_shown_0 F h v0 v1 v2 = some (r, hz)) : GG M X h ce sl 0 [(0, .ref (X.1 + v0)), (1, .int v1), (2, .int v2)] [] := by
  unfold b_X10_shown_0 at hf
  refine r_aload_n hc 0 (dc_at dX10_shown 0 rfl) rfl ?_
  refine r_iconst (0 : Int32) hc (dc_at dX10_shown 1 rfl) (by decide) ?_
  refine r_putI hc he (dc_at dX10_shown 2 rfl) fp_X10_1 (fun q => by cases q) hf fun h1 hf => ?_
  refine r_aload_n hc 0 (dc_at dX10_shown 3 rfl) rfl ?_
  refine r_iload_n hc 1 (dc_at dX10_shown 4 rfl) rfl ?_
  refine r_i2l hc (dc_at dX10_shown 5 rfl) ?_
  refine r_iload_n hc 2 (dc_at dX10_shown 6 rfl) rfl ?_
  refine r_i2l hc (dc_at dX10_shown 7 rfl) ?_
  obtain ⟨ho, hf⟩ := cO_some hf
  refine ob2 hf fun x2 h3 ex hf => ?_
  refine r_callVi (As := [.long ((Int32.toInt64 v1)), .long ((Int32.toInt64 v2))]) (ci := 10) hc hr (dc_at dX10_shown 8 rfl) ml_X10_282 mv_X10_asks vi_X10_asks rfl ho rfl (mt_X10_asks ex) (by first | exact Nat.le_of_ble_eq_true rfl | omega) (by first | exact Nat.le_of_ble_eq_true rfl | omega) (by first | exact Nat.le_of_ble_eq_true rfl | omega) hm hs ?_
  refine r_if_ne (tgt := 19) hc (dc_at dX10_shown 9 rfl) (by decide) hf (fun hf => ?_) (fun hf => ?_)
  · refine r_aload_n hc 0 (dc_at dX10_shown 12 rfl) rfl ?_
    refine r_getL hc (dc_at dX10_shown 13 rfl) fl_X10_180 hf fun x4 hf => ?_
    refine r_lstore_n [(3, .long x4), (0, .ref (X.1 + v0)), (1, .int v1), (2, .int v2)] hc hr (dc_at dX10_shown 14 rfl) (by decide) rfl ?_
    refine r_aload_n hc 1 (dc_at dX10_shown 15 rfl) rfl ?_
    refine r_getL hc (dc_at dX10_shown 16 rfl) fl_X10_184 hf fun x5 hf => ?_
    refine r_lstore [(5, .long x5), (3, .long x4), (0, .ref (X.1 + v0)), (1, .int v1), (2, .int v2)] hc hr (dc_at dX10_shown 17 rfl) (by decide) rfl ?_
    refine r_iconst (2 : Int32) hc (dc_at dX10_shown 18 rfl) (by decide) ?_
    refine r_istore [(7, .int ((2 : Int32))), (5, .long x5), (3, .long x4), (0, .ref (X.1 + v0)), (1, .int v1), (2, .int v2)] hc hr (dc_at dX10_shown 19 rfl) (by decide) rfl ?_
    exact gg_sub [3, 2, 1, 0] rfl (tl_X10_shown_33 hc hr he hm hs  F _ _ _ _ _ hf)
  · refine r_bipush (-3 : Int32) hc (dc_at dX10_shown 10 rfl) (by decide) ?_
    exact r_iret hc he (hm) (hs) (dc_at dX10_shown 11 rfl) hf
def m_X10_shown (F : Nat) (h : PH) (p0 : Nat) (p1 : Int32) (p2 : Int32) : Option (Int32 × PH) := b_X10_shown_0 F h p0 p1 p2
theorem mt_X10_shown {l : Launch} {X : XT} {F : Nat} {h hz : PH} {p0 : Nat} {p1 : Int32} {p2 : Int32} {r : Int32} (ex : m_X10_shown F h p0 p1 p2 = some (r, hz)) : MT l X yX10_shown cX10_shown 8 (some .int) 134 7774 0 0 [.ref (X.1 + p0), .int p1, .int p2] h (some (.int r)) hz := MT.of (by decide) (Nat.le_of_ble_eq_true rfl) fun M hl hc hr he => by
  subst hl
  exact gg_sub [0, 1, 2] rfl (t_X10_shown_0  hc hr he (Nat.zero_le _) (Nat.zero_le _) ex)
/-! FractionLiftModel.rests(I)I -/
def lX10_restsL : List (Nat × Instr × Nat × Nat) := [(0, .aload_n 0, 1, 1), (1, .iconst 0, 1, 2), (2, .putfield 1, 3, 5), (5, .iload_n 1, 1, 6), (6, .i2l, 1, 7), (7, .ldc2_w 292, 3, 10), (10, .ldc2_w 422, 3, 13), (13, .invokestatic 172, 3, 16), (16, .ifCond .eq 11, 3, 19), (19, .aload_n 0, 1, 20), (20, .iload_n 1, 1, 21), (21, .invokevirtual 419, 3, 24), (24, .goto 5, 3, 27), (27, .bipush (-3), 2, 29), (29, .ireturn, 1, 30)]
set_option maxRecDepth 20000 in
theorem dX10_rests : dcL cX10_rests lX10_restsL = true := by decide +kernel
def b_X10_rests_0 (F : Nat) (h : PH) (v0 : Nat) (v1 : Int32) : Option (Int32 × PH) := (pV 10 0 (.int (0 : Int32)) h v0).bind fun h1 => ((m_X10_within (Int32.toInt64 v1) (2 : Int64) (30 : Int64)).bind fun x2 => (if x2 = 0 then (some ((-3 : Int32), h1)) else (cO 10 h1 v0 (bind2 (m_X10_restsOf F h1 v0 v1) fun x3 h4 => (some (x3, h4))))))
set_option maxRecDepth 20000 in
theorem t_X10_rests_0 {M : MV} {X : XT} {F : Nat} {h hz : PH} {r : Int32} {ce sl mc ms : Nat} {v0 : Nat} {v1 : Int32} (hc : Cx M X RX10 cX10_rests) (hr : Rx M 4 234 mc ms 2) (he : Ex M X (some .int) "rests" (some (.int r)) hz mc ms) (hm : ce ≤ mc) (hs : sl ≤ ms) (hf : b_X10_rests_0 F h v0 v1 = some (r, hz)) : GG M X h ce sl 0 [(0, .ref (X.1 + v0)), (1, .int v1)] [] := by
  unfold b_X10_rests_0 at hf
  refine r_aload_n hc 0 (dc_at dX10_rests 0 rfl) rfl ?_
  refine r_iconst (0 : Int32) hc (dc_at dX10_rests 1 rfl) (by decide) ?_
  refine r_putI hc he (dc_at dX10_rests 2 rfl) fp_X10_1 (fun q => by cases q) hf fun h1 hf => ?_
  refine r_iload_n hc 1 (dc_at dX10_rests 3 rfl) rfl ?_
  refine r_i2l hc (dc_at dX10_rests 4 rfl) ?_
  refine r_ldc2 hc (dc_at dX10_rests 5 rfl) cl2_X10_292 ?_
  refine r_ldc2 hc (dc_at dX10_rests 6 rfl) cl2_X10_422 ?_
  refine ob hf fun x2 ex hf => ?_
  refine r_callSi (As := [.long ((Int32.toInt64 v1)), .long ((2 : Int64)), .long ((30 : Int64))]) hc hr (dc_at dX10_rests 7 rfl) ml_X10_172 mv_X10_within st_X10_within rfl (mt_X10_within ex) (by first | exact Nat.le_of_ble_eq_true rfl | omega) (by first | exact Nat.le_of_ble_eq_true rfl | omega) (by first | exact Nat.le_of_ble_eq_true rfl | omega) hm hs ?_
  refine r_if_eq (tgt := 27) hc (dc_at dX10_rests 8 rfl) (by decide) hf (fun hf => ?_) (fun hf => ?_)
  · refine r_bipush (-3 : Int32) hc (dc_at dX10_rests 13 rfl) (by decide) ?_
    exact r_iret hc he (hm) (hs) (dc_at dX10_rests 14 rfl) hf
  · refine r_aload_n hc 0 (dc_at dX10_rests 9 rfl) rfl ?_
    refine r_iload_n hc 1 (dc_at dX10_rests 10 rfl) rfl ?_
    obtain ⟨ho, hf⟩ := cO_some hf
    refine ob2 hf fun x3 h4 ex hf => ?_
    refine r_callVi (As := [.int v1]) (ci := 10) hc hr (dc_at dX10_rests 11 rfl) ml_X10_419 mv_X10_restsOf vi_X10_restsOf rfl ho rfl (mt_X10_restsOf ex) (by first | exact Nat.le_of_ble_eq_true rfl | omega) (by first | exact Nat.le_of_ble_eq_true rfl | omega) (by first | exact Nat.le_of_ble_eq_true rfl | omega) hm hs ?_
    refine r_goto (tgt := 29) hc (dc_at dX10_rests 12 rfl) (by decide) ?_
    exact r_iret hc he (hm) (hs) (dc_at dX10_rests 14 rfl) hf
def m_X10_rests (F : Nat) (h : PH) (p0 : Nat) (p1 : Int32) : Option (Int32 × PH) := b_X10_rests_0 F h p0 p1
theorem mt_X10_rests {l : Launch} {X : XT} {F : Nat} {h hz : PH} {p0 : Nat} {p1 : Int32} {r : Int32} (ex : m_X10_rests F h p0 p1 = some (r, hz)) : MT l X yX10_rests cX10_rests 2 (some .int) 4 234 0 0 [.ref (X.1 + p0), .int p1] h (some (.int r)) hz := MT.of (by decide) (Nat.le_of_ble_eq_true rfl) fun M hl hc hr he => by
  subst hl
  exact gg_sub [0, 1] rfl (t_X10_rests_0  hc hr he (Nat.zero_le _) (Nat.zero_le _) ex)
/-! FractionLiftModel.laysMeet(IIIZ)Z -/
def lX10_laysMeetL : List (Nat × Instr × Nat × Nat) := [(0, .aload_n 0, 1, 1), (1, .aload_n 0, 1, 2), (2, .getfield 13, 3, 5), (5, .bipush 49, 2, 7), (7, .iload_n 1, 1, 8), (8, .iadd, 1, 9), (9, .iaload, 1, 10), (10, .aload_n 0, 1, 11), (11, .getfield 13, 3, 14), (14, .bipush 55, 2, 16), (16, .iload_n 1, 1, 17), (17, .iadd, 1, 18), (18, .iaload, 1, 19), (19, .invokevirtual 368, 3, 22), (22, .iconst 0, 1, 23), (23, .istore 5, 2, 25), (25, .iload 5, 2, 27), (27, .iload_n 3, 1, 28), (28, .if_icmp .ge 18, 3, 31), (31, .aload_n 0, 1, 32), (32, .iconst 0, 1, 33), (33, .invokevirtual 371, 3, 36), (36, .aload_n 0, 1, 37), (37, .invokevirtual 375, 3, 40), (40, .iinc 5 1, 3, 43), (43, .goto (-18), 3, 46), (46, .aload_n 0, 1, 47), (47, .getfield 365, 3, 50), (50, .istore 5, 2, 52), (52, .iconst 0, 1, 53), (53, .istore 6, 2, 55), (55, .iload 6, 2, 57), (57, .iload 5, 2, 59), (59, .if_icmp .ge 37, 3, 62), (62, .aload_n 0, 1, 63), (63, .getfield 67, 3, 66), (66, .iload 6, 2, 68), (68, .aload_n 0, 1, 69), (69, .getfield 58, 3, 72), (72, .iload 6, 2, 74), (74, .iaload, 1, 75), (75, .iastore, 1, 76), (76, .aload_n 0, 1, 77), (77, .getfield 70, 3, 80), (80, .iload 6, 2, 82), (82, .aload_n 0, 1, 83), (83, .getfield 61, 3, 86), (86, .iload 6, 2, 88), (88, .iaload, 1, 89), (89, .iastore, 1, 90), (90, .iinc 6 1, 3, 93), (93, .goto (-38), 3, 96), (96, .aload_n 0, 1, 97), (97, .aload_n 0, 1, 98), (98, .getfield 13, 3, 101), (101, .bipush 49, 2, 103), (103, .iload_n 2, 1, 104), (104, .iadd, 1, 105), (105, .iaload, 1, 106), (106, .aload_n 0, 1, 107), (107, .getfield 13, 3, 110), (110, .bipush 55, 2, 112), (112, .iload_n 2, 1, 113), (113, .iadd, 1, 114), (114, .iaload, 1, 115), (115, .invokevirtual 368, 3, 118), (118, .iconst 0, 1, 119), (119, .istore 6, 2, 121), (121, .iload 6, 2, 123), (123, .iload_n 3, 1, 124), (124, .if_icmp .ge 19, 3, 127), (127, .aload_n 0, 1, 128), (128, .iload 4, 2, 130), (130, .invokevirtual 371, 3, 133), (133, .aload_n 0, 1, 134), (134, .invokevirtual 375, 3, 137), (137, .iinc 6 1, 3, 140), (140, .goto (-19), 3, 143), (143, .aload_n 0, 1, 144), (144, .invokevirtual 348, 3, 147), (147, .iconst 0, 1, 148), (148, .istore 6, 2, 150), (150, .iload 6, 2, 152), (152, .aload_n 0, 1, 153), (153, .getfield 365, 3, 156), (156, .if_icmp .ge 31, 3, 159), (159, .aload_n 0, 1, 160), (160, .aload_n 0, 1, 161), (161, .getfield 58, 3, 164), (164, .iload 6, 2, 166), (166, .iaload, 1, 167), (167, .i2l, 1, 168), (168, .aload_n 0, 1, 169), (169, .getfield 61, 3, 172), (172, .iload 6, 2, 174), (174, .iaload, 1, 175), (175, .i2l, 1, 176), (176, .iconst (-1), 1, 177), (177, .iconst (-1), 1, 178), (178, .invokevirtual 351, 3, 181), (181, .iinc 6 1, 3, 184), (184, .goto (-34), 3, 187), (187, .iconst 0, 1, 188), (188, .istore 6, 2, 190), (190, .iconst 0, 1, 191), (191, .istore 7, 2, 193), (193, .iload 7, 2, 195), (195, .iload 5, 2, 197), (197, .if_icmp .ge 98, 3, 200), (200, .aload_n 0, 1, 201), (201, .aload_n 0, 1, 202), (202, .getfield 67, 3, 205), (205, .iload 7, 2, 207), (207, .iaload, 1, 208), (208, .i2l, 1, 209), (209, .aload_n 0, 1, 210), (210, .getfield 70, 3, 213), (213, .iload 7, 2, 215), (215, .iaload, 1, 216), (216, .i2l, 1, 217), (217, .invokevirtual 355, 3, 220), (220, .iconst (-1), 1, 221), (221, .if_icmp .eq 68, 3, 224), (224, .iload 6, 2, 226), (226, .ifCond .eq 38, 3, 229), (229, .aload_n 0, 1, 230), (230, .getfield 67, 3, 233), (233, .iload 7, 2, 235), (235, .iaload, 1, 236), (236, .i2l, 1, 237), (237, .aload_n 0, 1, 238), (238, .getfield 70, 3, 241), (241, .iload 7, 2, 243), (243, .iaload, 1, 244), (244, .i2l, 1, 245), (245, .aload_n 0, 1, 246), (246, .getfield 428, 3, 249), (249, .i2l, 1, 250), (250, .aload_n 0, 1, 251), (251, .getfield 431, 3, 254), (254, .i2l, 1, 255), (255, .invokestatic 243, 3, 258), (258, .ifCond .lt 6, 3, 261), (261, .goto 28, 3, 264), (264, .aload_n 0, 1, 265), (265, .aload_n 0, 1, 266), (266, .getfield 67, 3, 269), (269, .iload 7, 2, 271), (271, .iaload, 1, 272), (272, .putfield 428, 3, 275), (275, .aload_n 0, 1, 276), (276, .aload_n 0, 1, 277), (277, .getfield 70, 3, 280), (280, .iload 7, 2, 282), (282, .iaload, 1, 283), (283, .putfield 431, 3, 286), (286, .iconst 1, 1, 287), (287, .istore 6, 2, 289), (289, .iinc 7 1, 3, 292), (292, .goto (-99), 3, 295), (295, .iload 6, 2, 297), (297, .ireturn, 1, 298)]
set_option maxRecDepth 20000 in
theorem dX10_laysMeet : dcL cX10_laysMeet lX10_laysMeetL = true := by decide +kernel
def b_X10_laysMeet_289 (F : Nat) (self106 : PH → Nat → Int32 → Int32 → Int32 → Option (Int32 × PH)) (h : PH) (v0 : Nat) (v5 : Int32) (v6 : Int32) (v7 : Int32) : Option (Int32 × PH) := bindv (v7 + (1)) fun x1 => (self106 h v0 v5 v6 x1)
set_option maxRecDepth 20000 in
theorem t_X10_laysMeet_289 {M : MV} {X : XT} {F : Nat} {self106 : PH → Nat → Int32 → Int32 → Int32 → Option (Int32 × PH)} {h hz : PH} {r : Int32} {ce sl mc ms : Nat} {v0 : Nat} {v5 : Int32} {v6 : Int32} {v7 : Int32} (hc : Cx M X RX10 cX10_laysMeet) (hr : Rx M 137 7948 mc ms 8) (he : Ex M X (some .boolean) "laysMeet" (some (.int r)) hz mc ms) (hm : ce ≤ mc) (hs : sl ≤ ms) (ih106 : ∀ (h : PH) (v0 : Nat) (v5 : Int32) (v6 : Int32) (v7 : Int32), self106 h v0 v5 v6 v7 = some (r, hz) → GG M X h ce sl 193 [(0, .ref (X.1 + v0)), (5, .int v5), (6, .int v6), (7, .int v7)] []) (hf : b_X10_laysMeet_289 F self106 h v0 v5 v6 v7 = some (r, hz)) : GG M X h ce sl 289 [(0, .ref (X.1 + v0)), (5, .int v5), (6, .int v6), (7, .int v7)] [] := by
  unfold b_X10_laysMeet_289 at hf
  refine obv hf fun x1 e_x1 hf => ?_
  refine r_iinc 3 [(7, .int x1), (0, .ref (X.1 + v0)), (5, .int v5), (6, .int v6)] hc hr (dc_at dX10_laysMeet 158 rfl) rfl (by rw [e_x1]; rfl) (by decide) rfl ?_
  refine r_goto (tgt := 193) hc (dc_at dX10_laysMeet 159 rfl) (by decide) ?_
  exact gg_sub [1, 2, 3, 0] rfl (ih106 _ _ _ _ _ hf)
def b_X10_laysMeet_264 (F : Nat) (self106 : PH → Nat → Int32 → Int32 → Int32 → Option (Int32 × PH)) (h : PH) (v0 : Nat) (v5 : Int32) (v7 : Int32) : Option (Int32 × PH) := (gR 10 37 h v0).bind fun a1 => ((aI 0 h a1 v7).bind fun x2 => ((pV 10 39 (.int x2) h v0).bind fun h3 => ((gR 10 38 h3 v0).bind fun a4 => ((aI 0 h3 a4 v7).bind fun x5 => ((pV 10 40 (.int x5) h3 v0).bind fun h6 => (b_X10_laysMeet_289 F self106 h6 v0 v5 (1 : Int32) v7))))))
set_option maxRecDepth 20000 in
theorem t_X10_laysMeet_264 {M : MV} {X : XT} {F : Nat} {self106 : PH → Nat → Int32 → Int32 → Int32 → Option (Int32 × PH)} {h hz : PH} {r : Int32} {ce sl mc ms : Nat} {v0 : Nat} {v5 : Int32} {v7 : Int32} (hc : Cx M X RX10 cX10_laysMeet) (hr : Rx M 137 7948 mc ms 8) (he : Ex M X (some .boolean) "laysMeet" (some (.int r)) hz mc ms) (hm : ce ≤ mc) (hs : sl ≤ ms) (ih106 : ∀ (h : PH) (v0 : Nat) (v5 : Int32) (v6 : Int32) (v7 : Int32), self106 h v0 v5 v6 v7 = some (r, hz) → GG M X h ce sl 193 [(0, .ref (X.1 + v0)), (5, .int v5), (6, .int v6), (7, .int v7)] []) (hf : b_X10_laysMeet_264 F self106 h v0 v5 v7 = some (r, hz)) : GG M X h ce sl 264 [(0, .ref (X.1 + v0)), (5, .int v5), (7, .int v7)] [] := by
  unfold b_X10_laysMeet_264 at hf
  refine r_aload_n hc 0 (dc_at dX10_laysMeet 144 rfl) rfl ?_
  refine r_aload_n hc 0 (dc_at dX10_laysMeet 145 rfl) rfl ?_
  refine r_getR hc (dc_at dX10_laysMeet 146 rfl) fl_X10_67 hf fun a1 hf => ?_
  refine r_iload hc 2 (dc_at dX10_laysMeet 147 rfl) rfl ?_
  refine r_iaload hc (dc_at dX10_laysMeet 148 rfl) hf fun x2 hf => ?_
  refine r_putI hc he (dc_at dX10_laysMeet 149 rfl) fp_X10_428 (fun q => by cases q) hf fun h3 hf => ?_
  refine r_aload_n hc 0 (dc_at dX10_laysMeet 150 rfl) rfl ?_
  refine r_aload_n hc 0 (dc_at dX10_laysMeet 151 rfl) rfl ?_
  refine r_getR hc (dc_at dX10_laysMeet 152 rfl) fl_X10_70 hf fun a4 hf => ?_
  refine r_iload hc 2 (dc_at dX10_laysMeet 153 rfl) rfl ?_
  refine r_iaload hc (dc_at dX10_laysMeet 154 rfl) hf fun x5 hf => ?_
  refine r_putI hc he (dc_at dX10_laysMeet 155 rfl) fp_X10_431 (fun q => by cases q) hf fun h6 hf => ?_
  refine r_iconst (1 : Int32) hc (dc_at dX10_laysMeet 156 rfl) (by decide) ?_
  refine r_istore [(6, .int ((1 : Int32))), (0, .ref (X.1 + v0)), (5, .int v5), (7, .int v7)] hc hr (dc_at dX10_laysMeet 157 rfl) (by decide) rfl ?_
  exact gg_sub [1, 2, 0, 3] rfl (t_X10_laysMeet_289 hc hr he hm hs ih106 hf)
def b_X10_laysMeet_193 (F : Nat) (self106 : PH → Nat → Int32 → Int32 → Int32 → Option (Int32 × PH)) (h : PH) (v0 : Nat) (v5 : Int32) (v6 : Int32) (v7 : Int32) : Option (Int32 × PH) := if v5 ≤ v7 then (rZ v6 h) else ((gR 10 37 h v0).bind fun a1 => ((aI 0 h a1 v7).bind fun x2 => ((gR 10 38 h v0).bind fun a3 => ((aI 0 h a3 v7).bind fun x4 => (cO 10 h v0 ((m_X10_metAt F h v0 (Int32.toInt64 x2) (Int32.toInt64 x4)).bind fun x5 => (if x5 = (-1 : Int32) then (b_X10_laysMeet_289 F self106 h v0 v5 v6 v7) else (if v6 = 0 then (b_X10_laysMeet_264 F self106 h v0 v5 v7) else ((gR 10 37 h v0).bind fun a6 => ((aI 0 h a6 v7).bind fun x7 => ((gR 10 38 h v0).bind fun a8 => ((aI 0 h a8 v7).bind fun x9 => ((gI 10 39 h v0).bind fun x10 => ((gI 10 40 h v0).bind fun x11 => ((m_X10_against (Int32.toInt64 x7) (Int32.toInt64 x9) (Int32.toInt64 x10) (Int32.toInt64 x11)).bind fun x12 => (if x12 < 0 then (b_X10_laysMeet_264 F self106 h v0 v5 v7) else (b_X10_laysMeet_289 F self106 h v0 v5 v6 v7)))))))))))))))))
set_option maxRecDepth 20000 in
theorem tb_X10_laysMeet_193 {M : MV} {X : XT} {F : Nat} {self106 : PH → Nat → Int32 → Int32 → Int32 → Option (Int32 × PH)} {h hz : PH} {r : Int32} {ce sl mc ms : Nat} {v0 : Nat} {v5 : Int32} {v6 : Int32} {v7 : Int32} (hc : Cx M X RX10 cX10_laysMeet) (hr : Rx M 137 7948 mc ms 8) (he : Ex M X (some .boolean) "laysMeet" (some (.int r)) hz mc ms) (hm : ce ≤ mc) (hs : sl ≤ ms) (ih106 : ∀ (h : PH) (v0 : Nat) (v5 : Int32) (v6 : Int32) (v7 : Int32), self106 h v0 v5 v6 v7 = some (r, hz) → GG M X h ce sl 193 [(0, .ref (X.1 + v0)), (5, .int v5), (6, .int v6), (7, .int v7)] []) (hf : b_X10_laysMeet_193 F self106 h v0 v5 v6 v7 = some (r, hz)) : GG M X h ce sl 193 [(0, .ref (X.1 + v0)), (5, .int v5), (6, .int v6), (7, .int v7)] [] := by
  unfold b_X10_laysMeet_193 at hf
  refine r_iload hc 3 (dc_at dX10_laysMeet 106 rfl) rfl ?_
  refine r_iload hc 1 (dc_at dX10_laysMeet 107 rfl) rfl ?_
  refine r_icmp_ge (tgt := 295) hc (dc_at dX10_laysMeet 108 rfl) (by decide) hf (fun hf => ?_) (fun hf => ?_)
  · refine r_iload hc 2 (dc_at dX10_laysMeet 160 rfl) rfl ?_
    exact r_zret hc he (hm) (hs) (dc_at dX10_laysMeet 161 rfl) hf
  · refine r_aload_n hc 0 (dc_at dX10_laysMeet 109 rfl) rfl ?_
    refine r_aload_n hc 0 (dc_at dX10_laysMeet 110 rfl) rfl ?_
    refine r_getR hc (dc_at dX10_laysMeet 111 rfl) fl_X10_67 hf fun a1 hf => ?_
    refine r_iload hc 3 (dc_at dX10_laysMeet 112 rfl) rfl ?_
    refine r_iaload hc (dc_at dX10_laysMeet 113 rfl) hf fun x2 hf => ?_
    refine r_i2l hc (dc_at dX10_laysMeet 114 rfl) ?_
    refine r_aload_n hc 0 (dc_at dX10_laysMeet 115 rfl) rfl ?_
    refine r_getR hc (dc_at dX10_laysMeet 116 rfl) fl_X10_70 hf fun a3 hf => ?_
    refine r_iload hc 3 (dc_at dX10_laysMeet 117 rfl) rfl ?_
    refine r_iaload hc (dc_at dX10_laysMeet 118 rfl) hf fun x4 hf => ?_
    refine r_i2l hc (dc_at dX10_laysMeet 119 rfl) ?_
    obtain ⟨ho, hf⟩ := cO_some hf
    refine ob hf fun x5 ex hf => ?_
    refine r_callVi (As := [.long ((Int32.toInt64 x2)), .long ((Int32.toInt64 x4))]) (ci := 10) hc hr (dc_at dX10_laysMeet 120 rfl) ml_X10_355 mv_X10_metAt vi_X10_metAt rfl ho rfl (mt_X10_metAt ex) (by first | exact Nat.le_of_ble_eq_true rfl | omega) (by first | exact Nat.le_of_ble_eq_true rfl | omega) (by first | exact Nat.le_of_ble_eq_true rfl | omega) hm hs ?_
    refine r_iconst (-1 : Int32) hc (dc_at dX10_laysMeet 121 rfl) (by decide) ?_
    refine r_icmp_eq (tgt := 289) hc (dc_at dX10_laysMeet 122 rfl) (by decide) hf (fun hf => ?_) (fun hf => ?_)
    · exact gg_sub [0, 1, 2, 3] rfl (t_X10_laysMeet_289 hc hr he hm hs ih106 hf)
    · refine r_iload hc 2 (dc_at dX10_laysMeet 123 rfl) rfl ?_
      refine r_if_eq (tgt := 264) hc (dc_at dX10_laysMeet 124 rfl) (by decide) hf (fun hf => ?_) (fun hf => ?_)
      · exact gg_sub [0, 1, 3] rfl (t_X10_laysMeet_264 hc hr he hm hs ih106 hf)
      · refine r_aload_n hc 0 (dc_at dX10_laysMeet 125 rfl) rfl ?_
        refine r_getR hc (dc_at dX10_laysMeet 126 rfl) fl_X10_67 hf fun a6 hf => ?_
        refine r_iload hc 3 (dc_at dX10_laysMeet 127 rfl) rfl ?_
        refine r_iaload hc (dc_at dX10_laysMeet 128 rfl) hf fun x7 hf => ?_
        refine r_i2l hc (dc_at dX10_laysMeet 129 rfl) ?_
        refine r_aload_n hc 0 (dc_at dX10_laysMeet 130 rfl) rfl ?_
        refine r_getR hc (dc_at dX10_laysMeet 131 rfl) fl_X10_70 hf fun a8 hf => ?_
        refine r_iload hc 3 (dc_at dX10_laysMeet 132 rfl) rfl ?_
        refine r_iaload hc (dc_at dX10_laysMeet 133 rfl) hf fun x9 hf => ?_
        refine r_i2l hc (dc_at dX10_laysMeet 134 rfl) ?_
        refine r_aload_n hc 0 (dc_at dX10_laysMeet 135 rfl) rfl ?_
        refine r_getI hc (dc_at dX10_laysMeet 136 rfl) fl_X10_428 hf fun x10 hf => ?_
        refine r_i2l hc (dc_at dX10_laysMeet 137 rfl) ?_
        refine r_aload_n hc 0 (dc_at dX10_laysMeet 138 rfl) rfl ?_
        refine r_getI hc (dc_at dX10_laysMeet 139 rfl) fl_X10_431 hf fun x11 hf => ?_
        refine r_i2l hc (dc_at dX10_laysMeet 140 rfl) ?_
        refine ob hf fun x12 ex hf => ?_
        refine r_callSi (As := [.long ((Int32.toInt64 x7)), .long ((Int32.toInt64 x9)), .long ((Int32.toInt64 x10)), .long ((Int32.toInt64 x11))]) hc hr (dc_at dX10_laysMeet 141 rfl) ml_X10_243 mv_X10_against st_X10_against rfl (mt_X10_against ex) (by first | exact Nat.le_of_ble_eq_true rfl | omega) (by first | exact Nat.le_of_ble_eq_true rfl | omega) (by first | exact Nat.le_of_ble_eq_true rfl | omega) hm hs ?_
        refine r_if_lt (tgt := 264) hc (dc_at dX10_laysMeet 142 rfl) (by decide) hf (fun hf => ?_) (fun hf => ?_)
        · exact gg_sub [0, 1, 3] rfl (t_X10_laysMeet_264 hc hr he hm hs ih106 hf)
        · refine r_goto (tgt := 289) hc (dc_at dX10_laysMeet 143 rfl) (by decide) ?_
          exact gg_sub [0, 1, 2, 3] rfl (t_X10_laysMeet_289 hc hr he hm hs ih106 hf)
def l_X10_laysMeet_193 (F : Nat) : Nat → PH → Nat → Int32 → Int32 → Int32 → Option (Int32 × PH)
  | 0 => fun _ _ _ _ _ => none
  | n + 1 => fun h v0 v5 v6 v7 => b_X10_laysMeet_193 F (l_X10_laysMeet_193 F n) h v0 v5 v6 v7
theorem tl_X10_laysMeet_193 {M : MV} {X : XT} {F : Nat} {hz : PH} {r : Int32} {ce sl mc ms : Nat} (hc : Cx M X RX10 cX10_laysMeet) (hr : Rx M 137 7948 mc ms 8) (he : Ex M X (some .boolean) "laysMeet" (some (.int r)) hz mc ms) (hm : ce ≤ mc) (hs : sl ≤ ms) (n : Nat) : ∀ (h : PH) (v0 : Nat) (v5 : Int32) (v6 : Int32) (v7 : Int32), l_X10_laysMeet_193 F n h v0 v5 v6 v7 = some (r, hz) → GG M X h ce sl 193 [(0, .ref (X.1 + v0)), (5, .int v5), (6, .int v6), (7, .int v7)] [] := by
  induction n with
  | zero => intro h v0 v5 v6 v7 hf; cases hf
  | succ n ih => intro h v0 v5 v6 v7 hf; exact tb_X10_laysMeet_193 (F := F) hc hr he hm hs  ih hf
def b_X10_laysMeet_150 (F : Nat) (self82 : PH → Nat → Int32 → Int32 → Option (Int32 × PH)) (h : PH) (v0 : Nat) (v5 : Int32) (v6 : Int32) : Option (Int32 × PH) := (gI 10 33 h v0).bind fun x1 => (if x1 ≤ v6 then (l_X10_laysMeet_193 F F h v0 v5 (0 : Int32) (0 : Int32)) else ((gR 10 31 h v0).bind fun a2 => ((aI 0 h a2 v6).bind fun x3 => ((gR 10 32 h v0).bind fun a4 => ((aI 0 h a4 v6).bind fun x5 => (cO 10 h v0 (bind2 (m_X10_meets F h v0 (Int32.toInt64 x3) (Int32.toInt64 x5) (-1 : Int32) (-1 : Int32)) fun _ h7 => (bindv (v6 + (1)) fun x8 => (self82 h7 v0 v5 x8)))))))))
set_option maxRecDepth 20000 in
theorem tb_X10_laysMeet_150 {M : MV} {X : XT} {F : Nat} {self82 : PH → Nat → Int32 → Int32 → Option (Int32 × PH)} {h hz : PH} {r : Int32} {ce sl mc ms : Nat} {v0 : Nat} {v5 : Int32} {v6 : Int32} (hc : Cx M X RX10 cX10_laysMeet) (hr : Rx M 137 7948 mc ms 8) (he : Ex M X (some .boolean) "laysMeet" (some (.int r)) hz mc ms) (hm : ce ≤ mc) (hs : sl ≤ ms) (ih82 : ∀ (h : PH) (v0 : Nat) (v5 : Int32) (v6 : Int32), self82 h v0 v5 v6 = some (r, hz) → GG M X h ce sl 150 [(0, .ref (X.1 + v0)), (5, .int v5), (6, .int v6)] []) (hf : b_X10_laysMeet_150 F self82 h v0 v5 v6 = some (r, hz)) : GG M X h ce sl 150 [(0, .ref (X.1 + v0)), (5, .int v5), (6, .int v6)] [] := by
  unfold b_X10_laysMeet_150 at hf
  refine r_iload hc 2 (dc_at dX10_laysMeet 82 rfl) rfl ?_
  refine r_aload_n hc 0 (dc_at dX10_laysMeet 83 rfl) rfl ?_
  refine r_getI hc (dc_at dX10_laysMeet 84 rfl) fl_X10_365 hf fun x1 hf => ?_
  refine r_icmp_ge (tgt := 187) hc (dc_at dX10_laysMeet 85 rfl) (by decide) hf (fun hf => ?_) (fun hf => ?_)
  · refine r_iconst (0 : Int32) hc (dc_at dX10_laysMeet 102 rfl) (by decide) ?_
    refine r_istore [(6, .int ((0 : Int32))), (0, .ref (X.1 + v0)), (5, .int v5)] hc hr (dc_at dX10_laysMeet 103 rfl) (by decide) rfl ?_
    refine r_iconst (0 : Int32) hc (dc_at dX10_laysMeet 104 rfl) (by decide) ?_
    refine r_istore [(7, .int ((0 : Int32))), (6, .int ((0 : Int32))), (0, .ref (X.1 + v0)), (5, .int v5)] hc hr (dc_at dX10_laysMeet 105 rfl) (by decide) rfl ?_
    exact gg_sub [2, 3, 1, 0] rfl (tl_X10_laysMeet_193 hc hr he hm hs  F _ _ _ _ _ hf)
  · refine r_aload_n hc 0 (dc_at dX10_laysMeet 86 rfl) rfl ?_
    refine r_aload_n hc 0 (dc_at dX10_laysMeet 87 rfl) rfl ?_
    refine r_getR hc (dc_at dX10_laysMeet 88 rfl) fl_X10_58 hf fun a2 hf => ?_
    refine r_iload hc 2 (dc_at dX10_laysMeet 89 rfl) rfl ?_
    refine r_iaload hc (dc_at dX10_laysMeet 90 rfl) hf fun x3 hf => ?_
    refine r_i2l hc (dc_at dX10_laysMeet 91 rfl) ?_
    refine r_aload_n hc 0 (dc_at dX10_laysMeet 92 rfl) rfl ?_
    refine r_getR hc (dc_at dX10_laysMeet 93 rfl) fl_X10_61 hf fun a4 hf => ?_
    refine r_iload hc 2 (dc_at dX10_laysMeet 94 rfl) rfl ?_
    refine r_iaload hc (dc_at dX10_laysMeet 95 rfl) hf fun x5 hf => ?_
    refine r_i2l hc (dc_at dX10_laysMeet 96 rfl) ?_
    refine r_iconst (-1 : Int32) hc (dc_at dX10_laysMeet 97 rfl) (by decide) ?_
    refine r_iconst (-1 : Int32) hc (dc_at dX10_laysMeet 98 rfl) (by decide) ?_
    obtain ⟨ho, hf⟩ := cO_some hf
    refine ob2 hf fun u h7 ex hf => ?_
    refine r_callVv (As := [.long ((Int32.toInt64 x3)), .long ((Int32.toInt64 x5)), .int ((-1 : Int32)), .int ((-1 : Int32))]) (ci := 10) hc hr (dc_at dX10_laysMeet 99 rfl) ml_X10_351 mv_X10_meets vi_X10_meets rfl ho rfl (mt_X10_meets ex) (by first | exact Nat.le_of_ble_eq_true rfl | omega) (by first | exact Nat.le_of_ble_eq_true rfl | omega) (by first | exact Nat.le_of_ble_eq_true rfl | omega) hm hs ?_
    refine obv hf fun x8 e_x8 hf => ?_
    refine r_iinc 2 [(6, .int x8), (0, .ref (X.1 + v0)), (5, .int v5)] hc hr (dc_at dX10_laysMeet 100 rfl) rfl (by rw [e_x8]; rfl) (by decide) rfl ?_
    refine r_goto (tgt := 150) hc (dc_at dX10_laysMeet 101 rfl) (by decide) ?_
    exact gg_sub [1, 2, 0] rfl (ih82 _ _ _ _ hf)
def l_X10_laysMeet_150 (F : Nat) : Nat → PH → Nat → Int32 → Int32 → Option (Int32 × PH)
  | 0 => fun _ _ _ _ => none
  | n + 1 => fun h v0 v5 v6 => b_X10_laysMeet_150 F (l_X10_laysMeet_150 F n) h v0 v5 v6
theorem tl_X10_laysMeet_150 {M : MV} {X : XT} {F : Nat} {hz : PH} {r : Int32} {ce sl mc ms : Nat} (hc : Cx M X RX10 cX10_laysMeet) (hr : Rx M 137 7948 mc ms 8) (he : Ex M X (some .boolean) "laysMeet" (some (.int r)) hz mc ms) (hm : ce ≤ mc) (hs : sl ≤ ms) (n : Nat) : ∀ (h : PH) (v0 : Nat) (v5 : Int32) (v6 : Int32), l_X10_laysMeet_150 F n h v0 v5 v6 = some (r, hz) → GG M X h ce sl 150 [(0, .ref (X.1 + v0)), (5, .int v5), (6, .int v6)] [] := by
  induction n with
  | zero => intro h v0 v5 v6 hf; cases hf
  | succ n ih => intro h v0 v5 v6 hf; exact tb_X10_laysMeet_150 (F := F) hc hr he hm hs  ih hf
def b_X10_laysMeet_121 (F : Nat) (self68 : PH → Nat → Int32 → Int32 → Int32 → Int32 → Option (Int32 × PH)) (h : PH) (v0 : Nat) (v3 : Int32) (v4 : Int32) (v5 : Int32) (v6 : Int32) : Option (Int32 × PH) := if v3 ≤ v6 then (cO 10 h v0 (bind2 (m_X10_forgets F h v0) fun _ h2 => (l_X10_laysMeet_150 F F h2 v0 v5 (0 : Int32)))) else (cO 10 h v0 (bind2 (m_X10_goes F h v0 v4) fun _ h4 => (cO 10 h4 v0 (bind2 (m_X10_becomesMet F h4 v0) fun _ h6 => (bindv (v6 + (1)) fun x7 => (self68 h6 v0 v3 v4 v5 x7))))))
set_option maxRecDepth 20000 in
theorem tb_X10_laysMeet_121 {M : MV} {X : XT} {F : Nat} {self68 : PH → Nat → Int32 → Int32 → Int32 → Int32 → Option (Int32 × PH)} {h hz : PH} {r : Int32} {ce sl mc ms : Nat} {v0 : Nat} {v3 : Int32} {v4 : Int32} {v5 : Int32} {v6 : Int32} (hc : Cx M X RX10 cX10_laysMeet) (hr : Rx M 137 7948 mc ms 8) (he : Ex M X (some .boolean) "laysMeet" (some (.int r)) hz mc ms) (hm : ce ≤ mc) (hs : sl ≤ ms) (ih68 : ∀ (h : PH) (v0 : Nat) (v3 : Int32) (v4 : Int32) (v5 : Int32) (v6 : Int32), self68 h v0 v3 v4 v5 v6 = some (r, hz) → GG M X h ce sl 121 [(0, .ref (X.1 + v0)), (3, .int v3), (4, .int v4), (5, .int v5), (6, .int v6)] []) (hf : b_X10_laysMeet_121 F self68 h v0 v3 v4 v5 v6 = some (r, hz)) : GG M X h ce sl 121 [(0, .ref (X.1 + v0)), (3, .int v3), (4, .int v4), (5, .int v5), (6, .int v6)] [] := by
  unfold b_X10_laysMeet_121 at hf
  refine r_iload hc 4 (dc_at dX10_laysMeet 68 rfl) rfl ?_
  refine r_iload_n hc 1 (dc_at dX10_laysMeet 69 rfl) rfl ?_
  refine r_icmp_ge (tgt := 143) hc (dc_at dX10_laysMeet 70 rfl) (by decide) hf (fun hf => ?_) (fun hf => ?_)
  · refine r_aload_n hc 0 (dc_at dX10_laysMeet 78 rfl) rfl ?_
    obtain ⟨ho, hf⟩ := cO_some hf
    refine ob2 hf fun u h2 ex hf => ?_
    refine r_callVv (As := []) (ci := 10) hc hr (dc_at dX10_laysMeet 79 rfl) ml_X10_348 mv_X10_forgets vi_X10_forgets rfl ho rfl (mt_X10_forgets ex) (by first | exact Nat.le_of_ble_eq_true rfl | omega) (by first | exact Nat.le_of_ble_eq_true rfl | omega) (by first | exact Nat.le_of_ble_eq_true rfl | omega) hm hs ?_
    refine r_iconst (0 : Int32) hc (dc_at dX10_laysMeet 80 rfl) (by decide) ?_
    refine r_istore [(6, .int ((0 : Int32))), (0, .ref (X.1 + v0)), (3, .int v3), (4, .int v4), (5, .int v5)] hc hr (dc_at dX10_laysMeet 81 rfl) (by decide) rfl ?_
    exact gg_sub [1, 4, 0] rfl (tl_X10_laysMeet_150 hc hr he hm hs  F _ _ _ _ hf)
  · refine r_aload_n hc 0 (dc_at dX10_laysMeet 71 rfl) rfl ?_
    refine r_iload hc 2 (dc_at dX10_laysMeet 72 rfl) rfl ?_
    obtain ⟨ho, hf⟩ := cO_some hf
    refine ob2 hf fun u h4 ex hf => ?_
    refine r_callVv (As := [.int v4]) (ci := 10) hc hr (dc_at dX10_laysMeet 73 rfl) ml_X10_371 mv_X10_goes vi_X10_goes rfl ho rfl (mt_X10_goes ex) (by first | exact Nat.le_of_ble_eq_true rfl | omega) (by first | exact Nat.le_of_ble_eq_true rfl | omega) (by first | exact Nat.le_of_ble_eq_true rfl | omega) hm hs ?_
    refine r_aload_n hc 0 (dc_at dX10_laysMeet 74 rfl) rfl ?_
    obtain ⟨ho, hf⟩ := cO_some hf
    refine ob2 hf fun u h6 ex hf => ?_
    refine r_callVv (As := []) (ci := 10) hc hr (dc_at dX10_laysMeet 75 rfl) ml_X10_375 mv_X10_becomesMet vi_X10_becomesMet rfl ho rfl (mt_X10_becomesMet ex) (by first | exact Nat.le_of_ble_eq_true rfl | omega) (by first | exact Nat.le_of_ble_eq_true rfl | omega) (by first | exact Nat.le_of_ble_eq_true rfl | omega) hm hs ?_
    refine obv hf fun x7 e_x7 hf => ?_
    refine r_iinc 4 [(6, .int x7), (0, .ref (X.1 + v0)), (3, .int v3), (4, .int v4), (5, .int v5)] hc hr (dc_at dX10_laysMeet 76 rfl) rfl (by rw [e_x7]; rfl) (by decide) rfl ?_
    refine r_goto (tgt := 121) hc (dc_at dX10_laysMeet 77 rfl) (by decide) ?_
    exact gg_sub [1, 2, 3, 4, 0] rfl (ih68 _ _ _ _ _ _ hf)
def l_X10_laysMeet_121 (F : Nat) : Nat → PH → Nat → Int32 → Int32 → Int32 → Int32 → Option (Int32 × PH)
  | 0 => fun _ _ _ _ _ _ => none
  | n + 1 => fun h v0 v3 v4 v5 v6 => b_X10_laysMeet_121 F (l_X10_laysMeet_121 F n) h v0 v3 v4 v5 v6
theorem tl_X10_laysMeet_121 {M : MV} {X : XT} {F : Nat} {hz : PH} {r : Int32} {ce sl mc ms : Nat} (hc : Cx M X RX10 cX10_laysMeet) (hr : Rx M 137 7948 mc ms 8) (he : Ex M X (some .boolean) "laysMeet" (some (.int r)) hz mc ms) (hm : ce ≤ mc) (hs : sl ≤ ms) (n : Nat) : ∀ (h : PH) (v0 : Nat) (v3 : Int32) (v4 : Int32) (v5 : Int32) (v6 : Int32), l_X10_laysMeet_121 F n h v0 v3 v4 v5 v6 = some (r, hz) → GG M X h ce sl 121 [(0, .ref (X.1 + v0)), (3, .int v3), (4, .int v4), (5, .int v5), (6, .int v6)] [] := by
  induction n with
  | zero => intro h v0 v3 v4 v5 v6 hf; cases hf
  | succ n ih => intro h v0 v3 v4 v5 v6 hf; exact tb_X10_laysMeet_121 (F := F) hc hr he hm hs  ih hf
def b_X10_laysMeet_55 (F : Nat) (self31 : PH → Nat → Int32 → Int32 → Int32 → Int32 → Int32 → Option (Int32 × PH)) (h : PH) (v0 : Nat) (v2 : Int32) (v3 : Int32) (v4 : Int32) (v5 : Int32) (v6 : Int32) : Option (Int32 × PH) := if v5 ≤ v6 then ((gR 10 1 h v0).bind fun a1 => ((aI 0 h a1 (((49 : Int32) + v2))).bind fun x2 => ((gR 10 1 h v0).bind fun a3 => ((aI 0 h a3 (((55 : Int32) + v2))).bind fun x4 => (cO 10 h v0 (bind2 (m_X10_begins h v0 x2 x4) fun _ h6 => (l_X10_laysMeet_121 F F h6 v0 v3 v4 v5 (0 : Int32)))))))) else ((gR 10 37 h v0).bind fun a7 => ((gR 10 31 h v0).bind fun a8 => ((aI 0 h a8 v6).bind fun x9 => ((sI 0 h a7 v6 x9).bind fun h10 => ((gR 10 38 h10 v0).bind fun a11 => ((gR 10 32 h10 v0).bind fun a12 => ((aI 0 h10 a12 v6).bind fun x13 => ((sI 0 h10 a11 v6 x13).bind fun h14 => (bindv (v6 + (1)) fun x15 => (self31 h14 v0 v2 v3 v4 v5 x15))))))))))
set_option maxRecDepth 20000 in
theorem tb_X10_laysMeet_55 {M : MV} {X : XT} {F : Nat} {self31 : PH → Nat → Int32 → Int32 → Int32 → Int32 → Int32 → Option (Int32 × PH)} {h hz : PH} {r : Int32} {ce sl mc ms : Nat} {v0 : Nat} {v2 : Int32} {v3 : Int32} {v4 : Int32} {v5 : Int32} {v6 : Int32} (hc : Cx M X RX10 cX10_laysMeet) (hr : Rx M 137 7948 mc ms 8) (he : Ex M X (some .boolean) "laysMeet" (some (.int r)) hz mc ms) (hm : ce ≤ mc) (hs : sl ≤ ms) (ih31 : ∀ (h : PH) (v0 : Nat) (v2 : Int32) (v3 : Int32) (v4 : Int32) (v5 : Int32) (v6 : Int32), self31 h v0 v2 v3 v4 v5 v6 = some (r, hz) → GG M X h ce sl 55 [(0, .ref (X.1 + v0)), (2, .int v2), (3, .int v3), (4, .int v4), (5, .int v5), (6, .int v6)] []) (hf : b_X10_laysMeet_55 F self31 h v0 v2 v3 v4 v5 v6 = some (r, hz)) : GG M X h ce sl 55 [(0, .ref (X.1 + v0)), (2, .int v2), (3, .int v3), (4, .int v4), (5, .int v5), (6, .int v6)] [] := by
  unfold b_X10_laysMeet_55 at hf
  refine r_iload hc 5 (dc_at dX10_laysMeet 31 rfl) rfl ?_
  refine r_iload hc 4 (dc_at dX10_laysMeet 32 rfl) rfl ?_
  refine r_icmp_ge (tgt := 96) hc (dc_at dX10_laysMeet 33 rfl) (by decide) hf (fun hf => ?_) (fun hf => ?_)
  · refine r_aload_n hc 0 (dc_at dX10_laysMeet 52 rfl) rfl ?_
    refine r_aload_n hc 0 (dc_at dX10_laysMeet 53 rfl) rfl ?_
    refine r_getR hc (dc_at dX10_laysMeet 54 rfl) fl_X10_13 hf fun a1 hf => ?_
    refine r_bipush (49 : Int32) hc (dc_at dX10_laysMeet 55 rfl) (by decide) ?_
    refine r_iload_n hc 1 (dc_at dX10_laysMeet 56 rfl) rfl ?_
    refine r_iadd hc (dc_at dX10_laysMeet 57 rfl) ?_
    refine r_iaload hc (dc_at dX10_laysMeet 58 rfl) hf fun x2 hf => ?_
    refine r_aload_n hc 0 (dc_at dX10_laysMeet 59 rfl) rfl ?_
    refine r_getR hc (dc_at dX10_laysMeet 60 rfl) fl_X10_13 hf fun a3 hf => ?_
    refine r_bipush (55 : Int32) hc (dc_at dX10_laysMeet 61 rfl) (by decide) ?_
    refine r_iload_n hc 1 (dc_at dX10_laysMeet 62 rfl) rfl ?_
    refine r_iadd hc (dc_at dX10_laysMeet 63 rfl) ?_
    refine r_iaload hc (dc_at dX10_laysMeet 64 rfl) hf fun x4 hf => ?_
    obtain ⟨ho, hf⟩ := cO_some hf
    refine ob2 hf fun u h6 ex hf => ?_
    refine r_callVv (As := [.int x2, .int x4]) (ci := 10) hc hr (dc_at dX10_laysMeet 65 rfl) ml_X10_368 mv_X10_begins vi_X10_begins rfl ho rfl (mt_X10_begins ex) (by first | exact Nat.le_of_ble_eq_true rfl | omega) (by first | exact Nat.le_of_ble_eq_true rfl | omega) (by first | exact Nat.le_of_ble_eq_true rfl | omega) hm hs ?_
    refine r_iconst (0 : Int32) hc (dc_at dX10_laysMeet 66 rfl) (by decide) ?_
    refine r_istore [(6, .int ((0 : Int32))), (0, .ref (X.1 + v0)), (2, .int v2), (3, .int v3), (4, .int v4), (5, .int v5)] hc hr (dc_at dX10_laysMeet 67 rfl) (by decide) rfl ?_
    exact gg_sub [1, 3, 4, 5, 0] rfl (tl_X10_laysMeet_121 hc hr he hm hs  F _ _ _ _ _ _ hf)
  · refine r_aload_n hc 0 (dc_at dX10_laysMeet 34 rfl) rfl ?_
    refine r_getR hc (dc_at dX10_laysMeet 35 rfl) fl_X10_67 hf fun a7 hf => ?_
    refine r_iload hc 5 (dc_at dX10_laysMeet 36 rfl) rfl ?_
    refine r_aload_n hc 0 (dc_at dX10_laysMeet 37 rfl) rfl ?_
    refine r_getR hc (dc_at dX10_laysMeet 38 rfl) fl_X10_58 hf fun a8 hf => ?_
    refine r_iload hc 5 (dc_at dX10_laysMeet 39 rfl) rfl ?_
    refine r_iaload hc (dc_at dX10_laysMeet 40 rfl) hf fun x9 hf => ?_
    refine r_iastore hc (dc_at dX10_laysMeet 41 rfl) hf fun h10 hf => ?_
    refine r_aload_n hc 0 (dc_at dX10_laysMeet 42 rfl) rfl ?_
    refine r_getR hc (dc_at dX10_laysMeet 43 rfl) fl_X10_70 hf fun a11 hf => ?_
    refine r_iload hc 5 (dc_at dX10_laysMeet 44 rfl) rfl ?_
    refine r_aload_n hc 0 (dc_at dX10_laysMeet 45 rfl) rfl ?_
    refine r_getR hc (dc_at dX10_laysMeet 46 rfl) fl_X10_61 hf fun a12 hf => ?_
    refine r_iload hc 5 (dc_at dX10_laysMeet 47 rfl) rfl ?_
    refine r_iaload hc (dc_at dX10_laysMeet 48 rfl) hf fun x13 hf => ?_
    refine r_iastore hc (dc_at dX10_laysMeet 49 rfl) hf fun h14 hf => ?_
    refine obv hf fun x15 e_x15 hf => ?_
    refine r_iinc 5 [(6, .int x15), (0, .ref (X.1 + v0)), (2, .int v2), (3, .int v3), (4, .int v4), (5, .int v5)] hc hr (dc_at dX10_laysMeet 50 rfl) rfl (by rw [e_x15]; rfl) (by decide) rfl ?_
    refine r_goto (tgt := 55) hc (dc_at dX10_laysMeet 51 rfl) (by decide) ?_
    exact gg_sub [1, 2, 3, 4, 5, 0] rfl (ih31 _ _ _ _ _ _ _ hf)
def l_X10_laysMeet_55 (F : Nat) : Nat → PH → Nat → Int32 → Int32 → Int32 → Int32 → Int32 → Option (Int32 × PH)
  | 0 => fun _ _ _ _ _ _ _ => none
  | n + 1 => fun h v0 v2 v3 v4 v5 v6 => b_X10_laysMeet_55 F (l_X10_laysMeet_55 F n) h v0 v2 v3 v4 v5 v6
theorem tl_X10_laysMeet_55 {M : MV} {X : XT} {F : Nat} {hz : PH} {r : Int32} {ce sl mc ms : Nat} (hc : Cx M X RX10 cX10_laysMeet) (hr : Rx M 137 7948 mc ms 8) (he : Ex M X (some .boolean) "laysMeet" (some (.int r)) hz mc ms) (hm : ce ≤ mc) (hs : sl ≤ ms) (n : Nat) : ∀ (h : PH) (v0 : Nat) (v2 : Int32) (v3 : Int32) (v4 : Int32) (v5 : Int32) (v6 : Int32), l_X10_laysMeet_55 F n h v0 v2 v3 v4 v5 v6 = some (r, hz) → GG M X h ce sl 55 [(0, .ref (X.1 + v0)), (2, .int v2), (3, .int v3), (4, .int v4), (5, .int v5), (6, .int v6)] [] := by
  induction n with
  | zero => intro h v0 v2 v3 v4 v5 v6 hf; cases hf
  | succ n ih => intro h v0 v2 v3 v4 v5 v6 hf; exact tb_X10_laysMeet_55 (F := F) hc hr he hm hs  ih hf
def b_X10_laysMeet_25 (F : Nat) (self16 : PH → Nat → Int32 → Int32 → Int32 → Int32 → Option (Int32 × PH)) (h : PH) (v0 : Nat) (v2 : Int32) (v3 : Int32) (v4 : Int32) (v5 : Int32) : Option (Int32 × PH) := if v3 ≤ v5 then ((gI 10 33 h v0).bind fun x1 => (l_X10_laysMeet_55 F F h v0 v2 v3 v4 x1 (0 : Int32))) else (cO 10 h v0 (bind2 (m_X10_goes F h v0 (0 : Int32)) fun _ h3 => (cO 10 h3 v0 (bind2 (m_X10_becomesMet F h3 v0) fun _ h5 => (bindv (v5 + (1)) fun x6 => (self16 h5 v0 v2 v3 v4 x6))))))
set_option maxRecDepth 20000 in
theorem tb_X10_laysMeet_25 {M : MV} {X : XT} {F : Nat} {self16 : PH → Nat → Int32 → Int32 → Int32 → Int32 → Option (Int32 × PH)} {h hz : PH} {r : Int32} {ce sl mc ms : Nat} {v0 : Nat} {v2 : Int32} {v3 : Int32} {v4 : Int32} {v5 : Int32} (hc : Cx M X RX10 cX10_laysMeet) (hr : Rx M 137 7948 mc ms 8) (he : Ex M X (some .boolean) "laysMeet" (some (.int r)) hz mc ms) (hm : ce ≤ mc) (hs : sl ≤ ms) (ih16 : ∀ (h : PH) (v0 : Nat) (v2 : Int32) (v3 : Int32) (v4 : Int32) (v5 : Int32), self16 h v0 v2 v3 v4 v5 = some (r, hz) → GG M X h ce sl 25 [(0, .ref (X.1 + v0)), (2, .int v2), (3, .int v3), (4, .int v4), (5, .int v5)] []) (hf : b_X10_laysMeet_25 F self16 h v0 v2 v3 v4 v5 = some (r, hz)) : GG M X h ce sl 25 [(0, .ref (X.1 + v0)), (2, .int v2), (3, .int v3), (4, .int v4), (5, .int v5)] [] := by
  unfold b_X10_laysMeet_25 at hf
  refine r_iload hc 4 (dc_at dX10_laysMeet 16 rfl) rfl ?_
  refine r_iload_n hc 2 (dc_at dX10_laysMeet 17 rfl) rfl ?_
  refine r_icmp_ge (tgt := 46) hc (dc_at dX10_laysMeet 18 rfl) (by decide) hf (fun hf => ?_) (fun hf => ?_)
  · refine r_aload_n hc 0 (dc_at dX10_laysMeet 26 rfl) rfl ?_
    refine r_getI hc (dc_at dX10_laysMeet 27 rfl) fl_X10_365 hf fun x1 hf => ?_
    refine r_istore [(5, .int x1), (0, .ref (X.1 + v0)), (2, .int v2), (3, .int v3), (4, .int v4)] hc hr (dc_at dX10_laysMeet 28 rfl) (by decide) rfl ?_
    refine r_iconst (0 : Int32) hc (dc_at dX10_laysMeet 29 rfl) (by decide) ?_
    refine r_istore [(6, .int ((0 : Int32))), (5, .int x1), (0, .ref (X.1 + v0)), (2, .int v2), (3, .int v3), (4, .int v4)] hc hr (dc_at dX10_laysMeet 30 rfl) (by decide) rfl ?_
    exact gg_sub [2, 3, 4, 5, 1, 0] rfl (tl_X10_laysMeet_55 hc hr he hm hs  F _ _ _ _ _ _ _ hf)
  · refine r_aload_n hc 0 (dc_at dX10_laysMeet 19 rfl) rfl ?_
    refine r_iconst (0 : Int32) hc (dc_at dX10_laysMeet 20 rfl) (by decide) ?_
    obtain ⟨ho, hf⟩ := cO_some hf
    refine ob2 hf fun u h3 ex hf => ?_
    refine r_callVv (As := [.int ((0 : Int32))]) (ci := 10) hc hr (dc_at dX10_laysMeet 21 rfl) ml_X10_371 mv_X10_goes vi_X10_goes rfl ho rfl (mt_X10_goes ex) (by first | exact Nat.le_of_ble_eq_true rfl | omega) (by first | exact Nat.le_of_ble_eq_true rfl | omega) (by first | exact Nat.le_of_ble_eq_true rfl | omega) hm hs ?_
    refine r_aload_n hc 0 (dc_at dX10_laysMeet 22 rfl) rfl ?_
    obtain ⟨ho, hf⟩ := cO_some hf
    refine ob2 hf fun u h5 ex hf => ?_
    refine r_callVv (As := []) (ci := 10) hc hr (dc_at dX10_laysMeet 23 rfl) ml_X10_375 mv_X10_becomesMet vi_X10_becomesMet rfl ho rfl (mt_X10_becomesMet ex) (by first | exact Nat.le_of_ble_eq_true rfl | omega) (by first | exact Nat.le_of_ble_eq_true rfl | omega) (by first | exact Nat.le_of_ble_eq_true rfl | omega) hm hs ?_
    refine obv hf fun x6 e_x6 hf => ?_
    refine r_iinc 4 [(5, .int x6), (0, .ref (X.1 + v0)), (2, .int v2), (3, .int v3), (4, .int v4)] hc hr (dc_at dX10_laysMeet 24 rfl) rfl (by rw [e_x6]; rfl) (by decide) rfl ?_
    refine r_goto (tgt := 25) hc (dc_at dX10_laysMeet 25 rfl) (by decide) ?_
    exact gg_sub [1, 2, 3, 4, 0] rfl (ih16 _ _ _ _ _ _ hf)
def l_X10_laysMeet_25 (F : Nat) : Nat → PH → Nat → Int32 → Int32 → Int32 → Int32 → Option (Int32 × PH)
  | 0 => fun _ _ _ _ _ _ => none
  | n + 1 => fun h v0 v2 v3 v4 v5 => b_X10_laysMeet_25 F (l_X10_laysMeet_25 F n) h v0 v2 v3 v4 v5
theorem tl_X10_laysMeet_25 {M : MV} {X : XT} {F : Nat} {hz : PH} {r : Int32} {ce sl mc ms : Nat} (hc : Cx M X RX10 cX10_laysMeet) (hr : Rx M 137 7948 mc ms 8) (he : Ex M X (some .boolean) "laysMeet" (some (.int r)) hz mc ms) (hm : ce ≤ mc) (hs : sl ≤ ms) (n : Nat) : ∀ (h : PH) (v0 : Nat) (v2 : Int32) (v3 : Int32) (v4 : Int32) (v5 : Int32), l_X10_laysMeet_25 F n h v0 v2 v3 v4 v5 = some (r, hz) → GG M X h ce sl 25 [(0, .ref (X.1 + v0)), (2, .int v2), (3, .int v3), (4, .int v4), (5, .int v5)] [] := by
  induction n with
  | zero => intro h v0 v2 v3 v4 v5 hf; cases hf
  | succ n ih => intro h v0 v2 v3 v4 v5 hf; exact tb_X10_laysMeet_25 (F := F) hc hr he hm hs  ih hf
def b_X10_laysMeet_0 (F : Nat) (h : PH) (v0 : Nat) (v1 : Int32) (v2 : Int32) (v3 : Int32) (v4 : Int32) : Option (Int32 × PH) := (gR 10 1 h v0).bind fun a1 => ((aI 0 h a1 (((49 : Int32) + v1))).bind fun x2 => ((gR 10 1 h v0).bind fun a3 => ((aI 0 h a3 (((55 : Int32) + v1))).bind fun x4 => (cO 10 h v0 (bind2 (m_X10_begins h v0 x2 x4) fun _ h6 => (l_X10_laysMeet_25 F F h6 v0 v2 v3 v4 (0 : Int32)))))))
set_option maxRecDepth 20000 in
theorem t_X10_laysMeet_0 {M : MV} {X : XT} {F : Nat} {h hz : PH} {r : Int32} {ce sl mc ms : Nat} {v0 : Nat} {v1 : Int32} {v2 : Int32} {v3 : Int32} {v4 : Int32} (hc : Cx M X RX10 cX10_laysMeet) (hr : Rx M 137 7948 mc ms 8) (he : Ex M X (some .boolean) "laysMeet" (some (.int r)) hz mc ms) (hm : ce ≤ mc) (hs : sl ≤ ms) (hf : b_X10_laysMeet_0 F h v0 v1 v2 v3 v4 = some (r, hz)) : GG M X h ce sl 0 [(0, .ref (X.1 + v0)), (1, .int v1), (2, .int v2), (3, .int v3), (4, .int v4)] [] := by
  unfold b_X10_laysMeet_0 at hf
  refine r_aload_n hc 0 (dc_at dX10_laysMeet 0 rfl) rfl ?_
  refine r_aload_n hc 0 (dc_at dX10_laysMeet 1 rfl) rfl ?_
  refine r_getR hc (dc_at dX10_laysMeet 2 rfl) fl_X10_13 hf fun a1 hf => ?_
  refine r_bipush (49 : Int32) hc (dc_at dX10_laysMeet 3 rfl) (by decide) ?_
  refine r_iload_n hc 1 (dc_at dX10_laysMeet 4 rfl) rfl ?_
  refine r_iadd hc (dc_at dX10_laysMeet 5 rfl) ?_
  refine r_iaload hc (dc_at dX10_laysMeet 6 rfl) hf fun x2 hf => ?_
  refine r_aload_n hc 0 (dc_at dX10_laysMeet 7 rfl) rfl ?_
  refine r_getR hc (dc_at dX10_laysMeet 8 rfl) fl_X10_13 hf fun a3 hf => ?_
  refine r_bipush (55 : Int32) hc (dc_at dX10_laysMeet 9 rfl) (by decide) ?_
  refine r_iload_n hc 1 (dc_at dX10_laysMeet 10 rfl) rfl ?_
  refine r_iadd hc (dc_at dX10_laysMeet 11 rfl) ?_
  refine r_iaload hc (dc_at dX10_laysMeet 12 rfl) hf fun x4 hf => ?_
  obtain ⟨ho, hf⟩ := cO_some hf
  refine ob2 hf fun u h6 ex hf => ?_
  refine r_callVv (As := [.int x2, .int x4]) (ci := 10) hc hr (dc_at dX10_laysMeet 13 rfl) ml_X10_368 mv_X10_begins vi_X10_begins rfl ho rfl (mt_X10_begins ex) (by first | exact Nat.le_of_ble_eq_true rfl | omega) (by first | exact Nat.le_of_ble_eq_true rfl | omega) (by first | exact Nat.le_of_ble_eq_true rfl | omega) hm hs ?_
  refine r_iconst (0 : Int32) hc (dc_at dX10_laysMeet 14 rfl) (by decide) ?_
  refine r_istore [(5, .int ((0 : Int32))), (0, .ref (X.1 + v0)), (1, .int v1), (2, .int v2), (3, .int v3), (4, .int v4)] hc hr (dc_at dX10_laysMeet 15 rfl) (by decide) rfl ?_
  exact gg_sub [1, 3, 4, 5, 0] rfl (tl_X10_laysMeet_25 hc hr he hm hs  F _ _ _ _ _ _ hf)
def m_X10_laysMeet (F : Nat) (h : PH) (p0 : Nat) (p1 : Int32) (p2 : Int32) (p3 : Int32) (p4 : Int32) : Option (Int32 × PH) := b_X10_laysMeet_0 F h p0 p1 p2 p3 p4
theorem mt_X10_laysMeet {l : Launch} {X : XT} {F : Nat} {h hz : PH} {p0 : Nat} {p1 : Int32} {p2 : Int32} {p3 : Int32} {p4 : Int32} {r : Int32} (ex : m_X10_laysMeet F h p0 p1 p2 p3 p4 = some (r, hz)) : MT l X yX10_laysMeet cX10_laysMeet 8 (some .boolean) 137 7948 0 0 [.ref (X.1 + p0), .int p1, .int p2, .int p3, .int p4] h (some (.int r)) hz := MT.of (by decide) (Nat.le_of_ble_eq_true rfl) fun M hl hc hr he => by
  subst hl
  exact gg_sub [0, 1, 2, 3, 4] rfl (t_X10_laysMeet_0  hc hr he (Nat.zero_le _) (Nat.zero_le _) ex)
/-! FractionLiftModel.meet(IIZI)I -/
def lX10_meetL : List (Nat × Instr × Nat × Nat) := [(0, .aload_n 0, 1, 1), (1, .iconst 0, 1, 2), (2, .putfield 1, 3, 5), (5, .aload_n 0, 1, 6), (6, .iload_n 1, 1, 7), (7, .invokevirtual 254, 3, 10), (10, .ifCond .eq 29, 3, 13), (13, .aload_n 0, 1, 14), (14, .iload_n 2, 1, 15), (15, .invokevirtual 254, 3, 18), (18, .ifCond .eq 21, 3, 21), (21, .iload_n 1, 1, 22), (22, .iload_n 2, 1, 23), (23, .if_icmp .eq 16, 3, 26), (26, .iload 4, 2, 28), (28, .i2l, 1, 29), (29, .lconst 0, 1, 30), (30, .ldc2_w 292, 3, 33), (33, .invokestatic 172, 3, 36), (36, .ifCond .ne 6, 3, 39), (39, .bipush (-2), 2, 41), (41, .ireturn, 1, 42), (42, .iconst 0, 1, 43), (43, .istore 5, 2, 45), (45, .iload 5, 2, 47), (47, .iconst 4, 1, 48), (48, .if_icmp .gt 49, 3, 51), (51, .aload_n 0, 1, 52), (52, .iload_n 1, 1, 53), (53, .iload_n 2, 1, 54), (54, .iload 5, 2, 56), (56, .iload_n 3, 1, 57), (57, .invokevirtual 434, 3, 60), (60, .ifCond .eq 31, 3, 63), (63, .iload 4, 2, 65), (65, .ifCond .ne 8, 3, 68), (68, .iload 5, 2, 70), (70, .goto 20, 3, 73), (73, .iload 4, 2, 75), (75, .iconst 1, 1, 76), (76, .if_icmp .ne 10, 3, 79), (79, .aload_n 0, 1, 80), (80, .getfield 428, 3, 83), (83, .goto 7, 3, 86), (86, .aload_n 0, 1, 87), (87, .getfield 431, 3, 90), (90, .ireturn, 1, 91), (91, .iinc 5 1, 3, 94), (94, .goto (-49), 3, 97), (97, .iconst (-1), 1, 98), (98, .ireturn, 1, 99)]
set_option maxRecDepth 20000 in
theorem dX10_meet : dcL cX10_meet lX10_meetL = true := by decide +kernel
def b_X10_meet_45 (F : Nat) (self24 : PH → Nat → Int32 → Int32 → Int32 → Int32 → Int32 → Option (Int32 × PH)) (h : PH) (v0 : Nat) (v1 : Int32) (v2 : Int32) (v3 : Int32) (v4 : Int32) (v5 : Int32) : Option (Int32 × PH) := if (4 : Int32) < v5 then (some ((-1 : Int32), h)) else (cO 10 h v0 (bind2 (m_X10_laysMeet F h v0 v1 v2 v5 v3) fun x1 h2 => (if x1 = 0 then (bindv (v5 + (1)) fun x3 => (self24 h2 v0 v1 v2 v3 v4 x3)) else (if v4 = 0 then (some (v5, h2)) else (if v4 = (1 : Int32) then ((gI 10 39 h2 v0).bind fun x5 => (some (x5, h2))) else ((gI 10 40 h2 v0).bind fun x4 => (some (x4, h2))))))))
set_option maxRecDepth 20000 in
theorem tb_X10_meet_45 {M : MV} {X : XT} {F : Nat} {self24 : PH → Nat → Int32 → Int32 → Int32 → Int32 → Int32 → Option (Int32 × PH)} {h hz : PH} {r : Int32} {ce sl mc ms : Nat} {v0 : Nat} {v1 : Int32} {v2 : Int32} {v3 : Int32} {v4 : Int32} {v5 : Int32} (hc : Cx M X RX10 cX10_meet) (hr : Rx M 138 8006 mc ms 6) (he : Ex M X (some .int) "meet" (some (.int r)) hz mc ms) (hm : ce ≤ mc) (hs : sl ≤ ms) (ih24 : ∀ (h : PH) (v0 : Nat) (v1 : Int32) (v2 : Int32) (v3 : Int32) (v4 : Int32) (v5 : Int32), self24 h v0 v1 v2 v3 v4 v5 = some (r, hz) → GG M X h ce sl 45 [(0, .ref (X.1 + v0)), (1, .int v1), (2, .int v2), (3, .int v3), (4, .int v4), (5, .int v5)] []) (hf : b_X10_meet_45 F self24 h v0 v1 v2 v3 v4 v5 = some (r, hz)) : GG M X h ce sl 45 [(0, .ref (X.1 + v0)), (1, .int v1), (2, .int v2), (3, .int v3), (4, .int v4), (5, .int v5)] [] := by
  unfold b_X10_meet_45 at hf
  refine r_iload hc 5 (dc_at dX10_meet 24 rfl) rfl ?_
  refine r_iconst (4 : Int32) hc (dc_at dX10_meet 25 rfl) (by decide) ?_
  refine r_icmp_gt (tgt := 97) hc (dc_at dX10_meet 26 rfl) (by decide) hf (fun hf => ?_) (fun hf => ?_)
  · refine r_iconst (-1 : Int32) hc (dc_at dX10_meet 49 rfl) (by decide) ?_
    exact r_iret hc he (hm) (hs) (dc_at dX10_meet 50 rfl) hf
  · refine r_aload_n hc 0 (dc_at dX10_meet 27 rfl) rfl ?_
    refine r_iload_n hc 1 (dc_at dX10_meet 28 rfl) rfl ?_
    refine r_iload_n hc 2 (dc_at dX10_meet 29 rfl) rfl ?_
    refine r_iload hc 5 (dc_at dX10_meet 30 rfl) rfl ?_
    refine r_iload_n hc 3 (dc_at dX10_meet 31 rfl) rfl ?_
    obtain ⟨ho, hf⟩ := cO_some hf
    refine ob2 hf fun x1 h2 ex hf => ?_
    refine r_callVi (As := [.int v1, .int v2, .int v5, .int v3]) (ci := 10) hc hr (dc_at dX10_meet 32 rfl) ml_X10_434 mv_X10_laysMeet vi_X10_laysMeet rfl ho rfl (mt_X10_laysMeet ex) (by first | exact Nat.le_of_ble_eq_true rfl | omega) (by first | exact Nat.le_of_ble_eq_true rfl | omega) (by first | exact Nat.le_of_ble_eq_true rfl | omega) hm hs ?_
    refine r_if_eq (tgt := 91) hc (dc_at dX10_meet 33 rfl) (by decide) hf (fun hf => ?_) (fun hf => ?_)
    · refine obv hf fun x3 e_x3 hf => ?_
      refine r_iinc 5 [(5, .int x3), (0, .ref (X.1 + v0)), (1, .int v1), (2, .int v2), (3, .int v3), (4, .int v4)] hc hr (dc_at dX10_meet 47 rfl) rfl (by rw [e_x3]; rfl) (by decide) rfl ?_
      refine r_goto (tgt := 45) hc (dc_at dX10_meet 48 rfl) (by decide) ?_
      exact gg_sub [1, 2, 3, 4, 5, 0] rfl (ih24 _ _ _ _ _ _ _ hf)
    · refine r_iload hc 4 (dc_at dX10_meet 34 rfl) rfl ?_
      refine r_if_ne (tgt := 73) hc (dc_at dX10_meet 35 rfl) (by decide) hf (fun hf => ?_) (fun hf => ?_)
      · refine r_iload hc 4 (dc_at dX10_meet 38 rfl) rfl ?_
        refine r_iconst (1 : Int32) hc (dc_at dX10_meet 39 rfl) (by decide) ?_
        refine r_icmp_ne (tgt := 86) hc (dc_at dX10_meet 40 rfl) (by decide) hf (fun hf => ?_) (fun hf => ?_)
        · refine r_aload_n hc 0 (dc_at dX10_meet 44 rfl) rfl ?_
          refine r_getI hc (dc_at dX10_meet 45 rfl) fl_X10_431 hf fun x4 hf => ?_
          exact r_iret hc he (hm) (hs) (dc_at dX10_meet 46 rfl) hf
        · refine r_aload_n hc 0 (dc_at dX10_meet 41 rfl) rfl ?_
          refine r_getI hc (dc_at dX10_meet 42 rfl) fl_X10_428 hf fun x5 hf => ?_
          refine r_goto (tgt := 90) hc (dc_at dX10_meet 43 rfl) (by decide) ?_
          exact r_iret hc he (hm) (hs) (dc_at dX10_meet 46 rfl) hf
      · refine r_iload hc 5 (dc_at dX10_meet 36 rfl) rfl ?_
        refine r_goto (tgt := 90) hc (dc_at dX10_meet 37 rfl) (by decide) ?_
        exact r_iret hc he (hm) (hs) (dc_at dX10_meet 46 rfl) hf
def l_X10_meet_45 (F : Nat) : Nat → PH → Nat → Int32 → Int32 → Int32 → Int32 → Int32 → Option (Int32 × PH)
  | 0 => fun _ _ _ _ _ _ _ => none
  | n + 1 => fun h v0 v1 v2 v3 v4 v5 => b_X10_meet_45 F (l_X10_meet_45 F n) h v0 v1 v2 v3 v4 v5
theorem tl_X10_meet_45 {M : MV} {X : XT} {F : Nat} {hz : PH} {r : Int32} {ce sl mc ms : Nat} (hc : Cx M X RX10 cX10_meet) (hr : Rx M 138 8006 mc ms 6) (he : Ex M X (some .int) "meet" (some (.int r)) hz mc ms) (hm : ce ≤ mc) (hs : sl ≤ ms) (n : Nat) : ∀ (h : PH) (v0 : Nat) (v1 : Int32) (v2 : Int32) (v3 : Int32) (v4 : Int32) (v5 : Int32), l_X10_meet_45 F n h v0 v1 v2 v3 v4 v5 = some (r, hz) → GG M X h ce sl 45 [(0, .ref (X.1 + v0)), (1, .int v1), (2, .int v2), (3, .int v3), (4, .int v4), (5, .int v5)] [] := by
  induction n with
  | zero => intro h v0 v1 v2 v3 v4 v5 hf; cases hf
  | succ n ih => intro h v0 v1 v2 v3 v4 v5 hf; exact tb_X10_meet_45 (F := F) hc hr he hm hs  ih hf
def b_X10_meet_0 (F : Nat) (h : PH) (v0 : Nat) (v1 : Int32) (v2 : Int32) (v3 : Int32) (v4 : Int32) : Option (Int32 × PH) := (pV 10 0 (.int (0 : Int32)) h v0).bind fun h1 => (cO 10 h1 v0 ((m_X10_isTenant h1 v0 v1).bind fun x2 => (if x2 = 0 then (some ((-2 : Int32), h1)) else (cO 10 h1 v0 ((m_X10_isTenant h1 v0 v2).bind fun x3 => (if x3 = 0 then (some ((-2 : Int32), h1)) else (if v1 = v2 then (some ((-2 : Int32), h1)) else ((m_X10_within (Int32.toInt64 v4) (0 : Int64) (2 : Int64)).bind fun x4 => (if x4 = 0 then (some ((-2 : Int32), h1)) else (l_X10_meet_45 F F h1 v0 v1 v2 v3 v4 (0 : Int32)))))))))))
set_option maxRecDepth 20000 in
theorem t_X10_meet_0 {M : MV} {X : XT} {F : Nat} {h hz : PH} {r : Int32} {ce sl mc ms : Nat} {v0 : Nat} {v1 : Int32} {v2 : Int32} {v3 : Int32} {v4 : Int32} (hc : Cx M X RX10 cX10_meet) (hr : Rx M 138 8006 mc ms 6) (he : Ex M X (some .int) "meet" (some (.int r)) hz mc ms) (hm : ce ≤ mc) (hs : sl ≤ ms) (hf : b_X10_meet_0 F h v0 v1 v2 v3 v4 = some (r, hz)) : GG M X h ce sl 0 [(0, .ref (X.1 + v0)), (1, .int v1), (2, .int v2), (3, .int v3), (4, .int v4)] [] := by
  unfold b_X10_meet_0 at hf
  refine r_aload_n hc 0 (dc_at dX10_meet 0 rfl) rfl ?_
  refine r_iconst (0 : Int32) hc (dc_at dX10_meet 1 rfl) (by decide) ?_
  refine r_putI hc he (dc_at dX10_meet 2 rfl) fp_X10_1 (fun q => by cases q) hf fun h1 hf => ?_
  refine r_aload_n hc 0 (dc_at dX10_meet 3 rfl) rfl ?_
  refine r_iload_n hc 1 (dc_at dX10_meet 4 rfl) rfl ?_
  obtain ⟨ho, hf⟩ := cO_some hf
  refine ob hf fun x2 ex hf => ?_
  refine r_callVi (As := [.int v1]) (ci := 10) hc hr (dc_at dX10_meet 5 rfl) ml_X10_254 mv_X10_isTenant vi_X10_isTenant rfl ho rfl (mt_X10_isTenant ex) (by first | exact Nat.le_of_ble_eq_true rfl | omega) (by first | exact Nat.le_of_ble_eq_true rfl | omega) (by first | exact Nat.le_of_ble_eq_true rfl | omega) hm hs ?_
  refine r_if_eq (tgt := 39) hc (dc_at dX10_meet 6 rfl) (by decide) hf (fun hf => ?_) (fun hf => ?_)
  · refine r_bipush (-2 : Int32) hc (dc_at dX10_meet 20 rfl) (by decide) ?_
    exact r_iret hc he (hm) (hs) (dc_at dX10_meet 21 rfl) hf
  · refine r_aload_n hc 0 (dc_at dX10_meet 7 rfl) rfl ?_
    refine r_iload_n hc 2 (dc_at dX10_meet 8 rfl) rfl ?_
    obtain ⟨ho, hf⟩ := cO_some hf
    refine ob hf fun x3 ex hf => ?_
    refine r_callVi (As := [.int v2]) (ci := 10) hc hr (dc_at dX10_meet 9 rfl) ml_X10_254 mv_X10_isTenant vi_X10_isTenant rfl ho rfl (mt_X10_isTenant ex) (by first | exact Nat.le_of_ble_eq_true rfl | omega) (by first | exact Nat.le_of_ble_eq_true rfl | omega) (by first | exact Nat.le_of_ble_eq_true rfl | omega) hm hs ?_
    refine r_if_eq (tgt := 39) hc (dc_at dX10_meet 10 rfl) (by decide) hf (fun hf => ?_) (fun hf => ?_)
    · refine r_bipush (-2 : Int32) hc (dc_at dX10_meet 20 rfl) (by decide) ?_
      exact r_iret hc he (hm) (hs) (dc_at dX10_meet 21 rfl) hf
    · refine r_iload_n hc 1 (dc_at dX10_meet 11 rfl) rfl ?_
      refine r_iload_n hc 2 (dc_at dX10_meet 12 rfl) rfl ?_
      refine r_icmp_eq (tgt := 39) hc (dc_at dX10_meet 13 rfl) (by decide) hf (fun hf => ?_) (fun hf => ?_)
      · refine r_bipush (-2 : Int32) hc (dc_at dX10_meet 20 rfl) (by decide) ?_
        exact r_iret hc he (hm) (hs) (dc_at dX10_meet 21 rfl) hf
      · refine r_iload hc 4 (dc_at dX10_meet 14 rfl) rfl ?_
        refine r_i2l hc (dc_at dX10_meet 15 rfl) ?_
        refine r_lconst (0 : Int64) hc (dc_at dX10_meet 16 rfl) (by decide) ?_
        refine r_ldc2 hc (dc_at dX10_meet 17 rfl) cl2_X10_292 ?_
        refine ob hf fun x4 ex hf => ?_
        refine r_callSi (As := [.long ((Int32.toInt64 v4)), .long ((0 : Int64)), .long ((2 : Int64))]) hc hr (dc_at dX10_meet 18 rfl) ml_X10_172 mv_X10_within st_X10_within rfl (mt_X10_within ex) (by first | exact Nat.le_of_ble_eq_true rfl | omega) (by first | exact Nat.le_of_ble_eq_true rfl | omega) (by first | exact Nat.le_of_ble_eq_true rfl | omega) hm hs ?_
        refine r_if_ne (tgt := 42) hc (dc_at dX10_meet 19 rfl) (by decide) hf (fun hf => ?_) (fun hf => ?_)
        · refine r_iconst (0 : Int32) hc (dc_at dX10_meet 22 rfl) (by decide) ?_
          refine r_istore [(5, .int ((0 : Int32))), (0, .ref (X.1 + v0)), (1, .int v1), (2, .int v2), (3, .int v3), (4, .int v4)] hc hr (dc_at dX10_meet 23 rfl) (by decide) rfl ?_
          exact gg_sub [1, 2, 3, 4, 5, 0] rfl (tl_X10_meet_45 hc hr he hm hs  F _ _ _ _ _ _ _ hf)
        · refine r_bipush (-2 : Int32) hc (dc_at dX10_meet 20 rfl) (by decide) ?_
          exact r_iret hc he (hm) (hs) (dc_at dX10_meet 21 rfl) hf
def m_X10_meet (F : Nat) (h : PH) (p0 : Nat) (p1 : Int32) (p2 : Int32) (p3 : Int32) (p4 : Int32) : Option (Int32 × PH) := b_X10_meet_0 F h p0 p1 p2 p3 p4
theorem mt_X10_meet {l : Launch} {X : XT} {F : Nat} {h hz : PH} {p0 : Nat} {p1 : Int32} {p2 : Int32} {p3 : Int32} {p4 : Int32} {r : Int32} (ex : m_X10_meet F h p0 p1 p2 p3 p4 = some (r, hz)) : MT l X yX10_meet cX10_meet 6 (some .int) 138 8006 0 0 [.ref (X.1 + p0), .int p1, .int p2, .int p3, .int p4] h (some (.int r)) hz := MT.of (by decide) (Nat.le_of_ble_eq_true rfl) fun M hl hc hr he => by
  subst hl
  exact gg_sub [0, 1, 2, 3, 4] rfl (t_X10_meet_0  hc hr he (Nat.zero_le _) (Nat.zero_le _) ex)
/-! FractionLiftModel.laysAddress(JJ)I -/
def lX10_laysAddressL : List (Nat × Instr × Nat × Nat) := [(0, .iconst 0, 1, 1), (1, .istore 5, 2, 3), (3, .lload_n 1, 1, 4), (4, .lstore 6, 2, 6), (6, .lload_n 3, 1, 7), (7, .lstore 8, 2, 9), (9, .lload 8, 2, 11), (11, .lconst 0, 1, 12), (12, .lcmp, 1, 13), (13, .ifCond .eq 37, 3, 16), (16, .aload_n 0, 1, 17), (17, .getfield 73, 3, 20), (20, .iload 5, 2, 22), (22, .lload 6, 2, 24), (24, .lload 8, 2, 26), (26, .ldiv, 1, 27), (27, .l2i, 1, 28), (28, .iastore, 1, 29), (29, .iinc 5 1, 3, 32), (32, .lload 6, 2, 34), (34, .lload 8, 2, 36), (36, .lrem, 1, 37), (37, .lstore 10, 2, 39), (39, .lload 8, 2, 41), (41, .lstore 6, 2, 43), (43, .lload 10, 2, 45), (45, .lstore 8, 2, 47), (47, .goto (-38), 3, 50), (50, .iload 5, 2, 52), (52, .ireturn, 1, 53)]
set_option maxRecDepth 20000 in
theorem dX10_laysAddress : dcL cX10_laysAddress lX10_laysAddressL = true := by decide +kernel
def b_X10_laysAddress_9 (F : Nat) (self6 : PH → Nat → Int32 → Int64 → Int64 → Option (Int32 × PH)) (h : PH) (v0 : Nat) (v5 : Int32) (v6 : Int64) (v8 : Int64) : Option (Int32 × PH) := if v8 = (0 : Int64) then (some (v5, h)) else ((gR 10 41 h v0).bind fun a1 => (if v8 = 0 then none else ((sI 0 h a1 v5 ((Int64.toInt32 (v6 / v8)))).bind fun h2 => (bindv (v5 + (1)) fun x3 => (if v8 = 0 then none else (bindv (remL v6 v8) fun x4 => (self6 h2 v0 x3 v8 x4)))))))
set_option maxRecDepth 20000 in
theorem tb_X10_laysAddress_9 {M : MV} {X : XT} {F : Nat} {self6 : PH → Nat → Int32 → Int64 → Int64 → Option (Int32 × PH)} {h hz : PH} {r : Int32} {ce sl mc ms : Nat} {v0 : Nat} {v5 : Int32} {v6 : Int64} {v8 : Int64} (hc : Cx M X RX10 cX10_laysAddress) (hr : Rx M 1 60 mc ms 12) (he : Ex M X (some .int) "laysAddress" (some (.int r)) hz mc ms) (hm : ce ≤ mc) (hs : sl ≤ ms) (ih6 : ∀ (h : PH) (v0 : Nat) (v5 : Int32) (v6 : Int64) (v8 : Int64), self6 h v0 v5 v6 v8 = some (r, hz) → GG M X h ce sl 9 [(0, .ref (X.1 + v0)), (5, .int v5), (6, .long v6), (8, .long v8)] []) (hf : b_X10_laysAddress_9 F self6 h v0 v5 v6 v8 = some (r, hz)) : GG M X h ce sl 9 [(0, .ref (X.1 + v0)), (5, .int v5), (6, .long v6), (8, .long v8)] [] := by
  unfold b_X10_laysAddress_9 at hf
  refine r_lload hc 3 (dc_at dX10_laysAddress 6 rfl) rfl ?_
  refine r_lconst (0 : Int64) hc (dc_at dX10_laysAddress 7 rfl) (by decide) ?_
  refine r_lcmp_eq (tgt := 50) hc (dc_at dX10_laysAddress 8 rfl) (dc_at dX10_laysAddress 9 rfl) (by decide) hf (fun hf => ?_) (fun hf => ?_)
  · refine r_iload hc 1 (dc_at dX10_laysAddress 28 rfl) rfl ?_
    exact r_iret hc he (hm) (hs) (dc_at dX10_laysAddress 29 rfl) hf
  · refine r_aload_n hc 0 (dc_at dX10_laysAddress 10 rfl) rfl ?_
    refine r_getR hc (dc_at dX10_laysAddress 11 rfl) fl_X10_73 hf fun a1 hf => ?_
    refine r_iload hc 1 (dc_at dX10_laysAddress 12 rfl) rfl ?_
    refine r_lload hc 2 (dc_at dX10_laysAddress 13 rfl) rfl ?_
    refine r_lload hc 3 (dc_at dX10_laysAddress 14 rfl) rfl ?_
    refine r_ldiv hc (dc_at dX10_laysAddress 15 rfl) hf (fun hf => ?_)
    refine r_l2i hc (dc_at dX10_laysAddress 16 rfl) ?_
    refine r_iastore hc (dc_at dX10_laysAddress 17 rfl) hf fun h2 hf => ?_
    refine obv hf fun x3 e_x3 hf => ?_
    refine r_iinc 1 [(5, .int x3), (0, .ref (X.1 + v0)), (6, .long v6), (8, .long v8)] hc hr (dc_at dX10_laysAddress 18 rfl) rfl (by rw [e_x3]; rfl) (by decide) rfl ?_
    refine r_lload hc 2 (dc_at dX10_laysAddress 19 rfl) rfl ?_
    refine r_lload hc 3 (dc_at dX10_laysAddress 20 rfl) rfl ?_
    refine r_lrem hc (dc_at dX10_laysAddress 21 rfl) hf (fun hf => ?_)
    refine r_nm (mk := Value.long) hf fun x4 hf => ?_
    refine r_lstore [(10, .long x4), (5, .int x3), (0, .ref (X.1 + v0)), (6, .long v6), (8, .long v8)] hc hr (dc_at dX10_laysAddress 22 rfl) (by decide) rfl ?_
    refine r_lload hc 4 (dc_at dX10_laysAddress 23 rfl) rfl ?_
    refine r_lstore [(6, .long v8), (10, .long x4), (5, .int x3), (0, .ref (X.1 + v0)), (8, .long v8)] hc hr (dc_at dX10_laysAddress 24 rfl) (by decide) rfl ?_
    refine r_lload hc 1 (dc_at dX10_laysAddress 25 rfl) rfl ?_
    refine r_lstore [(8, .long x4), (6, .long v8), (10, .long x4), (5, .int x3), (0, .ref (X.1 + v0))] hc hr (dc_at dX10_laysAddress 26 rfl) (by decide) rfl ?_
    refine r_goto (tgt := 9) hc (dc_at dX10_laysAddress 27 rfl) (by decide) ?_
    exact gg_sub [4, 3, 1, 0] rfl (ih6 _ _ _ _ _ hf)
def l_X10_laysAddress_9 (F : Nat) : Nat → PH → Nat → Int32 → Int64 → Int64 → Option (Int32 × PH)
  | 0 => fun _ _ _ _ _ => none
  | n + 1 => fun h v0 v5 v6 v8 => b_X10_laysAddress_9 F (l_X10_laysAddress_9 F n) h v0 v5 v6 v8
theorem tl_X10_laysAddress_9 {M : MV} {X : XT} {F : Nat} {hz : PH} {r : Int32} {ce sl mc ms : Nat} (hc : Cx M X RX10 cX10_laysAddress) (hr : Rx M 1 60 mc ms 12) (he : Ex M X (some .int) "laysAddress" (some (.int r)) hz mc ms) (hm : ce ≤ mc) (hs : sl ≤ ms) (n : Nat) : ∀ (h : PH) (v0 : Nat) (v5 : Int32) (v6 : Int64) (v8 : Int64), l_X10_laysAddress_9 F n h v0 v5 v6 v8 = some (r, hz) → GG M X h ce sl 9 [(0, .ref (X.1 + v0)), (5, .int v5), (6, .long v6), (8, .long v8)] [] := by
  induction n with
  | zero => intro h v0 v5 v6 v8 hf; cases hf
  | succ n ih => intro h v0 v5 v6 v8 hf; exact tb_X10_laysAddress_9 (F := F) hc hr he hm hs  ih hf
def b_X10_laysAddress_0 (F : Nat) (h : PH) (v0 : Nat) (v1 : Int64) (v3 : Int64) : Option (Int32 × PH) := l_X10_laysAddress_9 F F h v0 (0 : Int32) v1 v3
set_option maxRecDepth 20000 in
theorem t_X10_laysAddress_0 {M : MV} {X : XT} {F : Nat} {h hz : PH} {r : Int32} {ce sl mc ms : Nat} {v0 : Nat} {v1 : Int64} {v3 : Int64} (hc : Cx M X RX10 cX10_laysAddress) (hr : Rx M 1 60 mc ms 12) (he : Ex M X (some .int) "laysAddress" (some (.int r)) hz mc ms) (hm : ce ≤ mc) (hs : sl ≤ ms) (hf : b_X10_laysAddress_0 F h v0 v1 v3 = some (r, hz)) : GG M X h ce sl 0 [(0, .ref (X.1 + v0)), (1, .long v1), (3, .long v3)] [] := by
  unfold b_X10_laysAddress_0 at hf
  refine r_iconst (0 : Int32) hc (dc_at dX10_laysAddress 0 rfl) (by decide) ?_
  refine r_istore [(5, .int ((0 : Int32))), (0, .ref (X.1 + v0)), (1, .long v1), (3, .long v3)] hc hr (dc_at dX10_laysAddress 1 rfl) (by decide) rfl ?_
  refine r_lload_n hc 2 (dc_at dX10_laysAddress 2 rfl) rfl ?_
  refine r_lstore [(6, .long v1), (5, .int ((0 : Int32))), (0, .ref (X.1 + v0)), (1, .long v1), (3, .long v3)] hc hr (dc_at dX10_laysAddress 3 rfl) (by decide) rfl ?_
  refine r_lload_n hc 4 (dc_at dX10_laysAddress 4 rfl) rfl ?_
  refine r_lstore [(8, .long v3), (6, .long v1), (5, .int ((0 : Int32))), (0, .ref (X.1 + v0)), (1, .long v1), (3, .long v3)] hc hr (dc_at dX10_laysAddress 5 rfl) (by decide) rfl ?_
  exact gg_sub [3, 2, 1, 0] rfl (tl_X10_laysAddress_9 hc hr he hm hs  F _ _ _ _ _ hf)
def m_X10_laysAddress (F : Nat) (h : PH) (p0 : Nat) (p1 : Int64) (p3 : Int64) : Option (Int32 × PH) := b_X10_laysAddress_0 F h p0 p1 p3
theorem mt_X10_laysAddress {l : Launch} {X : XT} {F : Nat} {h hz : PH} {p0 : Nat} {p1 : Int64} {p3 : Int64} {r : Int32} (ex : m_X10_laysAddress F h p0 p1 p3 = some (r, hz)) : MT l X yX10_laysAddress cX10_laysAddress 12 (some .int) 1 60 0 0 [.ref (X.1 + p0), .long p1, .long p3] h (some (.int r)) hz := MT.of (by decide) (Nat.le_of_ble_eq_true rfl) fun M hl hc hr he => by
  subst hl
  exact gg_sub [0, 1, 2] rfl (t_X10_laysAddress_0  hc hr he (Nat.zero_le _) (Nat.zero_le _) ex)
/-! FractionLiftModel.address(III)I -/
def lX10_addressL : List (Nat × Instr × Nat × Nat) := [(0, .aload_n 0, 1, 1), (1, .iconst 0, 1, 2), (2, .putfield 1, 3, 5), (5, .aload_n 0, 1, 6), (6, .iload_n 1, 1, 7), (7, .i2l, 1, 8), (8, .iload_n 2, 1, 9), (9, .i2l, 1, 10), (10, .invokevirtual 282, 3, 13), (13, .ifCond .ne 6, 3, 16), (16, .bipush (-3), 2, 18), (18, .ireturn, 1, 19), (19, .aload_n 0, 1, 20), (20, .aload_n 0, 1, 21), (21, .getfield 180, 3, 24), (24, .aload_n 0, 1, 25), (25, .getfield 184, 3, 28), (28, .invokevirtual 438, 3, 31), (31, .istore 4, 2, 33), (33, .iload_n 3, 1, 34), (34, .iconst (-1), 1, 35), (35, .if_icmp .ne 8, 3, 38), (38, .iload 4, 2, 40), (40, .goto 27, 3, 43), (43, .iload_n 3, 1, 44), (44, .i2l, 1, 45), (45, .lconst 0, 1, 46), (46, .iload 4, 2, 48), (48, .iconst 1, 1, 49), (49, .isub, 1, 50), (50, .i2l, 1, 51), (51, .invokestatic 172, 3, 54), (54, .ifCond .eq 12, 3, 57), (57, .aload_n 0, 1, 58), (58, .getfield 73, 3, 61), (61, .iload_n 3, 1, 62), (62, .iaload, 1, 63), (63, .goto 4, 3, 66), (66, .iconst (-1), 1, 67), (67, .ireturn, 1, 68)]
set_option maxRecDepth 20000 in
theorem dX10_address : dcL cX10_address lX10_addressL = true := by decide +kernel
def b_X10_address_0 (F : Nat) (h : PH) (v0 : Nat) (v1 : Int32) (v2 : Int32) (v3 : Int32) : Option (Int32 × PH) := (pV 10 0 (.int (0 : Int32)) h v0).bind fun h1 => (cO 10 h1 v0 (bind2 (m_X10_asks h1 v0 (Int32.toInt64 v1) (Int32.toInt64 v2)) fun x2 h3 => (if x2 = 0 then (some ((-3 : Int32), h3)) else ((gL 10 15 h3 v0).bind fun x4 => ((gL 10 16 h3 v0).bind fun x5 => (cO 10 h3 v0 (bind2 (m_X10_laysAddress F h3 v0 x4 x5) fun x6 h7 => (if v3 = (-1 : Int32) then (some (x6, h7)) else ((m_X10_within (Int32.toInt64 v3) (0 : Int64) ((Int32.toInt64 ((x6 - (1 : Int32)))))).bind fun x8 => (if x8 = 0 then (some ((-1 : Int32), h7)) else ((gR 10 41 h7 v0).bind fun a9 => ((aI 0 h7 a9 v3).bind fun x10 => (some (x10, h7))))))))))))))
set_option maxRecDepth 20000 in
theorem t_X10_address_0 {M : MV} {X : XT} {F : Nat} {h hz : PH} {r : Int32} {ce sl mc ms : Nat} {v0 : Nat} {v1 : Int32} {v2 : Int32} {v3 : Int32} (hc : Cx M X RX10 cX10_address) (hr : Rx M 134 7774 mc ms 5) (he : Ex M X (some .int) "address" (some (.int r)) hz mc ms) (hm : ce ≤ mc) (hs : sl ≤ ms) (hf : b_X10_address_0 F h v0 v1 v2 v3 = some (r, hz)) : GG M X h ce sl 0 [(0, .ref (X.1 + v0)), (1, .int v1), (2, .int v2), (3, .int v3)] [] := by
  unfold b_X10_address_0 at hf
  refine r_aload_n hc 0 (dc_at dX10_address 0 rfl) rfl ?_
  refine r_iconst (0 : Int32) hc (dc_at dX10_address 1 rfl) (by decide) ?_
  refine r_putI hc he (dc_at dX10_address 2 rfl) fp_X10_1 (fun q => by cases q) hf fun h1 hf => ?_
  refine r_aload_n hc 0 (dc_at dX10_address 3 rfl) rfl ?_
  refine r_iload_n hc 1 (dc_at dX10_address 4 rfl) rfl ?_
  refine r_i2l hc (dc_at dX10_address 5 rfl) ?_
  refine r_iload_n hc 2 (dc_at dX10_address 6 rfl) rfl ?_
  refine r_i2l hc (dc_at dX10_address 7 rfl) ?_
  obtain ⟨ho, hf⟩ := cO_some hf
  refine ob2 hf fun x2 h3 ex hf => ?_
  refine r_callVi (As := [.long ((Int32.toInt64 v1)), .long ((Int32.toInt64 v2))]) (ci := 10) hc hr (dc_at dX10_address 8 rfl) ml_X10_282 mv_X10_asks vi_X10_asks rfl ho rfl (mt_X10_asks ex) (by first | exact Nat.le_of_ble_eq_true rfl | omega) (by first | exact Nat.le_of_ble_eq_true rfl | omega) (by first | exact Nat.le_of_ble_eq_true rfl | omega) hm hs ?_
  refine r_if_ne (tgt := 19) hc (dc_at dX10_address 9 rfl) (by decide) hf (fun hf => ?_) (fun hf => ?_)
  · refine r_aload_n hc 0 (dc_at dX10_address 12 rfl) rfl ?_
    refine r_aload_n hc 0 (dc_at dX10_address 13 rfl) rfl ?_
    refine r_getL hc (dc_at dX10_address 14 rfl) fl_X10_180 hf fun x4 hf => ?_
    refine r_aload_n hc 0 (dc_at dX10_address 15 rfl) rfl ?_
    refine r_getL hc (dc_at dX10_address 16 rfl) fl_X10_184 hf fun x5 hf => ?_
    obtain ⟨ho, hf⟩ := cO_some hf
    refine ob2 hf fun x6 h7 ex hf => ?_
    refine r_callVi (As := [.long x4, .long x5]) (ci := 10) hc hr (dc_at dX10_address 17 rfl) ml_X10_438 mv_X10_laysAddress vi_X10_laysAddress rfl ho rfl (mt_X10_laysAddress ex) (by first | exact Nat.le_of_ble_eq_true rfl | omega) (by first | exact Nat.le_of_ble_eq_true rfl | omega) (by first | exact Nat.le_of_ble_eq_true rfl | omega) hm hs ?_
    refine r_istore [(4, .int x6), (0, .ref (X.1 + v0)), (1, .int v1), (2, .int v2), (3, .int v3)] hc hr (dc_at dX10_address 18 rfl) (by decide) rfl ?_
    refine r_iload_n hc 4 (dc_at dX10_address 19 rfl) rfl ?_
    refine r_iconst (-1 : Int32) hc (dc_at dX10_address 20 rfl) (by decide) ?_
    refine r_icmp_ne (tgt := 43) hc (dc_at dX10_address 21 rfl) (by decide) hf (fun hf => ?_) (fun hf => ?_)
    · refine r_iload_n hc 4 (dc_at dX10_address 24 rfl) rfl ?_
      refine r_i2l hc (dc_at dX10_address 25 rfl) ?_
      refine r_lconst (0 : Int64) hc (dc_at dX10_address 26 rfl) (by decide) ?_
      refine r_iload hc 0 (dc_at dX10_address 27 rfl) rfl ?_
      refine r_iconst (1 : Int32) hc (dc_at dX10_address 28 rfl) (by decide) ?_
      refine r_isub hc (dc_at dX10_address 29 rfl) ?_
      refine r_i2l hc (dc_at dX10_address 30 rfl) ?_
      refine ob hf fun x8 ex hf => ?_
      refine r_callSi (As := [.long ((Int32.toInt64 v3)), .long ((0 : Int64)), .long ((Int32.toInt64 ((x6 - (1 : Int32)))))]) hc hr (dc_at dX10_address 31 rfl) ml_X10_172 mv_X10_within st_X10_within rfl (mt_X10_within ex) (by first | exact Nat.le_of_ble_eq_true rfl | omega) (by first | exact Nat.le_of_ble_eq_true rfl | omega) (by first | exact Nat.le_of_ble_eq_true rfl | omega) hm hs ?_
      refine r_if_eq (tgt := 66) hc (dc_at dX10_address 32 rfl) (by decide) hf (fun hf => ?_) (fun hf => ?_)
      · refine r_iconst (-1 : Int32) hc (dc_at dX10_address 38 rfl) (by decide) ?_
        exact r_iret hc he (hm) (hs) (dc_at dX10_address 39 rfl) hf
      · refine r_aload_n hc 1 (dc_at dX10_address 33 rfl) rfl ?_
        refine r_getR hc (dc_at dX10_address 34 rfl) fl_X10_73 hf fun a9 hf => ?_
        refine r_iload_n hc 4 (dc_at dX10_address 35 rfl) rfl ?_
        refine r_iaload hc (dc_at dX10_address 36 rfl) hf fun x10 hf => ?_
        refine r_goto (tgt := 67) hc (dc_at dX10_address 37 rfl) (by decide) ?_
        exact r_iret hc he (hm) (hs) (dc_at dX10_address 39 rfl) hf
    · refine r_iload hc 0 (dc_at dX10_address 22 rfl) rfl ?_
      refine r_goto (tgt := 67) hc (dc_at dX10_address 23 rfl) (by decide) ?_
      exact r_iret hc he (hm) (hs) (dc_at dX10_address 39 rfl) hf
  · refine r_bipush (-3 : Int32) hc (dc_at dX10_address 10 rfl) (by decide) ?_
    exact r_iret hc he (hm) (hs) (dc_at dX10_address 11 rfl) hf
def m_X10_address (F : Nat) (h : PH) (p0 : Nat) (p1 : Int32) (p2 : Int32) (p3 : Int32) : Option (Int32 × PH) := b_X10_address_0 F h p0 p1 p2 p3
theorem mt_X10_address {l : Launch} {X : XT} {F : Nat} {h hz : PH} {p0 : Nat} {p1 : Int32} {p2 : Int32} {p3 : Int32} {r : Int32} (ex : m_X10_address F h p0 p1 p2 p3 = some (r, hz)) : MT l X yX10_address cX10_address 5 (some .int) 134 7774 0 0 [.ref (X.1 + p0), .int p1, .int p2, .int p3] h (some (.int r)) hz := MT.of (by decide) (Nat.le_of_ble_eq_true rfl) fun M hl hc hr he => by
  subst hl
  exact gg_sub [0, 1, 2, 3] rfl (t_X10_address_0  hc hr he (Nat.zero_le _) (Nat.zero_le _) ex)
/-! FractionLiftModel.neighbour(IIIZI)I -/
def lX10_neighbourL : List (Nat × Instr × Nat × Nat) := [(0, .aload_n 0, 1, 1), (1, .iconst 0, 1, 2), (2, .putfield 1, 3, 5), (5, .iload 5, 2, 7), (7, .i2l, 1, 8), (8, .lconst 0, 1, 9), (9, .lconst 1, 1, 10), (10, .invokestatic 172, 3, 13), (13, .ifCond .ne 6, 3, 16), (16, .bipush (-2), 2, 18), (18, .ireturn, 1, 19), (19, .iload_n 3, 1, 20), (20, .i2l, 1, 21), (21, .lconst 1, 1, 22), (22, .ldc2_w 441, 3, 25), (25, .invokestatic 172, 3, 28), (28, .ifCond .eq 14, 3, 31), (31, .aload_n 0, 1, 32), (32, .iload_n 1, 1, 33), (33, .i2l, 1, 34), (34, .iload_n 2, 1, 35), (35, .i2l, 1, 36), (36, .invokevirtual 282, 3, 39), (39, .ifCond .ne 6, 3, 42), (42, .bipush (-3), 2, 44), (44, .ireturn, 1, 45), (45, .aload_n 0, 1, 46), (46, .getfield 180, 3, 49), (49, .lstore 6, 2, 51), (51, .aload_n 0, 1, 52), (52, .getfield 184, 3, 55), (55, .lstore 8, 2, 57), (57, .ldc2_w 334, 3, 60), (60, .lstore 10, 2, 62), (62, .lconst 1, 1, 63), (63, .lstore 12, 2, 65), (65, .lconst 1, 1, 66), (66, .lstore 14, 2, 68), (68, .lload 14, 2, 70), (70, .iload_n 3, 1, 71), (71, .i2l, 1, 72), (72, .lcmp, 1, 73), (73, .ifCond .gt 137, 3, 76), (76, .iload 4, 2, 78), (78, .ifCond .eq 16, 3, 81), (81, .lload 6, 2, 83), (83, .lload 14, 2, 85), (85, .lmul, 1, 86), (86, .lload 8, 2, 88), (88, .ldiv, 1, 89), (89, .lconst 1, 1, 90), (90, .ladd, 1, 91), (91, .goto 18, 3, 94), (94, .lload 6, 2, 96), (96, .lload 14, 2, 98), (98, .lmul, 1, 99), (99, .lload 8, 2, 101), (101, .ladd, 1, 102), (102, .lconst 1, 1, 103), (103, .lsub, 1, 104), (104, .lload 8, 2, 106), (106, .ldiv, 1, 107), (107, .lconst 1, 1, 108), (108, .lsub, 1, 109), (109, .lstore 16, 2, 111), (111, .lload 16, 2, 113), (113, .lconst 0, 1, 114), (114, .lcmp, 1, 115), (115, .ifCond .lt 86, 3, 118), (118, .lload 16, 2, 120), (120, .aload_n 0, 1, 121), (121, .getfield 13, 3, 124), (124, .iconst 1, 1, 125), (125, .iaload, 1, 126), (126, .i2l, 1, 127), (127, .lload 14, 2, 129), (129, .lmul, 1, 130), (130, .lcmp, 1, 131), (131, .ifCond .le 6, 3, 134), (134, .goto 67, 3, 137), (137, .lload 10, 2, 139), (139, .ldc2_w 334, 3, 142), (142, .lcmp, 1, 143), (143, .ifCond .ne 7, 3, 146), (146, .iconst 0, 1, 147), (147, .goto 14, 3, 150), (150, .lload 16, 2, 152), (152, .lload 14, 2, 154), (154, .lload 10, 2, 156), (156, .lload 12, 2, 158), (158, .invokestatic 243, 3, 161), (161, .istore 18, 2, 163), (163, .lload 10, 2, 165), (165, .ldc2_w 334, 3, 168), (168, .lcmp, 1, 169), (169, .ifCond .eq 24, 3, 172), (172, .iload 4, 2, 174), (174, .ifCond .eq 11, 3, 177), (177, .iload 18, 2, 179), (179, .ifCond .lt 14, 3, 182), (182, .goto 19, 3, 185), (185, .iload 18, 2, 187), (187, .ifCond .gt 6, 3, 190), (190, .goto 11, 3, 193), (193, .lload 16, 2, 195), (195, .lstore 10, 2, 197), (197, .lload 14, 2, 199), (199, .lstore 12, 2, 201), (201, .lload 14, 2, 203), (203, .lconst 1, 1, 204), (204, .ladd, 1, 205), (205, .lstore 14, 2, 207), (207, .goto (-139), 3, 210), (210, .lload 10, 2, 212), (212, .ldc2_w 334, 3, 215), (215, .lcmp, 1, 216), (216, .ifCond .ne 7, 3, 219), (219, .iconst (-1), 1, 220), (220, .goto 16, 3, 223), (223, .iload 5, 2, 225), (225, .ifCond .ne 8, 3, 228), (228, .lload 10, 2, 230), (230, .goto 5, 3, 233), (233, .lload 12, 2, 235), (235, .l2i, 1, 236), (236, .ireturn, 1, 237)]
set_option maxRecDepth 20000 in
theorem dX10_neighbour : dcL cX10_neighbour lX10_neighbourL = true := by decide +kernel
def b_X10_neighbour_201 (F : Nat) (self38 : PH → Nat → Int32 → Int32 → Int32 → Int64 → Int64 → Int64 → Int64 → Int64 → Option (Int32 × PH)) (h : PH) (v0 : Nat) (v3 : Int32) (v4 : Int32) (v5 : Int32) (v6 : Int64) (v8 : Int64) (v10 : Int64) (v12 : Int64) (v14 : Int64) : Option (Int32 × PH) := bindv ((v14 + (1 : Int64))) fun x1 => (self38 h v0 v3 v4 v5 v6 v8 v10 v12 x1)
set_option maxRecDepth 20000 in
theorem t_X10_neighbour_201 {M : MV} {X : XT} {F : Nat} {self38 : PH → Nat → Int32 → Int32 → Int32 → Int64 → Int64 → Int64 → Int64 → Int64 → Option (Int32 × PH)} {h hz : PH} {r : Int32} {ce sl mc ms : Nat} {v0 : Nat} {v3 : Int32} {v4 : Int32} {v5 : Int32} {v6 : Int64} {v8 : Int64} {v10 : Int64} {v12 : Int64} {v14 : Int64} (hc : Cx M X RX10 cX10_neighbour) (hr : Rx M 134 7774 mc ms 19) (he : Ex M X (some .int) "neighbour" (some (.int r)) hz mc ms) (hm : ce ≤ mc) (hs : sl ≤ ms) (ih38 : ∀ (h : PH) (v0 : Nat) (v3 : Int32) (v4 : Int32) (v5 : Int32) (v6 : Int64) (v8 : Int64) (v10 : Int64) (v12 : Int64) (v14 : Int64), self38 h v0 v3 v4 v5 v6 v8 v10 v12 v14 = some (r, hz) → GG M X h ce sl 68 [(0, .ref (X.1 + v0)), (3, .int v3), (4, .int v4), (5, .int v5), (6, .long v6), (8, .long v8), (10, .long v10), (12, .long v12), (14, .long v14)] []) (hf : b_X10_neighbour_201 F self38 h v0 v3 v4 v5 v6 v8 v10 v12 v14 = some (r, hz)) : GG M X h ce sl 201 [(0, .ref (X.1 + v0)), (3, .int v3), (4, .int v4), (5, .int v5), (6, .long v6), (8, .long v8), (10, .long v10), (12, .long v12), (14, .long v14)] [] := by
  unfold b_X10_neighbour_201 at hf
  refine r_lload hc 8 (dc_at dX10_neighbour 108 rfl) rfl ?_
  refine r_lconst (1 : Int64) hc (dc_at dX10_neighbour 109 rfl) (by decide) ?_
  refine r_ladd hc (dc_at dX10_neighbour 110 rfl) ?_
  refine r_nm (mk := Value.long) hf fun x1 hf => ?_
  refine r_lstore [(14, .long x1), (0, .ref (X.1 + v0)), (3, .int v3), (4, .int v4), (5, .int v5), (6, .long v6), (8, .long v8), (10, .long v10), (12, .long v12)] hc hr (dc_at dX10_neighbour 111 rfl) (by decide) rfl ?_
  refine r_goto (tgt := 68) hc (dc_at dX10_neighbour 112 rfl) (by decide) ?_
  exact gg_sub [1, 2, 3, 4, 5, 6, 7, 8, 0] rfl (ih38 _ _ _ _ _ _ _ _ _ _ hf)
def b_X10_neighbour_193 (F : Nat) (self38 : PH → Nat → Int32 → Int32 → Int32 → Int64 → Int64 → Int64 → Int64 → Int64 → Option (Int32 × PH)) (h : PH) (v0 : Nat) (v3 : Int32) (v4 : Int32) (v5 : Int32) (v6 : Int64) (v8 : Int64) (v14 : Int64) (v16 : Int64) : Option (Int32 × PH) := b_X10_neighbour_201 F self38 h v0 v3 v4 v5 v6 v8 v16 v14 v14
set_option maxRecDepth 20000 in
theorem t_X10_neighbour_193 {M : MV} {X : XT} {F : Nat} {self38 : PH → Nat → Int32 → Int32 → Int32 → Int64 → Int64 → Int64 → Int64 → Int64 → Option (Int32 × PH)} {h hz : PH} {r : Int32} {ce sl mc ms : Nat} {v0 : Nat} {v3 : Int32} {v4 : Int32} {v5 : Int32} {v6 : Int64} {v8 : Int64} {v14 : Int64} {v16 : Int64} (hc : Cx M X RX10 cX10_neighbour) (hr : Rx M 134 7774 mc ms 19) (he : Ex M X (some .int) "neighbour" (some (.int r)) hz mc ms) (hm : ce ≤ mc) (hs : sl ≤ ms) (ih38 : ∀ (h : PH) (v0 : Nat) (v3 : Int32) (v4 : Int32) (v5 : Int32) (v6 : Int64) (v8 : Int64) (v10 : Int64) (v12 : Int64) (v14 : Int64), self38 h v0 v3 v4 v5 v6 v8 v10 v12 v14 = some (r, hz) → GG M X h ce sl 68 [(0, .ref (X.1 + v0)), (3, .int v3), (4, .int v4), (5, .int v5), (6, .long v6), (8, .long v8), (10, .long v10), (12, .long v12), (14, .long v14)] []) (hf : b_X10_neighbour_193 F self38 h v0 v3 v4 v5 v6 v8 v14 v16 = some (r, hz)) : GG M X h ce sl 193 [(0, .ref (X.1 + v0)), (3, .int v3), (4, .int v4), (5, .int v5), (6, .long v6), (8, .long v8), (14, .long v14), (16, .long v16)] [] := by
  unfold b_X10_neighbour_193 at hf
  refine r_lload hc 7 (dc_at dX10_neighbour 104 rfl) rfl ?_
  refine r_lstore [(10, .long v16), (0, .ref (X.1 + v0)), (3, .int v3), (4, .int v4), (5, .int v5), (6, .long v6), (8, .long v8), (14, .long v14), (16, .long v16)] hc hr (dc_at dX10_neighbour 105 rfl) (by decide) rfl ?_
  refine r_lload hc 7 (dc_at dX10_neighbour 106 rfl) rfl ?_
  refine r_lstore [(12, .long v14), (10, .long v16), (0, .ref (X.1 + v0)), (3, .int v3), (4, .int v4), (5, .int v5), (6, .long v6), (8, .long v8), (14, .long v14), (16, .long v16)] hc hr (dc_at dX10_neighbour 107 rfl) (by decide) rfl ?_
  exact gg_sub [2, 3, 4, 5, 6, 7, 1, 0, 8] rfl (t_X10_neighbour_201 hc hr he hm hs ih38 hf)
def b_X10_neighbour_161 (F : Nat) (self38 : PH → Nat → Int32 → Int32 → Int32 → Int64 → Int64 → Int64 → Int64 → Int64 → Option (Int32 × PH)) (h : PH) (v0 : Nat) (v3 : Int32) (v4 : Int32) (v5 : Int32) (v6 : Int64) (v8 : Int64) (v10 : Int64) (v12 : Int64) (v14 : Int64) (v16 : Int64) (s0 : Int32) : Option (Int32 × PH) := if v10 = (-1 : Int64) then (b_X10_neighbour_193 F self38 h v0 v3 v4 v5 v6 v8 v14 v16) else (if v4 = 0 then (if 0 < s0 then (b_X10_neighbour_193 F self38 h v0 v3 v4 v5 v6 v8 v14 v16) else (b_X10_neighbour_201 F self38 h v0 v3 v4 v5 v6 v8 v10 v12 v14)) else (if s0 < 0 then (b_X10_neighbour_193 F self38 h v0 v3 v4 v5 v6 v8 v14 v16) else (b_X10_neighbour_201 F self38 h v0 v3 v4 v5 v6 v8 v10 v12 v14)))
set_option maxRecDepth 20000 in
theorem t_X10_neighbour_161 {M : MV} {X : XT} {F : Nat} {self38 : PH → Nat → Int32 → Int32 → Int32 → Int64 → Int64 → Int64 → Int64 → Int64 → Option (Int32 × PH)} {h hz : PH} {r : Int32} {ce sl mc ms : Nat} {v0 : Nat} {v3 : Int32} {v4 : Int32} {v5 : Int32} {v6 : Int64} {v8 : Int64} {v10 : Int64} {v12 : Int64} {v14 : Int64} {v16 : Int64} {s0 : Int32} (hc : Cx M X RX10 cX10_neighbour) (hr : Rx M 134 7774 mc ms 19) (he : Ex M X (some .int) "neighbour" (some (.int r)) hz mc ms) (hm : ce ≤ mc) (hs : sl ≤ ms) (ih38 : ∀ (h : PH) (v0 : Nat) (v3 : Int32) (v4 : Int32) (v5 : Int32) (v6 : Int64) (v8 : Int64) (v10 : Int64) (v12 : Int64) (v14 : Int64), self38 h v0 v3 v4 v5 v6 v8 v10 v12 v14 = some (r, hz) → GG M X h ce sl 68 [(0, .ref (X.1 + v0)), (3, .int v3), (4, .int v4), (5, .int v5), (6, .long v6), (8, .long v8), (10, .long v10), (12, .long v12), (14, .long v14)] []) (hf : b_X10_neighbour_161 F self38 h v0 v3 v4 v5 v6 v8 v10 v12 v14 v16 s0 = some (r, hz)) : GG M X h ce sl 161 [(0, .ref (X.1 + v0)), (3, .int v3), (4, .int v4), (5, .int v5), (6, .long v6), (8, .long v8), (10, .long v10), (12, .long v12), (14, .long v14), (16, .long v16)] [.int s0] := by
  unfold b_X10_neighbour_161 at hf
  refine r_istore [(18, .int s0), (0, .ref (X.1 + v0)), (3, .int v3), (4, .int v4), (5, .int v5), (6, .long v6), (8, .long v8), (10, .long v10), (12, .long v12), (14, .long v14), (16, .long v16)] hc hr (dc_at dX10_neighbour 91 rfl) (by decide) rfl ?_
  refine r_lload hc 7 (dc_at dX10_neighbour 92 rfl) rfl ?_
  refine r_ldc2 hc (dc_at dX10_neighbour 93 rfl) cl2_X10_334 ?_
  refine r_lcmp_eq (tgt := 193) hc (dc_at dX10_neighbour 94 rfl) (dc_at dX10_neighbour 95 rfl) (by decide) hf (fun hf => ?_) (fun hf => ?_)
  · exact gg_sub [1, 2, 3, 4, 5, 6, 9, 10] rfl (t_X10_neighbour_193 hc hr he hm hs ih38 hf)
  · refine r_iload hc 3 (dc_at dX10_neighbour 96 rfl) rfl ?_
    refine r_if_eq (tgt := 185) hc (dc_at dX10_neighbour 97 rfl) (by decide) hf (fun hf => ?_) (fun hf => ?_)
    · refine r_iload hc 0 (dc_at dX10_neighbour 101 rfl) rfl ?_
      refine r_if_gt (tgt := 193) hc (dc_at dX10_neighbour 102 rfl) (by decide) hf (fun hf => ?_) (fun hf => ?_)
      · exact gg_sub [1, 2, 3, 4, 5, 6, 9, 10] rfl (t_X10_neighbour_193 hc hr he hm hs ih38 hf)
      · refine r_goto (tgt := 201) hc (dc_at dX10_neighbour 103 rfl) (by decide) ?_
        exact gg_sub [1, 2, 3, 4, 5, 6, 7, 8, 9] rfl (t_X10_neighbour_201 hc hr he hm hs ih38 hf)
    · refine r_iload hc 0 (dc_at dX10_neighbour 98 rfl) rfl ?_
      refine r_if_lt (tgt := 193) hc (dc_at dX10_neighbour 99 rfl) (by decide) hf (fun hf => ?_) (fun hf => ?_)
      · exact gg_sub [1, 2, 3, 4, 5, 6, 9, 10] rfl (t_X10_neighbour_193 hc hr he hm hs ih38 hf)
      · refine r_goto (tgt := 201) hc (dc_at dX10_neighbour 100 rfl) (by decide) ?_
        exact gg_sub [1, 2, 3, 4, 5, 6, 7, 8, 9] rfl (t_X10_neighbour_201 hc hr he hm hs ih38 hf)
def b_X10_neighbour_109 (F : Nat) (self38 : PH → Nat → Int32 → Int32 → Int32 → Int64 → Int64 → Int64 → Int64 → Int64 → Option (Int32 × PH)) (h : PH) (v0 : Nat) (v3 : Int32) (v4 : Int32) (v5 : Int32) (v6 : Int64) (v8 : Int64) (v10 : Int64) (v12 : Int64) (v14 : Int64) (s0 : Int64) : Option (Int32 × PH) := if s0 < (0 : Int64) then (b_X10_neighbour_201 F self38 h v0 v3 v4 v5 v6 v8 v10 v12 v14) else ((gR 10 1 h v0).bind fun a1 => ((aI 0 h a1 (1 : Int32)).bind fun x2 => (if s0 ≤ (((Int32.toInt64 x2) * v14)) then (if v10 = (-1 : Int64) then (b_X10_neighbour_161 F self38 h v0 v3 v4 v5 v6 v8 v10 v12 v14 s0 (0 : Int32)) else ((m_X10_against s0 v14 v10 v12).bind fun x3 => (b_X10_neighbour_161 F self38 h v0 v3 v4 v5 v6 v8 v10 v12 v14 s0 x3))) else (b_X10_neighbour_201 F self38 h v0 v3 v4 v5 v6 v8 v10 v12 v14))))
set_option maxRecDepth 20000 in
theorem t_X10_neighbour_109 {M : MV} {X : XT} {F : Nat} {self38 : PH → Nat → Int32 → Int32 → Int32 → Int64 → Int64 → Int64 → Int64 → Int64 → Option (Int32 × PH)} {h hz : PH} {r : Int32} {ce sl mc ms : Nat} {v0 : Nat} {v3 : Int32} {v4 : Int32} {v5 : Int32} {v6 : Int64} {v8 : Int64} {v10 : Int64} {v12 : Int64} {v14 : Int64} {s0 : Int64} (hc : Cx M X RX10 cX10_neighbour) (hr : Rx M 134 7774 mc ms 19) (he : Ex M X (some .int) "neighbour" (some (.int r)) hz mc ms) (hm : ce ≤ mc) (hs : sl ≤ ms) (ih38 : ∀ (h : PH) (v0 : Nat) (v3 : Int32) (v4 : Int32) (v5 : Int32) (v6 : Int64) (v8 : Int64) (v10 : Int64) (v12 : Int64) (v14 : Int64), self38 h v0 v3 v4 v5 v6 v8 v10 v12 v14 = some (r, hz) → GG M X h ce sl 68 [(0, .ref (X.1 + v0)), (3, .int v3), (4, .int v4), (5, .int v5), (6, .long v6), (8, .long v8), (10, .long v10), (12, .long v12), (14, .long v14)] []) (hf : b_X10_neighbour_109 F self38 h v0 v3 v4 v5 v6 v8 v10 v12 v14 s0 = some (r, hz)) : GG M X h ce sl 109 [(0, .ref (X.1 + v0)), (3, .int v3), (4, .int v4), (5, .int v5), (6, .long v6), (8, .long v8), (10, .long v10), (12, .long v12), (14, .long v14)] [.long s0] := by
  unfold b_X10_neighbour_109 at hf
  refine r_lstore [(16, .long s0), (0, .ref (X.1 + v0)), (3, .int v3), (4, .int v4), (5, .int v5), (6, .long v6), (8, .long v8), (10, .long v10), (12, .long v12), (14, .long v14)] hc hr (dc_at dX10_neighbour 64 rfl) (by decide) rfl ?_
  refine r_lload hc 0 (dc_at dX10_neighbour 65 rfl) rfl ?_
  refine r_lconst (0 : Int64) hc (dc_at dX10_neighbour 66 rfl) (by decide) ?_
  refine r_lcmp_lt (tgt := 201) hc (dc_at dX10_neighbour 67 rfl) (dc_at dX10_neighbour 68 rfl) (by decide) hf (fun hf => ?_) (fun hf => ?_)
  · exact gg_sub [1, 2, 3, 4, 5, 6, 7, 8, 9] rfl (t_X10_neighbour_201 hc hr he hm hs ih38 hf)
  · refine r_lload hc 0 (dc_at dX10_neighbour 69 rfl) rfl ?_
    refine r_aload_n hc 1 (dc_at dX10_neighbour 70 rfl) rfl ?_
    refine r_getR hc (dc_at dX10_neighbour 71 rfl) fl_X10_13 hf fun a1 hf => ?_
    refine r_iconst (1 : Int32) hc (dc_at dX10_neighbour 72 rfl) (by decide) ?_
    refine r_iaload hc (dc_at dX10_neighbour 73 rfl) hf fun x2 hf => ?_
    refine r_i2l hc (dc_at dX10_neighbour 74 rfl) ?_
    refine r_lload hc 9 (dc_at dX10_neighbour 75 rfl) rfl ?_
    refine r_lmul hc (dc_at dX10_neighbour 76 rfl) ?_
    refine r_lcmp_le (tgt := 137) hc (dc_at dX10_neighbour 77 rfl) (dc_at dX10_neighbour 78 rfl) (by decide) hf (fun hf => ?_) (fun hf => ?_)
    · refine r_lload hc 7 (dc_at dX10_neighbour 80 rfl) rfl ?_
      refine r_ldc2 hc (dc_at dX10_neighbour 81 rfl) cl2_X10_334 ?_
      refine r_lcmp_ne (tgt := 150) hc (dc_at dX10_neighbour 82 rfl) (dc_at dX10_neighbour 83 rfl) (by decide) hf (fun hf => ?_) (fun hf => ?_)
      · refine r_lload hc 0 (dc_at dX10_neighbour 86 rfl) rfl ?_
        refine r_lload hc 9 (dc_at dX10_neighbour 87 rfl) rfl ?_
        refine r_lload hc 7 (dc_at dX10_neighbour 88 rfl) rfl ?_
        refine r_lload hc 8 (dc_at dX10_neighbour 89 rfl) rfl ?_
        refine ob hf fun x3 ex hf => ?_
        refine r_callSi (As := [.long s0, .long v14, .long v10, .long v12]) hc hr (dc_at dX10_neighbour 90 rfl) ml_X10_243 mv_X10_against st_X10_against rfl (mt_X10_against ex) (by first | exact Nat.le_of_ble_eq_true rfl | omega) (by first | exact Nat.le_of_ble_eq_true rfl | omega) (by first | exact Nat.le_of_ble_eq_true rfl | omega) hm hs ?_
        exact gg_sub [1, 2, 3, 4, 5, 6, 7, 8, 9, 0] rfl (t_X10_neighbour_161 hc hr he hm hs ih38 hf)
      · refine r_iconst (0 : Int32) hc (dc_at dX10_neighbour 84 rfl) (by decide) ?_
        refine r_goto (tgt := 161) hc (dc_at dX10_neighbour 85 rfl) (by decide) ?_
        exact gg_sub [1, 2, 3, 4, 5, 6, 7, 8, 9, 0] rfl (t_X10_neighbour_161 hc hr he hm hs ih38 hf)
    · refine r_goto (tgt := 201) hc (dc_at dX10_neighbour 79 rfl) (by decide) ?_
      exact gg_sub [1, 2, 3, 4, 5, 6, 7, 8, 9] rfl (t_X10_neighbour_201 hc hr he hm hs ih38 hf)
def b_X10_neighbour_68 (F : Nat) (self38 : PH → Nat → Int32 → Int32 → Int32 → Int64 → Int64 → Int64 → Int64 → Int64 → Option (Int32 × PH)) (h : PH) (v0 : Nat) (v3 : Int32) (v4 : Int32) (v5 : Int32) (v6 : Int64) (v8 : Int64) (v10 : Int64) (v12 : Int64) (v14 : Int64) : Option (Int32 × PH) := if (Int32.toInt64 v3) < v14 then (if v10 = (-1 : Int64) then (some ((-1 : Int32), h)) else (if v5 = 0 then (some ((Int64.toInt32 v10), h)) else (some ((Int64.toInt32 v12), h)))) else (if v4 = 0 then (if v8 = 0 then none else (b_X10_neighbour_109 F self38 h v0 v3 v4 v5 v6 v8 v10 v12 v14 (((((((((v6 * v14) + v8)) - (1 : Int64))) / v8)) - (1 : Int64))))) else (if v8 = 0 then none else (b_X10_neighbour_109 F self38 h v0 v3 v4 v5 v6 v8 v10 v12 v14 (((((v6 * v14) / v8)) + (1 : Int64))))))
set_option maxRecDepth 20000 in
theorem tb_X10_neighbour_68 {M : MV} {X : XT} {F : Nat} {self38 : PH → Nat → Int32 → Int32 → Int32 → Int64 → Int64 → Int64 → Int64 → Int64 → Option (Int32 × PH)} {h hz : PH} {r : Int32} {ce sl mc ms : Nat} {v0 : Nat} {v3 : Int32} {v4 : Int32} {v5 : Int32} {v6 : Int64} {v8 : Int64} {v10 : Int64} {v12 : Int64} {v14 : Int64} (hc : Cx M X RX10 cX10_neighbour) (hr : Rx M 134 7774 mc ms 19) (he : Ex M X (some .int) "neighbour" (some (.int r)) hz mc ms) (hm : ce ≤ mc) (hs : sl ≤ ms) (ih38 : ∀ (h : PH) (v0 : Nat) (v3 : Int32) (v4 : Int32) (v5 : Int32) (v6 : Int64) (v8 : Int64) (v10 : Int64) (v12 : Int64) (v14 : Int64), self38 h v0 v3 v4 v5 v6 v8 v10 v12 v14 = some (r, hz) → GG M X h ce sl 68 [(0, .ref (X.1 + v0)), (3, .int v3), (4, .int v4), (5, .int v5), (6, .long v6), (8, .long v8), (10, .long v10), (12, .long v12), (14, .long v14)] []) (hf : b_X10_neighbour_68 F self38 h v0 v3 v4 v5 v6 v8 v10 v12 v14 = some (r, hz)) : GG M X h ce sl 68 [(0, .ref (X.1 + v0)), (3, .int v3), (4, .int v4), (5, .int v5), (6, .long v6), (8, .long v8), (10, .long v10), (12, .long v12), (14, .long v14)] [] := by
  unfold b_X10_neighbour_68 at hf
  refine r_lload hc 8 (dc_at dX10_neighbour 38 rfl) rfl ?_
  refine r_iload_n hc 1 (dc_at dX10_neighbour 39 rfl) rfl ?_
  refine r_i2l hc (dc_at dX10_neighbour 40 rfl) ?_
  refine r_lcmp_gt (tgt := 210) hc (dc_at dX10_neighbour 41 rfl) (dc_at dX10_neighbour 42 rfl) (by decide) hf (fun hf => ?_) (fun hf => ?_)
  · refine r_lload hc 6 (dc_at dX10_neighbour 113 rfl) rfl ?_
    refine r_ldc2 hc (dc_at dX10_neighbour 114 rfl) cl2_X10_334 ?_
    refine r_lcmp_ne (tgt := 223) hc (dc_at dX10_neighbour 115 rfl) (dc_at dX10_neighbour 116 rfl) (by decide) hf (fun hf => ?_) (fun hf => ?_)
    · refine r_iload hc 3 (dc_at dX10_neighbour 119 rfl) rfl ?_
      refine r_if_ne (tgt := 233) hc (dc_at dX10_neighbour 120 rfl) (by decide) hf (fun hf => ?_) (fun hf => ?_)
      · refine r_lload hc 7 (dc_at dX10_neighbour 123 rfl) rfl ?_
        refine r_l2i hc (dc_at dX10_neighbour 124 rfl) ?_
        exact r_iret hc he (hm) (hs) (dc_at dX10_neighbour 125 rfl) hf
      · refine r_lload hc 6 (dc_at dX10_neighbour 121 rfl) rfl ?_
        refine r_goto (tgt := 235) hc (dc_at dX10_neighbour 122 rfl) (by decide) ?_
        refine r_l2i hc (dc_at dX10_neighbour 124 rfl) ?_
        exact r_iret hc he (hm) (hs) (dc_at dX10_neighbour 125 rfl) hf
    · refine r_iconst (-1 : Int32) hc (dc_at dX10_neighbour 117 rfl) (by decide) ?_
      refine r_goto (tgt := 236) hc (dc_at dX10_neighbour 118 rfl) (by decide) ?_
      exact r_iret hc he (hm) (hs) (dc_at dX10_neighbour 125 rfl) hf
  · refine r_iload hc 2 (dc_at dX10_neighbour 43 rfl) rfl ?_
    refine r_if_eq (tgt := 94) hc (dc_at dX10_neighbour 44 rfl) (by decide) hf (fun hf => ?_) (fun hf => ?_)
    · refine r_lload hc 4 (dc_at dX10_neighbour 53 rfl) rfl ?_
      refine r_lload hc 8 (dc_at dX10_neighbour 54 rfl) rfl ?_
      refine r_lmul hc (dc_at dX10_neighbour 55 rfl) ?_
      refine r_lload hc 5 (dc_at dX10_neighbour 56 rfl) rfl ?_
      refine r_ladd hc (dc_at dX10_neighbour 57 rfl) ?_
      refine r_lconst (1 : Int64) hc (dc_at dX10_neighbour 58 rfl) (by decide) ?_
      refine r_lsub hc (dc_at dX10_neighbour 59 rfl) ?_
      refine r_lload hc 5 (dc_at dX10_neighbour 60 rfl) rfl ?_
      refine r_ldiv hc (dc_at dX10_neighbour 61 rfl) hf (fun hf => ?_)
      refine r_lconst (1 : Int64) hc (dc_at dX10_neighbour 62 rfl) (by decide) ?_
      refine r_lsub hc (dc_at dX10_neighbour 63 rfl) ?_
      exact gg_sub [0, 1, 2, 3, 4, 5, 6, 7, 8] rfl (t_X10_neighbour_109 hc hr he hm hs ih38 hf)
    · refine r_lload hc 4 (dc_at dX10_neighbour 45 rfl) rfl ?_
      refine r_lload hc 8 (dc_at dX10_neighbour 46 rfl) rfl ?_
      refine r_lmul hc (dc_at dX10_neighbour 47 rfl) ?_
      refine r_lload hc 5 (dc_at dX10_neighbour 48 rfl) rfl ?_
      refine r_ldiv hc (dc_at dX10_neighbour 49 rfl) hf (fun hf => ?_)
      refine r_lconst (1 : Int64) hc (dc_at dX10_neighbour 50 rfl) (by decide) ?_
      refine r_ladd hc (dc_at dX10_neighbour 51 rfl) ?_
      refine r_goto (tgt := 109) hc (dc_at dX10_neighbour 52 rfl) (by decide) ?_
      exact gg_sub [0, 1, 2, 3, 4, 5, 6, 7, 8] rfl (t_X10_neighbour_109 hc hr he hm hs ih38 hf)
def l_X10_neighbour_68 (F : Nat) : Nat → PH → Nat → Int32 → Int32 → Int32 → Int64 → Int64 → Int64 → Int64 → Int64 → Option (Int32 × PH)
  | 0 => fun _ _ _ _ _ _ _ _ _ _ => none
  | n + 1 => fun h v0 v3 v4 v5 v6 v8 v10 v12 v14 => b_X10_neighbour_68 F (l_X10_neighbour_68 F n) h v0 v3 v4 v5 v6 v8 v10 v12 v14
theorem tl_X10_neighbour_68 {M : MV} {X : XT} {F : Nat} {hz : PH} {r : Int32} {ce sl mc ms : Nat} (hc : Cx M X RX10 cX10_neighbour) (hr : Rx M 134 7774 mc ms 19) (he : Ex M X (some .int) "neighbour" (some (.int r)) hz mc ms) (hm : ce ≤ mc) (hs : sl ≤ ms) (n : Nat) : ∀ (h : PH) (v0 : Nat) (v3 : Int32) (v4 : Int32) (v5 : Int32) (v6 : Int64) (v8 : Int64) (v10 : Int64) (v12 : Int64) (v14 : Int64), l_X10_neighbour_68 F n h v0 v3 v4 v5 v6 v8 v10 v12 v14 = some (r, hz) → GG M X h ce sl 68 [(0, .ref (X.1 + v0)), (3, .int v3), (4, .int v4), (5, .int v5), (6, .long v6), (8, .long v8), (10, .long v10), (12, .long v12), (14, .long v14)] [] := by
  induction n with
  | zero => intro h v0 v3 v4 v5 v6 v8 v10 v12 v14 hf; cases hf
  | succ n ih => intro h v0 v3 v4 v5 v6 v8 v10 v12 v14 hf; exact tb_X10_neighbour_68 (F := F) hc hr he hm hs  ih hf
def b_X10_neighbour_0 (F : Nat) (h : PH) (v0 : Nat) (v1 : Int32) (v2 : Int32) (v3 : Int32) (v4 : Int32) (v5 : Int32) : Option (Int32 × PH) := (pV 10 0 (.int (0 : Int32)) h v0).bind fun h1 => ((m_X10_within (Int32.toInt64 v5) (0 : Int64) (1 : Int64)).bind fun x2 => (if x2 = 0 then (some ((-2 : Int32), h1)) else ((m_X10_within (Int32.toInt64 v3) (1 : Int64) (1000 : Int64)).bind fun x3 => (if x3 = 0 then (some ((-3 : Int32), h1)) else (cO 10 h1 v0 (bind2 (m_X10_asks h1 v0 (Int32.toInt64 v1) (Int32.toInt64 v2)) fun x4 h5 => (if x4 = 0 then (some ((-3 : Int32), h5)) else ((gL 10 15 h5 v0).bind fun x6 => ((gL 10 16 h5 v0).bind fun x7 => (l_X10_neighbour_68 F F h5 v0 v3 v4 v5 x6 x7 (-1 : Int64) (1 : Int64) (1 : Int64)))))))))))
set_option maxRecDepth 20000 in
theorem t_X10_neighbour_0 {M : MV} {X : XT} {F : Nat} {h hz : PH} {r : Int32} {ce sl mc ms : Nat} {v0 : Nat} {v1 : Int32} {v2 : Int32} {v3 : Int32} {v4 : Int32} {v5 : Int32} (hc : Cx M X RX10 cX10_neighbour) (hr : Rx M 134 7774 mc ms 19) (he : Ex M X (some .int) "neighbour" (some (.int r)) hz mc ms) (hm : ce ≤ mc) (hs : sl ≤ ms) (hf : b_X10_neighbour_0 F h v0 v1 v2 v3 v4 v5 = some (r, hz)) : GG M X h ce sl 0 [(0, .ref (X.1 + v0)), (1, .int v1), (2, .int v2), (3, .int v3), (4, .int v4), (5, .int v5)] [] := by
  unfold b_X10_neighbour_0 at hf
  refine r_aload_n hc 0 (dc_at dX10_neighbour 0 rfl) rfl ?_
  refine r_iconst (0 : Int32) hc (dc_at dX10_neighbour 1 rfl) (by decide) ?_
  refine r_putI hc he (dc_at dX10_neighbour 2 rfl) fp_X10_1 (fun q => by cases q) hf fun h1 hf => ?_
  refine r_iload hc 5 (dc_at dX10_neighbour 3 rfl) rfl ?_
  refine r_i2l hc (dc_at dX10_neighbour 4 rfl) ?_
  refine r_lconst (0 : Int64) hc (dc_at dX10_neighbour 5 rfl) (by decide) ?_
  refine r_lconst (1 : Int64) hc (dc_at dX10_neighbour 6 rfl) (by decide) ?_
  refine ob hf fun x2 ex hf => ?_
  refine r_callSi (As := [.long ((Int32.toInt64 v5)), .long ((0 : Int64)), .long ((1 : Int64))]) hc hr (dc_at dX10_neighbour 7 rfl) ml_X10_172 mv_X10_within st_X10_within rfl (mt_X10_within ex) (by first | exact Nat.le_of_ble_eq_true rfl | omega) (by first | exact Nat.le_of_ble_eq_true rfl | omega) (by first | exact Nat.le_of_ble_eq_true rfl | omega) hm hs ?_
  refine r_if_ne (tgt := 19) hc (dc_at dX10_neighbour 8 rfl) (by decide) hf (fun hf => ?_) (fun hf => ?_)
  · refine r_iload_n hc 3 (dc_at dX10_neighbour 11 rfl) rfl ?_
    refine r_i2l hc (dc_at dX10_neighbour 12 rfl) ?_
    refine r_lconst (1 : Int64) hc (dc_at dX10_neighbour 13 rfl) (by decide) ?_
    refine r_ldc2 hc (dc_at dX10_neighbour 14 rfl) cl2_X10_441 ?_
    refine ob hf fun x3 ex hf => ?_
    refine r_callSi (As := [.long ((Int32.toInt64 v3)), .long ((1 : Int64)), .long ((1000 : Int64))]) hc hr (dc_at dX10_neighbour 15 rfl) ml_X10_172 mv_X10_within st_X10_within rfl (mt_X10_within ex) (by first | exact Nat.le_of_ble_eq_true rfl | omega) (by first | exact Nat.le_of_ble_eq_true rfl | omega) (by first | exact Nat.le_of_ble_eq_true rfl | omega) hm hs ?_
    refine r_if_eq (tgt := 42) hc (dc_at dX10_neighbour 16 rfl) (by decide) hf (fun hf => ?_) (fun hf => ?_)
    · refine r_bipush (-3 : Int32) hc (dc_at dX10_neighbour 24 rfl) (by decide) ?_
      exact r_iret hc he (hm) (hs) (dc_at dX10_neighbour 25 rfl) hf
    · refine r_aload_n hc 0 (dc_at dX10_neighbour 17 rfl) rfl ?_
      refine r_iload_n hc 1 (dc_at dX10_neighbour 18 rfl) rfl ?_
      refine r_i2l hc (dc_at dX10_neighbour 19 rfl) ?_
      refine r_iload_n hc 2 (dc_at dX10_neighbour 20 rfl) rfl ?_
      refine r_i2l hc (dc_at dX10_neighbour 21 rfl) ?_
      obtain ⟨ho, hf⟩ := cO_some hf
      refine ob2 hf fun x4 h5 ex hf => ?_
      refine r_callVi (As := [.long ((Int32.toInt64 v1)), .long ((Int32.toInt64 v2))]) (ci := 10) hc hr (dc_at dX10_neighbour 22 rfl) ml_X10_282 mv_X10_asks vi_X10_asks rfl ho rfl (mt_X10_asks ex) (by first | exact Nat.le_of_ble_eq_true rfl | omega) (by first | exact Nat.le_of_ble_eq_true rfl | omega) (by first | exact Nat.le_of_ble_eq_true rfl | omega) hm hs ?_
      refine r_if_ne (tgt := 45) hc (dc_at dX10_neighbour 23 rfl) (by decide) hf (fun hf => ?_) (fun hf => ?_)
      · refine r_aload_n hc 0 (dc_at dX10_neighbour 26 rfl) rfl ?_
        refine r_getL hc (dc_at dX10_neighbour 27 rfl) fl_X10_180 hf fun x6 hf => ?_
        refine r_lstore [(6, .long x6), (0, .ref (X.1 + v0)), (1, .int v1), (2, .int v2), (3, .int v3), (4, .int v4), (5, .int v5)] hc hr (dc_at dX10_neighbour 28 rfl) (by decide) rfl ?_
        refine r_aload_n hc 1 (dc_at dX10_neighbour 29 rfl) rfl ?_
        refine r_getL hc (dc_at dX10_neighbour 30 rfl) fl_X10_184 hf fun x7 hf => ?_
        refine r_lstore [(8, .long x7), (6, .long x6), (0, .ref (X.1 + v0)), (1, .int v1), (2, .int v2), (3, .int v3), (4, .int v4), (5, .int v5)] hc hr (dc_at dX10_neighbour 31 rfl) (by decide) rfl ?_
        refine r_ldc2 hc (dc_at dX10_neighbour 32 rfl) cl2_X10_334 ?_
        refine r_lstore [(10, .long ((-1 : Int64))), (8, .long x7), (6, .long x6), (0, .ref (X.1 + v0)), (1, .int v1), (2, .int v2), (3, .int v3), (4, .int v4), (5, .int v5)] hc hr (dc_at dX10_neighbour 33 rfl) (by decide) rfl ?_
        refine r_lconst (1 : Int64) hc (dc_at dX10_neighbour 34 rfl) (by decide) ?_
        refine r_lstore [(12, .long ((1 : Int64))), (10, .long ((-1 : Int64))), (8, .long x7), (6, .long x6), (0, .ref (X.1 + v0)), (1, .int v1), (2, .int v2), (3, .int v3), (4, .int v4), (5, .int v5)] hc hr (dc_at dX10_neighbour 35 rfl) (by decide) rfl ?_
        refine r_lconst (1 : Int64) hc (dc_at dX10_neighbour 36 rfl) (by decide) ?_
        refine r_lstore [(14, .long ((1 : Int64))), (12, .long ((1 : Int64))), (10, .long ((-1 : Int64))), (8, .long x7), (6, .long x6), (0, .ref (X.1 + v0)), (1, .int v1), (2, .int v2), (3, .int v3), (4, .int v4), (5, .int v5)] hc hr (dc_at dX10_neighbour 37 rfl) (by decide) rfl ?_
        exact gg_sub [5, 8, 9, 10, 4, 3, 2, 1, 0] rfl (tl_X10_neighbour_68 hc hr he hm hs  F _ _ _ _ _ _ _ _ _ _ hf)
      · refine r_bipush (-3 : Int32) hc (dc_at dX10_neighbour 24 rfl) (by decide) ?_
        exact r_iret hc he (hm) (hs) (dc_at dX10_neighbour 25 rfl) hf
  · refine r_bipush (-2 : Int32) hc (dc_at dX10_neighbour 9 rfl) (by decide) ?_
    exact r_iret hc he (hm) (hs) (dc_at dX10_neighbour 10 rfl) hf
def m_X10_neighbour (F : Nat) (h : PH) (p0 : Nat) (p1 : Int32) (p2 : Int32) (p3 : Int32) (p4 : Int32) (p5 : Int32) : Option (Int32 × PH) := b_X10_neighbour_0 F h p0 p1 p2 p3 p4 p5
theorem mt_X10_neighbour {l : Launch} {X : XT} {F : Nat} {h hz : PH} {p0 : Nat} {p1 : Int32} {p2 : Int32} {p3 : Int32} {p4 : Int32} {p5 : Int32} {r : Int32} (ex : m_X10_neighbour F h p0 p1 p2 p3 p4 p5 = some (r, hz)) : MT l X yX10_neighbour cX10_neighbour 19 (some .int) 134 7774 0 0 [.ref (X.1 + p0), .int p1, .int p2, .int p3, .int p4, .int p5] h (some (.int r)) hz := MT.of (by decide) (Nat.le_of_ble_eq_true rfl) fun M hl hc hr he => by
  subst hl
  exact gg_sub [0, 1, 2, 3, 4, 5] rfl (t_X10_neighbour_0  hc hr he (Nat.zero_le _) (Nat.zero_le _) ex)
/-! FractionLiftModel.simplest(IIIII)I -/
def lX10_simplestL : List (Nat × Instr × Nat × Nat) := [(0, .aload_n 0, 1, 1), (1, .iconst 0, 1, 2), (2, .putfield 1, 3, 5), (5, .iload 5, 2, 7), (7, .i2l, 1, 8), (8, .lconst 0, 1, 9), (9, .lconst 1, 1, 10), (10, .invokestatic 172, 3, 13), (13, .ifCond .ne 6, 3, 16), (16, .bipush (-2), 2, 18), (18, .ireturn, 1, 19), (19, .aload_n 0, 1, 20), (20, .iload_n 1, 1, 21), (21, .i2l, 1, 22), (22, .iload_n 2, 1, 23), (23, .i2l, 1, 24), (24, .invokevirtual 282, 3, 27), (27, .ifCond .ne 6, 3, 30), (30, .bipush (-3), 2, 32), (32, .ireturn, 1, 33), (33, .aload_n 0, 1, 34), (34, .getfield 180, 3, 37), (37, .lstore 6, 2, 39), (39, .aload_n 0, 1, 40), (40, .getfield 184, 3, 43), (43, .lstore 8, 2, 45), (45, .aload_n 0, 1, 46), (46, .iload_n 3, 1, 47), (47, .i2l, 1, 48), (48, .iload 4, 2, 50), (50, .i2l, 1, 51), (51, .invokevirtual 282, 3, 54), (54, .ifCond .ne 6, 3, 57), (57, .bipush (-3), 2, 59), (59, .ireturn, 1, 60), (60, .aload_n 0, 1, 61), (61, .getfield 180, 3, 64), (64, .lstore 10, 2, 66), (66, .aload_n 0, 1, 67), (67, .getfield 184, 3, 70), (70, .lstore 12, 2, 72), (72, .lload 6, 2, 74), (74, .lload 8, 2, 76), (76, .lload 10, 2, 78), (78, .lload 12, 2, 80), (80, .invokestatic 243, 3, 83), (83, .istore 14, 2, 85), (85, .iload 14, 2, 87), (87, .ifCond .ne 6, 3, 90), (90, .bipush (-3), 2, 92), (92, .ireturn, 1, 93), (93, .lconst 1, 1, 94), (94, .lstore 15, 2, 96), (96, .iload 14, 2, 98), (98, .ifCond .ge 28, 3, 101), (101, .lload 6, 2, 103), (103, .lload 15, 2, 105), (105, .lmul, 1, 106), (106, .lload 8, 2, 108), (108, .ldiv, 1, 109), (109, .lconst 1, 1, 110), (110, .ladd, 1, 111), (111, .lload 15, 2, 113), (113, .lload 10, 2, 115), (115, .lload 12, 2, 117), (117, .invokestatic 243, 3, 120), (120, .ifCond .lt 37, 3, 123), (123, .goto 25, 3, 126), (126, .lload 10, 2, 128), (128, .lload 15, 2, 130), (130, .lmul, 1, 131), (131, .lload 12, 2, 133), (133, .ldiv, 1, 134), (134, .lconst 1, 1, 135), (135, .ladd, 1, 136), (136, .lload 15, 2, 138), (138, .lload 6, 2, 140), (140, .lload 8, 2, 142), (142, .invokestatic 243, 3, 145), (145, .ifCond .lt 12, 3, 148), (148, .lload 15, 2, 150), (150, .lconst 1, 1, 151), (151, .ladd, 1, 152), (152, .lstore 15, 2, 154), (154, .goto (-58), 3, 157), (157, .iload 5, 2, 159), (159, .iconst 1, 1, 160), (160, .if_icmp .ne 8, 3, 163), (163, .lload 15, 2, 165), (165, .goto 31, 3, 168), (168, .iload 14, 2, 170), (170, .ifCond .ge 16, 3, 173), (173, .lload 6, 2, 175), (175, .lload 15, 2, 177), (177, .lmul, 1, 178), (178, .lload 8, 2, 180), (180, .ldiv, 1, 181), (181, .lconst 1, 1, 182), (182, .ladd, 1, 183), (183, .goto 13, 3, 186), (186, .lload 10, 2, 188), (188, .lload 15, 2, 190), (190, .lmul, 1, 191), (191, .lload 12, 2, 193), (193, .ldiv, 1, 194), (194, .lconst 1, 1, 195), (195, .ladd, 1, 196), (196, .l2i, 1, 197), (197, .ireturn, 1, 198)]
set_option maxRecDepth 20000 in
theorem dX10_simplest : dcL cX10_simplest lX10_simplestL = true := by decide +kernel
def b_X10_simplest_148 (F : Nat) (self53 : PH → Int32 → Int64 → Int64 → Int64 → Int64 → Int32 → Int64 → Option (Int32 × PH)) (h : PH) (v5 : Int32) (v6 : Int64) (v8 : Int64) (v10 : Int64) (v12 : Int64) (v14 : Int32) (v15 : Int64) : Option (Int32 × PH) := bindv ((v15 + (1 : Int64))) fun x1 => (self53 h v5 v6 v8 v10 v12 v14 x1)
set_option maxRecDepth 20000 in
theorem t_X10_simplest_148 {M : MV} {X : XT} {F : Nat} {self53 : PH → Int32 → Int64 → Int64 → Int64 → Int64 → Int32 → Int64 → Option (Int32 × PH)} {h hz : PH} {r : Int32} {ce sl mc ms : Nat} {v5 : Int32} {v6 : Int64} {v8 : Int64} {v10 : Int64} {v12 : Int64} {v14 : Int32} {v15 : Int64} (hc : Cx M X RX10 cX10_simplest) (hr : Rx M 134 7774 mc ms 17) (he : Ex M X (some .int) "simplest" (some (.int r)) hz mc ms) (hm : ce ≤ mc) (hs : sl ≤ ms) (ih53 : ∀ (h : PH) (v5 : Int32) (v6 : Int64) (v8 : Int64) (v10 : Int64) (v12 : Int64) (v14 : Int32) (v15 : Int64), self53 h v5 v6 v8 v10 v12 v14 v15 = some (r, hz) → GG M X h ce sl 96 [(5, .int v5), (6, .long v6), (8, .long v8), (10, .long v10), (12, .long v12), (14, .int v14), (15, .long v15)] []) (hf : b_X10_simplest_148 F self53 h v5 v6 v8 v10 v12 v14 v15 = some (r, hz)) : GG M X h ce sl 148 [(5, .int v5), (6, .long v6), (8, .long v8), (10, .long v10), (12, .long v12), (14, .int v14), (15, .long v15)] [] := by
  unfold b_X10_simplest_148 at hf
  refine r_lload hc 6 (dc_at dX10_simplest 80 rfl) rfl ?_
  refine r_lconst (1 : Int64) hc (dc_at dX10_simplest 81 rfl) (by decide) ?_
  refine r_ladd hc (dc_at dX10_simplest 82 rfl) ?_
  refine r_nm (mk := Value.long) hf fun x1 hf => ?_
  refine r_lstore [(15, .long x1), (5, .int v5), (6, .long v6), (8, .long v8), (10, .long v10), (12, .long v12), (14, .int v14)] hc hr (dc_at dX10_simplest 83 rfl) (by decide) rfl ?_
  refine r_goto (tgt := 96) hc (dc_at dX10_simplest 84 rfl) (by decide) ?_
  exact gg_sub [1, 2, 3, 4, 5, 6, 0] rfl (ih53 _ _ _ _ _ _ _ _ hf)
def b_X10_simplest_157 (F : Nat) (h : PH) (v5 : Int32) (v6 : Int64) (v8 : Int64) (v10 : Int64) (v12 : Int64) (v14 : Int32) (v15 : Int64) : Option (Int32 × PH) := if v5 = (1 : Int32) then (some ((Int64.toInt32 v15), h)) else (if 0 ≤ v14 then (if v12 = 0 then none else (some (((Int64.toInt32 (((((v10 * v15) / v12)) + (1 : Int64))))), h))) else (if v8 = 0 then none else (some (((Int64.toInt32 (((((v6 * v15) / v8)) + (1 : Int64))))), h))))
set_option maxRecDepth 20000 in
theorem t_X10_simplest_157 {M : MV} {X : XT} {F : Nat} {h hz : PH} {r : Int32} {ce sl mc ms : Nat} {v5 : Int32} {v6 : Int64} {v8 : Int64} {v10 : Int64} {v12 : Int64} {v14 : Int32} {v15 : Int64} (hc : Cx M X RX10 cX10_simplest) (hr : Rx M 134 7774 mc ms 17) (he : Ex M X (some .int) "simplest" (some (.int r)) hz mc ms) (hm : ce ≤ mc) (hs : sl ≤ ms) (hf : b_X10_simplest_157 F h v5 v6 v8 v10 v12 v14 v15 = some (r, hz)) : GG M X h ce sl 157 [(5, .int v5), (6, .long v6), (8, .long v8), (10, .long v10), (12, .long v12), (14, .int v14), (15, .long v15)] [] := by
  unfold b_X10_simplest_157 at hf
  refine r_iload hc 0 (dc_at dX10_simplest 85 rfl) rfl ?_
  refine r_iconst (1 : Int32) hc (dc_at dX10_simplest 86 rfl) (by decide) ?_
  refine r_icmp_ne (tgt := 168) hc (dc_at dX10_simplest 87 rfl) (by decide) hf (fun hf => ?_) (fun hf => ?_)
  · refine r_iload hc 5 (dc_at dX10_simplest 90 rfl) rfl ?_
    refine r_if_ge (tgt := 186) hc (dc_at dX10_simplest 91 rfl) (by decide) hf (fun hf => ?_) (fun hf => ?_)
    · refine r_lload hc 3 (dc_at dX10_simplest 100 rfl) rfl ?_
      refine r_lload hc 6 (dc_at dX10_simplest 101 rfl) rfl ?_
      refine r_lmul hc (dc_at dX10_simplest 102 rfl) ?_
      refine r_lload hc 4 (dc_at dX10_simplest 103 rfl) rfl ?_
      refine r_ldiv hc (dc_at dX10_simplest 104 rfl) hf (fun hf => ?_)
      refine r_lconst (1 : Int64) hc (dc_at dX10_simplest 105 rfl) (by decide) ?_
      refine r_ladd hc (dc_at dX10_simplest 106 rfl) ?_
      refine r_l2i hc (dc_at dX10_simplest 107 rfl) ?_
      exact r_iret hc he (hm) (hs) (dc_at dX10_simplest 108 rfl) hf
    · refine r_lload hc 1 (dc_at dX10_simplest 92 rfl) rfl ?_
      refine r_lload hc 6 (dc_at dX10_simplest 93 rfl) rfl ?_
      refine r_lmul hc (dc_at dX10_simplest 94 rfl) ?_
      refine r_lload hc 2 (dc_at dX10_simplest 95 rfl) rfl ?_
      refine r_ldiv hc (dc_at dX10_simplest 96 rfl) hf (fun hf => ?_)
      refine r_lconst (1 : Int64) hc (dc_at dX10_simplest 97 rfl) (by decide) ?_
      refine r_ladd hc (dc_at dX10_simplest 98 rfl) ?_
      refine r_goto (tgt := 196) hc (dc_at dX10_simplest 99 rfl) (by decide) ?_
      refine r_l2i hc (dc_at dX10_simplest 107 rfl) ?_
      exact r_iret hc he (hm) (hs) (dc_at dX10_simplest 108 rfl) hf
  · refine r_lload hc 6 (dc_at dX10_simplest 88 rfl) rfl ?_
    refine r_goto (tgt := 196) hc (dc_at dX10_simplest 89 rfl) (by decide) ?_
    refine r_l2i hc (dc_at dX10_simplest 107 rfl) ?_
    exact r_iret hc he (hm) (hs) (dc_at dX10_simplest 108 rfl) hf
def b_X10_simplest_96 (F : Nat) (self53 : PH → Int32 → Int64 → Int64 → Int64 → Int64 → Int32 → Int64 → Option (Int32 × PH)) (h : PH) (v5 : Int32) (v6 : Int64) (v8 : Int64) (v10 : Int64) (v12 : Int64) (v14 : Int32) (v15 : Int64) : Option (Int32 × PH) := if 0 ≤ v14 then (if v12 = 0 then none else ((m_X10_against (((((v10 * v15) / v12)) + (1 : Int64))) v15 v6 v8).bind fun x1 => (if x1 < 0 then (b_X10_simplest_157 F h v5 v6 v8 v10 v12 v14 v15) else (b_X10_simplest_148 F self53 h v5 v6 v8 v10 v12 v14 v15)))) else (if v8 = 0 then none else ((m_X10_against (((((v6 * v15) / v8)) + (1 : Int64))) v15 v10 v12).bind fun x2 => (if x2 < 0 then (b_X10_simplest_157 F h v5 v6 v8 v10 v12 v14 v15) else (b_X10_simplest_148 F self53 h v5 v6 v8 v10 v12 v14 v15))))
set_option maxRecDepth 20000 in
theorem tb_X10_simplest_96 {M : MV} {X : XT} {F : Nat} {self53 : PH → Int32 → Int64 → Int64 → Int64 → Int64 → Int32 → Int64 → Option (Int32 × PH)} {h hz : PH} {r : Int32} {ce sl mc ms : Nat} {v5 : Int32} {v6 : Int64} {v8 : Int64} {v10 : Int64} {v12 : Int64} {v14 : Int32} {v15 : Int64} (hc : Cx M X RX10 cX10_simplest) (hr : Rx M 134 7774 mc ms 17) (he : Ex M X (some .int) "simplest" (some (.int r)) hz mc ms) (hm : ce ≤ mc) (hs : sl ≤ ms) (ih53 : ∀ (h : PH) (v5 : Int32) (v6 : Int64) (v8 : Int64) (v10 : Int64) (v12 : Int64) (v14 : Int32) (v15 : Int64), self53 h v5 v6 v8 v10 v12 v14 v15 = some (r, hz) → GG M X h ce sl 96 [(5, .int v5), (6, .long v6), (8, .long v8), (10, .long v10), (12, .long v12), (14, .int v14), (15, .long v15)] []) (hf : b_X10_simplest_96 F self53 h v5 v6 v8 v10 v12 v14 v15 = some (r, hz)) : GG M X h ce sl 96 [(5, .int v5), (6, .long v6), (8, .long v8), (10, .long v10), (12, .long v12), (14, .int v14), (15, .long v15)] [] := by
  unfold b_X10_simplest_96 at hf
  refine r_iload hc 5 (dc_at dX10_simplest 53 rfl) rfl ?_
  refine r_if_ge (tgt := 126) hc (dc_at dX10_simplest 54 rfl) (by decide) hf (fun hf => ?_) (fun hf => ?_)
  · refine r_lload hc 3 (dc_at dX10_simplest 68 rfl) rfl ?_
    refine r_lload hc 6 (dc_at dX10_simplest 69 rfl) rfl ?_
    refine r_lmul hc (dc_at dX10_simplest 70 rfl) ?_
    refine r_lload hc 4 (dc_at dX10_simplest 71 rfl) rfl ?_
    refine r_ldiv hc (dc_at dX10_simplest 72 rfl) hf (fun hf => ?_)
    refine r_lconst (1 : Int64) hc (dc_at dX10_simplest 73 rfl) (by decide) ?_
    refine r_ladd hc (dc_at dX10_simplest 74 rfl) ?_
    refine r_lload hc 6 (dc_at dX10_simplest 75 rfl) rfl ?_
    refine r_lload hc 1 (dc_at dX10_simplest 76 rfl) rfl ?_
    refine r_lload hc 2 (dc_at dX10_simplest 77 rfl) rfl ?_
    refine ob hf fun x1 ex hf => ?_
    refine r_callSi (As := [.long (((((v10 * v15) / v12)) + (1 : Int64))), .long v15, .long v6, .long v8]) hc hr (dc_at dX10_simplest 78 rfl) ml_X10_243 mv_X10_against st_X10_against rfl (mt_X10_against ex) (by first | exact Nat.le_of_ble_eq_true rfl | omega) (by first | exact Nat.le_of_ble_eq_true rfl | omega) (by first | exact Nat.le_of_ble_eq_true rfl | omega) hm hs ?_
    refine r_if_lt (tgt := 157) hc (dc_at dX10_simplest 79 rfl) (by decide) hf (fun hf => ?_) (fun hf => ?_)
    · exact gg_sub [0, 1, 2, 3, 4, 5, 6] rfl (t_X10_simplest_157 hc hr he hm hs  hf)
    · exact gg_sub [0, 1, 2, 3, 4, 5, 6] rfl (t_X10_simplest_148 hc hr he hm hs ih53 hf)
  · refine r_lload hc 1 (dc_at dX10_simplest 55 rfl) rfl ?_
    refine r_lload hc 6 (dc_at dX10_simplest 56 rfl) rfl ?_
    refine r_lmul hc (dc_at dX10_simplest 57 rfl) ?_
    refine r_lload hc 2 (dc_at dX10_simplest 58 rfl) rfl ?_
    refine r_ldiv hc (dc_at dX10_simplest 59 rfl) hf (fun hf => ?_)
    refine r_lconst (1 : Int64) hc (dc_at dX10_simplest 60 rfl) (by decide) ?_
    refine r_ladd hc (dc_at dX10_simplest 61 rfl) ?_
    refine r_lload hc 6 (dc_at dX10_simplest 62 rfl) rfl ?_
    refine r_lload hc 3 (dc_at dX10_simplest 63 rfl) rfl ?_
    refine r_lload hc 4 (dc_at dX10_simplest 64 rfl) rfl ?_
    refine ob hf fun x2 ex hf => ?_
    refine r_callSi (As := [.long (((((v6 * v15) / v8)) + (1 : Int64))), .long v15, .long v10, .long v12]) hc hr (dc_at dX10_simplest 65 rfl) ml_X10_243 mv_X10_against st_X10_against rfl (mt_X10_against ex) (by first | exact Nat.le_of_ble_eq_true rfl | omega) (by first | exact Nat.le_of_ble_eq_true rfl | omega) (by first | exact Nat.le_of_ble_eq_true rfl | omega) hm hs ?_
    refine r_if_lt (tgt := 157) hc (dc_at dX10_simplest 66 rfl) (by decide) hf (fun hf => ?_) (fun hf => ?_)
    · exact gg_sub [0, 1, 2, 3, 4, 5, 6] rfl (t_X10_simplest_157 hc hr he hm hs  hf)
    · refine r_goto (tgt := 148) hc (dc_at dX10_simplest 67 rfl) (by decide) ?_
      exact gg_sub [0, 1, 2, 3, 4, 5, 6] rfl (t_X10_simplest_148 hc hr he hm hs ih53 hf)
def l_X10_simplest_96 (F : Nat) : Nat → PH → Int32 → Int64 → Int64 → Int64 → Int64 → Int32 → Int64 → Option (Int32 × PH)
  | 0 => fun _ _ _ _ _ _ _ _ => none
  | n + 1 => fun h v5 v6 v8 v10 v12 v14 v15 => b_X10_simplest_96 F (l_X10_simplest_96 F n) h v5 v6 v8 v10 v12 v14 v15
theorem tl_X10_simplest_96 {M : MV} {X : XT} {F : Nat} {hz : PH} {r : Int32} {ce sl mc ms : Nat} (hc : Cx M X RX10 cX10_simplest) (hr : Rx M 134 7774 mc ms 17) (he : Ex M X (some .int) "simplest" (some (.int r)) hz mc ms) (hm : ce ≤ mc) (hs : sl ≤ ms) (n : Nat) : ∀ (h : PH) (v5 : Int32) (v6 : Int64) (v8 : Int64) (v10 : Int64) (v12 : Int64) (v14 : Int32) (v15 : Int64), l_X10_simplest_96 F n h v5 v6 v8 v10 v12 v14 v15 = some (r, hz) → GG M X h ce sl 96 [(5, .int v5), (6, .long v6), (8, .long v8), (10, .long v10), (12, .long v12), (14, .int v14), (15, .long v15)] [] := by
  induction n with
  | zero => intro h v5 v6 v8 v10 v12 v14 v15 hf; cases hf
  | succ n ih => intro h v5 v6 v8 v10 v12 v14 v15 hf; exact tb_X10_simplest_96 (F := F) hc hr he hm hs  ih hf
def b_X10_simplest_0 (F : Nat) (h : PH) (v0 : Nat) (v1 : Int32) (v2 : Int32) (v3 : Int32) (v4 : Int32) (v5 : Int32) : Option (Int32 × PH) := (pV 10 0 (.int (0 : Int32)) h v0).bind fun h1 => ((m_X10_within (Int32.toInt64 v5) (0 : Int64) (1 : Int64)).bind fun x2 => (if x2 = 0 then (some ((-2 : Int32), h1)) else (cO 10 h1 v0 (bind2 (m_X10_asks h1 v0 (Int32.toInt64 v1) (Int32.toInt64 v2)) fun x3 h4 => (if x3 = 0 then (some ((-3 : Int32), h4)) else ((gL 10 15 h4 v0).bind fun x5 => ((gL 10 16 h4 v0).bind fun x6 => (cO 10 h4 v0 (bind2 (m_X10_asks h4 v0 (Int32.toInt64 v3) (Int32.toInt64 v4)) fun x7 h8 => (if x7 = 0 then (some ((-3 : Int32), h8)) else ((gL 10 15 h8 v0).bind fun x9 => ((gL 10 16 h8 v0).bind fun x10 => ((m_X10_against x5 x6 x9 x10).bind fun x11 => (if x11 = 0 then (some ((-3 : Int32), h8)) else (l_X10_simplest_96 F F h8 v5 x5 x6 x9 x10 x11 (1 : Int64))))))))))))))))
set_option maxRecDepth 20000 in
theorem t_X10_simplest_0 {M : MV} {X : XT} {F : Nat} {h hz : PH} {r : Int32} {ce sl mc ms : Nat} {v0 : Nat} {v1 : Int32} {v2 : Int32} {v3 : Int32} {v4 : Int32} {v5 : Int32} (hc : Cx M X RX10 cX10_simplest) (hr : Rx M 134 7774 mc ms 17) (he : Ex M X (some .int) "simplest" (some (.int r)) hz mc ms) (hm : ce ≤ mc) (hs : sl ≤ ms) (hf : b_X10_simplest_0 F h v0 v1 v2 v3 v4 v5 = some (r, hz)) : GG M X h ce sl 0 [(0, .ref (X.1 + v0)), (1, .int v1), (2, .int v2), (3, .int v3), (4, .int v4), (5, .int v5)] [] := by
  unfold b_X10_simplest_0 at hf
  refine r_aload_n hc 0 (dc_at dX10_simplest 0 rfl) rfl ?_
  refine r_iconst (0 : Int32) hc (dc_at dX10_simplest 1 rfl) (by decide) ?_
  refine r_putI hc he (dc_at dX10_simplest 2 rfl) fp_X10_1 (fun q => by cases q) hf fun h1 hf => ?_
  refine r_iload hc 5 (dc_at dX10_simplest 3 rfl) rfl ?_
  refine r_i2l hc (dc_at dX10_simplest 4 rfl) ?_
  refine r_lconst (0 : Int64) hc (dc_at dX10_simplest 5 rfl) (by decide) ?_
  refine r_lconst (1 : Int64) hc (dc_at dX10_simplest 6 rfl) (by decide) ?_
  refine ob hf fun x2 ex hf => ?_
  refine r_callSi (As := [.long ((Int32.toInt64 v5)), .long ((0 : Int64)), .long ((1 : Int64))]) hc hr (dc_at dX10_simplest 7 rfl) ml_X10_172 mv_X10_within st_X10_within rfl (mt_X10_within ex) (by first | exact Nat.le_of_ble_eq_true rfl | omega) (by first | exact Nat.le_of_ble_eq_true rfl | omega) (by first | exact Nat.le_of_ble_eq_true rfl | omega) hm hs ?_
  refine r_if_ne (tgt := 19) hc (dc_at dX10_simplest 8 rfl) (by decide) hf (fun hf => ?_) (fun hf => ?_)
  · refine r_aload_n hc 0 (dc_at dX10_simplest 11 rfl) rfl ?_
    refine r_iload_n hc 1 (dc_at dX10_simplest 12 rfl) rfl ?_
    refine r_i2l hc (dc_at dX10_simplest 13 rfl) ?_
    refine r_iload_n hc 2 (dc_at dX10_simplest 14 rfl) rfl ?_
    refine r_i2l hc (dc_at dX10_simplest 15 rfl) ?_
    obtain ⟨ho, hf⟩ := cO_some hf
    refine ob2 hf fun x3 h4 ex hf => ?_
    refine r_callVi (As := [.long ((Int32.toInt64 v1)), .long ((Int32.toInt64 v2))]) (ci := 10) hc hr (dc_at dX10_simplest 16 rfl) ml_X10_282 mv_X10_asks vi_X10_asks rfl ho rfl (mt_X10_asks ex) (by first | exact Nat.le_of_ble_eq_true rfl | omega) (by first | exact Nat.le_of_ble_eq_true rfl | omega) (by first | exact Nat.le_of_ble_eq_true rfl | omega) hm hs ?_
    refine r_if_ne (tgt := 33) hc (dc_at dX10_simplest 17 rfl) (by decide) hf (fun hf => ?_) (fun hf => ?_)
    · refine r_aload_n hc 0 (dc_at dX10_simplest 20 rfl) rfl ?_
      refine r_getL hc (dc_at dX10_simplest 21 rfl) fl_X10_180 hf fun x5 hf => ?_
      refine r_lstore [(6, .long x5), (0, .ref (X.1 + v0)), (1, .int v1), (2, .int v2), (3, .int v3), (4, .int v4), (5, .int v5)] hc hr (dc_at dX10_simplest 22 rfl) (by decide) rfl ?_
      refine r_aload_n hc 1 (dc_at dX10_simplest 23 rfl) rfl ?_
      refine r_getL hc (dc_at dX10_simplest 24 rfl) fl_X10_184 hf fun x6 hf => ?_
      refine r_lstore [(8, .long x6), (6, .long x5), (0, .ref (X.1 + v0)), (1, .int v1), (2, .int v2), (3, .int v3), (4, .int v4), (5, .int v5)] hc hr (dc_at dX10_simplest 25 rfl) (by decide) rfl ?_
      refine r_aload_n hc 2 (dc_at dX10_simplest 26 rfl) rfl ?_
      refine r_iload_n hc 5 (dc_at dX10_simplest 27 rfl) rfl ?_
      refine r_i2l hc (dc_at dX10_simplest 28 rfl) ?_
      refine r_iload hc 6 (dc_at dX10_simplest 29 rfl) rfl ?_
      refine r_i2l hc (dc_at dX10_simplest 30 rfl) ?_
      obtain ⟨ho, hf⟩ := cO_some hf
      refine ob2 hf fun x7 h8 ex hf => ?_
      refine r_callVi (As := [.long ((Int32.toInt64 v3)), .long ((Int32.toInt64 v4))]) (ci := 10) hc hr (dc_at dX10_simplest 31 rfl) ml_X10_282 mv_X10_asks vi_X10_asks rfl ho rfl (mt_X10_asks ex) (by first | exact Nat.le_of_ble_eq_true rfl | omega) (by first | exact Nat.le_of_ble_eq_true rfl | omega) (by first | exact Nat.le_of_ble_eq_true rfl | omega) hm hs ?_
      refine r_if_ne (tgt := 60) hc (dc_at dX10_simplest 32 rfl) (by decide) hf (fun hf => ?_) (fun hf => ?_)
      · refine r_aload_n hc 2 (dc_at dX10_simplest 35 rfl) rfl ?_
        refine r_getL hc (dc_at dX10_simplest 36 rfl) fl_X10_180 hf fun x9 hf => ?_
        refine r_lstore [(10, .long x9), (8, .long x6), (6, .long x5), (0, .ref (X.1 + v0)), (1, .int v1), (2, .int v2), (3, .int v3), (4, .int v4), (5, .int v5)] hc hr (dc_at dX10_simplest 37 rfl) (by decide) rfl ?_
        refine r_aload_n hc 3 (dc_at dX10_simplest 38 rfl) rfl ?_
        refine r_getL hc (dc_at dX10_simplest 39 rfl) fl_X10_184 hf fun x10 hf => ?_
        refine r_lstore [(12, .long x10), (10, .long x9), (8, .long x6), (6, .long x5), (0, .ref (X.1 + v0)), (1, .int v1), (2, .int v2), (3, .int v3), (4, .int v4), (5, .int v5)] hc hr (dc_at dX10_simplest 40 rfl) (by decide) rfl ?_
        refine r_lload hc 3 (dc_at dX10_simplest 41 rfl) rfl ?_
        refine r_lload hc 2 (dc_at dX10_simplest 42 rfl) rfl ?_
        refine r_lload hc 1 (dc_at dX10_simplest 43 rfl) rfl ?_
        refine r_lload hc 0 (dc_at dX10_simplest 44 rfl) rfl ?_
        refine ob hf fun x11 ex hf => ?_
        refine r_callSi (As := [.long x5, .long x6, .long x9, .long x10]) hc hr (dc_at dX10_simplest 45 rfl) ml_X10_243 mv_X10_against st_X10_against rfl (mt_X10_against ex) (by first | exact Nat.le_of_ble_eq_true rfl | omega) (by first | exact Nat.le_of_ble_eq_true rfl | omega) (by first | exact Nat.le_of_ble_eq_true rfl | omega) hm hs ?_
        refine r_istore [(14, .int x11), (12, .long x10), (10, .long x9), (8, .long x6), (6, .long x5), (0, .ref (X.1 + v0)), (1, .int v1), (2, .int v2), (3, .int v3), (4, .int v4), (5, .int v5)] hc hr (dc_at dX10_simplest 46 rfl) (by decide) rfl ?_
        refine r_iload hc 0 (dc_at dX10_simplest 47 rfl) rfl ?_
        refine r_if_ne (tgt := 93) hc (dc_at dX10_simplest 48 rfl) (by decide) hf (fun hf => ?_) (fun hf => ?_)
        · refine r_lconst (1 : Int64) hc (dc_at dX10_simplest 51 rfl) (by decide) ?_
          refine r_lstore [(15, .long ((1 : Int64))), (14, .int x11), (12, .long x10), (10, .long x9), (8, .long x6), (6, .long x5), (0, .ref (X.1 + v0)), (1, .int v1), (2, .int v2), (3, .int v3), (4, .int v4), (5, .int v5)] hc hr (dc_at dX10_simplest 52 rfl) (by decide) rfl ?_
          exact gg_sub [11, 5, 4, 3, 2, 1, 0] rfl (tl_X10_simplest_96 hc hr he hm hs  F _ _ _ _ _ _ _ _ hf)
        · refine r_bipush (-3 : Int32) hc (dc_at dX10_simplest 49 rfl) (by decide) ?_
          exact r_iret hc he (hm) (hs) (dc_at dX10_simplest 50 rfl) hf
      · refine r_bipush (-3 : Int32) hc (dc_at dX10_simplest 33 rfl) (by decide) ?_
        exact r_iret hc he (hm) (hs) (dc_at dX10_simplest 34 rfl) hf
    · refine r_bipush (-3 : Int32) hc (dc_at dX10_simplest 18 rfl) (by decide) ?_
      exact r_iret hc he (hm) (hs) (dc_at dX10_simplest 19 rfl) hf
  · refine r_bipush (-2 : Int32) hc (dc_at dX10_simplest 9 rfl) (by decide) ?_
    exact r_iret hc he (hm) (hs) (dc_at dX10_simplest 10 rfl) hf
def m_X10_simplest (F : Nat) (h : PH) (p0 : Nat) (p1 : Int32) (p2 : Int32) (p3 : Int32) (p4 : Int32) (p5 : Int32) : Option (Int32 × PH) := b_X10_simplest_0 F h p0 p1 p2 p3 p4 p5
theorem mt_X10_simplest {l : Launch} {X : XT} {F : Nat} {h hz : PH} {p0 : Nat} {p1 : Int32} {p2 : Int32} {p3 : Int32} {p4 : Int32} {p5 : Int32} {r : Int32} (ex : m_X10_simplest F h p0 p1 p2 p3 p4 p5 = some (r, hz)) : MT l X yX10_simplest cX10_simplest 17 (some .int) 134 7774 0 0 [.ref (X.1 + p0), .int p1, .int p2, .int p3, .int p4, .int p5] h (some (.int r)) hz := MT.of (by decide) (Nat.le_of_ble_eq_true rfl) fun M hl hc hr he => by
  subst hl
  exact gg_sub [0, 1, 2, 3, 4, 5] rfl (t_X10_simplest_0  hc hr he (Nat.zero_le _) (Nat.zero_le _) ex)
/-! FractionLiftModel.below(JJI)I -/
def lX10_belowL : List (Nat × Instr × Nat × Nat) := [(0, .iconst 0, 1, 1), (1, .istore 6, 2, 3), (3, .iconst 1, 1, 4), (4, .istore 7, 2, 6), (6, .iload 7, 2, 8), (8, .iload 5, 2, 10), (10, .if_icmp .gt 57, 3, 13), (13, .lconst 0, 1, 14), (14, .lstore 8, 2, 16), (16, .lload 8, 2, 18), (18, .lload_n 3, 1, 19), (19, .lmul, 1, 20), (20, .lload_n 1, 1, 21), (21, .iload 7, 2, 23), (23, .i2l, 1, 24), (24, .lmul, 1, 25), (25, .lcmp, 1, 26), (26, .ifCond .ge 35, 3, 29), (29, .iload 6, 2, 31), (31, .lload 8, 2, 33), (33, .iload 7, 2, 35), (35, .i2l, 1, 36), (36, .invokestatic 176, 3, 39), (39, .lconst 1, 1, 40), (40, .lcmp, 1, 41), (41, .ifCond .ne 7, 3, 44), (44, .iconst 1, 1, 45), (45, .goto 4, 3, 48), (48, .iconst 0, 1, 49), (49, .iadd, 1, 50), (50, .istore 6, 2, 52), (52, .lload 8, 2, 54), (54, .lconst 1, 1, 55), (55, .ladd, 1, 56), (56, .lstore 8, 2, 58), (58, .goto (-42), 3, 61), (61, .iinc 7 1, 3, 64), (64, .goto (-58), 3, 67), (67, .iload 6, 2, 69), (69, .ireturn, 1, 70)]
set_option maxRecDepth 20000 in
theorem dX10_below : dcL cX10_below lX10_belowL = true := by decide +kernel
def b_X10_below_49 (F : Nat) (self4 : Int64 → Int64 → Int32 → Int32 → Int32 → Option Int32) (self9 : Int64 → Int64 → Int32 → Int32 → Int32 → Int64 → Option Int32) (v1 : Int64) (v3 : Int64) (v5 : Int32) (v7 : Int32) (v8 : Int64) (s0 : Int32) (s1 : Int32) : Option Int32 := bindv (s0 + s1) fun x1 => (bindv ((v8 + (1 : Int64))) fun x2 => (self9 v1 v3 v5 x1 v7 x2))
set_option maxRecDepth 20000 in
theorem t_X10_below_49 {M : MV} {X : XT} {F : Nat} {self4 : Int64 → Int64 → Int32 → Int32 → Int32 → Option Int32} {self9 : Int64 → Int64 → Int32 → Int32 → Int32 → Int64 → Option Int32} {h : PH} {r : Int32} {ce sl mc ms : Nat} {v1 : Int64} {v3 : Int64} {v5 : Int32} {v7 : Int32} {v8 : Int64} {s0 : Int32} {s1 : Int32} (hc : Cx M X RX10 cX10_below) (hr : Rx M 132 7658 mc ms 10) (he : Ex M X (some .int) "below" (some (.int r)) h mc ms) (hm : ce ≤ mc) (hs : sl ≤ ms) (ih4 : ∀ (v1 : Int64) (v3 : Int64) (v5 : Int32) (v6 : Int32) (v7 : Int32), self4 v1 v3 v5 v6 v7 = some r → GG M X h ce sl 6 [(1, .long v1), (3, .long v3), (5, .int v5), (6, .int v6), (7, .int v7)] []) (ih9 : ∀ (v1 : Int64) (v3 : Int64) (v5 : Int32) (v6 : Int32) (v7 : Int32) (v8 : Int64), self9 v1 v3 v5 v6 v7 v8 = some r → GG M X h ce sl 16 [(1, .long v1), (3, .long v3), (5, .int v5), (6, .int v6), (7, .int v7), (8, .long v8)] []) (hf : b_X10_below_49 F self4 self9 v1 v3 v5 v7 v8 s0 s1 = some r) : GG M X h ce sl 49 [(1, .long v1), (3, .long v3), (5, .int v5), (7, .int v7), (8, .long v8)] [.int s1, .int s0] := by
  unfold b_X10_below_49 at hf
  refine r_iadd hc (dc_at dX10_below 29 rfl) ?_
  refine r_nm (mk := Value.int) hf fun x1 hf => ?_
  refine r_istore [(6, .int x1), (1, .long v1), (3, .long v3), (5, .int v5), (7, .int v7), (8, .long v8)] hc hr (dc_at dX10_below 30 rfl) (by decide) rfl ?_
  refine r_lload hc 5 (dc_at dX10_below 31 rfl) rfl ?_
  refine r_lconst (1 : Int64) hc (dc_at dX10_below 32 rfl) (by decide) ?_
  refine r_ladd hc (dc_at dX10_below 33 rfl) ?_
  refine r_nm (mk := Value.long) hf fun x2 hf => ?_
  refine r_lstore [(8, .long x2), (6, .int x1), (1, .long v1), (3, .long v3), (5, .int v5), (7, .int v7)] hc hr (dc_at dX10_below 34 rfl) (by decide) rfl ?_
  refine r_goto (tgt := 16) hc (dc_at dX10_below 35 rfl) (by decide) ?_
  exact gg_sub [2, 3, 4, 1, 5, 0] rfl (ih9 _ _ _ _ _ _ hf)
def b_X10_below_16 (F : Nat) (self4 : Int64 → Int64 → Int32 → Int32 → Int32 → Option Int32) (self9 : Int64 → Int64 → Int32 → Int32 → Int32 → Int64 → Option Int32) (v1 : Int64) (v3 : Int64) (v5 : Int32) (v6 : Int32) (v7 : Int32) (v8 : Int64) : Option Int32 := if ((v1 * (Int32.toInt64 v7))) ≤ (v8 * v3) then (bindv (v7 + (1)) fun x1 => (self4 v1 v3 v5 v6 x1)) else ((m_X10_common 130 v8 (Int32.toInt64 v7)).bind fun x2 => (if x2 = (1 : Int64) then (b_X10_below_49 F self4 self9 v1 v3 v5 v7 v8 v6 (1 : Int32)) else (b_X10_below_49 F self4 self9 v1 v3 v5 v7 v8 v6 (0 : Int32))))
set_option maxRecDepth 20000 in
theorem tb_X10_below_16 {M : MV} {X : XT} {F : Nat} {self4 : Int64 → Int64 → Int32 → Int32 → Int32 → Option Int32} {self9 : Int64 → Int64 → Int32 → Int32 → Int32 → Int64 → Option Int32} {h : PH} {r : Int32} {ce sl mc ms : Nat} {v1 : Int64} {v3 : Int64} {v5 : Int32} {v6 : Int32} {v7 : Int32} {v8 : Int64} (hc : Cx M X RX10 cX10_below) (hr : Rx M 132 7658 mc ms 10) (he : Ex M X (some .int) "below" (some (.int r)) h mc ms) (hm : ce ≤ mc) (hs : sl ≤ ms) (ih4 : ∀ (v1 : Int64) (v3 : Int64) (v5 : Int32) (v6 : Int32) (v7 : Int32), self4 v1 v3 v5 v6 v7 = some r → GG M X h ce sl 6 [(1, .long v1), (3, .long v3), (5, .int v5), (6, .int v6), (7, .int v7)] []) (ih9 : ∀ (v1 : Int64) (v3 : Int64) (v5 : Int32) (v6 : Int32) (v7 : Int32) (v8 : Int64), self9 v1 v3 v5 v6 v7 v8 = some r → GG M X h ce sl 16 [(1, .long v1), (3, .long v3), (5, .int v5), (6, .int v6), (7, .int v7), (8, .long v8)] []) (hf : b_X10_below_16 F self4 self9 v1 v3 v5 v6 v7 v8 = some r) : GG M X h ce sl 16 [(1, .long v1), (3, .long v3), (5, .int v5), (6, .int v6), (7, .int v7), (8, .long v8)] [] := by
  unfold b_X10_below_16 at hf
  refine r_lload hc 5 (dc_at dX10_below 9 rfl) rfl ?_
  refine r_lload_n hc 1 (dc_at dX10_below 10 rfl) rfl ?_
  refine r_lmul hc (dc_at dX10_below 11 rfl) ?_
  refine r_lload_n hc 0 (dc_at dX10_below 12 rfl) rfl ?_
  refine r_iload hc 4 (dc_at dX10_below 13 rfl) rfl ?_
  refine r_i2l hc (dc_at dX10_below 14 rfl) ?_
  refine r_lmul hc (dc_at dX10_below 15 rfl) ?_
  refine r_lcmp_ge (tgt := 61) hc (dc_at dX10_below 16 rfl) (dc_at dX10_below 17 rfl) (by decide) hf (fun hf => ?_) (fun hf => ?_)
  · refine obv hf fun x1 e_x1 hf => ?_
    refine r_iinc 4 [(7, .int x1), (1, .long v1), (3, .long v3), (5, .int v5), (6, .int v6), (8, .long v8)] hc hr (dc_at dX10_below 36 rfl) rfl (by rw [e_x1]; rfl) (by decide) rfl ?_
    refine r_goto (tgt := 6) hc (dc_at dX10_below 37 rfl) (by decide) ?_
    exact gg_sub [1, 2, 3, 4, 0] rfl (ih4 _ _ _ _ _ hf)
  · refine r_iload hc 3 (dc_at dX10_below 18 rfl) rfl ?_
    refine r_lload hc 5 (dc_at dX10_below 19 rfl) rfl ?_
    refine r_iload hc 4 (dc_at dX10_below 20 rfl) rfl ?_
    refine r_i2l hc (dc_at dX10_below 21 rfl) ?_
    refine ob hf fun x2 ex hf => ?_
    refine r_callSl (As := [.long v8, .long ((Int32.toInt64 v7))]) hc hr (dc_at dX10_below 22 rfl) ml_X10_176 mv_X10_common st_X10_common rfl (mt_X10_common ex) (by first | exact Nat.le_of_ble_eq_true rfl | omega) (by first | exact Nat.le_of_ble_eq_true rfl | omega) (by first | exact Nat.le_of_ble_eq_true rfl | omega) hm hs ?_
    refine r_lconst (1 : Int64) hc (dc_at dX10_below 23 rfl) (by decide) ?_
    refine r_lcmp_ne (tgt := 48) hc (dc_at dX10_below 24 rfl) (dc_at dX10_below 25 rfl) (by decide) hf (fun hf => ?_) (fun hf => ?_)
    · refine r_iconst (0 : Int32) hc (dc_at dX10_below 28 rfl) (by decide) ?_
      exact gg_sub [0, 1, 2, 4, 5] rfl (t_X10_below_49 hc hr he hm hs ih4 ih9 hf)
    · refine r_iconst (1 : Int32) hc (dc_at dX10_below 26 rfl) (by decide) ?_
      refine r_goto (tgt := 49) hc (dc_at dX10_below 27 rfl) (by decide) ?_
      exact gg_sub [0, 1, 2, 4, 5] rfl (t_X10_below_49 hc hr he hm hs ih4 ih9 hf)
def l_X10_below_16 (F : Nat) (self4 : Int64 → Int64 → Int32 → Int32 → Int32 → Option Int32) : Nat → Int64 → Int64 → Int32 → Int32 → Int32 → Int64 → Option Int32
  | 0 => fun _ _ _ _ _ _ => none
  | n + 1 => fun v1 v3 v5 v6 v7 v8 => b_X10_below_16 F self4 (l_X10_below_16 F self4 n) v1 v3 v5 v6 v7 v8
theorem tl_X10_below_16 {M : MV} {X : XT} {F : Nat} {self4 : Int64 → Int64 → Int32 → Int32 → Int32 → Option Int32} {h : PH} {r : Int32} {ce sl mc ms : Nat} (hc : Cx M X RX10 cX10_below) (hr : Rx M 132 7658 mc ms 10) (he : Ex M X (some .int) "below" (some (.int r)) h mc ms) (hm : ce ≤ mc) (hs : sl ≤ ms) (ih4 : ∀ (v1 : Int64) (v3 : Int64) (v5 : Int32) (v6 : Int32) (v7 : Int32), self4 v1 v3 v5 v6 v7 = some r → GG M X h ce sl 6 [(1, .long v1), (3, .long v3), (5, .int v5), (6, .int v6), (7, .int v7)] []) (n : Nat) : ∀ (v1 : Int64) (v3 : Int64) (v5 : Int32) (v6 : Int32) (v7 : Int32) (v8 : Int64), l_X10_below_16 F self4 n v1 v3 v5 v6 v7 v8 = some r → GG M X h ce sl 16 [(1, .long v1), (3, .long v3), (5, .int v5), (6, .int v6), (7, .int v7), (8, .long v8)] [] := by
  induction n with
  | zero => intro v1 v3 v5 v6 v7 v8 hf; cases hf
  | succ n ih => intro v1 v3 v5 v6 v7 v8 hf; exact tb_X10_below_16 (F := F) hc hr he hm hs ih4 ih hf
def b_X10_below_6 (F : Nat) (self4 : Int64 → Int64 → Int32 → Int32 → Int32 → Option Int32) (v1 : Int64) (v3 : Int64) (v5 : Int32) (v6 : Int32) (v7 : Int32) : Option Int32 := if v5 < v7 then (some v6) else (l_X10_below_16 F self4 F v1 v3 v5 v6 v7 (0 : Int64))
set_option maxRecDepth 20000 in
theorem tb_X10_below_6 {M : MV} {X : XT} {F : Nat} {self4 : Int64 → Int64 → Int32 → Int32 → Int32 → Option Int32} {h : PH} {r : Int32} {ce sl mc ms : Nat} {v1 : Int64} {v3 : Int64} {v5 : Int32} {v6 : Int32} {v7 : Int32} (hc : Cx M X RX10 cX10_below) (hr : Rx M 132 7658 mc ms 10) (he : Ex M X (some .int) "below" (some (.int r)) h mc ms) (hm : ce ≤ mc) (hs : sl ≤ ms) (ih4 : ∀ (v1 : Int64) (v3 : Int64) (v5 : Int32) (v6 : Int32) (v7 : Int32), self4 v1 v3 v5 v6 v7 = some r → GG M X h ce sl 6 [(1, .long v1), (3, .long v3), (5, .int v5), (6, .int v6), (7, .int v7)] []) (hf : b_X10_below_6 F self4 v1 v3 v5 v6 v7 = some r) : GG M X h ce sl 6 [(1, .long v1), (3, .long v3), (5, .int v5), (6, .int v6), (7, .int v7)] [] := by
  unfold b_X10_below_6 at hf
  refine r_iload hc 4 (dc_at dX10_below 4 rfl) rfl ?_
  refine r_iload hc 2 (dc_at dX10_below 5 rfl) rfl ?_
  refine r_icmp_gt (tgt := 67) hc (dc_at dX10_below 6 rfl) (by decide) hf (fun hf => ?_) (fun hf => ?_)
  · refine r_iload hc 3 (dc_at dX10_below 38 rfl) rfl ?_
    exact r_iretP hc he (hm) (hs) (dc_at dX10_below 39 rfl) hf
  · refine r_lconst (0 : Int64) hc (dc_at dX10_below 7 rfl) (by decide) ?_
    refine r_lstore [(8, .long ((0 : Int64))), (1, .long v1), (3, .long v3), (5, .int v5), (6, .int v6), (7, .int v7)] hc hr (dc_at dX10_below 8 rfl) (by decide) rfl ?_
    exact gg_sub [1, 2, 3, 4, 5, 0] rfl (tl_X10_below_16 hc hr he hm hs ih4 F _ _ _ _ _ _ hf)
def l_X10_below_6 (F : Nat) : Nat → Int64 → Int64 → Int32 → Int32 → Int32 → Option Int32
  | 0 => fun _ _ _ _ _ => none
  | n + 1 => fun v1 v3 v5 v6 v7 => b_X10_below_6 F (l_X10_below_6 F n) v1 v3 v5 v6 v7
theorem tl_X10_below_6 {M : MV} {X : XT} {F : Nat} {h : PH} {r : Int32} {ce sl mc ms : Nat} (hc : Cx M X RX10 cX10_below) (hr : Rx M 132 7658 mc ms 10) (he : Ex M X (some .int) "below" (some (.int r)) h mc ms) (hm : ce ≤ mc) (hs : sl ≤ ms) (n : Nat) : ∀ (v1 : Int64) (v3 : Int64) (v5 : Int32) (v6 : Int32) (v7 : Int32), l_X10_below_6 F n v1 v3 v5 v6 v7 = some r → GG M X h ce sl 6 [(1, .long v1), (3, .long v3), (5, .int v5), (6, .int v6), (7, .int v7)] [] := by
  induction n with
  | zero => intro v1 v3 v5 v6 v7 hf; cases hf
  | succ n ih => intro v1 v3 v5 v6 v7 hf; exact tb_X10_below_6 (F := F) hc hr he hm hs  ih hf
def b_X10_below_0 (F : Nat) (v1 : Int64) (v3 : Int64) (v5 : Int32) : Option Int32 := l_X10_below_6 F F v1 v3 v5 (0 : Int32) (1 : Int32)
set_option maxRecDepth 20000 in
theorem t_X10_below_0 {M : MV} {X : XT} {F : Nat} {h : PH} {r : Int32} {ce sl mc ms : Nat} {v1 : Int64} {v3 : Int64} {v5 : Int32} (hc : Cx M X RX10 cX10_below) (hr : Rx M 132 7658 mc ms 10) (he : Ex M X (some .int) "below" (some (.int r)) h mc ms) (hm : ce ≤ mc) (hs : sl ≤ ms) (hf : b_X10_below_0 F v1 v3 v5 = some r) : GG M X h ce sl 0 [(1, .long v1), (3, .long v3), (5, .int v5)] [] := by
  unfold b_X10_below_0 at hf
  refine r_iconst (0 : Int32) hc (dc_at dX10_below 0 rfl) (by decide) ?_
  refine r_istore [(6, .int ((0 : Int32))), (1, .long v1), (3, .long v3), (5, .int v5)] hc hr (dc_at dX10_below 1 rfl) (by decide) rfl ?_
  refine r_iconst (1 : Int32) hc (dc_at dX10_below 2 rfl) (by decide) ?_
  refine r_istore [(7, .int ((1 : Int32))), (6, .int ((0 : Int32))), (1, .long v1), (3, .long v3), (5, .int v5)] hc hr (dc_at dX10_below 3 rfl) (by decide) rfl ?_
  exact gg_sub [2, 3, 4, 1, 0] rfl (tl_X10_below_6 hc hr he hm hs  F _ _ _ _ _ hf)
def m_X10_below (F : Nat) (p0 : Nat) (p1 : Int64) (p3 : Int64) (p5 : Int32) : Option Int32 := b_X10_below_0 F p1 p3 p5
theorem mt_X10_below {l : Launch} {X : XT} {F : Nat} {h : PH} {p0 : Nat} {p1 : Int64} {p3 : Int64} {p5 : Int32} {r : Int32} (ex : m_X10_below F p0 p1 p3 p5 = some r) : MT l X yX10_below cX10_below 10 (some .int) 132 7658 0 0 [.ref (X.1 + p0), .long p1, .long p3, .int p5] h (some (.int r)) h := MT.of (by decide) (Nat.le_of_ble_eq_true rfl) fun M hl hc hr he => by
  subst hl
  exact gg_sub [1, 2, 3] rfl (t_X10_below_0  hc hr he (Nat.zero_le _) (Nat.zero_le _) ex)
/-! FractionLiftModel.floors(I)I -/
def lX10_floorsL : List (Nat × Instr × Nat × Nat) := [(0, .aload_n 0, 1, 1), (1, .iconst 0, 1, 2), (2, .putfield 1, 3, 5), (5, .iload_n 1, 1, 6), (6, .i2l, 1, 7), (7, .lconst 1, 1, 8), (8, .ldc2_w 443, 3, 11), (11, .invokestatic 172, 3, 14), (14, .ifCond .eq 21, 3, 17), (17, .aload_n 0, 1, 18), (18, .aload_n 0, 1, 19), (19, .getfield 13, 3, 22), (22, .iconst 1, 1, 23), (23, .iaload, 1, 24), (24, .i2l, 1, 25), (25, .lconst 1, 1, 26), (26, .iload_n 1, 1, 27), (27, .invokevirtual 445, 3, 30), (30, .iconst 1, 1, 31), (31, .iadd, 1, 32), (32, .goto 5, 3, 35), (35, .bipush (-3), 2, 37), (37, .ireturn, 1, 38)]
set_option maxRecDepth 20000 in
theorem dX10_floors : dcL cX10_floors lX10_floorsL = true := by decide +kernel
def b_X10_floors_0 (F : Nat) (h : PH) (v0 : Nat) (v1 : Int32) : Option (Int32 × PH) := (pV 10 0 (.int (0 : Int32)) h v0).bind fun h1 => ((m_X10_within (Int32.toInt64 v1) (1 : Int64) (200 : Int64)).bind fun x2 => (if x2 = 0 then (some ((-3 : Int32), h1)) else ((gR 10 1 h1 v0).bind fun a3 => ((aI 0 h1 a3 (1 : Int32)).bind fun x4 => (cO 10 h1 v0 ((m_X10_below F v0 (Int32.toInt64 x4) (1 : Int64) v1).bind fun x5 => (some (((x5 + (1 : Int32))), h1))))))))
set_option maxRecDepth 20000 in
theorem t_X10_floors_0 {M : MV} {X : XT} {F : Nat} {h hz : PH} {r : Int32} {ce sl mc ms : Nat} {v0 : Nat} {v1 : Int32} (hc : Cx M X RX10 cX10_floors) (hr : Rx M 133 7716 mc ms 2) (he : Ex M X (some .int) "floors" (some (.int r)) hz mc ms) (hm : ce ≤ mc) (hs : sl ≤ ms) (hf : b_X10_floors_0 F h v0 v1 = some (r, hz)) : GG M X h ce sl 0 [(0, .ref (X.1 + v0)), (1, .int v1)] [] := by
  unfold b_X10_floors_0 at hf
  refine r_aload_n hc 0 (dc_at dX10_floors 0 rfl) rfl ?_
  refine r_iconst (0 : Int32) hc (dc_at dX10_floors 1 rfl) (by decide) ?_
  refine r_putI hc he (dc_at dX10_floors 2 rfl) fp_X10_1 (fun q => by cases q) hf fun h1 hf => ?_
  refine r_iload_n hc 1 (dc_at dX10_floors 3 rfl) rfl ?_
  refine r_i2l hc (dc_at dX10_floors 4 rfl) ?_
  refine r_lconst (1 : Int64) hc (dc_at dX10_floors 5 rfl) (by decide) ?_
  refine r_ldc2 hc (dc_at dX10_floors 6 rfl) cl2_X10_443 ?_
  refine ob hf fun x2 ex hf => ?_
  refine r_callSi (As := [.long ((Int32.toInt64 v1)), .long ((1 : Int64)), .long ((200 : Int64))]) hc hr (dc_at dX10_floors 7 rfl) ml_X10_172 mv_X10_within st_X10_within rfl (mt_X10_within ex) (by first | exact Nat.le_of_ble_eq_true rfl | omega) (by first | exact Nat.le_of_ble_eq_true rfl | omega) (by first | exact Nat.le_of_ble_eq_true rfl | omega) hm hs ?_
  refine r_if_eq (tgt := 35) hc (dc_at dX10_floors 8 rfl) (by decide) hf (fun hf => ?_) (fun hf => ?_)
  · refine r_bipush (-3 : Int32) hc (dc_at dX10_floors 21 rfl) (by decide) ?_
    exact r_iret hc he (hm) (hs) (dc_at dX10_floors 22 rfl) hf
  · refine r_aload_n hc 0 (dc_at dX10_floors 9 rfl) rfl ?_
    refine r_aload_n hc 0 (dc_at dX10_floors 10 rfl) rfl ?_
    refine r_getR hc (dc_at dX10_floors 11 rfl) fl_X10_13 hf fun a3 hf => ?_
    refine r_iconst (1 : Int32) hc (dc_at dX10_floors 12 rfl) (by decide) ?_
    refine r_iaload hc (dc_at dX10_floors 13 rfl) hf fun x4 hf => ?_
    refine r_i2l hc (dc_at dX10_floors 14 rfl) ?_
    refine r_lconst (1 : Int64) hc (dc_at dX10_floors 15 rfl) (by decide) ?_
    refine r_iload_n hc 1 (dc_at dX10_floors 16 rfl) rfl ?_
    obtain ⟨ho, hf⟩ := cO_some hf
    refine ob hf fun x5 ex hf => ?_
    refine r_callVi (As := [.long ((Int32.toInt64 x4)), .long ((1 : Int64)), .int v1]) (ci := 10) hc hr (dc_at dX10_floors 17 rfl) ml_X10_445 mv_X10_below vi_X10_below rfl ho rfl (mt_X10_below ex) (by first | exact Nat.le_of_ble_eq_true rfl | omega) (by first | exact Nat.le_of_ble_eq_true rfl | omega) (by first | exact Nat.le_of_ble_eq_true rfl | omega) hm hs ?_
    refine r_iconst (1 : Int32) hc (dc_at dX10_floors 18 rfl) (by decide) ?_
    refine r_iadd hc (dc_at dX10_floors 19 rfl) ?_
    refine r_goto (tgt := 37) hc (dc_at dX10_floors 20 rfl) (by decide) ?_
    exact r_iret hc he (hm) (hs) (dc_at dX10_floors 22 rfl) hf
def m_X10_floors (F : Nat) (h : PH) (p0 : Nat) (p1 : Int32) : Option (Int32 × PH) := b_X10_floors_0 F h p0 p1
theorem mt_X10_floors {l : Launch} {X : XT} {F : Nat} {h hz : PH} {p0 : Nat} {p1 : Int32} {r : Int32} (ex : m_X10_floors F h p0 p1 = some (r, hz)) : MT l X yX10_floors cX10_floors 2 (some .int) 133 7716 0 0 [.ref (X.1 + p0), .int p1] h (some (.int r)) hz := MT.of (by decide) (Nat.le_of_ble_eq_true rfl) fun M hl hc hr he => by
  subst hl
  exact gg_sub [0, 1] rfl (t_X10_floors_0  hc hr he (Nat.zero_le _) (Nat.zero_le _) ex)
