/-! FractionLift.floors(I)I -/
def lX9_floorsL : List (Nat × Instr × Nat × Nat) := [(0, .iload_n 1, 1, 1), (1, .iconst 1, 1, 2), (2, .if_icmp .lt 10, 3, 5), (5, .iload_n 1, 1, 6), (6, .sipush 200, 3, 9), (9, .if_icmp .le 6, 3, 12), (12, .bipush (-3), 2, 14), (14, .ireturn, 1, 15), (15, .aload_n 0, 1, 16), (16, .aload_n 0, 1, 17), (17, .getfield 26, 3, 20), (20, .getfield 283, 3, 23), (23, .i2l, 1, 24), (24, .lconst 1, 1, 25), (25, .iload_n 1, 1, 26), (26, .invokevirtual 286, 3, 29), (29, .iconst 1, 1, 30), (30, .iadd, 1, 31), (31, .ireturn, 1, 32)]
set_option maxRecDepth 20000 in
theorem dX9_floors : dcL cX9_floors lX9_floorsL = true := by decide +kernel
def b_X9_floors_0 (F : Nat) (h : PH) (v0 : Nat) (v1 : Int32) : Option (Int32 × PH) := if v1 < (1 : Int32) then (some ((-3 : Int32), h)) else (if v1 ≤ (200 : Int32) then ((gR 9 4 h v0).bind fun a1 => ((gI 0 0 h a1).bind fun x2 => (cO 9 h v0 (bind2 (m_X9_countBelow F h v0 (Int32.toInt64 x2) (1 : Int64) v1) fun x3 h4 => (some (((x3 + (1 : Int32))), h4)))))) else (some ((-3 : Int32), h)))
set_option maxRecDepth 20000 in
theorem t_X9_floors_0 {M : MV} {X : XT} {F : Nat} {h hz : PH} {r : Int32} {ce sl mc ms : Nat} {v0 : Nat} {v1 : Int32} (hc : Cx M X RX9 cX9_floors) (hr : Rx M 2 118 mc ms 2) (he : Ex M X (some .int) "floors" (some (.int r)) hz mc ms) (hm : ce ≤ mc) (hs : sl ≤ ms) (hf : b_X9_floors_0 F h v0 v1 = some (r, hz)) : GG M X h ce sl 0 [(0, .ref (X.1 + v0)), (1, .int v1)] [] := by
  unfold b_X9_floors_0 at hf
  refine r_iload_n hc 1 (dc_at dX9_floors 0 rfl) rfl ?_
  refine r_iconst (1 : Int32) hc (dc_at dX9_floors 1 rfl) (by decide) ?_
  refine r_icmp_lt (tgt := 12) hc (dc_at dX9_floors 2 rfl) (by decide) hf (fun hf => ?_) (fun hf => ?_)
  · refine r_bipush (-3 : Int32) hc (dc_at dX9_floors 6 rfl) (by decide) ?_
    exact r_iret hc he (hm) (hs) (dc_at dX9_floors 7 rfl) hf
  · refine r_iload_n hc 1 (dc_at dX9_floors 3 rfl) rfl ?_
    refine r_sipush (200 : Int32) hc (dc_at dX9_floors 4 rfl) (by decide) ?_
    refine r_icmp_le (tgt := 15) hc (dc_at dX9_floors 5 rfl) (by decide) hf (fun hf => ?_) (fun hf => ?_)
    · refine r_aload_n hc 0 (dc_at dX9_floors 8 rfl) rfl ?_
      refine r_aload_n hc 0 (dc_at dX9_floors 9 rfl) rfl ?_
      refine r_getR hc (dc_at dX9_floors 10 rfl) fl_X9_26 hf fun a1 hf => ?_
      refine r_getI hc (dc_at dX9_floors 11 rfl) fl_X9_283 hf fun x2 hf => ?_
      refine r_i2l hc (dc_at dX9_floors 12 rfl) ?_
      refine r_lconst (1 : Int64) hc (dc_at dX9_floors 13 rfl) (by decide) ?_
      refine r_iload_n hc 1 (dc_at dX9_floors 14 rfl) rfl ?_
      obtain ⟨ho, hf⟩ := cO_some hf
      refine ob2 hf fun x3 h4 ex hf => ?_
      refine r_callVi (As := [.long ((Int32.toInt64 x2)), .long ((1 : Int64)), .int v1]) (ci := 9) hc hr (dc_at dX9_floors 15 rfl) ml_X9_286 mv_X9_countBelow vi_X9_countBelow rfl ho rfl (mt_X9_countBelow ex) (by first | exact Nat.le_of_ble_eq_true rfl | omega) (by first | exact Nat.le_of_ble_eq_true rfl | omega) (by first | exact Nat.le_of_ble_eq_true rfl | omega) hm hs ?_
      refine r_iconst (1 : Int32) hc (dc_at dX9_floors 16 rfl) (by decide) ?_
      refine r_iadd hc (dc_at dX9_floors 17 rfl) ?_
      exact r_iret hc he (hm) (hs) (dc_at dX9_floors 18 rfl) hf
    · refine r_bipush (-3 : Int32) hc (dc_at dX9_floors 6 rfl) (by decide) ?_
      exact r_iret hc he (hm) (hs) (dc_at dX9_floors 7 rfl) hf
def m_X9_floors (F : Nat) (h : PH) (p0 : Nat) (p1 : Int32) : Option (Int32 × PH) := b_X9_floors_0 F h p0 p1
theorem mt_X9_floors {l : Launch} {X : XT} {F : Nat} {h hz : PH} {p0 : Nat} {p1 : Int32} {r : Int32} (ex : m_X9_floors F h p0 p1 = some (r, hz)) : MT l X yX9_floors cX9_floors 2 (some .int) 2 118 0 0 [.ref (X.1 + p0), .int p1] h (some (.int r)) hz := MT.of (by decide) (Nat.le_of_ble_eq_true rfl) fun M hl hc hr he => by
  subst hl
  exact gg_sub [0, 1] rfl (t_X9_floors_0  hc hr he (Nat.zero_le _) (Nat.zero_le _) ex)
/-! FractionLift.rank(III)I -/
def lX9_rankL : List (Nat × Instr × Nat × Nat) := [(0, .iload_n 3, 1, 1), (1, .iconst 1, 1, 2), (2, .if_icmp .lt 19, 3, 5), (5, .iload_n 3, 1, 6), (6, .sipush 200, 3, 9), (9, .if_icmp .gt 12, 3, 12), (12, .aload_n 0, 1, 13), (13, .iload_n 1, 1, 14), (14, .iload_n 2, 1, 15), (15, .invokevirtual 132, 3, 18), (18, .ifCond .ne 6, 3, 21), (21, .bipush (-3), 2, 23), (23, .ireturn, 1, 24), (24, .aload_n 0, 1, 25), (25, .aload_n 0, 1, 26), (26, .getfield 59, 3, 29), (29, .getfield 136, 3, 32), (32, .aload_n 0, 1, 33), (33, .getfield 59, 3, 36), (36, .getfield 140, 3, 39), (39, .iload_n 3, 1, 40), (40, .invokevirtual 286, 3, 43), (43, .ireturn, 1, 44)]
set_option maxRecDepth 20000 in
theorem dX9_rank : dcL cX9_rank lX9_rankL = true := by decide +kernel
def b_X9_rank_0 (F : Nat) (h : PH) (v0 : Nat) (v1 : Int32) (v2 : Int32) (v3 : Int32) : Option (Int32 × PH) := if v3 < (1 : Int32) then (some ((-3 : Int32), h)) else (if (200 : Int32) < v3 then (some ((-3 : Int32), h)) else (cO 9 h v0 (bind2 (m_X9_asksFloor F h v0 v1 v2) fun x1 h2 => (if x1 = 0 then (some ((-3 : Int32), h2)) else ((gR 9 12 h2 v0).bind fun a3 => ((gL 2 0 h2 a3).bind fun x4 => ((gR 9 12 h2 v0).bind fun a5 => ((gL 2 1 h2 a5).bind fun x6 => (cO 9 h2 v0 (bind2 (m_X9_countBelow F h2 v0 x4 x6 v3) fun x7 h8 => (some (x7, h8))))))))))))
set_option maxRecDepth 20000 in
theorem t_X9_rank_0 {M : MV} {X : XT} {F : Nat} {h hz : PH} {r : Int32} {ce sl mc ms : Nat} {v0 : Nat} {v1 : Int32} {v2 : Int32} {v3 : Int32} (hc : Cx M X RX9 cX9_rank) (hr : Rx M 4 234 mc ms 4) (he : Ex M X (some .int) "rank" (some (.int r)) hz mc ms) (hm : ce ≤ mc) (hs : sl ≤ ms) (hf : b_X9_rank_0 F h v0 v1 v2 v3 = some (r, hz)) : GG M X h ce sl 0 [(0, .ref (X.1 + v0)), (1, .int v1), (2, .int v2), (3, .int v3)] [] := by
  unfold b_X9_rank_0 at hf
  refine r_iload_n hc 3 (dc_at dX9_rank 0 rfl) rfl ?_
  refine r_iconst (1 : Int32) hc (dc_at dX9_rank 1 rfl) (by decide) ?_
  refine r_icmp_lt (tgt := 21) hc (dc_at dX9_rank 2 rfl) (by decide) hf (fun hf => ?_) (fun hf => ?_)
  · refine r_bipush (-3 : Int32) hc (dc_at dX9_rank 11 rfl) (by decide) ?_
    exact r_iret hc he (hm) (hs) (dc_at dX9_rank 12 rfl) hf
  · refine r_iload_n hc 3 (dc_at dX9_rank 3 rfl) rfl ?_
    refine r_sipush (200 : Int32) hc (dc_at dX9_rank 4 rfl) (by decide) ?_
    refine r_icmp_gt (tgt := 21) hc (dc_at dX9_rank 5 rfl) (by decide) hf (fun hf => ?_) (fun hf => ?_)
    · refine r_bipush (-3 : Int32) hc (dc_at dX9_rank 11 rfl) (by decide) ?_
      exact r_iret hc he (hm) (hs) (dc_at dX9_rank 12 rfl) hf
    · refine r_aload_n hc 0 (dc_at dX9_rank 6 rfl) rfl ?_
      refine r_iload_n hc 1 (dc_at dX9_rank 7 rfl) rfl ?_
      refine r_iload_n hc 2 (dc_at dX9_rank 8 rfl) rfl ?_
      obtain ⟨ho, hf⟩ := cO_some hf
      refine ob2 hf fun x1 h2 ex hf => ?_
      refine r_callVi (As := [.int v1, .int v2]) (ci := 9) hc hr (dc_at dX9_rank 9 rfl) ml_X9_132 mv_X9_asksFloor vi_X9_asksFloor rfl ho rfl (mt_X9_asksFloor ex) (by first | exact Nat.le_of_ble_eq_true rfl | omega) (by first | exact Nat.le_of_ble_eq_true rfl | omega) (by first | exact Nat.le_of_ble_eq_true rfl | omega) hm hs ?_
      refine r_if_ne (tgt := 24) hc (dc_at dX9_rank 10 rfl) (by decide) hf (fun hf => ?_) (fun hf => ?_)
      · refine r_aload_n hc 0 (dc_at dX9_rank 13 rfl) rfl ?_
        refine r_aload_n hc 0 (dc_at dX9_rank 14 rfl) rfl ?_
        refine r_getR hc (dc_at dX9_rank 15 rfl) fl_X9_59 hf fun a3 hf => ?_
        refine r_getL hc (dc_at dX9_rank 16 rfl) fl_X9_136 hf fun x4 hf => ?_
        refine r_aload_n hc 0 (dc_at dX9_rank 17 rfl) rfl ?_
        refine r_getR hc (dc_at dX9_rank 18 rfl) fl_X9_59 hf fun a5 hf => ?_
        refine r_getL hc (dc_at dX9_rank 19 rfl) fl_X9_140 hf fun x6 hf => ?_
        refine r_iload_n hc 3 (dc_at dX9_rank 20 rfl) rfl ?_
        obtain ⟨ho, hf⟩ := cO_some hf
        refine ob2 hf fun x7 h8 ex hf => ?_
        refine r_callVi (As := [.long x4, .long x6, .int v3]) (ci := 9) hc hr (dc_at dX9_rank 21 rfl) ml_X9_286 mv_X9_countBelow vi_X9_countBelow rfl ho rfl (mt_X9_countBelow ex) (by first | exact Nat.le_of_ble_eq_true rfl | omega) (by first | exact Nat.le_of_ble_eq_true rfl | omega) (by first | exact Nat.le_of_ble_eq_true rfl | omega) hm hs ?_
        exact r_iret hc he (hm) (hs) (dc_at dX9_rank 22 rfl) hf
      · refine r_bipush (-3 : Int32) hc (dc_at dX9_rank 11 rfl) (by decide) ?_
        exact r_iret hc he (hm) (hs) (dc_at dX9_rank 12 rfl) hf
def m_X9_rank (F : Nat) (h : PH) (p0 : Nat) (p1 : Int32) (p2 : Int32) (p3 : Int32) : Option (Int32 × PH) := b_X9_rank_0 F h p0 p1 p2 p3
theorem mt_X9_rank {l : Launch} {X : XT} {F : Nat} {h hz : PH} {p0 : Nat} {p1 : Int32} {p2 : Int32} {p3 : Int32} {r : Int32} (ex : m_X9_rank F h p0 p1 p2 p3 = some (r, hz)) : MT l X yX9_rank cX9_rank 4 (some .int) 4 234 0 0 [.ref (X.1 + p0), .int p1, .int p2, .int p3] h (some (.int r)) hz := MT.of (by decide) (Nat.le_of_ble_eq_true rfl) fun M hl hc hr he => by
  subst hl
  exact gg_sub [0, 1, 2, 3] rfl (t_X9_rank_0  hc hr he (Nat.zero_le _) (Nat.zero_le _) ex)
/-! FractionLift.layParts()I -/
def lX9_layPartsL : List (Nat × Instr × Nat × Nat) := [(0, .aload_n 0, 1, 1), (1, .getfield 63, 3, 4), (4, .aload_n 0, 1, 5), (5, .getfield 59, 3, 8), (8, .getfield 136, 3, 11), (11, .aload_n 0, 1, 12), (12, .getfield 59, 3, 15), (15, .invokevirtual 202, 3, 18), (18, .aload_n 0, 1, 19), (19, .getfield 59, 3, 22), (22, .getfield 140, 3, 25), (25, .lmul, 1, 26), (26, .lsub, 1, 27), (27, .aload_n 0, 1, 28), (28, .getfield 59, 3, 31), (31, .getfield 140, 3, 34), (34, .invokevirtual 271, 3, 37), (37, .iconst 0, 1, 38), (38, .istore_n 1, 1, 39), (39, .iconst 0, 1, 40), (40, .istore_n 2, 1, 41), (41, .iload_n 2, 1, 42), (42, .aload_n 0, 1, 43), (43, .getfield 66, 3, 46), (46, .arraylength, 1, 47), (47, .if_icmp .ge 118, 3, 50), (50, .aload_n 0, 1, 51), (51, .getfield 63, 3, 54), (54, .getfield 136, 3, 57), (57, .lconst 0, 1, 58), (58, .lcmp, 1, 59), (59, .ifCond .le 106, 3, 62), (62, .aload_n 0, 1, 63), (63, .getfield 63, 3, 66), (66, .getfield 140, 3, 69), (69, .aload_n 0, 1, 70), (70, .getfield 63, 3, 73), (73, .getfield 136, 3, 76), (76, .ladd, 1, 77), (77, .lconst 1, 1, 78), (78, .lsub, 1, 79), (79, .aload_n 0, 1, 80), (80, .getfield 63, 3, 83), (83, .getfield 136, 3, 86), (86, .ldiv, 1, 87), (87, .lstore_n 3, 1, 88), (88, .lload_n 3, 1, 89), (89, .ldc2_w 387, 3, 92), (92, .lcmp, 1, 93), (93, .ifCond .le 6, 3, 96), (96, .bipush (-4), 2, 98), (98, .ireturn, 1, 99), (99, .aload_n 0, 1, 100), (100, .getfield 66, 3, 103), (103, .iload_n 2, 1, 104), (104, .lload_n 3, 1, 105), (105, .lastore, 1, 106), (106, .iinc 1 1, 3, 109), (109, .aload_n 0, 1, 110), (110, .getfield 63, 3, 113), (113, .aload_n 0, 1, 114), (114, .getfield 63, 3, 117), (117, .getfield 136, 3, 120), (120, .lload_n 3, 1, 121), (121, .lmul, 1, 122), (122, .aload_n 0, 1, 123), (123, .getfield 63, 3, 126), (126, .getfield 140, 3, 129), (129, .lsub, 1, 130), (130, .aload_n 0, 1, 131), (131, .getfield 63, 3, 134), (134, .getfield 140, 3, 137), (137, .lload_n 3, 1, 138), (138, .lmul, 1, 139), (139, .invokevirtual 271, 3, 142), (142, .aload_n 0, 1, 143), (143, .getfield 63, 3, 146), (146, .getfield 140, 3, 149), (149, .ldc2_w 387, 3, 152), (152, .lcmp, 1, 153), (153, .ifCond .le 6, 3, 156), (156, .bipush (-4), 2, 158), (158, .ireturn, 1, 159), (159, .iinc 2 1, 3, 162), (162, .goto (-121), 3, 165), (165, .iload_n 1, 1, 166), (166, .ireturn, 1, 167)]
set_option maxRecDepth 20000 in
theorem dX9_layParts : dcL cX9_layParts lX9_layPartsL = true := by decide +kernel
def b_X9_layParts_41 (F : Nat) (self21 : PH → Nat → Int32 → Int32 → Option (Int32 × PH)) (h : PH) (v0 : Nat) (v1 : Int32) (v2 : Int32) : Option (Int32 × PH) := (gR 9 14 h v0).bind fun a1 => ((aLen h a1).bind fun x2 => (if x2 ≤ v2 then (some (v1, h)) else ((gR 9 13 h v0).bind fun a3 => ((gL 2 0 h a3).bind fun x4 => (if x4 ≤ (0 : Int64) then (some (v1, h)) else ((gR 9 13 h v0).bind fun a5 => ((gL 2 1 h a5).bind fun x6 => ((gR 9 13 h v0).bind fun a7 => ((gL 2 0 h a7).bind fun x8 => ((gR 9 13 h v0).bind fun a9 => ((gL 2 0 h a9).bind fun x10 => (if x10 = 0 then none else (bindv (((((x6 + x8) - (1 : Int64))) / x10)) fun x11 => (if x11 ≤ (1000000000 : Int64) then ((gR 9 14 h v0).bind fun a12 => ((sL h a12 v2 x11).bind fun h13 => (bindv (v1 + (1)) fun x14 => ((gR 9 13 h13 v0).bind fun a15 => ((gR 9 13 h13 v0).bind fun a16 => ((gL 2 0 h13 a16).bind fun x17 => ((gR 9 13 h13 v0).bind fun a18 => ((gL 2 1 h13 a18).bind fun x19 => ((gR 9 13 h13 v0).bind fun a20 => ((gL 2 1 h13 a20).bind fun x21 => (cO 2 h13 a15 (bind2 (m_X2_put F h13 a15 (((x17 * x11) - x19)) (x21 * x11)) fun _ h23 => ((gR 9 13 h23 v0).bind fun a24 => ((gL 2 1 h23 a24).bind fun x25 => (if x25 ≤ (1000000000 : Int64) then (bindv (v2 + (1)) fun x26 => (self21 h23 v0 x14 x26)) else (some ((-4 : Int32), h23))))))))))))))))) else (some ((-4 : Int32), h))))))))))))))))
set_option maxRecDepth 20000 in
theorem tb_X9_layParts_41 {M : MV} {X : XT} {F : Nat} {self21 : PH → Nat → Int32 → Int32 → Option (Int32 × PH)} {h hz : PH} {r : Int32} {ce sl mc ms : Nat} {v0 : Nat} {v1 : Int32} {v2 : Int32} (hc : Cx M X RX9 cX9_layParts) (hr : Rx M 3 176 mc ms 5) (he : Ex M X (some .int) "layParts" (some (.int r)) hz mc ms) (hm : ce ≤ mc) (hs : sl ≤ ms) (ih21 : ∀ (h : PH) (v0 : Nat) (v1 : Int32) (v2 : Int32), self21 h v0 v1 v2 = some (r, hz) → GG M X h ce sl 41 [(0, .ref (X.1 + v0)), (1, .int v1), (2, .int v2)] []) (hf : b_X9_layParts_41 F self21 h v0 v1 v2 = some (r, hz)) : GG M X h ce sl 41 [(0, .ref (X.1 + v0)), (1, .int v1), (2, .int v2)] [] := by
  unfold b_X9_layParts_41 at hf
  refine r_iload_n hc 2 (dc_at dX9_layParts 21 rfl) rfl ?_
  refine r_aload_n hc 0 (dc_at dX9_layParts 22 rfl) rfl ?_
  refine r_getR hc (dc_at dX9_layParts 23 rfl) fl_X9_66 hf fun a1 hf => ?_
  refine r_alen hc (dc_at dX9_layParts 24 rfl) hf fun x2 hf => ?_
  refine r_icmp_ge (tgt := 165) hc (dc_at dX9_layParts 25 rfl) (by decide) hf (fun hf => ?_) (fun hf => ?_)
  · refine r_iload_n hc 1 (dc_at dX9_layParts 85 rfl) rfl ?_
    exact r_iret hc he (hm) (hs) (dc_at dX9_layParts 86 rfl) hf
  · refine r_aload_n hc 0 (dc_at dX9_layParts 26 rfl) rfl ?_
    refine r_getR hc (dc_at dX9_layParts 27 rfl) fl_X9_63 hf fun a3 hf => ?_
    refine r_getL hc (dc_at dX9_layParts 28 rfl) fl_X9_136 hf fun x4 hf => ?_
    refine r_lconst (0 : Int64) hc (dc_at dX9_layParts 29 rfl) (by decide) ?_
    refine r_lcmp_le (tgt := 165) hc (dc_at dX9_layParts 30 rfl) (dc_at dX9_layParts 31 rfl) (by decide) hf (fun hf => ?_) (fun hf => ?_)
    · refine r_iload_n hc 1 (dc_at dX9_layParts 85 rfl) rfl ?_
      exact r_iret hc he (hm) (hs) (dc_at dX9_layParts 86 rfl) hf
    · refine r_aload_n hc 0 (dc_at dX9_layParts 32 rfl) rfl ?_
      refine r_getR hc (dc_at dX9_layParts 33 rfl) fl_X9_63 hf fun a5 hf => ?_
      refine r_getL hc (dc_at dX9_layParts 34 rfl) fl_X9_140 hf fun x6 hf => ?_
      refine r_aload_n hc 0 (dc_at dX9_layParts 35 rfl) rfl ?_
      refine r_getR hc (dc_at dX9_layParts 36 rfl) fl_X9_63 hf fun a7 hf => ?_
      refine r_getL hc (dc_at dX9_layParts 37 rfl) fl_X9_136 hf fun x8 hf => ?_
      refine r_ladd hc (dc_at dX9_layParts 38 rfl) ?_
      refine r_lconst (1 : Int64) hc (dc_at dX9_layParts 39 rfl) (by decide) ?_
      refine r_lsub hc (dc_at dX9_layParts 40 rfl) ?_
      refine r_aload_n hc 0 (dc_at dX9_layParts 41 rfl) rfl ?_
      refine r_getR hc (dc_at dX9_layParts 42 rfl) fl_X9_63 hf fun a9 hf => ?_
      refine r_getL hc (dc_at dX9_layParts 43 rfl) fl_X9_136 hf fun x10 hf => ?_
      refine r_ldiv hc (dc_at dX9_layParts 44 rfl) hf (fun hf => ?_)
      refine r_nm (mk := Value.long) hf fun x11 hf => ?_
      refine r_lstore_n [(3, .long x11), (0, .ref (X.1 + v0)), (1, .int v1), (2, .int v2)] hc hr (dc_at dX9_layParts 45 rfl) (by decide) rfl ?_
      refine r_lload_n hc 0 (dc_at dX9_layParts 46 rfl) rfl ?_
      refine r_ldc2 hc (dc_at dX9_layParts 47 rfl) cl2_X9_387 ?_
      refine r_lcmp_le (tgt := 99) hc (dc_at dX9_layParts 48 rfl) (dc_at dX9_layParts 49 rfl) (by decide) hf (fun hf => ?_) (fun hf => ?_)
      · refine r_aload_n hc 1 (dc_at dX9_layParts 52 rfl) rfl ?_
        refine r_getR hc (dc_at dX9_layParts 53 rfl) fl_X9_66 hf fun a12 hf => ?_
        refine r_iload_n hc 3 (dc_at dX9_layParts 54 rfl) rfl ?_
        refine r_lload_n hc 0 (dc_at dX9_layParts 55 rfl) rfl ?_
        refine r_lastore hc (dc_at dX9_layParts 56 rfl) hf fun h13 hf => ?_
        refine obv hf fun x14 e_x14 hf => ?_
        refine r_iinc 2 [(1, .int x14), (3, .long x11), (0, .ref (X.1 + v0)), (2, .int v2)] hc hr (dc_at dX9_layParts 57 rfl) rfl (by rw [e_x14]; rfl) (by decide) rfl ?_
        refine r_aload_n hc 2 (dc_at dX9_layParts 58 rfl) rfl ?_
        refine r_getR hc (dc_at dX9_layParts 59 rfl) fl_X9_63 hf fun a15 hf => ?_
        refine r_aload_n hc 2 (dc_at dX9_layParts 60 rfl) rfl ?_
        refine r_getR hc (dc_at dX9_layParts 61 rfl) fl_X9_63 hf fun a16 hf => ?_
        refine r_getL hc (dc_at dX9_layParts 62 rfl) fl_X9_136 hf fun x17 hf => ?_
        refine r_lload_n hc 1 (dc_at dX9_layParts 63 rfl) rfl ?_
        refine r_lmul hc (dc_at dX9_layParts 64 rfl) ?_
        refine r_aload_n hc 2 (dc_at dX9_layParts 65 rfl) rfl ?_
        refine r_getR hc (dc_at dX9_layParts 66 rfl) fl_X9_63 hf fun a18 hf => ?_
        refine r_getL hc (dc_at dX9_layParts 67 rfl) fl_X9_140 hf fun x19 hf => ?_
        refine r_lsub hc (dc_at dX9_layParts 68 rfl) ?_
        refine r_aload_n hc 2 (dc_at dX9_layParts 69 rfl) rfl ?_
        refine r_getR hc (dc_at dX9_layParts 70 rfl) fl_X9_63 hf fun a20 hf => ?_
        refine r_getL hc (dc_at dX9_layParts 71 rfl) fl_X9_140 hf fun x21 hf => ?_
        refine r_lload_n hc 1 (dc_at dX9_layParts 72 rfl) rfl ?_
        refine r_lmul hc (dc_at dX9_layParts 73 rfl) ?_
        obtain ⟨ho, hf⟩ := cO_some hf
        refine ob2 hf fun u h23 ex hf => ?_
        refine r_callVv (As := [.long (((x17 * x11) - x19)), .long ((x21 * x11))]) (ci := 2) hc hr (dc_at dX9_layParts 74 rfl) ml_X9_271 mv_X2_put vi_X2_put rfl ho rfl (mt_X2_put ex) (by first | exact Nat.le_of_ble_eq_true rfl | omega) (by first | exact Nat.le_of_ble_eq_true rfl | omega) (by first | exact Nat.le_of_ble_eq_true rfl | omega) hm hs ?_
        refine r_aload_n hc 2 (dc_at dX9_layParts 75 rfl) rfl ?_
        refine r_getR hc (dc_at dX9_layParts 76 rfl) fl_X9_63 hf fun a24 hf => ?_
        refine r_getL hc (dc_at dX9_layParts 77 rfl) fl_X9_140 hf fun x25 hf => ?_
        refine r_ldc2 hc (dc_at dX9_layParts 78 rfl) cl2_X9_387 ?_
        refine r_lcmp_le (tgt := 159) hc (dc_at dX9_layParts 79 rfl) (dc_at dX9_layParts 80 rfl) (by decide) hf (fun hf => ?_) (fun hf => ?_)
        · refine obv hf fun x26 e_x26 hf => ?_
          refine r_iinc 3 [(2, .int x26), (1, .int x14), (3, .long x11), (0, .ref (X.1 + v0))] hc hr (dc_at dX9_layParts 83 rfl) rfl (by rw [e_x26]; rfl) (by decide) rfl ?_
          refine r_goto (tgt := 41) hc (dc_at dX9_layParts 84 rfl) (by decide) ?_
          exact gg_sub [3, 1, 0] rfl (ih21 _ _ _ _ hf)
        · refine r_bipush (-4 : Int32) hc (dc_at dX9_layParts 81 rfl) (by decide) ?_
          exact r_iret hc he (hm) (hs) (dc_at dX9_layParts 82 rfl) hf
      · refine r_bipush (-4 : Int32) hc (dc_at dX9_layParts 50 rfl) (by decide) ?_
        exact r_iret hc he (hm) (hs) (dc_at dX9_layParts 51 rfl) hf
def l_X9_layParts_41 (F : Nat) : Nat → PH → Nat → Int32 → Int32 → Option (Int32 × PH)
  | 0 => fun _ _ _ _ => none
  | n + 1 => fun h v0 v1 v2 => b_X9_layParts_41 F (l_X9_layParts_41 F n) h v0 v1 v2
theorem tl_X9_layParts_41 {M : MV} {X : XT} {F : Nat} {hz : PH} {r : Int32} {ce sl mc ms : Nat} (hc : Cx M X RX9 cX9_layParts) (hr : Rx M 3 176 mc ms 5) (he : Ex M X (some .int) "layParts" (some (.int r)) hz mc ms) (hm : ce ≤ mc) (hs : sl ≤ ms) (n : Nat) : ∀ (h : PH) (v0 : Nat) (v1 : Int32) (v2 : Int32), l_X9_layParts_41 F n h v0 v1 v2 = some (r, hz) → GG M X h ce sl 41 [(0, .ref (X.1 + v0)), (1, .int v1), (2, .int v2)] [] := by
  induction n with
  | zero => intro h v0 v1 v2 hf; cases hf
  | succ n ih => intro h v0 v1 v2 hf; exact tb_X9_layParts_41 (F := F) hc hr he hm hs  ih hf
def b_X9_layParts_0 (F : Nat) (h : PH) (v0 : Nat) : Option (Int32 × PH) := (gR 9 13 h v0).bind fun a1 => ((gR 9 12 h v0).bind fun a2 => ((gL 2 0 h a2).bind fun x3 => ((gR 9 12 h v0).bind fun a4 => (cO 2 h a4 ((m_X2_whole h a4).bind fun x5 => ((gR 9 12 h v0).bind fun a6 => ((gL 2 1 h a6).bind fun x7 => ((gR 9 12 h v0).bind fun a8 => ((gL 2 1 h a8).bind fun x9 => (cO 2 h a1 (bind2 (m_X2_put F h a1 ((x3 - (x5 * x7))) x9) fun _ h11 => (l_X9_layParts_41 F F h11 v0 (0 : Int32) (0 : Int32)))))))))))))
set_option maxRecDepth 20000 in
theorem t_X9_layParts_0 {M : MV} {X : XT} {F : Nat} {h hz : PH} {r : Int32} {ce sl mc ms : Nat} {v0 : Nat} (hc : Cx M X RX9 cX9_layParts) (hr : Rx M 3 176 mc ms 5) (he : Ex M X (some .int) "layParts" (some (.int r)) hz mc ms) (hm : ce ≤ mc) (hs : sl ≤ ms) (hf : b_X9_layParts_0 F h v0 = some (r, hz)) : GG M X h ce sl 0 [(0, .ref (X.1 + v0))] [] := by
  unfold b_X9_layParts_0 at hf
  refine r_aload_n hc 0 (dc_at dX9_layParts 0 rfl) rfl ?_
  refine r_getR hc (dc_at dX9_layParts 1 rfl) fl_X9_63 hf fun a1 hf => ?_
  refine r_aload_n hc 0 (dc_at dX9_layParts 2 rfl) rfl ?_
  refine r_getR hc (dc_at dX9_layParts 3 rfl) fl_X9_59 hf fun a2 hf => ?_
  refine r_getL hc (dc_at dX9_layParts 4 rfl) fl_X9_136 hf fun x3 hf => ?_
  refine r_aload_n hc 0 (dc_at dX9_layParts 5 rfl) rfl ?_
  refine r_getR hc (dc_at dX9_layParts 6 rfl) fl_X9_59 hf fun a4 hf => ?_
  obtain ⟨ho, hf⟩ := cO_some hf
  refine ob hf fun x5 ex hf => ?_
  refine r_callVl (As := []) (ci := 2) hc hr (dc_at dX9_layParts 7 rfl) ml_X9_202 mv_X2_whole vi_X2_whole rfl ho rfl (mt_X2_whole ex) (by first | exact Nat.le_of_ble_eq_true rfl | omega) (by first | exact Nat.le_of_ble_eq_true rfl | omega) (by first | exact Nat.le_of_ble_eq_true rfl | omega) hm hs ?_
  refine r_aload_n hc 0 (dc_at dX9_layParts 8 rfl) rfl ?_
  refine r_getR hc (dc_at dX9_layParts 9 rfl) fl_X9_59 hf fun a6 hf => ?_
  refine r_getL hc (dc_at dX9_layParts 10 rfl) fl_X9_140 hf fun x7 hf => ?_
  refine r_lmul hc (dc_at dX9_layParts 11 rfl) ?_
  refine r_lsub hc (dc_at dX9_layParts 12 rfl) ?_
  refine r_aload_n hc 0 (dc_at dX9_layParts 13 rfl) rfl ?_
  refine r_getR hc (dc_at dX9_layParts 14 rfl) fl_X9_59 hf fun a8 hf => ?_
  refine r_getL hc (dc_at dX9_layParts 15 rfl) fl_X9_140 hf fun x9 hf => ?_
  obtain ⟨ho, hf⟩ := cO_some hf
  refine ob2 hf fun u h11 ex hf => ?_
  refine r_callVv (As := [.long ((x3 - (x5 * x7))), .long x9]) (ci := 2) hc hr (dc_at dX9_layParts 16 rfl) ml_X9_271 mv_X2_put vi_X2_put rfl ho rfl (mt_X2_put ex) (by first | exact Nat.le_of_ble_eq_true rfl | omega) (by first | exact Nat.le_of_ble_eq_true rfl | omega) (by first | exact Nat.le_of_ble_eq_true rfl | omega) hm hs ?_
  refine r_iconst (0 : Int32) hc (dc_at dX9_layParts 17 rfl) (by decide) ?_
  refine r_istore_n [(1, .int ((0 : Int32))), (0, .ref (X.1 + v0))] hc hr (dc_at dX9_layParts 18 rfl) (by decide) rfl ?_
  refine r_iconst (0 : Int32) hc (dc_at dX9_layParts 19 rfl) (by decide) ?_
  refine r_istore_n [(2, .int ((0 : Int32))), (1, .int ((0 : Int32))), (0, .ref (X.1 + v0))] hc hr (dc_at dX9_layParts 20 rfl) (by decide) rfl ?_
  exact gg_sub [2, 1, 0] rfl (tl_X9_layParts_41 hc hr he hm hs  F _ _ _ _ hf)
def m_X9_layParts (F : Nat) (h : PH) (p0 : Nat) : Option (Int32 × PH) := b_X9_layParts_0 F h p0
theorem mt_X9_layParts {l : Launch} {X : XT} {F : Nat} {h hz : PH} {p0 : Nat} {r : Int32} (ex : m_X9_layParts F h p0 = some (r, hz)) : MT l X yX9_layParts cX9_layParts 5 (some .int) 3 176 0 0 [.ref (X.1 + p0)] h (some (.int r)) hz := MT.of (by decide) (Nat.le_of_ble_eq_true rfl) fun M hl hc hr he => by
  subst hl
  exact gg_sub [0] rfl (t_X9_layParts_0  hc hr he (Nat.zero_le _) (Nat.zero_le _) ex)
/-! FractionLift.parts(III)I -/
def lX9_partsL : List (Nat × Instr × Nat × Nat) := [(0, .aload_n 0, 1, 1), (1, .iload_n 1, 1, 2), (2, .iload_n 2, 1, 3), (3, .invokevirtual 132, 3, 6), (6, .ifCond .ne 6, 3, 9), (9, .bipush (-3), 2, 11), (11, .ireturn, 1, 12), (12, .aload_n 0, 1, 13), (13, .invokevirtual 290, 3, 16), (16, .istore 4, 2, 18), (18, .iload 4, 2, 20), (20, .ifCond .lt 8, 3, 23), (23, .iload_n 3, 1, 24), (24, .iconst (-1), 1, 25), (25, .if_icmp .ne 6, 3, 28), (28, .iload 4, 2, 30), (30, .ireturn, 1, 31), (31, .iload_n 3, 1, 32), (32, .ifCond .lt 19, 3, 35), (35, .iload_n 3, 1, 36), (36, .iload 4, 2, 38), (38, .if_icmp .ge 13, 3, 41), (41, .aload_n 0, 1, 42), (42, .getfield 66, 3, 45), (45, .iload_n 3, 1, 46), (46, .laload, 1, 47), (47, .l2i, 1, 48), (48, .goto 4, 3, 51), (51, .iconst (-1), 1, 52), (52, .ireturn, 1, 53)]
set_option maxRecDepth 20000 in
theorem dX9_parts : dcL cX9_parts lX9_partsL = true := by decide +kernel
def b_X9_parts_0 (F : Nat) (h : PH) (v0 : Nat) (v1 : Int32) (v2 : Int32) (v3 : Int32) : Option (Int32 × PH) := cO 9 h v0 (bind2 (m_X9_asksFloor F h v0 v1 v2) fun x1 h2 => (if x1 = 0 then (some ((-3 : Int32), h2)) else (cO 9 h2 v0 (bind2 (m_X9_layParts F h2 v0) fun x3 h4 => (if x3 < 0 then (some (x3, h4)) else (if v3 = (-1 : Int32) then (some (x3, h4)) else (if v3 < 0 then (some ((-1 : Int32), h4)) else (if x3 ≤ v3 then (some ((-1 : Int32), h4)) else ((gR 9 14 h4 v0).bind fun a5 => ((aL h4 a5 v3).bind fun x6 => (some ((Int64.toInt32 x6), h4))))))))))))
set_option maxRecDepth 20000 in
theorem t_X9_parts_0 {M : MV} {X : XT} {F : Nat} {h hz : PH} {r : Int32} {ce sl mc ms : Nat} {v0 : Nat} {v1 : Int32} {v2 : Int32} {v3 : Int32} (hc : Cx M X RX9 cX9_parts) (hr : Rx M 4 234 mc ms 5) (he : Ex M X (some .int) "parts" (some (.int r)) hz mc ms) (hm : ce ≤ mc) (hs : sl ≤ ms) (hf : b_X9_parts_0 F h v0 v1 v2 v3 = some (r, hz)) : GG M X h ce sl 0 [(0, .ref (X.1 + v0)), (1, .int v1), (2, .int v2), (3, .int v3)] [] := by
  unfold b_X9_parts_0 at hf
  refine r_aload_n hc 0 (dc_at dX9_parts 0 rfl) rfl ?_
  refine r_iload_n hc 1 (dc_at dX9_parts 1 rfl) rfl ?_
  refine r_iload_n hc 2 (dc_at dX9_parts 2 rfl) rfl ?_
  obtain ⟨ho, hf⟩ := cO_some hf
  refine ob2 hf fun x1 h2 ex hf => ?_
  refine r_callVi (As := [.int v1, .int v2]) (ci := 9) hc hr (dc_at dX9_parts 3 rfl) ml_X9_132 mv_X9_asksFloor vi_X9_asksFloor rfl ho rfl (mt_X9_asksFloor ex) (by first | exact Nat.le_of_ble_eq_true rfl | omega) (by first | exact Nat.le_of_ble_eq_true rfl | omega) (by first | exact Nat.le_of_ble_eq_true rfl | omega) hm hs ?_
  refine r_if_ne (tgt := 12) hc (dc_at dX9_parts 4 rfl) (by decide) hf (fun hf => ?_) (fun hf => ?_)
  · refine r_aload_n hc 0 (dc_at dX9_parts 7 rfl) rfl ?_
    obtain ⟨ho, hf⟩ := cO_some hf
    refine ob2 hf fun x3 h4 ex hf => ?_
    refine r_callVi (As := []) (ci := 9) hc hr (dc_at dX9_parts 8 rfl) ml_X9_290 mv_X9_layParts vi_X9_layParts rfl ho rfl (mt_X9_layParts ex) (by first | exact Nat.le_of_ble_eq_true rfl | omega) (by first | exact Nat.le_of_ble_eq_true rfl | omega) (by first | exact Nat.le_of_ble_eq_true rfl | omega) hm hs ?_
    refine r_istore [(4, .int x3), (0, .ref (X.1 + v0)), (1, .int v1), (2, .int v2), (3, .int v3)] hc hr (dc_at dX9_parts 9 rfl) (by decide) rfl ?_
    refine r_iload hc 0 (dc_at dX9_parts 10 rfl) rfl ?_
    refine r_if_lt (tgt := 28) hc (dc_at dX9_parts 11 rfl) (by decide) hf (fun hf => ?_) (fun hf => ?_)
    · refine r_iload hc 0 (dc_at dX9_parts 15 rfl) rfl ?_
      exact r_iret hc he (hm) (hs) (dc_at dX9_parts 16 rfl) hf
    · refine r_iload_n hc 4 (dc_at dX9_parts 12 rfl) rfl ?_
      refine r_iconst (-1 : Int32) hc (dc_at dX9_parts 13 rfl) (by decide) ?_
      refine r_icmp_ne (tgt := 31) hc (dc_at dX9_parts 14 rfl) (by decide) hf (fun hf => ?_) (fun hf => ?_)
      · refine r_iload_n hc 4 (dc_at dX9_parts 17 rfl) rfl ?_
        refine r_if_lt (tgt := 51) hc (dc_at dX9_parts 18 rfl) (by decide) hf (fun hf => ?_) (fun hf => ?_)
        · refine r_iconst (-1 : Int32) hc (dc_at dX9_parts 28 rfl) (by decide) ?_
          exact r_iret hc he (hm) (hs) (dc_at dX9_parts 29 rfl) hf
        · refine r_iload_n hc 4 (dc_at dX9_parts 19 rfl) rfl ?_
          refine r_iload hc 0 (dc_at dX9_parts 20 rfl) rfl ?_
          refine r_icmp_ge (tgt := 51) hc (dc_at dX9_parts 21 rfl) (by decide) hf (fun hf => ?_) (fun hf => ?_)
          · refine r_iconst (-1 : Int32) hc (dc_at dX9_parts 28 rfl) (by decide) ?_
            exact r_iret hc he (hm) (hs) (dc_at dX9_parts 29 rfl) hf
          · refine r_aload_n hc 1 (dc_at dX9_parts 22 rfl) rfl ?_
            refine r_getR hc (dc_at dX9_parts 23 rfl) fl_X9_66 hf fun a5 hf => ?_
            refine r_iload_n hc 4 (dc_at dX9_parts 24 rfl) rfl ?_
            refine r_laload hc (dc_at dX9_parts 25 rfl) hf fun x6 hf => ?_
            refine r_l2i hc (dc_at dX9_parts 26 rfl) ?_
            refine r_goto (tgt := 52) hc (dc_at dX9_parts 27 rfl) (by decide) ?_
            exact r_iret hc he (hm) (hs) (dc_at dX9_parts 29 rfl) hf
      · refine r_iload hc 0 (dc_at dX9_parts 15 rfl) rfl ?_
        exact r_iret hc he (hm) (hs) (dc_at dX9_parts 16 rfl) hf
  · refine r_bipush (-3 : Int32) hc (dc_at dX9_parts 5 rfl) (by decide) ?_
    exact r_iret hc he (hm) (hs) (dc_at dX9_parts 6 rfl) hf
def m_X9_parts (F : Nat) (h : PH) (p0 : Nat) (p1 : Int32) (p2 : Int32) (p3 : Int32) : Option (Int32 × PH) := b_X9_parts_0 F h p0 p1 p2 p3
theorem mt_X9_parts {l : Launch} {X : XT} {F : Nat} {h hz : PH} {p0 : Nat} {p1 : Int32} {p2 : Int32} {p3 : Int32} {r : Int32} (ex : m_X9_parts F h p0 p1 p2 p3 = some (r, hz)) : MT l X yX9_parts cX9_parts 5 (some .int) 4 234 0 0 [.ref (X.1 + p0), .int p1, .int p2, .int p3] h (some (.int r)) hz := MT.of (by decide) (Nat.le_of_ble_eq_true rfl) fun M hl hc hr he => by
  subst hl
  exact gg_sub [0, 1, 2, 3] rfl (t_X9_parts_0  hc hr he (Nat.zero_le _) (Nat.zero_le _) ex)
/-! FractionLift.rent(II)J -/
def lX9_rentL : List (Nat × Instr × Nat × Nat) := [(0, .iload_n 1, 1, 1), (1, .ifCond .lt 23, 3, 4), (4, .iload_n 1, 1, 5), (5, .aload_n 0, 1, 6), (6, .getfield 26, 3, 9), (9, .getfield 119, 3, 12), (12, .if_icmp .ge 12, 3, 15), (15, .iload_n 2, 1, 16), (16, .ifCond .lt 8, 3, 19), (19, .iload_n 2, 1, 20), (20, .iconst 1, 1, 21), (21, .if_icmp .le 7, 3, 24), (24, .ldc2_w 172, 3, 27), (27, .lreturn, 1, 28), (28, .aload_n 0, 1, 29), (29, .getfield 26, 3, 32), (32, .iload_n 1, 1, 33), (33, .aload_n 0, 1, 34), (34, .getfield 63, 3, 37), (37, .invokevirtual 293, 3, 40), (40, .aload_n 0, 1, 41), (41, .getfield 63, 3, 44), (44, .iload_n 2, 1, 45), (45, .invokevirtual 180, 3, 48), (48, .lreturn, 1, 49)]
set_option maxRecDepth 20000 in
theorem dX9_rent : dcL cX9_rent lX9_rentL = true := by decide +kernel
def b_X9_rent_0 (F : Nat) (h : PH) (v0 : Nat) (v1 : Int32) (v2 : Int32) : Option (Int64 × PH) := if v1 < 0 then (some ((-2 : Int64), h)) else ((gR 9 4 h v0).bind fun a1 => ((gI 0 15 h a1).bind fun x2 => (if x2 ≤ v1 then (some ((-2 : Int64), h)) else (if v2 < 0 then (some ((-2 : Int64), h)) else (if v2 ≤ (1 : Int32) then ((gR 9 4 h v0).bind fun a3 => ((gR 9 13 h v0).bind fun a4 => (cO 0 h a3 (bind2 (m_X0_rentOf F h a3 v1 a4) fun _ h6 => ((gR 9 13 h6 v0).bind fun a7 => (cO 2 h6 a7 ((m_X2_part h6 a7 v2).bind fun x8 => (some (x8, h6))))))))) else (some ((-2 : Int64), h)))))))
set_option maxRecDepth 20000 in
theorem t_X9_rent_0 {M : MV} {X : XT} {F : Nat} {h hz : PH} {r : Int64} {ce sl mc ms : Nat} {v0 : Nat} {v1 : Int32} {v2 : Int32} (hc : Cx M X RX9 cX9_rent) (hr : Rx M 5 292 mc ms 3) (he : Ex M X (some .long) "rent" (some (.long r)) hz mc ms) (hm : ce ≤ mc) (hs : sl ≤ ms) (hf : b_X9_rent_0 F h v0 v1 v2 = some (r, hz)) : GG M X h ce sl 0 [(0, .ref (X.1 + v0)), (1, .int v1), (2, .int v2)] [] := by
  unfold b_X9_rent_0 at hf
  refine r_iload_n hc 1 (dc_at dX9_rent 0 rfl) rfl ?_
  refine r_if_lt (tgt := 24) hc (dc_at dX9_rent 1 rfl) (by decide) hf (fun hf => ?_) (fun hf => ?_)
  · refine r_ldc2 hc (dc_at dX9_rent 12 rfl) cl2_X9_172 ?_
    exact r_lret hc he (hm) (hs) (dc_at dX9_rent 13 rfl) hf
  · refine r_iload_n hc 1 (dc_at dX9_rent 2 rfl) rfl ?_
    refine r_aload_n hc 0 (dc_at dX9_rent 3 rfl) rfl ?_
    refine r_getR hc (dc_at dX9_rent 4 rfl) fl_X9_26 hf fun a1 hf => ?_
    refine r_getI hc (dc_at dX9_rent 5 rfl) fl_X9_119 hf fun x2 hf => ?_
    refine r_icmp_ge (tgt := 24) hc (dc_at dX9_rent 6 rfl) (by decide) hf (fun hf => ?_) (fun hf => ?_)
    · refine r_ldc2 hc (dc_at dX9_rent 12 rfl) cl2_X9_172 ?_
      exact r_lret hc he (hm) (hs) (dc_at dX9_rent 13 rfl) hf
    · refine r_iload_n hc 2 (dc_at dX9_rent 7 rfl) rfl ?_
      refine r_if_lt (tgt := 24) hc (dc_at dX9_rent 8 rfl) (by decide) hf (fun hf => ?_) (fun hf => ?_)
      · refine r_ldc2 hc (dc_at dX9_rent 12 rfl) cl2_X9_172 ?_
        exact r_lret hc he (hm) (hs) (dc_at dX9_rent 13 rfl) hf
      · refine r_iload_n hc 2 (dc_at dX9_rent 9 rfl) rfl ?_
        refine r_iconst (1 : Int32) hc (dc_at dX9_rent 10 rfl) (by decide) ?_
        refine r_icmp_le (tgt := 28) hc (dc_at dX9_rent 11 rfl) (by decide) hf (fun hf => ?_) (fun hf => ?_)
        · refine r_aload_n hc 0 (dc_at dX9_rent 14 rfl) rfl ?_
          refine r_getR hc (dc_at dX9_rent 15 rfl) fl_X9_26 hf fun a3 hf => ?_
          refine r_iload_n hc 1 (dc_at dX9_rent 16 rfl) rfl ?_
          refine r_aload_n hc 0 (dc_at dX9_rent 17 rfl) rfl ?_
          refine r_getR hc (dc_at dX9_rent 18 rfl) fl_X9_63 hf fun a4 hf => ?_
          obtain ⟨ho, hf⟩ := cO_some hf
          refine ob2 hf fun u h6 ex hf => ?_
          refine r_callVv (As := [.int v1, .ref (X.1 + a4)]) (ci := 0) hc hr (dc_at dX9_rent 19 rfl) ml_X9_293 mv_X0_rentOf vi_X0_rentOf rfl ho rfl (mt_X0_rentOf ex) (by first | exact Nat.le_of_ble_eq_true rfl | omega) (by first | exact Nat.le_of_ble_eq_true rfl | omega) (by first | exact Nat.le_of_ble_eq_true rfl | omega) hm hs ?_
          refine r_aload_n hc 0 (dc_at dX9_rent 20 rfl) rfl ?_
          refine r_getR hc (dc_at dX9_rent 21 rfl) fl_X9_63 hf fun a7 hf => ?_
          refine r_iload_n hc 2 (dc_at dX9_rent 22 rfl) rfl ?_
          obtain ⟨ho, hf⟩ := cO_some hf
          refine ob hf fun x8 ex hf => ?_
          refine r_callVl (As := [.int v2]) (ci := 2) hc hr (dc_at dX9_rent 23 rfl) ml_X9_180 mv_X2_part vi_X2_part rfl ho rfl (mt_X2_part ex) (by first | exact Nat.le_of_ble_eq_true rfl | omega) (by first | exact Nat.le_of_ble_eq_true rfl | omega) (by first | exact Nat.le_of_ble_eq_true rfl | omega) hm hs ?_
          exact r_lret hc he (hm) (hs) (dc_at dX9_rent 24 rfl) hf
        · refine r_ldc2 hc (dc_at dX9_rent 12 rfl) cl2_X9_172 ?_
          exact r_lret hc he (hm) (hs) (dc_at dX9_rent 13 rfl) hf
def m_X9_rent (F : Nat) (h : PH) (p0 : Nat) (p1 : Int32) (p2 : Int32) : Option (Int64 × PH) := b_X9_rent_0 F h p0 p1 p2
theorem mt_X9_rent {l : Launch} {X : XT} {F : Nat} {h hz : PH} {p0 : Nat} {p1 : Int32} {p2 : Int32} {r : Int64} (ex : m_X9_rent F h p0 p1 p2 = some (r, hz)) : MT l X yX9_rent cX9_rent 3 (some .long) 5 292 0 0 [.ref (X.1 + p0), .int p1, .int p2] h (some (.long r)) hz := MT.of (by decide) (Nat.le_of_ble_eq_true rfl) fun M hl hc hr he => by
  subst hl
  exact gg_sub [0, 1, 2] rfl (t_X9_rent_0  hc hr he (Nat.zero_le _) (Nat.zero_le _) ex)
/-! FractionLift.rents()I -/
def lX9_rentsL : List (Nat × Instr × Nat × Nat) := [(0, .lconst 0, 1, 1), (1, .lstore_n 1, 1, 2), (2, .iconst 0, 1, 3), (3, .istore_n 3, 1, 4), (4, .iload_n 3, 1, 5), (5, .aload_n 0, 1, 6), (6, .getfield 26, 3, 9), (9, .getfield 119, 3, 12), (12, .if_icmp .ge 56, 3, 15), (15, .aload_n 0, 1, 16), (16, .getfield 26, 3, 19), (19, .iload_n 3, 1, 20), (20, .aload_n 0, 1, 21), (21, .getfield 63, 3, 24), (24, .invokevirtual 293, 3, 27), (27, .aload_n 0, 1, 28), (28, .getfield 63, 3, 31), (31, .aload_n 0, 1, 32), (32, .getfield 63, 3, 35), (35, .getfield 136, 3, 38), (38, .ldc2_w 297, 3, 41), (41, .lmul, 1, 42), (42, .aload_n 0, 1, 43), (43, .getfield 63, 3, 46), (46, .getfield 140, 3, 49), (49, .invokevirtual 271, 3, 52), (52, .lload_n 1, 1, 53), (53, .aload_n 0, 1, 54), (54, .getfield 63, 3, 57), (57, .invokevirtual 202, 3, 60), (60, .ladd, 1, 61), (61, .lstore_n 1, 1, 62), (62, .iinc 3 1, 3, 65), (65, .goto (-61), 3, 68), (68, .lload_n 1, 1, 69), (69, .l2i, 1, 70), (70, .ireturn, 1, 71)]
set_option maxRecDepth 20000 in
theorem dX9_rents : dcL cX9_rents lX9_rentsL = true := by decide +kernel
def b_X9_rents_4 (F : Nat) (self4 : PH → Nat → Int64 → Int32 → Option (Int32 × PH)) (h : PH) (v0 : Nat) (v1 : Int64) (v3 : Int32) : Option (Int32 × PH) := (gR 9 4 h v0).bind fun a1 => ((gI 0 15 h a1).bind fun x2 => (if x2 ≤ v3 then (some ((Int64.toInt32 v1), h)) else ((gR 9 4 h v0).bind fun a3 => ((gR 9 13 h v0).bind fun a4 => (cO 0 h a3 (bind2 (m_X0_rentOf F h a3 v3 a4) fun _ h6 => ((gR 9 13 h6 v0).bind fun a7 => ((gR 9 13 h6 v0).bind fun a8 => ((gL 2 0 h6 a8).bind fun x9 => ((gR 9 13 h6 v0).bind fun a10 => ((gL 2 1 h6 a10).bind fun x11 => (cO 2 h6 a7 (bind2 (m_X2_put F h6 a7 ((x9 * (100 : Int64))) x11) fun _ h13 => ((gR 9 13 h13 v0).bind fun a14 => (cO 2 h13 a14 ((m_X2_whole h13 a14).bind fun x15 => (bindv (v1 + x15) fun x16 => (bindv (v3 + (1)) fun x17 => (self4 h13 v0 x16 x17)))))))))))))))))))
set_option maxRecDepth 20000 in
theorem tb_X9_rents_4 {M : MV} {X : XT} {F : Nat} {self4 : PH → Nat → Int64 → Int32 → Option (Int32 × PH)} {h hz : PH} {r : Int32} {ce sl mc ms : Nat} {v0 : Nat} {v1 : Int64} {v3 : Int32} (hc : Cx M X RX9 cX9_rents) (hr : Rx M 5 292 mc ms 4) (he : Ex M X (some .int) "rents" (some (.int r)) hz mc ms) (hm : ce ≤ mc) (hs : sl ≤ ms) (ih4 : ∀ (h : PH) (v0 : Nat) (v1 : Int64) (v3 : Int32), self4 h v0 v1 v3 = some (r, hz) → GG M X h ce sl 4 [(0, .ref (X.1 + v0)), (1, .long v1), (3, .int v3)] []) (hf : b_X9_rents_4 F self4 h v0 v1 v3 = some (r, hz)) : GG M X h ce sl 4 [(0, .ref (X.1 + v0)), (1, .long v1), (3, .int v3)] [] := by
  unfold b_X9_rents_4 at hf
  refine r_iload_n hc 2 (dc_at dX9_rents 4 rfl) rfl ?_
  refine r_aload_n hc 0 (dc_at dX9_rents 5 rfl) rfl ?_
  refine r_getR hc (dc_at dX9_rents 6 rfl) fl_X9_26 hf fun a1 hf => ?_
  refine r_getI hc (dc_at dX9_rents 7 rfl) fl_X9_119 hf fun x2 hf => ?_
  refine r_icmp_ge (tgt := 68) hc (dc_at dX9_rents 8 rfl) (by decide) hf (fun hf => ?_) (fun hf => ?_)
  · refine r_lload_n hc 1 (dc_at dX9_rents 34 rfl) rfl ?_
    refine r_l2i hc (dc_at dX9_rents 35 rfl) ?_
    exact r_iret hc he (hm) (hs) (dc_at dX9_rents 36 rfl) hf
  · refine r_aload_n hc 0 (dc_at dX9_rents 9 rfl) rfl ?_
    refine r_getR hc (dc_at dX9_rents 10 rfl) fl_X9_26 hf fun a3 hf => ?_
    refine r_iload_n hc 2 (dc_at dX9_rents 11 rfl) rfl ?_
    refine r_aload_n hc 0 (dc_at dX9_rents 12 rfl) rfl ?_
    refine r_getR hc (dc_at dX9_rents 13 rfl) fl_X9_63 hf fun a4 hf => ?_
    obtain ⟨ho, hf⟩ := cO_some hf
    refine ob2 hf fun u h6 ex hf => ?_
    refine r_callVv (As := [.int v3, .ref (X.1 + a4)]) (ci := 0) hc hr (dc_at dX9_rents 14 rfl) ml_X9_293 mv_X0_rentOf vi_X0_rentOf rfl ho rfl (mt_X0_rentOf ex) (by first | exact Nat.le_of_ble_eq_true rfl | omega) (by first | exact Nat.le_of_ble_eq_true rfl | omega) (by first | exact Nat.le_of_ble_eq_true rfl | omega) hm hs ?_
    refine r_aload_n hc 0 (dc_at dX9_rents 15 rfl) rfl ?_
    refine r_getR hc (dc_at dX9_rents 16 rfl) fl_X9_63 hf fun a7 hf => ?_
    refine r_aload_n hc 0 (dc_at dX9_rents 17 rfl) rfl ?_
    refine r_getR hc (dc_at dX9_rents 18 rfl) fl_X9_63 hf fun a8 hf => ?_
    refine r_getL hc (dc_at dX9_rents 19 rfl) fl_X9_136 hf fun x9 hf => ?_
    refine r_ldc2 hc (dc_at dX9_rents 20 rfl) cl2_X9_297 ?_
    refine r_lmul hc (dc_at dX9_rents 21 rfl) ?_
    refine r_aload_n hc 0 (dc_at dX9_rents 22 rfl) rfl ?_
    refine r_getR hc (dc_at dX9_rents 23 rfl) fl_X9_63 hf fun a10 hf => ?_
    refine r_getL hc (dc_at dX9_rents 24 rfl) fl_X9_140 hf fun x11 hf => ?_
    obtain ⟨ho, hf⟩ := cO_some hf
    refine ob2 hf fun u h13 ex hf => ?_
    refine r_callVv (As := [.long ((x9 * (100 : Int64))), .long x11]) (ci := 2) hc hr (dc_at dX9_rents 25 rfl) ml_X9_271 mv_X2_put vi_X2_put rfl ho rfl (mt_X2_put ex) (by first | exact Nat.le_of_ble_eq_true rfl | omega) (by first | exact Nat.le_of_ble_eq_true rfl | omega) (by first | exact Nat.le_of_ble_eq_true rfl | omega) hm hs ?_
    refine r_lload_n hc 1 (dc_at dX9_rents 26 rfl) rfl ?_
    refine r_aload_n hc 0 (dc_at dX9_rents 27 rfl) rfl ?_
    refine r_getR hc (dc_at dX9_rents 28 rfl) fl_X9_63 hf fun a14 hf => ?_
    obtain ⟨ho, hf⟩ := cO_some hf
    refine ob hf fun x15 ex hf => ?_
    refine r_callVl (As := []) (ci := 2) hc hr (dc_at dX9_rents 29 rfl) ml_X9_202 mv_X2_whole vi_X2_whole rfl ho rfl (mt_X2_whole ex) (by first | exact Nat.le_of_ble_eq_true rfl | omega) (by first | exact Nat.le_of_ble_eq_true rfl | omega) (by first | exact Nat.le_of_ble_eq_true rfl | omega) hm hs ?_
    refine r_ladd hc (dc_at dX9_rents 30 rfl) ?_
    refine r_nm (mk := Value.long) hf fun x16 hf => ?_
    refine r_lstore_n [(1, .long x16), (0, .ref (X.1 + v0)), (3, .int v3)] hc hr (dc_at dX9_rents 31 rfl) (by decide) rfl ?_
    refine obv hf fun x17 e_x17 hf => ?_
    refine r_iinc 2 [(3, .int x17), (1, .long x16), (0, .ref (X.1 + v0))] hc hr (dc_at dX9_rents 32 rfl) rfl (by rw [e_x17]; rfl) (by decide) rfl ?_
    refine r_goto (tgt := 4) hc (dc_at dX9_rents 33 rfl) (by decide) ?_
    exact gg_sub [2, 1, 0] rfl (ih4 _ _ _ _ hf)
def l_X9_rents_4 (F : Nat) : Nat → PH → Nat → Int64 → Int32 → Option (Int32 × PH)
  | 0 => fun _ _ _ _ => none
  | n + 1 => fun h v0 v1 v3 => b_X9_rents_4 F (l_X9_rents_4 F n) h v0 v1 v3
theorem tl_X9_rents_4 {M : MV} {X : XT} {F : Nat} {hz : PH} {r : Int32} {ce sl mc ms : Nat} (hc : Cx M X RX9 cX9_rents) (hr : Rx M 5 292 mc ms 4) (he : Ex M X (some .int) "rents" (some (.int r)) hz mc ms) (hm : ce ≤ mc) (hs : sl ≤ ms) (n : Nat) : ∀ (h : PH) (v0 : Nat) (v1 : Int64) (v3 : Int32), l_X9_rents_4 F n h v0 v1 v3 = some (r, hz) → GG M X h ce sl 4 [(0, .ref (X.1 + v0)), (1, .long v1), (3, .int v3)] [] := by
  induction n with
  | zero => intro h v0 v1 v3 hf; cases hf
  | succ n ih => intro h v0 v1 v3 hf; exact tb_X9_rents_4 (F := F) hc hr he hm hs  ih hf
def b_X9_rents_0 (F : Nat) (h : PH) (v0 : Nat) : Option (Int32 × PH) := l_X9_rents_4 F F h v0 (0 : Int64) (0 : Int32)
set_option maxRecDepth 20000 in
theorem t_X9_rents_0 {M : MV} {X : XT} {F : Nat} {h hz : PH} {r : Int32} {ce sl mc ms : Nat} {v0 : Nat} (hc : Cx M X RX9 cX9_rents) (hr : Rx M 5 292 mc ms 4) (he : Ex M X (some .int) "rents" (some (.int r)) hz mc ms) (hm : ce ≤ mc) (hs : sl ≤ ms) (hf : b_X9_rents_0 F h v0 = some (r, hz)) : GG M X h ce sl 0 [(0, .ref (X.1 + v0))] [] := by
  unfold b_X9_rents_0 at hf
  refine r_lconst (0 : Int64) hc (dc_at dX9_rents 0 rfl) (by decide) ?_
  refine r_lstore_n [(1, .long ((0 : Int64))), (0, .ref (X.1 + v0))] hc hr (dc_at dX9_rents 1 rfl) (by decide) rfl ?_
  refine r_iconst (0 : Int32) hc (dc_at dX9_rents 2 rfl) (by decide) ?_
  refine r_istore_n [(3, .int ((0 : Int32))), (1, .long ((0 : Int64))), (0, .ref (X.1 + v0))] hc hr (dc_at dX9_rents 3 rfl) (by decide) rfl ?_
  exact gg_sub [2, 1, 0] rfl (tl_X9_rents_4 hc hr he hm hs  F _ _ _ _ hf)
def m_X9_rents (F : Nat) (h : PH) (p0 : Nat) : Option (Int32 × PH) := b_X9_rents_0 F h p0
theorem mt_X9_rents {l : Launch} {X : XT} {F : Nat} {h hz : PH} {p0 : Nat} {r : Int32} (ex : m_X9_rents F h p0 = some (r, hz)) : MT l X yX9_rents cX9_rents 4 (some .int) 5 292 0 0 [.ref (X.1 + p0)] h (some (.int r)) hz := MT.of (by decide) (Nat.le_of_ble_eq_true rfl) fun M hl hc hr he => by
  subst hl
  exact gg_sub [0] rfl (t_X9_rents_0  hc hr he (Nat.zero_le _) (Nat.zero_le _) ex)
/-! FractionLift.moves(III)I -/
def lX9_movesL : List (Nat × Instr × Nat × Nat) := [(0, .iload_n 1, 1, 1), (1, .ifCond .lt 14, 3, 4), (4, .iload_n 1, 1, 5), (5, .aload_n 0, 1, 6), (6, .getfield 26, 3, 9), (9, .getfield 119, 3, 12), (12, .if_icmp .lt 6, 3, 15), (15, .bipush (-2), 2, 17), (17, .ireturn, 1, 18), (18, .aload_n 0, 1, 19), (19, .iload_n 2, 1, 20), (20, .iload_n 3, 1, 21), (21, .invokevirtual 132, 3, 24), (24, .ifCond .eq 17, 3, 27), (27, .aload_n 0, 1, 28), (28, .getfield 59, 3, 31), (31, .getfield 140, 3, 34), (34, .ldc2_w 193, 3, 37), (37, .lcmp, 1, 38), (38, .ifCond .le 6, 3, 41), (41, .bipush (-3), 2, 43), (43, .ireturn, 1, 44), (44, .aload_n 0, 1, 45), (45, .getfield 26, 3, 48), (48, .iload_n 1, 1, 49), (49, .aload_n 0, 1, 50), (50, .getfield 63, 3, 53), (53, .invokevirtual 293, 3, 56), (56, .aload_n 0, 1, 57), (57, .getfield 26, 3, 60), (60, .getfield 122, 3, 63), (63, .iload_n 1, 1, 64), (64, .aload_n 0, 1, 65), (65, .getfield 59, 3, 68), (68, .getfield 136, 3, 71), (71, .l2i, 1, 72), (72, .iastore, 1, 73), (73, .aload_n 0, 1, 74), (74, .getfield 26, 3, 77), (77, .getfield 125, 3, 80), (80, .iload_n 1, 1, 81), (81, .aload_n 0, 1, 82), (82, .getfield 59, 3, 85), (85, .getfield 140, 3, 88), (88, .l2i, 1, 89), (89, .iastore, 1, 90), (90, .aload_n 0, 1, 91), (91, .getfield 26, 3, 94), (94, .iload_n 1, 1, 95), (95, .aload_n 0, 1, 96), (96, .getfield 59, 3, 99), (99, .invokevirtual 293, 3, 102), (102, .aload_n 0, 1, 103), (103, .getfield 59, 3, 106), (106, .aload_n 0, 1, 107), (107, .getfield 63, 3, 110), (110, .invokevirtual 275, 3, 113), (113, .ireturn, 1, 114)]
set_option maxRecDepth 20000 in
theorem dX9_moves : dcL cX9_moves lX9_movesL = true := by decide +kernel
def b_X9_moves_0 (F : Nat) (h : PH) (v0 : Nat) (v1 : Int32) (v2 : Int32) (v3 : Int32) : Option (Int32 × PH) := if v1 < 0 then (some ((-2 : Int32), h)) else ((gR 9 4 h v0).bind fun a1 => ((gI 0 15 h a1).bind fun x2 => (if v1 < x2 then (cO 9 h v0 (bind2 (m_X9_asksFloor F h v0 v2 v3) fun x3 h4 => (if x3 = 0 then (some ((-3 : Int32), h4)) else ((gR 9 12 h4 v0).bind fun a5 => ((gL 2 1 h4 a5).bind fun x6 => (if x6 ≤ (99 : Int64) then ((gR 9 4 h4 v0).bind fun a7 => ((gR 9 13 h4 v0).bind fun a8 => (cO 0 h4 a7 (bind2 (m_X0_rentOf F h4 a7 v1 a8) fun _ h10 => ((gR 9 4 h10 v0).bind fun a11 => ((gR 0 16 h10 a11).bind fun a12 => ((gR 9 12 h10 v0).bind fun a13 => ((gL 2 0 h10 a13).bind fun x14 => ((sI 0 h10 a12 v1 (Int64.toInt32 x14)).bind fun h15 => ((gR 9 4 h15 v0).bind fun a16 => ((gR 0 17 h15 a16).bind fun a17 => ((gR 9 12 h15 v0).bind fun a18 => ((gL 2 1 h15 a18).bind fun x19 => ((sI 0 h15 a17 v1 (Int64.toInt32 x19)).bind fun h20 => ((gR 9 4 h20 v0).bind fun a21 => ((gR 9 12 h20 v0).bind fun a22 => (cO 0 h20 a21 (bind2 (m_X0_rentOf F h20 a21 v1 a22) fun _ h24 => ((gR 9 12 h24 v0).bind fun a25 => ((gR 9 13 h24 v0).bind fun a26 => (cO 2 h24 a25 ((m_X2_compared h24 a25 a26).bind fun x27 => (some (x27, h24)))))))))))))))))))))))) else (some ((-3 : Int32), h4)))))))) else (some ((-2 : Int32), h)))))
set_option maxRecDepth 20000 in
theorem t_X9_moves_0 {M : MV} {X : XT} {F : Nat} {h hz : PH} {r : Int32} {ce sl mc ms : Nat} {v0 : Nat} {v1 : Int32} {v2 : Int32} {v3 : Int32} (hc : Cx M X RX9 cX9_moves) (hr : Rx M 5 292 mc ms 4) (he : Ex M X (some .int) "moves" (some (.int r)) hz mc ms) (hm : ce ≤ mc) (hs : sl ≤ ms) (hf : b_X9_moves_0 F h v0 v1 v2 v3 = some (r, hz)) : GG M X h ce sl 0 [(0, .ref (X.1 + v0)), (1, .int v1), (2, .int v2), (3, .int v3)] [] := by
  unfold b_X9_moves_0 at hf
  refine r_iload_n hc 1 (dc_at dX9_moves 0 rfl) rfl ?_
  refine r_if_lt (tgt := 15) hc (dc_at dX9_moves 1 rfl) (by decide) hf (fun hf => ?_) (fun hf => ?_)
  · refine r_bipush (-2 : Int32) hc (dc_at dX9_moves 7 rfl) (by decide) ?_
    exact r_iret hc he (hm) (hs) (dc_at dX9_moves 8 rfl) hf
  · refine r_iload_n hc 1 (dc_at dX9_moves 2 rfl) rfl ?_
    refine r_aload_n hc 0 (dc_at dX9_moves 3 rfl) rfl ?_
    refine r_getR hc (dc_at dX9_moves 4 rfl) fl_X9_26 hf fun a1 hf => ?_
    refine r_getI hc (dc_at dX9_moves 5 rfl) fl_X9_119 hf fun x2 hf => ?_
    refine r_icmp_lt (tgt := 18) hc (dc_at dX9_moves 6 rfl) (by decide) hf (fun hf => ?_) (fun hf => ?_)
    · refine r_aload_n hc 0 (dc_at dX9_moves 9 rfl) rfl ?_
      refine r_iload_n hc 2 (dc_at dX9_moves 10 rfl) rfl ?_
      refine r_iload_n hc 3 (dc_at dX9_moves 11 rfl) rfl ?_
      obtain ⟨ho, hf⟩ := cO_some hf
      refine ob2 hf fun x3 h4 ex hf => ?_
      refine r_callVi (As := [.int v2, .int v3]) (ci := 9) hc hr (dc_at dX9_moves 12 rfl) ml_X9_132 mv_X9_asksFloor vi_X9_asksFloor rfl ho rfl (mt_X9_asksFloor ex) (by first | exact Nat.le_of_ble_eq_true rfl | omega) (by first | exact Nat.le_of_ble_eq_true rfl | omega) (by first | exact Nat.le_of_ble_eq_true rfl | omega) hm hs ?_
      refine r_if_eq (tgt := 41) hc (dc_at dX9_moves 13 rfl) (by decide) hf (fun hf => ?_) (fun hf => ?_)
      · refine r_bipush (-3 : Int32) hc (dc_at dX9_moves 20 rfl) (by decide) ?_
        exact r_iret hc he (hm) (hs) (dc_at dX9_moves 21 rfl) hf
      · refine r_aload_n hc 0 (dc_at dX9_moves 14 rfl) rfl ?_
        refine r_getR hc (dc_at dX9_moves 15 rfl) fl_X9_59 hf fun a5 hf => ?_
        refine r_getL hc (dc_at dX9_moves 16 rfl) fl_X9_140 hf fun x6 hf => ?_
        refine r_ldc2 hc (dc_at dX9_moves 17 rfl) cl2_X9_193 ?_
        refine r_lcmp_le (tgt := 44) hc (dc_at dX9_moves 18 rfl) (dc_at dX9_moves 19 rfl) (by decide) hf (fun hf => ?_) (fun hf => ?_)
        · refine r_aload_n hc 0 (dc_at dX9_moves 22 rfl) rfl ?_
          refine r_getR hc (dc_at dX9_moves 23 rfl) fl_X9_26 hf fun a7 hf => ?_
          refine r_iload_n hc 1 (dc_at dX9_moves 24 rfl) rfl ?_
          refine r_aload_n hc 0 (dc_at dX9_moves 25 rfl) rfl ?_
          refine r_getR hc (dc_at dX9_moves 26 rfl) fl_X9_63 hf fun a8 hf => ?_
          obtain ⟨ho, hf⟩ := cO_some hf
          refine ob2 hf fun u h10 ex hf => ?_
          refine r_callVv (As := [.int v1, .ref (X.1 + a8)]) (ci := 0) hc hr (dc_at dX9_moves 27 rfl) ml_X9_293 mv_X0_rentOf vi_X0_rentOf rfl ho rfl (mt_X0_rentOf ex) (by first | exact Nat.le_of_ble_eq_true rfl | omega) (by first | exact Nat.le_of_ble_eq_true rfl | omega) (by first | exact Nat.le_of_ble_eq_true rfl | omega) hm hs ?_
          refine r_aload_n hc 0 (dc_at dX9_moves 28 rfl) rfl ?_
          refine r_getR hc (dc_at dX9_moves 29 rfl) fl_X9_26 hf fun a11 hf => ?_
          refine r_getR hc (dc_at dX9_moves 30 rfl) fl_X9_122 hf fun a12 hf => ?_
          refine r_iload_n hc 1 (dc_at dX9_moves 31 rfl) rfl ?_
          refine r_aload_n hc 0 (dc_at dX9_moves 32 rfl) rfl ?_
          refine r_getR hc (dc_at dX9_moves 33 rfl) fl_X9_59 hf fun a13 hf => ?_
          refine r_getL hc (dc_at dX9_moves 34 rfl) fl_X9_136 hf fun x14 hf => ?_
          refine r_l2i hc (dc_at dX9_moves 35 rfl) ?_
          refine r_iastore hc (dc_at dX9_moves 36 rfl) hf fun h15 hf => ?_
          refine r_aload_n hc 0 (dc_at dX9_moves 37 rfl) rfl ?_
          refine r_getR hc (dc_at dX9_moves 38 rfl) fl_X9_26 hf fun a16 hf => ?_
          refine r_getR hc (dc_at dX9_moves 39 rfl) fl_X9_125 hf fun a17 hf => ?_
          refine r_iload_n hc 1 (dc_at dX9_moves 40 rfl) rfl ?_
          refine r_aload_n hc 0 (dc_at dX9_moves 41 rfl) rfl ?_
          refine r_getR hc (dc_at dX9_moves 42 rfl) fl_X9_59 hf fun a18 hf => ?_
          refine r_getL hc (dc_at dX9_moves 43 rfl) fl_X9_140 hf fun x19 hf => ?_
          refine r_l2i hc (dc_at dX9_moves 44 rfl) ?_
          refine r_iastore hc (dc_at dX9_moves 45 rfl) hf fun h20 hf => ?_
          refine r_aload_n hc 0 (dc_at dX9_moves 46 rfl) rfl ?_
          refine r_getR hc (dc_at dX9_moves 47 rfl) fl_X9_26 hf fun a21 hf => ?_
          refine r_iload_n hc 1 (dc_at dX9_moves 48 rfl) rfl ?_
          refine r_aload_n hc 0 (dc_at dX9_moves 49 rfl) rfl ?_
          refine r_getR hc (dc_at dX9_moves 50 rfl) fl_X9_59 hf fun a22 hf => ?_
          obtain ⟨ho, hf⟩ := cO_some hf
          refine ob2 hf fun u h24 ex hf => ?_
          refine r_callVv (As := [.int v1, .ref (X.1 + a22)]) (ci := 0) hc hr (dc_at dX9_moves 51 rfl) ml_X9_293 mv_X0_rentOf vi_X0_rentOf rfl ho rfl (mt_X0_rentOf ex) (by first | exact Nat.le_of_ble_eq_true rfl | omega) (by first | exact Nat.le_of_ble_eq_true rfl | omega) (by first | exact Nat.le_of_ble_eq_true rfl | omega) hm hs ?_
          refine r_aload_n hc 0 (dc_at dX9_moves 52 rfl) rfl ?_
          refine r_getR hc (dc_at dX9_moves 53 rfl) fl_X9_59 hf fun a25 hf => ?_
          refine r_aload_n hc 0 (dc_at dX9_moves 54 rfl) rfl ?_
          refine r_getR hc (dc_at dX9_moves 55 rfl) fl_X9_63 hf fun a26 hf => ?_
          obtain ⟨ho, hf⟩ := cO_some hf
          refine ob hf fun x27 ex hf => ?_
          refine r_callVi (As := [.ref (X.1 + a26)]) (ci := 2) hc hr (dc_at dX9_moves 56 rfl) ml_X9_275 mv_X2_compared vi_X2_compared rfl ho rfl (mt_X2_compared ex) (by first | exact Nat.le_of_ble_eq_true rfl | omega) (by first | exact Nat.le_of_ble_eq_true rfl | omega) (by first | exact Nat.le_of_ble_eq_true rfl | omega) hm hs ?_
          exact r_iret hc he (hm) (hs) (dc_at dX9_moves 57 rfl) hf
        · refine r_bipush (-3 : Int32) hc (dc_at dX9_moves 20 rfl) (by decide) ?_
          exact r_iret hc he (hm) (hs) (dc_at dX9_moves 21 rfl) hf
    · refine r_bipush (-2 : Int32) hc (dc_at dX9_moves 7 rfl) (by decide) ?_
      exact r_iret hc he (hm) (hs) (dc_at dX9_moves 8 rfl) hf
def m_X9_moves (F : Nat) (h : PH) (p0 : Nat) (p1 : Int32) (p2 : Int32) (p3 : Int32) : Option (Int32 × PH) := b_X9_moves_0 F h p0 p1 p2 p3
theorem mt_X9_moves {l : Launch} {X : XT} {F : Nat} {h hz : PH} {p0 : Nat} {p1 : Int32} {p2 : Int32} {p3 : Int32} {r : Int32} (ex : m_X9_moves F h p0 p1 p2 p3 = some (r, hz)) : MT l X yX9_moves cX9_moves 4 (some .int) 5 292 0 0 [.ref (X.1 + p0), .int p1, .int p2, .int p3] h (some (.int r)) hz := MT.of (by decide) (Nat.le_of_ble_eq_true rfl) fun M hl hc hr he => by
  subst hl
  exact gg_sub [0, 1, 2, 3] rfl (t_X9_moves_0  hc hr he (Nat.zero_le _) (Nat.zero_le _) ex)
/-! FractionLift.fairUnit(I)J -/
def lX9_fairUnitL : List (Nat × Instr × Nat × Nat) := [(0, .ldc2_w 396, 3, 3), (3, .lstore_n 2, 1, 4), (4, .iconst 0, 1, 5), (5, .istore 4, 2, 7), (7, .iload 4, 2, 9), (9, .aload_n 0, 1, 10), (10, .getfield 26, 3, 13), (13, .getfield 119, 3, 16), (16, .if_icmp .ge 51, 3, 19), (19, .iload 4, 2, 21), (21, .iload_n 1, 1, 22), (22, .if_icmp .eq 39, 3, 25), (25, .aload_n 0, 1, 26), (26, .getfield 26, 3, 29), (29, .getfield 125, 3, 32), (32, .iload 4, 2, 34), (34, .iaload, 1, 35), (35, .i2l, 1, 36), (36, .lstore 5, 2, 38), (38, .lload_n 2, 1, 39), (39, .lload 5, 2, 41), (41, .invokestatic 398, 3, 44), (44, .lstore 7, 2, 46), (46, .lload 7, 2, 48), (48, .lconst 0, 1, 49), (49, .lcmp, 1, 50), (50, .ifCond .le 11, 3, 53), (53, .lload_n 2, 1, 54), (54, .lload 7, 2, 56), (56, .ldiv, 1, 57), (57, .lload 5, 2, 59), (59, .lmul, 1, 60), (60, .lstore_n 2, 1, 61), (61, .iinc 4 1, 3, 64), (64, .goto (-57), 3, 67), (67, .lload_n 2, 1, 68), (68, .lreturn, 1, 69)]
set_option maxRecDepth 20000 in
theorem dX9_fairUnit : dcL cX9_fairUnit lX9_fairUnitL = true := by decide +kernel
def b_X9_fairUnit_61 (F : Nat) (self4 : Nat → Int32 → Int64 → Int32 → Option Int64) (h : PH) (v0 : Nat) (v1 : Int32) (v2 : Int64) (v4 : Int32) : Option Int64 := bindv (v4 + (1)) fun x1 => (self4 v0 v1 v2 x1)
set_option maxRecDepth 20000 in
theorem t_X9_fairUnit_61 {M : MV} {X : XT} {F : Nat} {self4 : Nat → Int32 → Int64 → Int32 → Option Int64} {h : PH} {r : Int64} {ce sl mc ms : Nat} {v0 : Nat} {v1 : Int32} {v2 : Int64} {v4 : Int32} (hc : Cx M X RX9 cX9_fairUnit) (hr : Rx M 2 118 mc ms 9) (he : Ex M X (some .long) "fairUnit" (some (.long r)) h mc ms) (hm : ce ≤ mc) (hs : sl ≤ ms) (ih4 : ∀ (v0 : Nat) (v1 : Int32) (v2 : Int64) (v4 : Int32), self4 v0 v1 v2 v4 = some r → GG M X h ce sl 7 [(0, .ref (X.1 + v0)), (1, .int v1), (2, .long v2), (4, .int v4)] []) (hf : b_X9_fairUnit_61 F self4 h v0 v1 v2 v4 = some r) : GG M X h ce sl 61 [(0, .ref (X.1 + v0)), (1, .int v1), (2, .long v2), (4, .int v4)] [] := by
  unfold b_X9_fairUnit_61 at hf
  refine obv hf fun x1 e_x1 hf => ?_
  refine r_iinc 3 [(4, .int x1), (0, .ref (X.1 + v0)), (1, .int v1), (2, .long v2)] hc hr (dc_at dX9_fairUnit 33 rfl) rfl (by rw [e_x1]; rfl) (by decide) rfl ?_
  refine r_goto (tgt := 7) hc (dc_at dX9_fairUnit 34 rfl) (by decide) ?_
  exact gg_sub [1, 2, 3, 0] rfl (ih4 _ _ _ _ hf)
def b_X9_fairUnit_7 (F : Nat) (self4 : Nat → Int32 → Int64 → Int32 → Option Int64) (h : PH) (v0 : Nat) (v1 : Int32) (v2 : Int64) (v4 : Int32) : Option Int64 := (gR 9 4 h v0).bind fun a1 => ((gI 0 15 h a1).bind fun x2 => (if x2 ≤ v4 then (some v2) else (if v4 = v1 then (b_X9_fairUnit_61 F self4 h v0 v1 v2 v4) else ((gR 9 4 h v0).bind fun a3 => ((gR 0 17 h a3).bind fun a4 => ((aI 0 h a4 v4).bind fun x5 => (bindv (Int32.toInt64 x5) fun x6 => ((m_X9_commonFactor F v2 x6).bind fun x7 => (if x7 ≤ (0 : Int64) then (b_X9_fairUnit_61 F self4 h v0 v1 v2 v4) else (if x7 = 0 then none else (bindv (((v2 / x7) * x6)) fun x8 => (b_X9_fairUnit_61 F self4 h v0 v1 x8 v4))))))))))))
set_option maxRecDepth 20000 in
theorem tb_X9_fairUnit_7 {M : MV} {X : XT} {F : Nat} {self4 : Nat → Int32 → Int64 → Int32 → Option Int64} {h : PH} {r : Int64} {ce sl mc ms : Nat} {v0 : Nat} {v1 : Int32} {v2 : Int64} {v4 : Int32} (hc : Cx M X RX9 cX9_fairUnit) (hr : Rx M 2 118 mc ms 9) (he : Ex M X (some .long) "fairUnit" (some (.long r)) h mc ms) (hm : ce ≤ mc) (hs : sl ≤ ms) (ih4 : ∀ (v0 : Nat) (v1 : Int32) (v2 : Int64) (v4 : Int32), self4 v0 v1 v2 v4 = some r → GG M X h ce sl 7 [(0, .ref (X.1 + v0)), (1, .int v1), (2, .long v2), (4, .int v4)] []) (hf : b_X9_fairUnit_7 F self4 h v0 v1 v2 v4 = some r) : GG M X h ce sl 7 [(0, .ref (X.1 + v0)), (1, .int v1), (2, .long v2), (4, .int v4)] [] := by
  unfold b_X9_fairUnit_7 at hf
  refine r_iload hc 3 (dc_at dX9_fairUnit 4 rfl) rfl ?_
  refine r_aload_n hc 0 (dc_at dX9_fairUnit 5 rfl) rfl ?_
  refine r_getR hc (dc_at dX9_fairUnit 6 rfl) fl_X9_26 hf fun a1 hf => ?_
  refine r_getI hc (dc_at dX9_fairUnit 7 rfl) fl_X9_119 hf fun x2 hf => ?_
  refine r_icmp_ge (tgt := 67) hc (dc_at dX9_fairUnit 8 rfl) (by decide) hf (fun hf => ?_) (fun hf => ?_)
  · refine r_lload_n hc 2 (dc_at dX9_fairUnit 35 rfl) rfl ?_
    exact r_lretP hc he (hm) (hs) (dc_at dX9_fairUnit 36 rfl) hf
  · refine r_iload hc 3 (dc_at dX9_fairUnit 9 rfl) rfl ?_
    refine r_iload_n hc 1 (dc_at dX9_fairUnit 10 rfl) rfl ?_
    refine r_icmp_eq (tgt := 61) hc (dc_at dX9_fairUnit 11 rfl) (by decide) hf (fun hf => ?_) (fun hf => ?_)
    · exact gg_sub [0, 1, 2, 3] rfl (t_X9_fairUnit_61 hc hr he hm hs ih4 hf)
    · refine r_aload_n hc 0 (dc_at dX9_fairUnit 12 rfl) rfl ?_
      refine r_getR hc (dc_at dX9_fairUnit 13 rfl) fl_X9_26 hf fun a3 hf => ?_
      refine r_getR hc (dc_at dX9_fairUnit 14 rfl) fl_X9_125 hf fun a4 hf => ?_
      refine r_iload hc 3 (dc_at dX9_fairUnit 15 rfl) rfl ?_
      refine r_iaload hc (dc_at dX9_fairUnit 16 rfl) hf fun x5 hf => ?_
      refine r_i2l hc (dc_at dX9_fairUnit 17 rfl) ?_
      refine r_nm (mk := Value.long) hf fun x6 hf => ?_
      refine r_lstore [(5, .long x6), (0, .ref (X.1 + v0)), (1, .int v1), (2, .long v2), (4, .int v4)] hc hr (dc_at dX9_fairUnit 18 rfl) (by decide) rfl ?_
      refine r_lload_n hc 3 (dc_at dX9_fairUnit 19 rfl) rfl ?_
      refine r_lload hc 0 (dc_at dX9_fairUnit 20 rfl) rfl ?_
      refine ob hf fun x7 ex hf => ?_
      refine r_callSl (As := [.long v2, .long x6]) hc hr (dc_at dX9_fairUnit 21 rfl) ml_X9_398 mv_X9_commonFactor st_X9_commonFactor rfl (mt_X9_commonFactor ex) (by first | exact Nat.le_of_ble_eq_true rfl | omega) (by first | exact Nat.le_of_ble_eq_true rfl | omega) (by first | exact Nat.le_of_ble_eq_true rfl | omega) hm hs ?_
      refine r_lstore [(7, .long x7), (5, .long x6), (0, .ref (X.1 + v0)), (1, .int v1), (2, .long v2), (4, .int v4)] hc hr (dc_at dX9_fairUnit 22 rfl) (by decide) rfl ?_
      refine r_lload hc 0 (dc_at dX9_fairUnit 23 rfl) rfl ?_
      refine r_lconst (0 : Int64) hc (dc_at dX9_fairUnit 24 rfl) (by decide) ?_
      refine r_lcmp_le (tgt := 61) hc (dc_at dX9_fairUnit 25 rfl) (dc_at dX9_fairUnit 26 rfl) (by decide) hf (fun hf => ?_) (fun hf => ?_)
      · exact gg_sub [2, 3, 4, 5] rfl (t_X9_fairUnit_61 hc hr he hm hs ih4 hf)
      · refine r_lload_n hc 4 (dc_at dX9_fairUnit 27 rfl) rfl ?_
        refine r_lload hc 0 (dc_at dX9_fairUnit 28 rfl) rfl ?_
        refine r_ldiv hc (dc_at dX9_fairUnit 29 rfl) hf (fun hf => ?_)
        refine r_lload hc 1 (dc_at dX9_fairUnit 30 rfl) rfl ?_
        refine r_lmul hc (dc_at dX9_fairUnit 31 rfl) ?_
        refine r_nm (mk := Value.long) hf fun x8 hf => ?_
        refine r_lstore_n [(2, .long x8), (7, .long x7), (5, .long x6), (0, .ref (X.1 + v0)), (1, .int v1), (4, .int v4)] hc hr (dc_at dX9_fairUnit 32 rfl) (by decide) rfl ?_
        exact gg_sub [3, 4, 0, 5] rfl (t_X9_fairUnit_61 hc hr he hm hs ih4 hf)
def l_X9_fairUnit_7 (F : Nat) (h : PH) : Nat → Nat → Int32 → Int64 → Int32 → Option Int64
  | 0 => fun _ _ _ _ => none
  | n + 1 => fun v0 v1 v2 v4 => b_X9_fairUnit_7 F (l_X9_fairUnit_7 F h n) h v0 v1 v2 v4
theorem tl_X9_fairUnit_7 {M : MV} {X : XT} {F : Nat} {h : PH} {r : Int64} {ce sl mc ms : Nat} (hc : Cx M X RX9 cX9_fairUnit) (hr : Rx M 2 118 mc ms 9) (he : Ex M X (some .long) "fairUnit" (some (.long r)) h mc ms) (hm : ce ≤ mc) (hs : sl ≤ ms) (n : Nat) : ∀ (v0 : Nat) (v1 : Int32) (v2 : Int64) (v4 : Int32), l_X9_fairUnit_7 F h n v0 v1 v2 v4 = some r → GG M X h ce sl 7 [(0, .ref (X.1 + v0)), (1, .int v1), (2, .long v2), (4, .int v4)] [] := by
  induction n with
  | zero => intro v0 v1 v2 v4 hf; cases hf
  | succ n ih => intro v0 v1 v2 v4 hf; exact tb_X9_fairUnit_7 (F := F) hc hr he hm hs  ih hf
def b_X9_fairUnit_0 (F : Nat) (h : PH) (v0 : Nat) (v1 : Int32) : Option Int64 := l_X9_fairUnit_7 F h F v0 v1 (27720 : Int64) (0 : Int32)
set_option maxRecDepth 20000 in
theorem t_X9_fairUnit_0 {M : MV} {X : XT} {F : Nat} {h : PH} {r : Int64} {ce sl mc ms : Nat} {v0 : Nat} {v1 : Int32} (hc : Cx M X RX9 cX9_fairUnit) (hr : Rx M 2 118 mc ms 9) (he : Ex M X (some .long) "fairUnit" (some (.long r)) h mc ms) (hm : ce ≤ mc) (hs : sl ≤ ms) (hf : b_X9_fairUnit_0 F h v0 v1 = some r) : GG M X h ce sl 0 [(0, .ref (X.1 + v0)), (1, .int v1)] [] := by
  unfold b_X9_fairUnit_0 at hf
  refine r_ldc2 hc (dc_at dX9_fairUnit 0 rfl) cl2_X9_396 ?_
  refine r_lstore_n [(2, .long ((27720 : Int64))), (0, .ref (X.1 + v0)), (1, .int v1)] hc hr (dc_at dX9_fairUnit 1 rfl) (by decide) rfl ?_
  refine r_iconst (0 : Int32) hc (dc_at dX9_fairUnit 2 rfl) (by decide) ?_
  refine r_istore [(4, .int ((0 : Int32))), (2, .long ((27720 : Int64))), (0, .ref (X.1 + v0)), (1, .int v1)] hc hr (dc_at dX9_fairUnit 3 rfl) (by decide) rfl ?_
  exact gg_sub [2, 3, 1, 0] rfl (tl_X9_fairUnit_7 hc hr he hm hs  F _ _ _ _ hf)
def m_X9_fairUnit (F : Nat) (h : PH) (p0 : Nat) (p1 : Int32) : Option Int64 := b_X9_fairUnit_0 F h p0 p1
theorem mt_X9_fairUnit {l : Launch} {X : XT} {F : Nat} {h : PH} {p0 : Nat} {p1 : Int32} {r : Int64} (ex : m_X9_fairUnit F h p0 p1 = some r) : MT l X yX9_fairUnit cX9_fairUnit 9 (some .long) 2 118 0 0 [.ref (X.1 + p0), .int p1] h (some (.long r)) h := MT.of (by decide) (Nat.le_of_ble_eq_true rfl) fun M hl hc hr he => by
  subst hl
  exact gg_sub [0, 1] rfl (t_X9_fairUnit_0  hc hr he (Nat.zero_le _) (Nat.zero_le _) ex)
/-! FractionLift.farFromOthers(IJJ)J -/
def lX9_farFromOthersL : List (Nat × Instr × Nat × Nat) := [(0, .lconst 0, 1, 1), (1, .lstore 6, 2, 3), (3, .iconst 0, 1, 4), (4, .istore 8, 2, 6), (6, .iload 8, 2, 8), (8, .aload_n 0, 1, 9), (9, .getfield 26, 3, 12), (12, .getfield 119, 3, 15), (15, .if_icmp .ge 62, 3, 18), (18, .aload_n 0, 1, 19), (19, .getfield 26, 3, 22), (22, .getfield 125, 3, 25), (25, .iload 8, 2, 27), (27, .iaload, 1, 28), (28, .i2l, 1, 29), (29, .lstore 9, 2, 31), (31, .iload 8, 2, 33), (33, .iload_n 1, 1, 34), (34, .if_icmp .eq 37, 3, 37), (37, .lload 9, 2, 39), (39, .lconst 0, 1, 40), (40, .lcmp, 1, 41), (41, .ifCond .le 30, 3, 44), (44, .lload 6, 2, 46), (46, .lload_n 2, 1, 47), (47, .lload 4, 2, 49), (49, .lload 9, 2, 51), (51, .ldiv, 1, 52), (52, .aload_n 0, 1, 53), (53, .getfield 26, 3, 56), (56, .getfield 122, 3, 59), (59, .iload 8, 2, 61), (61, .iaload, 1, 62), (62, .i2l, 1, 63), (63, .lmul, 1, 64), (64, .lsub, 1, 65), (65, .invokestatic 402, 3, 68), (68, .ladd, 1, 69), (69, .lstore 6, 2, 71), (71, .iinc 8 1, 3, 74), (74, .goto (-68), 3, 77), (77, .lload 6, 2, 79), (79, .lreturn, 1, 80)]
set_option maxRecDepth 20000 in
theorem dX9_farFromOthers : dcL cX9_farFromOthers lX9_farFromOthersL = true := by decide +kernel
def b_X9_farFromOthers_71 (F : Nat) (self4 : Nat → Int32 → Int64 → Int64 → Int64 → Int32 → Option Int64) (h : PH) (v0 : Nat) (v1 : Int32) (v2 : Int64) (v4 : Int64) (v6 : Int64) (v8 : Int32) : Option Int64 := bindv (v8 + (1)) fun x1 => (self4 v0 v1 v2 v4 v6 x1)
set_option maxRecDepth 20000 in
theorem t_X9_farFromOthers_71 {M : MV} {X : XT} {F : Nat} {self4 : Nat → Int32 → Int64 → Int64 → Int64 → Int32 → Option Int64} {h : PH} {r : Int64} {ce sl mc ms : Nat} {v0 : Nat} {v1 : Int32} {v2 : Int64} {v4 : Int64} {v6 : Int64} {v8 : Int32} (hc : Cx M X RX9 cX9_farFromOthers) (hr : Rx M 1 60 mc ms 11) (he : Ex M X (some .long) "farFromOthers" (some (.long r)) h mc ms) (hm : ce ≤ mc) (hs : sl ≤ ms) (ih4 : ∀ (v0 : Nat) (v1 : Int32) (v2 : Int64) (v4 : Int64) (v6 : Int64) (v8 : Int32), self4 v0 v1 v2 v4 v6 v8 = some r → GG M X h ce sl 6 [(0, .ref (X.1 + v0)), (1, .int v1), (2, .long v2), (4, .long v4), (6, .long v6), (8, .int v8)] []) (hf : b_X9_farFromOthers_71 F self4 h v0 v1 v2 v4 v6 v8 = some r) : GG M X h ce sl 71 [(0, .ref (X.1 + v0)), (1, .int v1), (2, .long v2), (4, .long v4), (6, .long v6), (8, .int v8)] [] := by
  unfold b_X9_farFromOthers_71 at hf
  refine obv hf fun x1 e_x1 hf => ?_
  refine r_iinc 5 [(8, .int x1), (0, .ref (X.1 + v0)), (1, .int v1), (2, .long v2), (4, .long v4), (6, .long v6)] hc hr (dc_at dX9_farFromOthers 39 rfl) rfl (by rw [e_x1]; rfl) (by decide) rfl ?_
  refine r_goto (tgt := 6) hc (dc_at dX9_farFromOthers 40 rfl) (by decide) ?_
  exact gg_sub [1, 2, 3, 4, 5, 0] rfl (ih4 _ _ _ _ _ _ hf)
def b_X9_farFromOthers_6 (F : Nat) (self4 : Nat → Int32 → Int64 → Int64 → Int64 → Int32 → Option Int64) (h : PH) (v0 : Nat) (v1 : Int32) (v2 : Int64) (v4 : Int64) (v6 : Int64) (v8 : Int32) : Option Int64 := (gR 9 4 h v0).bind fun a1 => ((gI 0 15 h a1).bind fun x2 => (if x2 ≤ v8 then (some v6) else ((gR 9 4 h v0).bind fun a3 => ((gR 0 17 h a3).bind fun a4 => ((aI 0 h a4 v8).bind fun x5 => (bindv (Int32.toInt64 x5) fun x6 => (if v8 = v1 then (b_X9_farFromOthers_71 F self4 h v0 v1 v2 v4 v6 v8) else (if x6 ≤ (0 : Int64) then (b_X9_farFromOthers_71 F self4 h v0 v1 v2 v4 v6 v8) else (if x6 = 0 then none else ((gR 9 4 h v0).bind fun a7 => ((gR 0 16 h a7).bind fun a8 => ((aI 0 h a8 v8).bind fun x9 => (bindv ((v6 + ((jabsL ((v2 - (((v4 / x6) * (Int32.toInt64 x9))))))))) fun x10 => (b_X9_farFromOthers_71 F self4 h v0 v1 v2 v4 x10 v8))))))))))))))
set_option maxRecDepth 20000 in
theorem tb_X9_farFromOthers_6 {M : MV} {X : XT} {F : Nat} {self4 : Nat → Int32 → Int64 → Int64 → Int64 → Int32 → Option Int64} {h : PH} {r : Int64} {ce sl mc ms : Nat} {v0 : Nat} {v1 : Int32} {v2 : Int64} {v4 : Int64} {v6 : Int64} {v8 : Int32} (hc : Cx M X RX9 cX9_farFromOthers) (hr : Rx M 1 60 mc ms 11) (he : Ex M X (some .long) "farFromOthers" (some (.long r)) h mc ms) (hm : ce ≤ mc) (hs : sl ≤ ms) (ih4 : ∀ (v0 : Nat) (v1 : Int32) (v2 : Int64) (v4 : Int64) (v6 : Int64) (v8 : Int32), self4 v0 v1 v2 v4 v6 v8 = some r → GG M X h ce sl 6 [(0, .ref (X.1 + v0)), (1, .int v1), (2, .long v2), (4, .long v4), (6, .long v6), (8, .int v8)] []) (hf : b_X9_farFromOthers_6 F self4 h v0 v1 v2 v4 v6 v8 = some r) : GG M X h ce sl 6 [(0, .ref (X.1 + v0)), (1, .int v1), (2, .long v2), (4, .long v4), (6, .long v6), (8, .int v8)] [] := by
  unfold b_X9_farFromOthers_6 at hf
  refine r_iload hc 5 (dc_at dX9_farFromOthers 4 rfl) rfl ?_
  refine r_aload_n hc 0 (dc_at dX9_farFromOthers 5 rfl) rfl ?_
  refine r_getR hc (dc_at dX9_farFromOthers 6 rfl) fl_X9_26 hf fun a1 hf => ?_
  refine r_getI hc (dc_at dX9_farFromOthers 7 rfl) fl_X9_119 hf fun x2 hf => ?_
  refine r_icmp_ge (tgt := 77) hc (dc_at dX9_farFromOthers 8 rfl) (by decide) hf (fun hf => ?_) (fun hf => ?_)
  · refine r_lload hc 4 (dc_at dX9_farFromOthers 41 rfl) rfl ?_
    exact r_lretP hc he (hm) (hs) (dc_at dX9_farFromOthers 42 rfl) hf
  · refine r_aload_n hc 0 (dc_at dX9_farFromOthers 9 rfl) rfl ?_
    refine r_getR hc (dc_at dX9_farFromOthers 10 rfl) fl_X9_26 hf fun a3 hf => ?_
    refine r_getR hc (dc_at dX9_farFromOthers 11 rfl) fl_X9_125 hf fun a4 hf => ?_
    refine r_iload hc 5 (dc_at dX9_farFromOthers 12 rfl) rfl ?_
    refine r_iaload hc (dc_at dX9_farFromOthers 13 rfl) hf fun x5 hf => ?_
    refine r_i2l hc (dc_at dX9_farFromOthers 14 rfl) ?_
    refine r_nm (mk := Value.long) hf fun x6 hf => ?_
    refine r_lstore [(9, .long x6), (0, .ref (X.1 + v0)), (1, .int v1), (2, .long v2), (4, .long v4), (6, .long v6), (8, .int v8)] hc hr (dc_at dX9_farFromOthers 15 rfl) (by decide) rfl ?_
    refine r_iload hc 6 (dc_at dX9_farFromOthers 16 rfl) rfl ?_
    refine r_iload_n hc 2 (dc_at dX9_farFromOthers 17 rfl) rfl ?_
    refine r_icmp_eq (tgt := 71) hc (dc_at dX9_farFromOthers 18 rfl) (by decide) hf (fun hf => ?_) (fun hf => ?_)
    · exact gg_sub [1, 2, 3, 4, 5, 6] rfl (t_X9_farFromOthers_71 hc hr he hm hs ih4 hf)
    · refine r_lload hc 0 (dc_at dX9_farFromOthers 19 rfl) rfl ?_
      refine r_lconst (0 : Int64) hc (dc_at dX9_farFromOthers 20 rfl) (by decide) ?_
      refine r_lcmp_le (tgt := 71) hc (dc_at dX9_farFromOthers 21 rfl) (dc_at dX9_farFromOthers 22 rfl) (by decide) hf (fun hf => ?_) (fun hf => ?_)
      · exact gg_sub [1, 2, 3, 4, 5, 6] rfl (t_X9_farFromOthers_71 hc hr he hm hs ih4 hf)
      · refine r_lload hc 5 (dc_at dX9_farFromOthers 23 rfl) rfl ?_
        refine r_lload_n hc 3 (dc_at dX9_farFromOthers 24 rfl) rfl ?_
        refine r_lload hc 4 (dc_at dX9_farFromOthers 25 rfl) rfl ?_
        refine r_lload hc 0 (dc_at dX9_farFromOthers 26 rfl) rfl ?_
        refine r_ldiv hc (dc_at dX9_farFromOthers 27 rfl) hf (fun hf => ?_)
        refine r_aload_n hc 1 (dc_at dX9_farFromOthers 28 rfl) rfl ?_
        refine r_getR hc (dc_at dX9_farFromOthers 29 rfl) fl_X9_26 hf fun a7 hf => ?_
        refine r_getR hc (dc_at dX9_farFromOthers 30 rfl) fl_X9_122 hf fun a8 hf => ?_
        refine r_iload hc 6 (dc_at dX9_farFromOthers 31 rfl) rfl ?_
        refine r_iaload hc (dc_at dX9_farFromOthers 32 rfl) hf fun x9 hf => ?_
        refine r_i2l hc (dc_at dX9_farFromOthers 33 rfl) ?_
        refine r_lmul hc (dc_at dX9_farFromOthers 34 rfl) ?_
        refine r_lsub hc (dc_at dX9_farFromOthers 35 rfl) ?_
        refine r_mabsL hc hr (dc_at dX9_farFromOthers 36 rfl) ml_X9_402 mv_J9_abs_067f4 st_J9_abs_067f4 (by first | exact Nat.le_of_ble_eq_true rfl | omega) (by first | exact Nat.le_of_ble_eq_true rfl | omega) (hm) (hs) ?_
        refine r_ladd hc (dc_at dX9_farFromOthers 37 rfl) ?_
        refine r_nm (mk := Value.long) hf fun x10 hf => ?_
        refine r_lstore [(6, .long x10), (9, .long x6), (0, .ref (X.1 + v0)), (1, .int v1), (2, .long v2), (4, .long v4), (8, .int v8)] hc hr (dc_at dX9_farFromOthers 38 rfl) (by decide) rfl ?_
        exact gg_sub [2, 3, 4, 5, 0, 6] rfl (t_X9_farFromOthers_71 hc hr he hm hs ih4 hf)
def l_X9_farFromOthers_6 (F : Nat) (h : PH) : Nat → Nat → Int32 → Int64 → Int64 → Int64 → Int32 → Option Int64
  | 0 => fun _ _ _ _ _ _ => none
  | n + 1 => fun v0 v1 v2 v4 v6 v8 => b_X9_farFromOthers_6 F (l_X9_farFromOthers_6 F h n) h v0 v1 v2 v4 v6 v8
theorem tl_X9_farFromOthers_6 {M : MV} {X : XT} {F : Nat} {h : PH} {r : Int64} {ce sl mc ms : Nat} (hc : Cx M X RX9 cX9_farFromOthers) (hr : Rx M 1 60 mc ms 11) (he : Ex M X (some .long) "farFromOthers" (some (.long r)) h mc ms) (hm : ce ≤ mc) (hs : sl ≤ ms) (n : Nat) : ∀ (v0 : Nat) (v1 : Int32) (v2 : Int64) (v4 : Int64) (v6 : Int64) (v8 : Int32), l_X9_farFromOthers_6 F h n v0 v1 v2 v4 v6 v8 = some r → GG M X h ce sl 6 [(0, .ref (X.1 + v0)), (1, .int v1), (2, .long v2), (4, .long v4), (6, .long v6), (8, .int v8)] [] := by
  induction n with
  | zero => intro v0 v1 v2 v4 v6 v8 hf; cases hf
  | succ n ih => intro v0 v1 v2 v4 v6 v8 hf; exact tb_X9_farFromOthers_6 (F := F) hc hr he hm hs  ih hf
def b_X9_farFromOthers_0 (F : Nat) (h : PH) (v0 : Nat) (v1 : Int32) (v2 : Int64) (v4 : Int64) : Option Int64 := l_X9_farFromOthers_6 F h F v0 v1 v2 v4 (0 : Int64) (0 : Int32)
set_option maxRecDepth 20000 in
theorem t_X9_farFromOthers_0 {M : MV} {X : XT} {F : Nat} {h : PH} {r : Int64} {ce sl mc ms : Nat} {v0 : Nat} {v1 : Int32} {v2 : Int64} {v4 : Int64} (hc : Cx M X RX9 cX9_farFromOthers) (hr : Rx M 1 60 mc ms 11) (he : Ex M X (some .long) "farFromOthers" (some (.long r)) h mc ms) (hm : ce ≤ mc) (hs : sl ≤ ms) (hf : b_X9_farFromOthers_0 F h v0 v1 v2 v4 = some r) : GG M X h ce sl 0 [(0, .ref (X.1 + v0)), (1, .int v1), (2, .long v2), (4, .long v4)] [] := by
  unfold b_X9_farFromOthers_0 at hf
  refine r_lconst (0 : Int64) hc (dc_at dX9_farFromOthers 0 rfl) (by decide) ?_
  refine r_lstore [(6, .long ((0 : Int64))), (0, .ref (X.1 + v0)), (1, .int v1), (2, .long v2), (4, .long v4)] hc hr (dc_at dX9_farFromOthers 1 rfl) (by decide) rfl ?_
  refine r_iconst (0 : Int32) hc (dc_at dX9_farFromOthers 2 rfl) (by decide) ?_
  refine r_istore [(8, .int ((0 : Int32))), (6, .long ((0 : Int64))), (0, .ref (X.1 + v0)), (1, .int v1), (2, .long v2), (4, .long v4)] hc hr (dc_at dX9_farFromOthers 3 rfl) (by decide) rfl ?_
  exact gg_sub [2, 3, 4, 5, 1, 0] rfl (tl_X9_farFromOthers_6 hc hr he hm hs  F _ _ _ _ _ _ hf)
def m_X9_farFromOthers (F : Nat) (h : PH) (p0 : Nat) (p1 : Int32) (p2 : Int64) (p4 : Int64) : Option Int64 := b_X9_farFromOthers_0 F h p0 p1 p2 p4
theorem mt_X9_farFromOthers {l : Launch} {X : XT} {F : Nat} {h : PH} {p0 : Nat} {p1 : Int32} {p2 : Int64} {p4 : Int64} {r : Int64} (ex : m_X9_farFromOthers F h p0 p1 p2 p4 = some r) : MT l X yX9_farFromOthers cX9_farFromOthers 11 (some .long) 1 60 0 0 [.ref (X.1 + p0), .int p1, .long p2, .long p4] h (some (.long r)) h := MT.of (by decide) (Nat.le_of_ble_eq_true rfl) fun M hl hc hr he => by
  subst hl
  exact gg_sub [0, 1, 2, 3] rfl (t_X9_farFromOthers_0  hc hr he (Nat.zero_le _) (Nat.zero_le _) ex)
/-! FractionLift.seekFairest(I)V -/
def lX9_seekFairestL : List (Nat × Instr × Nat × Nat) := [(0, .aload_n 0, 1, 1), (1, .iload_n 1, 1, 2), (2, .invokevirtual 389, 3, 5), (5, .lstore_n 2, 1, 6), (6, .ldc2_w 188, 3, 9), (9, .lstore 4, 2, 11), (11, .lconst 0, 1, 12), (12, .lstore 6, 2, 14), (14, .iconst 1, 1, 15), (15, .istore 8, 2, 17), (17, .iload 8, 2, 19), (19, .bipush 12, 2, 21), (21, .if_icmp .gt 103, 3, 24), (24, .lload_n 2, 1, 25), (25, .iload 8, 2, 27), (27, .i2l, 1, 28), (28, .ldiv, 1, 29), (29, .lstore 9, 2, 31), (31, .iconst 0, 1, 32), (32, .istore 11, 2, 34), (34, .iload 11, 2, 36), (36, .aload_n 0, 1, 37), (37, .getfield 26, 3, 40), (40, .getfield 283, 3, 43), (43, .iload 8, 2, 45), (45, .imul, 1, 46), (46, .if_icmp .gt 72, 3, 49), (49, .aload_n 0, 1, 50), (50, .iload_n 1, 1, 51), (51, .iload 11, 2, 53), (53, .i2l, 1, 54), (54, .lload 9, 2, 56), (56, .lmul, 1, 57), (57, .lload_n 2, 1, 58), (58, .invokevirtual 392, 3, 61), (61, .lstore 12, 2, 63), (63, .lload 4, 2, 65), (65, .ldc2_w 188, 3, 68), (68, .lcmp, 1, 69), (69, .ifCond .eq 31, 3, 72), (72, .lload 12, 2, 74), (74, .lload 4, 2, 76), (76, .lcmp, 1, 77), (77, .ifCond .lt 23, 3, 80), (80, .lload 12, 2, 82), (82, .lload 4, 2, 84), (84, .lcmp, 1, 85), (85, .ifCond .ne 27, 3, 88), (88, .iload 11, 2, 90), (90, .i2l, 1, 91), (91, .lload 9, 2, 93), (93, .lmul, 1, 94), (94, .lload 6, 2, 96), (96, .lcmp, 1, 97), (97, .ifCond .ge 15, 3, 100), (100, .lload 12, 2, 102), (102, .lstore 4, 2, 104), (104, .iload 11, 2, 106), (106, .i2l, 1, 107), (107, .lload 9, 2, 109), (109, .lmul, 1, 110), (110, .lstore 6, 2, 112), (112, .iinc 11 1, 3, 115), (115, .goto (-81), 3, 118), (118, .iinc 8 1, 3, 121), (121, .goto (-104), 3, 124), (124, .aload_n 0, 1, 125), (125, .getfield 59, 3, 128), (128, .lload 6, 2, 130), (130, .lload_n 2, 1, 131), (131, .invokevirtual 271, 3, 134), (134, .aload_n 0, 1, 135), (135, .getfield 63, 3, 138), (138, .lload 4, 2, 140), (140, .lload_n 2, 1, 141), (141, .invokevirtual 271, 3, 144), (144, .return_, 1, 145)]
set_option maxRecDepth 20000 in
theorem dX9_seekFairest : dcL cX9_seekFairest lX9_seekFairestL = true := by decide +kernel
def b_X9_seekFairest_112 (F : Nat) (self10 : PH → Nat → Int32 → Int64 → Int64 → Int64 → Int32 → Option (Unit × PH)) (self20 : PH → Nat → Int32 → Int64 → Int64 → Int64 → Int32 → Int64 → Int32 → Option (Unit × PH)) (h : PH) (v0 : Nat) (v1 : Int32) (v2 : Int64) (v4 : Int64) (v6 : Int64) (v8 : Int32) (v9 : Int64) (v11 : Int32) : Option (Unit × PH) := bindv (v11 + (1)) fun x1 => (self20 h v0 v1 v2 v4 v6 v8 v9 x1)
set_option maxRecDepth 20000 in
theorem t_X9_seekFairest_112 {M : MV} {X : XT} {F : Nat} {self10 : PH → Nat → Int32 → Int64 → Int64 → Int64 → Int32 → Option (Unit × PH)} {self20 : PH → Nat → Int32 → Int64 → Int64 → Int64 → Int32 → Int64 → Int32 → Option (Unit × PH)} {h hz : PH} {r : Unit} {ce sl mc ms : Nat} {v0 : Nat} {v1 : Int32} {v2 : Int64} {v4 : Int64} {v6 : Int64} {v8 : Int32} {v9 : Int64} {v11 : Int32} (hc : Cx M X RX9 cX9_seekFairest) (hr : Rx M 3 176 mc ms 14) (he : Ex M X none "seekFairest" none hz mc ms) (hm : ce ≤ mc) (hs : sl ≤ ms) (ih10 : ∀ (h : PH) (v0 : Nat) (v1 : Int32) (v2 : Int64) (v4 : Int64) (v6 : Int64) (v8 : Int32), self10 h v0 v1 v2 v4 v6 v8 = some (r, hz) → GG M X h ce sl 17 [(0, .ref (X.1 + v0)), (1, .int v1), (2, .long v2), (4, .long v4), (6, .long v6), (8, .int v8)] []) (ih20 : ∀ (h : PH) (v0 : Nat) (v1 : Int32) (v2 : Int64) (v4 : Int64) (v6 : Int64) (v8 : Int32) (v9 : Int64) (v11 : Int32), self20 h v0 v1 v2 v4 v6 v8 v9 v11 = some (r, hz) → GG M X h ce sl 34 [(0, .ref (X.1 + v0)), (1, .int v1), (2, .long v2), (4, .long v4), (6, .long v6), (8, .int v8), (9, .long v9), (11, .int v11)] []) (hf : b_X9_seekFairest_112 F self10 self20 h v0 v1 v2 v4 v6 v8 v9 v11 = some (r, hz)) : GG M X h ce sl 112 [(0, .ref (X.1 + v0)), (1, .int v1), (2, .long v2), (4, .long v4), (6, .long v6), (8, .int v8), (9, .long v9), (11, .int v11)] [] := by
  unfold b_X9_seekFairest_112 at hf
  refine obv hf fun x1 e_x1 hf => ?_
  refine r_iinc 7 [(11, .int x1), (0, .ref (X.1 + v0)), (1, .int v1), (2, .long v2), (4, .long v4), (6, .long v6), (8, .int v8), (9, .long v9)] hc hr (dc_at dX9_seekFairest 62 rfl) rfl (by rw [e_x1]; rfl) (by decide) rfl ?_
  refine r_goto (tgt := 34) hc (dc_at dX9_seekFairest 63 rfl) (by decide) ?_
  exact gg_sub [1, 2, 3, 4, 5, 6, 7, 0] rfl (ih20 _ _ _ _ _ _ _ _ _ hf)
def b_X9_seekFairest_100 (F : Nat) (self10 : PH → Nat → Int32 → Int64 → Int64 → Int64 → Int32 → Option (Unit × PH)) (self20 : PH → Nat → Int32 → Int64 → Int64 → Int64 → Int32 → Int64 → Int32 → Option (Unit × PH)) (h : PH) (v0 : Nat) (v1 : Int32) (v2 : Int64) (v8 : Int32) (v9 : Int64) (v11 : Int32) (v12 : Int64) : Option (Unit × PH) := bindv (((Int32.toInt64 v11) * v9)) fun x1 => (b_X9_seekFairest_112 F self10 self20 h v0 v1 v2 v12 x1 v8 v9 v11)
set_option maxRecDepth 20000 in
theorem t_X9_seekFairest_100 {M : MV} {X : XT} {F : Nat} {self10 : PH → Nat → Int32 → Int64 → Int64 → Int64 → Int32 → Option (Unit × PH)} {self20 : PH → Nat → Int32 → Int64 → Int64 → Int64 → Int32 → Int64 → Int32 → Option (Unit × PH)} {h hz : PH} {r : Unit} {ce sl mc ms : Nat} {v0 : Nat} {v1 : Int32} {v2 : Int64} {v8 : Int32} {v9 : Int64} {v11 : Int32} {v12 : Int64} (hc : Cx M X RX9 cX9_seekFairest) (hr : Rx M 3 176 mc ms 14) (he : Ex M X none "seekFairest" none hz mc ms) (hm : ce ≤ mc) (hs : sl ≤ ms) (ih10 : ∀ (h : PH) (v0 : Nat) (v1 : Int32) (v2 : Int64) (v4 : Int64) (v6 : Int64) (v8 : Int32), self10 h v0 v1 v2 v4 v6 v8 = some (r, hz) → GG M X h ce sl 17 [(0, .ref (X.1 + v0)), (1, .int v1), (2, .long v2), (4, .long v4), (6, .long v6), (8, .int v8)] []) (ih20 : ∀ (h : PH) (v0 : Nat) (v1 : Int32) (v2 : Int64) (v4 : Int64) (v6 : Int64) (v8 : Int32) (v9 : Int64) (v11 : Int32), self20 h v0 v1 v2 v4 v6 v8 v9 v11 = some (r, hz) → GG M X h ce sl 34 [(0, .ref (X.1 + v0)), (1, .int v1), (2, .long v2), (4, .long v4), (6, .long v6), (8, .int v8), (9, .long v9), (11, .int v11)] []) (hf : b_X9_seekFairest_100 F self10 self20 h v0 v1 v2 v8 v9 v11 v12 = some (r, hz)) : GG M X h ce sl 100 [(0, .ref (X.1 + v0)), (1, .int v1), (2, .long v2), (8, .int v8), (9, .long v9), (11, .int v11), (12, .long v12)] [] := by
  unfold b_X9_seekFairest_100 at hf
  refine r_lload hc 6 (dc_at dX9_seekFairest 55 rfl) rfl ?_
  refine r_lstore [(4, .long v12), (0, .ref (X.1 + v0)), (1, .int v1), (2, .long v2), (8, .int v8), (9, .long v9), (11, .int v11), (12, .long v12)] hc hr (dc_at dX9_seekFairest 56 rfl) (by decide) rfl ?_
  refine r_iload hc 6 (dc_at dX9_seekFairest 57 rfl) rfl ?_
  refine r_i2l hc (dc_at dX9_seekFairest 58 rfl) ?_
  refine r_lload hc 5 (dc_at dX9_seekFairest 59 rfl) rfl ?_
  refine r_lmul hc (dc_at dX9_seekFairest 60 rfl) ?_
  refine r_nm (mk := Value.long) hf fun x1 hf => ?_
  refine r_lstore [(6, .long x1), (4, .long v12), (0, .ref (X.1 + v0)), (1, .int v1), (2, .long v2), (8, .int v8), (9, .long v9), (11, .int v11), (12, .long v12)] hc hr (dc_at dX9_seekFairest 61 rfl) (by decide) rfl ?_
  exact gg_sub [2, 3, 4, 1, 0, 5, 6, 7] rfl (t_X9_seekFairest_112 hc hr he hm hs ih10 ih20 hf)
def b_X9_seekFairest_34 (F : Nat) (self10 : PH → Nat → Int32 → Int64 → Int64 → Int64 → Int32 → Option (Unit × PH)) (self20 : PH → Nat → Int32 → Int64 → Int64 → Int64 → Int32 → Int64 → Int32 → Option (Unit × PH)) (h : PH) (v0 : Nat) (v1 : Int32) (v2 : Int64) (v4 : Int64) (v6 : Int64) (v8 : Int32) (v9 : Int64) (v11 : Int32) : Option (Unit × PH) := (gR 9 4 h v0).bind fun a1 => ((gI 0 0 h a1).bind fun x2 => (if (x2 * v8) < v11 then (bindv (v8 + (1)) fun x3 => (self10 h v0 v1 v2 v4 v6 x3)) else (cO 9 h v0 ((m_X9_farFromOthers F h v0 v1 (((Int32.toInt64 v11) * v9)) v2).bind fun x4 => (if v4 = (-1 : Int64) then (b_X9_seekFairest_100 F self10 self20 h v0 v1 v2 v8 v9 v11 x4) else (if x4 < v4 then (b_X9_seekFairest_100 F self10 self20 h v0 v1 v2 v8 v9 v11 x4) else (if x4 = v4 then (if v6 ≤ (((Int32.toInt64 v11) * v9)) then (b_X9_seekFairest_112 F self10 self20 h v0 v1 v2 v4 v6 v8 v9 v11) else (b_X9_seekFairest_100 F self10 self20 h v0 v1 v2 v8 v9 v11 x4)) else (b_X9_seekFairest_112 F self10 self20 h v0 v1 v2 v4 v6 v8 v9 v11))))))))
set_option maxRecDepth 20000 in
theorem tb_X9_seekFairest_34 {M : MV} {X : XT} {F : Nat} {self10 : PH → Nat → Int32 → Int64 → Int64 → Int64 → Int32 → Option (Unit × PH)} {self20 : PH → Nat → Int32 → Int64 → Int64 → Int64 → Int32 → Int64 → Int32 → Option (Unit × PH)} {h hz : PH} {r : Unit} {ce sl mc ms : Nat} {v0 : Nat} {v1 : Int32} {v2 : Int64} {v4 : Int64} {v6 : Int64} {v8 : Int32} {v9 : Int64} {v11 : Int32} (hc : Cx M X RX9 cX9_seekFairest) (hr : Rx M 3 176 mc ms 14) (he : Ex M X none "seekFairest" none hz mc ms) (hm : ce ≤ mc) (hs : sl ≤ ms) (ih10 : ∀ (h : PH) (v0 : Nat) (v1 : Int32) (v2 : Int64) (v4 : Int64) (v6 : Int64) (v8 : Int32), self10 h v0 v1 v2 v4 v6 v8 = some (r, hz) → GG M X h ce sl 17 [(0, .ref (X.1 + v0)), (1, .int v1), (2, .long v2), (4, .long v4), (6, .long v6), (8, .int v8)] []) (ih20 : ∀ (h : PH) (v0 : Nat) (v1 : Int32) (v2 : Int64) (v4 : Int64) (v6 : Int64) (v8 : Int32) (v9 : Int64) (v11 : Int32), self20 h v0 v1 v2 v4 v6 v8 v9 v11 = some (r, hz) → GG M X h ce sl 34 [(0, .ref (X.1 + v0)), (1, .int v1), (2, .long v2), (4, .long v4), (6, .long v6), (8, .int v8), (9, .long v9), (11, .int v11)] []) (hf : b_X9_seekFairest_34 F self10 self20 h v0 v1 v2 v4 v6 v8 v9 v11 = some (r, hz)) : GG M X h ce sl 34 [(0, .ref (X.1 + v0)), (1, .int v1), (2, .long v2), (4, .long v4), (6, .long v6), (8, .int v8), (9, .long v9), (11, .int v11)] [] := by
  unfold b_X9_seekFairest_34 at hf
  refine r_iload hc 7 (dc_at dX9_seekFairest 20 rfl) rfl ?_
  refine r_aload_n hc 0 (dc_at dX9_seekFairest 21 rfl) rfl ?_
  refine r_getR hc (dc_at dX9_seekFairest 22 rfl) fl_X9_26 hf fun a1 hf => ?_
  refine r_getI hc (dc_at dX9_seekFairest 23 rfl) fl_X9_283 hf fun x2 hf => ?_
  refine r_iload hc 5 (dc_at dX9_seekFairest 24 rfl) rfl ?_
  refine r_imul hc (dc_at dX9_seekFairest 25 rfl) ?_
  refine r_icmp_gt (tgt := 118) hc (dc_at dX9_seekFairest 26 rfl) (by decide) hf (fun hf => ?_) (fun hf => ?_)
  · refine obv hf fun x3 e_x3 hf => ?_
    refine r_iinc 5 [(8, .int x3), (0, .ref (X.1 + v0)), (1, .int v1), (2, .long v2), (4, .long v4), (6, .long v6), (9, .long v9), (11, .int v11)] hc hr (dc_at dX9_seekFairest 64 rfl) rfl (by rw [e_x3]; rfl) (by decide) rfl ?_
    refine r_goto (tgt := 17) hc (dc_at dX9_seekFairest 65 rfl) (by decide) ?_
    exact gg_sub [1, 2, 3, 4, 5, 0] rfl (ih10 _ _ _ _ _ _ _ hf)
  · refine r_aload_n hc 0 (dc_at dX9_seekFairest 27 rfl) rfl ?_
    refine r_iload_n hc 1 (dc_at dX9_seekFairest 28 rfl) rfl ?_
    refine r_iload hc 7 (dc_at dX9_seekFairest 29 rfl) rfl ?_
    refine r_i2l hc (dc_at dX9_seekFairest 30 rfl) ?_
    refine r_lload hc 6 (dc_at dX9_seekFairest 31 rfl) rfl ?_
    refine r_lmul hc (dc_at dX9_seekFairest 32 rfl) ?_
    refine r_lload_n hc 2 (dc_at dX9_seekFairest 33 rfl) rfl ?_
    obtain ⟨ho, hf⟩ := cO_some hf
    refine ob hf fun x4 ex hf => ?_
    refine r_callVl (As := [.int v1, .long (((Int32.toInt64 v11) * v9)), .long v2]) (ci := 9) hc hr (dc_at dX9_seekFairest 34 rfl) ml_X9_392 mv_X9_farFromOthers vi_X9_farFromOthers rfl ho rfl (mt_X9_farFromOthers ex) (by first | exact Nat.le_of_ble_eq_true rfl | omega) (by first | exact Nat.le_of_ble_eq_true rfl | omega) (by first | exact Nat.le_of_ble_eq_true rfl | omega) hm hs ?_
    refine r_lstore [(12, .long x4), (0, .ref (X.1 + v0)), (1, .int v1), (2, .long v2), (4, .long v4), (6, .long v6), (8, .int v8), (9, .long v9), (11, .int v11)] hc hr (dc_at dX9_seekFairest 35 rfl) (by decide) rfl ?_
    refine r_lload hc 4 (dc_at dX9_seekFairest 36 rfl) rfl ?_
    refine r_ldc2 hc (dc_at dX9_seekFairest 37 rfl) cl2_X9_188 ?_
    refine r_lcmp_eq (tgt := 100) hc (dc_at dX9_seekFairest 38 rfl) (dc_at dX9_seekFairest 39 rfl) (by decide) hf (fun hf => ?_) (fun hf => ?_)
    · exact gg_sub [1, 2, 3, 6, 7, 8, 0] rfl (t_X9_seekFairest_100 hc hr he hm hs ih10 ih20 hf)
    · refine r_lload hc 0 (dc_at dX9_seekFairest 40 rfl) rfl ?_
      refine r_lload hc 4 (dc_at dX9_seekFairest 41 rfl) rfl ?_
      refine r_lcmp_lt (tgt := 100) hc (dc_at dX9_seekFairest 42 rfl) (dc_at dX9_seekFairest 43 rfl) (by decide) hf (fun hf => ?_) (fun hf => ?_)
      · exact gg_sub [1, 2, 3, 6, 7, 8, 0] rfl (t_X9_seekFairest_100 hc hr he hm hs ih10 ih20 hf)
      · refine r_lload hc 0 (dc_at dX9_seekFairest 44 rfl) rfl ?_
        refine r_lload hc 4 (dc_at dX9_seekFairest 45 rfl) rfl ?_
        refine r_lcmp_ne (tgt := 112) hc (dc_at dX9_seekFairest 46 rfl) (dc_at dX9_seekFairest 47 rfl) (by decide) hf (fun hf => ?_) (fun hf => ?_)
        · exact gg_sub [1, 2, 3, 4, 5, 6, 7, 8] rfl (t_X9_seekFairest_112 hc hr he hm hs ih10 ih20 hf)
        · refine r_iload hc 8 (dc_at dX9_seekFairest 48 rfl) rfl ?_
          refine r_i2l hc (dc_at dX9_seekFairest 49 rfl) ?_
          refine r_lload hc 7 (dc_at dX9_seekFairest 50 rfl) rfl ?_
          refine r_lmul hc (dc_at dX9_seekFairest 51 rfl) ?_
          refine r_lload hc 5 (dc_at dX9_seekFairest 52 rfl) rfl ?_
          refine r_lcmp_ge (tgt := 112) hc (dc_at dX9_seekFairest 53 rfl) (dc_at dX9_seekFairest 54 rfl) (by decide) hf (fun hf => ?_) (fun hf => ?_)
          · exact gg_sub [1, 2, 3, 4, 5, 6, 7, 8] rfl (t_X9_seekFairest_112 hc hr he hm hs ih10 ih20 hf)
          · exact gg_sub [1, 2, 3, 6, 7, 8, 0] rfl (t_X9_seekFairest_100 hc hr he hm hs ih10 ih20 hf)
def l_X9_seekFairest_34 (F : Nat) (self10 : PH → Nat → Int32 → Int64 → Int64 → Int64 → Int32 → Option (Unit × PH)) : Nat → PH → Nat → Int32 → Int64 → Int64 → Int64 → Int32 → Int64 → Int32 → Option (Unit × PH)
  | 0 => fun _ _ _ _ _ _ _ _ _ => none
  | n + 1 => fun h v0 v1 v2 v4 v6 v8 v9 v11 => b_X9_seekFairest_34 F self10 (l_X9_seekFairest_34 F self10 n) h v0 v1 v2 v4 v6 v8 v9 v11
theorem tl_X9_seekFairest_34 {M : MV} {X : XT} {F : Nat} {self10 : PH → Nat → Int32 → Int64 → Int64 → Int64 → Int32 → Option (Unit × PH)} {hz : PH} {r : Unit} {ce sl mc ms : Nat} (hc : Cx M X RX9 cX9_seekFairest) (hr : Rx M 3 176 mc ms 14) (he : Ex M X none "seekFairest" none hz mc ms) (hm : ce ≤ mc) (hs : sl ≤ ms) (ih10 : ∀ (h : PH) (v0 : Nat) (v1 : Int32) (v2 : Int64) (v4 : Int64) (v6 : Int64) (v8 : Int32), self10 h v0 v1 v2 v4 v6 v8 = some (r, hz) → GG M X h ce sl 17 [(0, .ref (X.1 + v0)), (1, .int v1), (2, .long v2), (4, .long v4), (6, .long v6), (8, .int v8)] []) (n : Nat) : ∀ (h : PH) (v0 : Nat) (v1 : Int32) (v2 : Int64) (v4 : Int64) (v6 : Int64) (v8 : Int32) (v9 : Int64) (v11 : Int32), l_X9_seekFairest_34 F self10 n h v0 v1 v2 v4 v6 v8 v9 v11 = some (r, hz) → GG M X h ce sl 34 [(0, .ref (X.1 + v0)), (1, .int v1), (2, .long v2), (4, .long v4), (6, .long v6), (8, .int v8), (9, .long v9), (11, .int v11)] [] := by
  induction n with
  | zero => intro h v0 v1 v2 v4 v6 v8 v9 v11 hf; cases hf
  | succ n ih => intro h v0 v1 v2 v4 v6 v8 v9 v11 hf; exact tb_X9_seekFairest_34 (F := F) hc hr he hm hs ih10 ih hf
def b_X9_seekFairest_17 (F : Nat) (self10 : PH → Nat → Int32 → Int64 → Int64 → Int64 → Int32 → Option (Unit × PH)) (h : PH) (v0 : Nat) (v1 : Int32) (v2 : Int64) (v4 : Int64) (v6 : Int64) (v8 : Int32) : Option (Unit × PH) := if (12 : Int32) < v8 then ((gR 9 12 h v0).bind fun a1 => (cO 2 h a1 (bind2 (m_X2_put F h a1 v6 v2) fun _ h3 => ((gR 9 13 h3 v0).bind fun a4 => (cO 2 h3 a4 (bind2 (m_X2_put F h3 a4 v4 v2) fun _ h6 => (some ((), h6)))))))) else (if (Int32.toInt64 v8) = 0 then none else (bindv ((v2 / (Int32.toInt64 v8))) fun x7 => (l_X9_seekFairest_34 F self10 F h v0 v1 v2 v4 v6 v8 x7 (0 : Int32))))
set_option maxRecDepth 20000 in
theorem tb_X9_seekFairest_17 {M : MV} {X : XT} {F : Nat} {self10 : PH → Nat → Int32 → Int64 → Int64 → Int64 → Int32 → Option (Unit × PH)} {h hz : PH} {r : Unit} {ce sl mc ms : Nat} {v0 : Nat} {v1 : Int32} {v2 : Int64} {v4 : Int64} {v6 : Int64} {v8 : Int32} (hc : Cx M X RX9 cX9_seekFairest) (hr : Rx M 3 176 mc ms 14) (he : Ex M X none "seekFairest" none hz mc ms) (hm : ce ≤ mc) (hs : sl ≤ ms) (ih10 : ∀ (h : PH) (v0 : Nat) (v1 : Int32) (v2 : Int64) (v4 : Int64) (v6 : Int64) (v8 : Int32), self10 h v0 v1 v2 v4 v6 v8 = some (r, hz) → GG M X h ce sl 17 [(0, .ref (X.1 + v0)), (1, .int v1), (2, .long v2), (4, .long v4), (6, .long v6), (8, .int v8)] []) (hf : b_X9_seekFairest_17 F self10 h v0 v1 v2 v4 v6 v8 = some (r, hz)) : GG M X h ce sl 17 [(0, .ref (X.1 + v0)), (1, .int v1), (2, .long v2), (4, .long v4), (6, .long v6), (8, .int v8)] [] := by
  unfold b_X9_seekFairest_17 at hf
  refine r_iload hc 5 (dc_at dX9_seekFairest 10 rfl) rfl ?_
  refine r_bipush (12 : Int32) hc (dc_at dX9_seekFairest 11 rfl) (by decide) ?_
  refine r_icmp_gt (tgt := 124) hc (dc_at dX9_seekFairest 12 rfl) (by decide) hf (fun hf => ?_) (fun hf => ?_)
  · refine r_aload_n hc 0 (dc_at dX9_seekFairest 66 rfl) rfl ?_
    refine r_getR hc (dc_at dX9_seekFairest 67 rfl) fl_X9_59 hf fun a1 hf => ?_
    refine r_lload hc 4 (dc_at dX9_seekFairest 68 rfl) rfl ?_
    refine r_lload_n hc 2 (dc_at dX9_seekFairest 69 rfl) rfl ?_
    obtain ⟨ho, hf⟩ := cO_some hf
    refine ob2 hf fun u h3 ex hf => ?_
    refine r_callVv (As := [.long v6, .long v2]) (ci := 2) hc hr (dc_at dX9_seekFairest 70 rfl) ml_X9_271 mv_X2_put vi_X2_put rfl ho rfl (mt_X2_put ex) (by first | exact Nat.le_of_ble_eq_true rfl | omega) (by first | exact Nat.le_of_ble_eq_true rfl | omega) (by first | exact Nat.le_of_ble_eq_true rfl | omega) hm hs ?_
    refine r_aload_n hc 0 (dc_at dX9_seekFairest 71 rfl) rfl ?_
    refine r_getR hc (dc_at dX9_seekFairest 72 rfl) fl_X9_63 hf fun a4 hf => ?_
    refine r_lload hc 3 (dc_at dX9_seekFairest 73 rfl) rfl ?_
    refine r_lload_n hc 2 (dc_at dX9_seekFairest 74 rfl) rfl ?_
    obtain ⟨ho, hf⟩ := cO_some hf
    refine ob2 hf fun u h6 ex hf => ?_
    refine r_callVv (As := [.long v4, .long v2]) (ci := 2) hc hr (dc_at dX9_seekFairest 75 rfl) ml_X9_271 mv_X2_put vi_X2_put rfl ho rfl (mt_X2_put ex) (by first | exact Nat.le_of_ble_eq_true rfl | omega) (by first | exact Nat.le_of_ble_eq_true rfl | omega) (by first | exact Nat.le_of_ble_eq_true rfl | omega) hm hs ?_
    exact r_vret hc he (hm) (hs) (dc_at dX9_seekFairest 76 rfl) hf
  · refine r_lload_n hc 2 (dc_at dX9_seekFairest 13 rfl) rfl ?_
    refine r_iload hc 5 (dc_at dX9_seekFairest 14 rfl) rfl ?_
    refine r_i2l hc (dc_at dX9_seekFairest 15 rfl) ?_
    refine r_ldiv hc (dc_at dX9_seekFairest 16 rfl) hf (fun hf => ?_)
    refine r_nm (mk := Value.long) hf fun x7 hf => ?_
    refine r_lstore [(9, .long x7), (0, .ref (X.1 + v0)), (1, .int v1), (2, .long v2), (4, .long v4), (6, .long v6), (8, .int v8)] hc hr (dc_at dX9_seekFairest 17 rfl) (by decide) rfl ?_
    refine r_iconst (0 : Int32) hc (dc_at dX9_seekFairest 18 rfl) (by decide) ?_
    refine r_istore [(11, .int ((0 : Int32))), (9, .long x7), (0, .ref (X.1 + v0)), (1, .int v1), (2, .long v2), (4, .long v4), (6, .long v6), (8, .int v8)] hc hr (dc_at dX9_seekFairest 19 rfl) (by decide) rfl ?_
    exact gg_sub [2, 3, 4, 5, 6, 7, 1, 0] rfl (tl_X9_seekFairest_34 hc hr he hm hs ih10 F _ _ _ _ _ _ _ _ _ hf)
def l_X9_seekFairest_17 (F : Nat) : Nat → PH → Nat → Int32 → Int64 → Int64 → Int64 → Int32 → Option (Unit × PH)
  | 0 => fun _ _ _ _ _ _ _ => none
  | n + 1 => fun h v0 v1 v2 v4 v6 v8 => b_X9_seekFairest_17 F (l_X9_seekFairest_17 F n) h v0 v1 v2 v4 v6 v8
theorem tl_X9_seekFairest_17 {M : MV} {X : XT} {F : Nat} {hz : PH} {r : Unit} {ce sl mc ms : Nat} (hc : Cx M X RX9 cX9_seekFairest) (hr : Rx M 3 176 mc ms 14) (he : Ex M X none "seekFairest" none hz mc ms) (hm : ce ≤ mc) (hs : sl ≤ ms) (n : Nat) : ∀ (h : PH) (v0 : Nat) (v1 : Int32) (v2 : Int64) (v4 : Int64) (v6 : Int64) (v8 : Int32), l_X9_seekFairest_17 F n h v0 v1 v2 v4 v6 v8 = some (r, hz) → GG M X h ce sl 17 [(0, .ref (X.1 + v0)), (1, .int v1), (2, .long v2), (4, .long v4), (6, .long v6), (8, .int v8)] [] := by
  induction n with
  | zero => intro h v0 v1 v2 v4 v6 v8 hf; cases hf
  | succ n ih => intro h v0 v1 v2 v4 v6 v8 hf; exact tb_X9_seekFairest_17 (F := F) hc hr he hm hs  ih hf
def b_X9_seekFairest_0 (F : Nat) (h : PH) (v0 : Nat) (v1 : Int32) : Option (Unit × PH) := cO 9 h v0 ((m_X9_fairUnit F h v0 v1).bind fun x1 => (l_X9_seekFairest_17 F F h v0 v1 x1 (-1 : Int64) (0 : Int64) (1 : Int32)))
set_option maxRecDepth 20000 in
theorem t_X9_seekFairest_0 {M : MV} {X : XT} {F : Nat} {h hz : PH} {r : Unit} {ce sl mc ms : Nat} {v0 : Nat} {v1 : Int32} (hc : Cx M X RX9 cX9_seekFairest) (hr : Rx M 3 176 mc ms 14) (he : Ex M X none "seekFairest" none hz mc ms) (hm : ce ≤ mc) (hs : sl ≤ ms) (hf : b_X9_seekFairest_0 F h v0 v1 = some (r, hz)) : GG M X h ce sl 0 [(0, .ref (X.1 + v0)), (1, .int v1)] [] := by
  unfold b_X9_seekFairest_0 at hf
  refine r_aload_n hc 0 (dc_at dX9_seekFairest 0 rfl) rfl ?_
  refine r_iload_n hc 1 (dc_at dX9_seekFairest 1 rfl) rfl ?_
  obtain ⟨ho, hf⟩ := cO_some hf
  refine ob hf fun x1 ex hf => ?_
  refine r_callVl (As := [.int v1]) (ci := 9) hc hr (dc_at dX9_seekFairest 2 rfl) ml_X9_389 mv_X9_fairUnit vi_X9_fairUnit rfl ho rfl (mt_X9_fairUnit ex) (by first | exact Nat.le_of_ble_eq_true rfl | omega) (by first | exact Nat.le_of_ble_eq_true rfl | omega) (by first | exact Nat.le_of_ble_eq_true rfl | omega) hm hs ?_
  refine r_lstore_n [(2, .long x1), (0, .ref (X.1 + v0)), (1, .int v1)] hc hr (dc_at dX9_seekFairest 3 rfl) (by decide) rfl ?_
  refine r_ldc2 hc (dc_at dX9_seekFairest 4 rfl) cl2_X9_188 ?_
  refine r_lstore [(4, .long ((-1 : Int64))), (2, .long x1), (0, .ref (X.1 + v0)), (1, .int v1)] hc hr (dc_at dX9_seekFairest 5 rfl) (by decide) rfl ?_
  refine r_lconst (0 : Int64) hc (dc_at dX9_seekFairest 6 rfl) (by decide) ?_
  refine r_lstore [(6, .long ((0 : Int64))), (4, .long ((-1 : Int64))), (2, .long x1), (0, .ref (X.1 + v0)), (1, .int v1)] hc hr (dc_at dX9_seekFairest 7 rfl) (by decide) rfl ?_
  refine r_iconst (1 : Int32) hc (dc_at dX9_seekFairest 8 rfl) (by decide) ?_
  refine r_istore [(8, .int ((1 : Int32))), (6, .long ((0 : Int64))), (4, .long ((-1 : Int64))), (2, .long x1), (0, .ref (X.1 + v0)), (1, .int v1)] hc hr (dc_at dX9_seekFairest 9 rfl) (by decide) rfl ?_
  exact gg_sub [4, 5, 3, 2, 1, 0] rfl (tl_X9_seekFairest_17 hc hr he hm hs  F _ _ _ _ _ _ _ hf)
def m_X9_seekFairest (F : Nat) (h : PH) (p0 : Nat) (p1 : Int32) : Option (Unit × PH) := b_X9_seekFairest_0 F h p0 p1
theorem mt_X9_seekFairest {l : Launch} {X : XT} {F : Nat} {h hz : PH} {p0 : Nat} {p1 : Int32} {r : Unit} (ex : m_X9_seekFairest F h p0 p1 = some (r, hz)) : MT l X yX9_seekFairest cX9_seekFairest 14 none 3 176 0 0 [.ref (X.1 + p0), .int p1] h none hz := MT.of (by decide) (Nat.le_of_ble_eq_true rfl) fun M hl hc hr he => by
  subst hl
  exact gg_sub [0, 1] rfl (t_X9_seekFairest_0  hc hr he (Nat.zero_le _) (Nat.zero_le _) ex)
/-! FractionLift.fairest(II)J -/
def lX9_fairestL : List (Nat × Instr × Nat × Nat) := [(0, .iload_n 1, 1, 1), (1, .ifCond .lt 23, 3, 4), (4, .iload_n 1, 1, 5), (5, .aload_n 0, 1, 6), (6, .getfield 26, 3, 9), (9, .getfield 119, 3, 12), (12, .if_icmp .ge 12, 3, 15), (15, .iload_n 2, 1, 16), (16, .ifCond .lt 8, 3, 19), (19, .iload_n 2, 1, 20), (20, .iconst 3, 1, 21), (21, .if_icmp .le 7, 3, 24), (24, .ldc2_w 172, 3, 27), (27, .lreturn, 1, 28), (28, .aload_n 0, 1, 29), (29, .getfield 26, 3, 32), (32, .getfield 119, 3, 35), (35, .iconst 2, 1, 36), (36, .if_icmp .ge 7, 3, 39), (39, .ldc2_w 188, 3, 42), (42, .lreturn, 1, 43), (43, .aload_n 0, 1, 44), (44, .iload_n 1, 1, 45), (45, .invokevirtual 299, 3, 48), (48, .iload_n 2, 1, 49), (49, .iconst 2, 1, 50), (50, .if_icmp .ge 14, 3, 53), (53, .aload_n 0, 1, 54), (54, .getfield 59, 3, 57), (57, .iload_n 2, 1, 58), (58, .invokevirtual 180, 3, 61), (61, .goto 13, 3, 64), (64, .aload_n 0, 1, 65), (65, .getfield 63, 3, 68), (68, .iload_n 2, 1, 69), (69, .iconst 2, 1, 70), (70, .isub, 1, 71), (71, .invokevirtual 180, 3, 74), (74, .lreturn, 1, 75)]
set_option maxRecDepth 20000 in
theorem dX9_fairest : dcL cX9_fairest lX9_fairestL = true := by decide +kernel
def b_X9_fairest_0 (F : Nat) (h : PH) (v0 : Nat) (v1 : Int32) (v2 : Int32) : Option (Int64 × PH) := if v1 < 0 then (some ((-2 : Int64), h)) else ((gR 9 4 h v0).bind fun a1 => ((gI 0 15 h a1).bind fun x2 => (if x2 ≤ v1 then (some ((-2 : Int64), h)) else (if v2 < 0 then (some ((-2 : Int64), h)) else (if v2 ≤ (3 : Int32) then ((gR 9 4 h v0).bind fun a3 => ((gI 0 15 h a3).bind fun x4 => (if (2 : Int32) ≤ x4 then (cO 9 h v0 (bind2 (m_X9_seekFairest F h v0 v1) fun _ h6 => (if (2 : Int32) ≤ v2 then ((gR 9 13 h6 v0).bind fun a7 => (cO 2 h6 a7 ((m_X2_part h6 a7 ((v2 - (2 : Int32)))).bind fun x8 => (some (x8, h6))))) else ((gR 9 12 h6 v0).bind fun a9 => (cO 2 h6 a9 ((m_X2_part h6 a9 v2).bind fun x10 => (some (x10, h6)))))))) else (some ((-1 : Int64), h))))) else (some ((-2 : Int64), h)))))))
set_option maxRecDepth 20000 in
theorem t_X9_fairest_0 {M : MV} {X : XT} {F : Nat} {h hz : PH} {r : Int64} {ce sl mc ms : Nat} {v0 : Nat} {v1 : Int32} {v2 : Int32} (hc : Cx M X RX9 cX9_fairest) (hr : Rx M 4 234 mc ms 3) (he : Ex M X (some .long) "fairest" (some (.long r)) hz mc ms) (hm : ce ≤ mc) (hs : sl ≤ ms) (hf : b_X9_fairest_0 F h v0 v1 v2 = some (r, hz)) : GG M X h ce sl 0 [(0, .ref (X.1 + v0)), (1, .int v1), (2, .int v2)] [] := by
  unfold b_X9_fairest_0 at hf
  refine r_iload_n hc 1 (dc_at dX9_fairest 0 rfl) rfl ?_
  refine r_if_lt (tgt := 24) hc (dc_at dX9_fairest 1 rfl) (by decide) hf (fun hf => ?_) (fun hf => ?_)
  · refine r_ldc2 hc (dc_at dX9_fairest 12 rfl) cl2_X9_172 ?_
    exact r_lret hc he (hm) (hs) (dc_at dX9_fairest 13 rfl) hf
  · refine r_iload_n hc 1 (dc_at dX9_fairest 2 rfl) rfl ?_
    refine r_aload_n hc 0 (dc_at dX9_fairest 3 rfl) rfl ?_
    refine r_getR hc (dc_at dX9_fairest 4 rfl) fl_X9_26 hf fun a1 hf => ?_
    refine r_getI hc (dc_at dX9_fairest 5 rfl) fl_X9_119 hf fun x2 hf => ?_
    refine r_icmp_ge (tgt := 24) hc (dc_at dX9_fairest 6 rfl) (by decide) hf (fun hf => ?_) (fun hf => ?_)
    · refine r_ldc2 hc (dc_at dX9_fairest 12 rfl) cl2_X9_172 ?_
      exact r_lret hc he (hm) (hs) (dc_at dX9_fairest 13 rfl) hf
    · refine r_iload_n hc 2 (dc_at dX9_fairest 7 rfl) rfl ?_
      refine r_if_lt (tgt := 24) hc (dc_at dX9_fairest 8 rfl) (by decide) hf (fun hf => ?_) (fun hf => ?_)
      · refine r_ldc2 hc (dc_at dX9_fairest 12 rfl) cl2_X9_172 ?_
        exact r_lret hc he (hm) (hs) (dc_at dX9_fairest 13 rfl) hf
      · refine r_iload_n hc 2 (dc_at dX9_fairest 9 rfl) rfl ?_
        refine r_iconst (3 : Int32) hc (dc_at dX9_fairest 10 rfl) (by decide) ?_
        refine r_icmp_le (tgt := 28) hc (dc_at dX9_fairest 11 rfl) (by decide) hf (fun hf => ?_) (fun hf => ?_)
        · refine r_aload_n hc 0 (dc_at dX9_fairest 14 rfl) rfl ?_
          refine r_getR hc (dc_at dX9_fairest 15 rfl) fl_X9_26 hf fun a3 hf => ?_
          refine r_getI hc (dc_at dX9_fairest 16 rfl) fl_X9_119 hf fun x4 hf => ?_
          refine r_iconst (2 : Int32) hc (dc_at dX9_fairest 17 rfl) (by decide) ?_
          refine r_icmp_ge (tgt := 43) hc (dc_at dX9_fairest 18 rfl) (by decide) hf (fun hf => ?_) (fun hf => ?_)
          · refine r_aload_n hc 0 (dc_at dX9_fairest 21 rfl) rfl ?_
            refine r_iload_n hc 1 (dc_at dX9_fairest 22 rfl) rfl ?_
            obtain ⟨ho, hf⟩ := cO_some hf
            refine ob2 hf fun u h6 ex hf => ?_
            refine r_callVv (As := [.int v1]) (ci := 9) hc hr (dc_at dX9_fairest 23 rfl) ml_X9_299 mv_X9_seekFairest vi_X9_seekFairest rfl ho rfl (mt_X9_seekFairest ex) (by first | exact Nat.le_of_ble_eq_true rfl | omega) (by first | exact Nat.le_of_ble_eq_true rfl | omega) (by first | exact Nat.le_of_ble_eq_true rfl | omega) hm hs ?_
            refine r_iload_n hc 2 (dc_at dX9_fairest 24 rfl) rfl ?_
            refine r_iconst (2 : Int32) hc (dc_at dX9_fairest 25 rfl) (by decide) ?_
            refine r_icmp_ge (tgt := 64) hc (dc_at dX9_fairest 26 rfl) (by decide) hf (fun hf => ?_) (fun hf => ?_)
            · refine r_aload_n hc 0 (dc_at dX9_fairest 32 rfl) rfl ?_
              refine r_getR hc (dc_at dX9_fairest 33 rfl) fl_X9_63 hf fun a7 hf => ?_
              refine r_iload_n hc 2 (dc_at dX9_fairest 34 rfl) rfl ?_
              refine r_iconst (2 : Int32) hc (dc_at dX9_fairest 35 rfl) (by decide) ?_
              refine r_isub hc (dc_at dX9_fairest 36 rfl) ?_
              obtain ⟨ho, hf⟩ := cO_some hf
              refine ob hf fun x8 ex hf => ?_
              refine r_callVl (As := [.int ((v2 - (2 : Int32)))]) (ci := 2) hc hr (dc_at dX9_fairest 37 rfl) ml_X9_180 mv_X2_part vi_X2_part rfl ho rfl (mt_X2_part ex) (by first | exact Nat.le_of_ble_eq_true rfl | omega) (by first | exact Nat.le_of_ble_eq_true rfl | omega) (by first | exact Nat.le_of_ble_eq_true rfl | omega) hm hs ?_
              exact r_lret hc he (hm) (hs) (dc_at dX9_fairest 38 rfl) hf
            · refine r_aload_n hc 0 (dc_at dX9_fairest 27 rfl) rfl ?_
              refine r_getR hc (dc_at dX9_fairest 28 rfl) fl_X9_59 hf fun a9 hf => ?_
              refine r_iload_n hc 2 (dc_at dX9_fairest 29 rfl) rfl ?_
              obtain ⟨ho, hf⟩ := cO_some hf
              refine ob hf fun x10 ex hf => ?_
              refine r_callVl (As := [.int v2]) (ci := 2) hc hr (dc_at dX9_fairest 30 rfl) ml_X9_180 mv_X2_part vi_X2_part rfl ho rfl (mt_X2_part ex) (by first | exact Nat.le_of_ble_eq_true rfl | omega) (by first | exact Nat.le_of_ble_eq_true rfl | omega) (by first | exact Nat.le_of_ble_eq_true rfl | omega) hm hs ?_
              refine r_goto (tgt := 74) hc (dc_at dX9_fairest 31 rfl) (by decide) ?_
              exact r_lret hc he (hm) (hs) (dc_at dX9_fairest 38 rfl) hf
          · refine r_ldc2 hc (dc_at dX9_fairest 19 rfl) cl2_X9_188 ?_
            exact r_lret hc he (hm) (hs) (dc_at dX9_fairest 20 rfl) hf
        · refine r_ldc2 hc (dc_at dX9_fairest 12 rfl) cl2_X9_172 ?_
          exact r_lret hc he (hm) (hs) (dc_at dX9_fairest 13 rfl) hf
def m_X9_fairest (F : Nat) (h : PH) (p0 : Nat) (p1 : Int32) (p2 : Int32) : Option (Int64 × PH) := b_X9_fairest_0 F h p0 p1 p2
theorem mt_X9_fairest {l : Launch} {X : XT} {F : Nat} {h hz : PH} {p0 : Nat} {p1 : Int32} {p2 : Int32} {r : Int64} (ex : m_X9_fairest F h p0 p1 p2 = some (r, hz)) : MT l X yX9_fairest cX9_fairest 3 (some .long) 4 234 0 0 [.ref (X.1 + p0), .int p1, .int p2] h (some (.long r)) hz := MT.of (by decide) (Nat.le_of_ble_eq_true rfl) fun M hl hc hr he => by
  subst hl
  exact gg_sub [0, 1, 2] rfl (t_X9_fairest_0  hc hr he (Nat.zero_le _) (Nat.zero_le _) ex)
/-! FractionLift.richest()I -/
def lX9_richestL : List (Nat × Instr × Nat × Nat) := [(0, .iconst (-1), 1, 1), (1, .istore_n 1, 1, 2), (2, .iconst 0, 1, 3), (3, .istore_n 2, 1, 4), (4, .iload_n 2, 1, 5), (5, .aload_n 0, 1, 6), (6, .getfield 26, 3, 9), (9, .getfield 119, 3, 12), (12, .if_icmp .ge 63, 3, 15), (15, .aload_n 0, 1, 16), (16, .getfield 26, 3, 19), (19, .iload_n 2, 1, 20), (20, .aload_n 0, 1, 21), (21, .getfield 63, 3, 24), (24, .invokevirtual 293, 3, 27), (27, .iload_n 1, 1, 28), (28, .iconst (-1), 1, 29), (29, .if_icmp .eq 17, 3, 32), (32, .aload_n 0, 1, 33), (33, .getfield 63, 3, 36), (36, .aload_n 0, 1, 37), (37, .getfield 59, 3, 40), (40, .invokevirtual 275, 3, 43), (43, .ifCond .le 26, 3, 46), (46, .iload_n 2, 1, 47), (47, .istore_n 1, 1, 48), (48, .aload_n 0, 1, 49), (49, .getfield 59, 3, 52), (52, .aload_n 0, 1, 53), (53, .getfield 63, 3, 56), (56, .getfield 136, 3, 59), (59, .aload_n 0, 1, 60), (60, .getfield 63, 3, 63), (63, .getfield 140, 3, 66), (66, .invokevirtual 271, 3, 69), (69, .iinc 2 1, 3, 72), (72, .goto (-68), 3, 75), (75, .iload_n 1, 1, 76), (76, .ireturn, 1, 77)]
set_option maxRecDepth 20000 in
theorem dX9_richest : dcL cX9_richest lX9_richestL = true := by decide +kernel
def b_X9_richest_69 (F : Nat) (self4 : PH → Nat → Int32 → Int32 → Option (Int32 × PH)) (h : PH) (v0 : Nat) (v1 : Int32) (v2 : Int32) : Option (Int32 × PH) := bindv (v2 + (1)) fun x1 => (self4 h v0 v1 x1)
set_option maxRecDepth 20000 in
theorem t_X9_richest_69 {M : MV} {X : XT} {F : Nat} {self4 : PH → Nat → Int32 → Int32 → Option (Int32 × PH)} {h hz : PH} {r : Int32} {ce sl mc ms : Nat} {v0 : Nat} {v1 : Int32} {v2 : Int32} (hc : Cx M X RX9 cX9_richest) (hr : Rx M 5 292 mc ms 3) (he : Ex M X (some .int) "richest" (some (.int r)) hz mc ms) (hm : ce ≤ mc) (hs : sl ≤ ms) (ih4 : ∀ (h : PH) (v0 : Nat) (v1 : Int32) (v2 : Int32), self4 h v0 v1 v2 = some (r, hz) → GG M X h ce sl 4 [(0, .ref (X.1 + v0)), (1, .int v1), (2, .int v2)] []) (hf : b_X9_richest_69 F self4 h v0 v1 v2 = some (r, hz)) : GG M X h ce sl 69 [(0, .ref (X.1 + v0)), (1, .int v1), (2, .int v2)] [] := by
  unfold b_X9_richest_69 at hf
  refine obv hf fun x1 e_x1 hf => ?_
  refine r_iinc 2 [(2, .int x1), (0, .ref (X.1 + v0)), (1, .int v1)] hc hr (dc_at dX9_richest 35 rfl) rfl (by rw [e_x1]; rfl) (by decide) rfl ?_
  refine r_goto (tgt := 4) hc (dc_at dX9_richest 36 rfl) (by decide) ?_
  exact gg_sub [1, 2, 0] rfl (ih4 _ _ _ _ hf)
def b_X9_richest_46 (F : Nat) (self4 : PH → Nat → Int32 → Int32 → Option (Int32 × PH)) (h : PH) (v0 : Nat) (v2 : Int32) : Option (Int32 × PH) := (gR 9 12 h v0).bind fun a1 => ((gR 9 13 h v0).bind fun a2 => ((gL 2 0 h a2).bind fun x3 => ((gR 9 13 h v0).bind fun a4 => ((gL 2 1 h a4).bind fun x5 => (cO 2 h a1 (bind2 (m_X2_put F h a1 x3 x5) fun _ h7 => (b_X9_richest_69 F self4 h7 v0 v2 v2)))))))
set_option maxRecDepth 20000 in
theorem t_X9_richest_46 {M : MV} {X : XT} {F : Nat} {self4 : PH → Nat → Int32 → Int32 → Option (Int32 × PH)} {h hz : PH} {r : Int32} {ce sl mc ms : Nat} {v0 : Nat} {v2 : Int32} (hc : Cx M X RX9 cX9_richest) (hr : Rx M 5 292 mc ms 3) (he : Ex M X (some .int) "richest" (some (.int r)) hz mc ms) (hm : ce ≤ mc) (hs : sl ≤ ms) (ih4 : ∀ (h : PH) (v0 : Nat) (v1 : Int32) (v2 : Int32), self4 h v0 v1 v2 = some (r, hz) → GG M X h ce sl 4 [(0, .ref (X.1 + v0)), (1, .int v1), (2, .int v2)] []) (hf : b_X9_richest_46 F self4 h v0 v2 = some (r, hz)) : GG M X h ce sl 46 [(0, .ref (X.1 + v0)), (2, .int v2)] [] := by
  unfold b_X9_richest_46 at hf
  refine r_iload_n hc 1 (dc_at dX9_richest 24 rfl) rfl ?_
  refine r_istore_n [(1, .int v2), (0, .ref (X.1 + v0)), (2, .int v2)] hc hr (dc_at dX9_richest 25 rfl) (by decide) rfl ?_
  refine r_aload_n hc 1 (dc_at dX9_richest 26 rfl) rfl ?_
  refine r_getR hc (dc_at dX9_richest 27 rfl) fl_X9_59 hf fun a1 hf => ?_
  refine r_aload_n hc 1 (dc_at dX9_richest 28 rfl) rfl ?_
  refine r_getR hc (dc_at dX9_richest 29 rfl) fl_X9_63 hf fun a2 hf => ?_
  refine r_getL hc (dc_at dX9_richest 30 rfl) fl_X9_136 hf fun x3 hf => ?_
  refine r_aload_n hc 1 (dc_at dX9_richest 31 rfl) rfl ?_
  refine r_getR hc (dc_at dX9_richest 32 rfl) fl_X9_63 hf fun a4 hf => ?_
  refine r_getL hc (dc_at dX9_richest 33 rfl) fl_X9_140 hf fun x5 hf => ?_
  obtain ⟨ho, hf⟩ := cO_some hf
  refine ob2 hf fun u h7 ex hf => ?_
  refine r_callVv (As := [.long x3, .long x5]) (ci := 2) hc hr (dc_at dX9_richest 34 rfl) ml_X9_271 mv_X2_put vi_X2_put rfl ho rfl (mt_X2_put ex) (by first | exact Nat.le_of_ble_eq_true rfl | omega) (by first | exact Nat.le_of_ble_eq_true rfl | omega) (by first | exact Nat.le_of_ble_eq_true rfl | omega) hm hs ?_
  exact gg_sub [1, 0, 2] rfl (t_X9_richest_69 hc hr he hm hs ih4 hf)
def b_X9_richest_4 (F : Nat) (self4 : PH → Nat → Int32 → Int32 → Option (Int32 × PH)) (h : PH) (v0 : Nat) (v1 : Int32) (v2 : Int32) : Option (Int32 × PH) := (gR 9 4 h v0).bind fun a1 => ((gI 0 15 h a1).bind fun x2 => (if x2 ≤ v2 then (some (v1, h)) else ((gR 9 4 h v0).bind fun a3 => ((gR 9 13 h v0).bind fun a4 => (cO 0 h a3 (bind2 (m_X0_rentOf F h a3 v2 a4) fun _ h6 => (if v1 = (-1 : Int32) then (b_X9_richest_46 F self4 h6 v0 v2) else ((gR 9 13 h6 v0).bind fun a7 => ((gR 9 12 h6 v0).bind fun a8 => (cO 2 h6 a7 ((m_X2_compared h6 a7 a8).bind fun x9 => (if x9 ≤ 0 then (b_X9_richest_69 F self4 h6 v0 v1 v2) else (b_X9_richest_46 F self4 h6 v0 v2)))))))))))))
set_option maxRecDepth 20000 in
theorem tb_X9_richest_4 {M : MV} {X : XT} {F : Nat} {self4 : PH → Nat → Int32 → Int32 → Option (Int32 × PH)} {h hz : PH} {r : Int32} {ce sl mc ms : Nat} {v0 : Nat} {v1 : Int32} {v2 : Int32} (hc : Cx M X RX9 cX9_richest) (hr : Rx M 5 292 mc ms 3) (he : Ex M X (some .int) "richest" (some (.int r)) hz mc ms) (hm : ce ≤ mc) (hs : sl ≤ ms) (ih4 : ∀ (h : PH) (v0 : Nat) (v1 : Int32) (v2 : Int32), self4 h v0 v1 v2 = some (r, hz) → GG M X h ce sl 4 [(0, .ref (X.1 + v0)), (1, .int v1), (2, .int v2)] []) (hf : b_X9_richest_4 F self4 h v0 v1 v2 = some (r, hz)) : GG M X h ce sl 4 [(0, .ref (X.1 + v0)), (1, .int v1), (2, .int v2)] [] := by
  unfold b_X9_richest_4 at hf
  refine r_iload_n hc 2 (dc_at dX9_richest 4 rfl) rfl ?_
  refine r_aload_n hc 0 (dc_at dX9_richest 5 rfl) rfl ?_
  refine r_getR hc (dc_at dX9_richest 6 rfl) fl_X9_26 hf fun a1 hf => ?_
  refine r_getI hc (dc_at dX9_richest 7 rfl) fl_X9_119 hf fun x2 hf => ?_
  refine r_icmp_ge (tgt := 75) hc (dc_at dX9_richest 8 rfl) (by decide) hf (fun hf => ?_) (fun hf => ?_)
  · refine r_iload_n hc 1 (dc_at dX9_richest 37 rfl) rfl ?_
    exact r_iret hc he (hm) (hs) (dc_at dX9_richest 38 rfl) hf
  · refine r_aload_n hc 0 (dc_at dX9_richest 9 rfl) rfl ?_
    refine r_getR hc (dc_at dX9_richest 10 rfl) fl_X9_26 hf fun a3 hf => ?_
    refine r_iload_n hc 2 (dc_at dX9_richest 11 rfl) rfl ?_
    refine r_aload_n hc 0 (dc_at dX9_richest 12 rfl) rfl ?_
    refine r_getR hc (dc_at dX9_richest 13 rfl) fl_X9_63 hf fun a4 hf => ?_
    obtain ⟨ho, hf⟩ := cO_some hf
    refine ob2 hf fun u h6 ex hf => ?_
    refine r_callVv (As := [.int v2, .ref (X.1 + a4)]) (ci := 0) hc hr (dc_at dX9_richest 14 rfl) ml_X9_293 mv_X0_rentOf vi_X0_rentOf rfl ho rfl (mt_X0_rentOf ex) (by first | exact Nat.le_of_ble_eq_true rfl | omega) (by first | exact Nat.le_of_ble_eq_true rfl | omega) (by first | exact Nat.le_of_ble_eq_true rfl | omega) hm hs ?_
    refine r_iload_n hc 1 (dc_at dX9_richest 15 rfl) rfl ?_
    refine r_iconst (-1 : Int32) hc (dc_at dX9_richest 16 rfl) (by decide) ?_
    refine r_icmp_eq (tgt := 46) hc (dc_at dX9_richest 17 rfl) (by decide) hf (fun hf => ?_) (fun hf => ?_)
    · exact gg_sub [0, 2] rfl (t_X9_richest_46 hc hr he hm hs ih4 hf)
    · refine r_aload_n hc 0 (dc_at dX9_richest 18 rfl) rfl ?_
      refine r_getR hc (dc_at dX9_richest 19 rfl) fl_X9_63 hf fun a7 hf => ?_
      refine r_aload_n hc 0 (dc_at dX9_richest 20 rfl) rfl ?_
      refine r_getR hc (dc_at dX9_richest 21 rfl) fl_X9_59 hf fun a8 hf => ?_
      obtain ⟨ho, hf⟩ := cO_some hf
      refine ob hf fun x9 ex hf => ?_
      refine r_callVi (As := [.ref (X.1 + a8)]) (ci := 2) hc hr (dc_at dX9_richest 22 rfl) ml_X9_275 mv_X2_compared vi_X2_compared rfl ho rfl (mt_X2_compared ex) (by first | exact Nat.le_of_ble_eq_true rfl | omega) (by first | exact Nat.le_of_ble_eq_true rfl | omega) (by first | exact Nat.le_of_ble_eq_true rfl | omega) hm hs ?_
      refine r_if_le (tgt := 69) hc (dc_at dX9_richest 23 rfl) (by decide) hf (fun hf => ?_) (fun hf => ?_)
      · exact gg_sub [0, 1, 2] rfl (t_X9_richest_69 hc hr he hm hs ih4 hf)
      · exact gg_sub [0, 2] rfl (t_X9_richest_46 hc hr he hm hs ih4 hf)
def l_X9_richest_4 (F : Nat) : Nat → PH → Nat → Int32 → Int32 → Option (Int32 × PH)
  | 0 => fun _ _ _ _ => none
  | n + 1 => fun h v0 v1 v2 => b_X9_richest_4 F (l_X9_richest_4 F n) h v0 v1 v2
theorem tl_X9_richest_4 {M : MV} {X : XT} {F : Nat} {hz : PH} {r : Int32} {ce sl mc ms : Nat} (hc : Cx M X RX9 cX9_richest) (hr : Rx M 5 292 mc ms 3) (he : Ex M X (some .int) "richest" (some (.int r)) hz mc ms) (hm : ce ≤ mc) (hs : sl ≤ ms) (n : Nat) : ∀ (h : PH) (v0 : Nat) (v1 : Int32) (v2 : Int32), l_X9_richest_4 F n h v0 v1 v2 = some (r, hz) → GG M X h ce sl 4 [(0, .ref (X.1 + v0)), (1, .int v1), (2, .int v2)] [] := by
  induction n with
  | zero => intro h v0 v1 v2 hf; cases hf
  | succ n ih => intro h v0 v1 v2 hf; exact tb_X9_richest_4 (F := F) hc hr he hm hs  ih hf
def b_X9_richest_0 (F : Nat) (h : PH) (v0 : Nat) : Option (Int32 × PH) := l_X9_richest_4 F F h v0 (-1 : Int32) (0 : Int32)
set_option maxRecDepth 20000 in
theorem t_X9_richest_0 {M : MV} {X : XT} {F : Nat} {h hz : PH} {r : Int32} {ce sl mc ms : Nat} {v0 : Nat} (hc : Cx M X RX9 cX9_richest) (hr : Rx M 5 292 mc ms 3) (he : Ex M X (some .int) "richest" (some (.int r)) hz mc ms) (hm : ce ≤ mc) (hs : sl ≤ ms) (hf : b_X9_richest_0 F h v0 = some (r, hz)) : GG M X h ce sl 0 [(0, .ref (X.1 + v0))] [] := by
  unfold b_X9_richest_0 at hf
  refine r_iconst (-1 : Int32) hc (dc_at dX9_richest 0 rfl) (by decide) ?_
  refine r_istore_n [(1, .int ((-1 : Int32))), (0, .ref (X.1 + v0))] hc hr (dc_at dX9_richest 1 rfl) (by decide) rfl ?_
  refine r_iconst (0 : Int32) hc (dc_at dX9_richest 2 rfl) (by decide) ?_
  refine r_istore_n [(2, .int ((0 : Int32))), (1, .int ((-1 : Int32))), (0, .ref (X.1 + v0))] hc hr (dc_at dX9_richest 3 rfl) (by decide) rfl ?_
  exact gg_sub [2, 1, 0] rfl (tl_X9_richest_4 hc hr he hm hs  F _ _ _ _ hf)
def m_X9_richest (F : Nat) (h : PH) (p0 : Nat) : Option (Int32 × PH) := b_X9_richest_0 F h p0
theorem mt_X9_richest {l : Launch} {X : XT} {F : Nat} {h hz : PH} {p0 : Nat} {r : Int32} (ex : m_X9_richest F h p0 = some (r, hz)) : MT l X yX9_richest cX9_richest 3 (some .int) 5 292 0 0 [.ref (X.1 + p0)] h (some (.int r)) hz := MT.of (by decide) (Nat.le_of_ble_eq_true rfl) fun M hl hc hr he => by
  subst hl
  exact gg_sub [0] rfl (t_X9_richest_0  hc hr he (Nat.zero_le _) (Nat.zero_le _) ex)
/-! FractionLift.refusedSeen(I)I -/
def lX9_refusedSeenL : List (Nat × Instr × Nat × Nat) := [(0, .aload_n 0, 1, 1), (1, .iload_n 1, 1, 2), (2, .iconst 2, 1, 3), (3, .invokevirtual 150, 3, 6), (6, .istore_n 2, 1, 7), (7, .iload_n 2, 1, 8), (8, .ifCond .eq 5, 3, 11), (11, .iload_n 2, 1, 12), (12, .ireturn, 1, 13), (13, .aload_n 0, 1, 14), (14, .getfield 36, 3, 17), (17, .iload_n 1, 1, 18), (18, .aaload, 1, 19), (19, .astore_n 3, 1, 20), (20, .iconst 0, 1, 21), (21, .istore 4, 2, 23), (23, .iload 4, 2, 25), (25, .aload_n 3, 1, 26), (26, .getfield 153, 3, 29), (29, .if_icmp .ge 45, 3, 32), (32, .aload_n 3, 1, 33), (33, .getfield 366, 3, 36), (36, .iload 4, 2, 38), (38, .laload, 1, 39), (39, .ldc2_w 188, 3, 42), (42, .lcmp, 1, 43), (43, .ifCond .lt 22, 3, 46), (46, .aload_n 3, 1, 47), (47, .getfield 366, 3, 50), (50, .iload 4, 2, 52), (52, .laload, 1, 53), (53, .aload_n 0, 1, 54), (54, .getfield 26, 3, 57), (57, .getfield 102, 3, 60), (60, .i2l, 1, 61), (61, .lcmp, 1, 62), (62, .ifCond .lt 6, 3, 65), (65, .bipush (-3), 2, 67), (67, .ireturn, 1, 68), (68, .iinc 4 1, 3, 71), (71, .goto (-48), 3, 74), (74, .iconst 0, 1, 75), (75, .ireturn, 1, 76)]
set_option maxRecDepth 20000 in
theorem dX9_refusedSeen : dcL cX9_refusedSeen lX9_refusedSeenL = true := by decide +kernel
def b_X9_refusedSeen_23 (F : Nat) (self16 : Nat → Nat → Int32 → Option Int32) (h : PH) (v0 : Nat) (v3 : Nat) (v4 : Int32) : Option Int32 := (gI 7 1 h v3).bind fun x1 => (if x1 ≤ v4 then (some (0 : Int32)) else ((gR 7 2 h v3).bind fun a2 => ((aL h a2 v4).bind fun x3 => (if x3 < (-1 : Int64) then (some (-3 : Int32)) else ((gR 7 2 h v3).bind fun a4 => ((aL h a4 v4).bind fun x5 => ((gR 9 4 h v0).bind fun a6 => ((gI 0 9 h a6).bind fun x7 => (if x5 < (Int32.toInt64 x7) then (bindv (v4 + (1)) fun x8 => (self16 v0 v3 x8)) else (some (-3 : Int32)))))))))))
set_option maxRecDepth 20000 in
theorem tb_X9_refusedSeen_23 {M : MV} {X : XT} {F : Nat} {self16 : Nat → Nat → Int32 → Option Int32} {h : PH} {r : Int32} {ce sl mc ms : Nat} {v0 : Nat} {v3 : Nat} {v4 : Int32} (hc : Cx M X RX9 cX9_refusedSeen) (hr : Rx M 3 176 mc ms 5) (he : Ex M X (some .int) "refusedSeen" (some (.int r)) h mc ms) (hm : ce ≤ mc) (hs : sl ≤ ms) (ih16 : ∀ (v0 : Nat) (v3 : Nat) (v4 : Int32), self16 v0 v3 v4 = some r → GG M X h ce sl 23 [(0, .ref (X.1 + v0)), (3, .ref (X.1 + v3)), (4, .int v4)] []) (hf : b_X9_refusedSeen_23 F self16 h v0 v3 v4 = some r) : GG M X h ce sl 23 [(0, .ref (X.1 + v0)), (3, .ref (X.1 + v3)), (4, .int v4)] [] := by
  unfold b_X9_refusedSeen_23 at hf
  refine r_iload hc 2 (dc_at dX9_refusedSeen 16 rfl) rfl ?_
  refine r_aload_n hc 1 (dc_at dX9_refusedSeen 17 rfl) rfl ?_
  refine r_getI hc (dc_at dX9_refusedSeen 18 rfl) fl_X9_153 hf fun x1 hf => ?_
  refine r_icmp_ge (tgt := 74) hc (dc_at dX9_refusedSeen 19 rfl) (by decide) hf (fun hf => ?_) (fun hf => ?_)
  · refine r_iconst (0 : Int32) hc (dc_at dX9_refusedSeen 41 rfl) (by decide) ?_
    exact r_iretP hc he (hm) (hs) (dc_at dX9_refusedSeen 42 rfl) hf
  · refine r_aload_n hc 1 (dc_at dX9_refusedSeen 20 rfl) rfl ?_
    refine r_getR hc (dc_at dX9_refusedSeen 21 rfl) fl_X9_366 hf fun a2 hf => ?_
    refine r_iload hc 2 (dc_at dX9_refusedSeen 22 rfl) rfl ?_
    refine r_laload hc (dc_at dX9_refusedSeen 23 rfl) hf fun x3 hf => ?_
    refine r_ldc2 hc (dc_at dX9_refusedSeen 24 rfl) cl2_X9_188 ?_
    refine r_lcmp_lt (tgt := 65) hc (dc_at dX9_refusedSeen 25 rfl) (dc_at dX9_refusedSeen 26 rfl) (by decide) hf (fun hf => ?_) (fun hf => ?_)
    · refine r_bipush (-3 : Int32) hc (dc_at dX9_refusedSeen 37 rfl) (by decide) ?_
      exact r_iretP hc he (hm) (hs) (dc_at dX9_refusedSeen 38 rfl) hf
    · refine r_aload_n hc 1 (dc_at dX9_refusedSeen 27 rfl) rfl ?_
      refine r_getR hc (dc_at dX9_refusedSeen 28 rfl) fl_X9_366 hf fun a4 hf => ?_
      refine r_iload hc 2 (dc_at dX9_refusedSeen 29 rfl) rfl ?_
      refine r_laload hc (dc_at dX9_refusedSeen 30 rfl) hf fun x5 hf => ?_
      refine r_aload_n hc 0 (dc_at dX9_refusedSeen 31 rfl) rfl ?_
      refine r_getR hc (dc_at dX9_refusedSeen 32 rfl) fl_X9_26 hf fun a6 hf => ?_
      refine r_getI hc (dc_at dX9_refusedSeen 33 rfl) fl_X9_102 hf fun x7 hf => ?_
      refine r_i2l hc (dc_at dX9_refusedSeen 34 rfl) ?_
      refine r_lcmp_lt (tgt := 68) hc (dc_at dX9_refusedSeen 35 rfl) (dc_at dX9_refusedSeen 36 rfl) (by decide) hf (fun hf => ?_) (fun hf => ?_)
      · refine obv hf fun x8 e_x8 hf => ?_
        refine r_iinc 2 [(4, .int x8), (0, .ref (X.1 + v0)), (3, .ref (X.1 + v3))] hc hr (dc_at dX9_refusedSeen 39 rfl) rfl (by rw [e_x8]; rfl) (by decide) rfl ?_
        refine r_goto (tgt := 23) hc (dc_at dX9_refusedSeen 40 rfl) (by decide) ?_
        exact gg_sub [1, 2, 0] rfl (ih16 _ _ _ hf)
      · refine r_bipush (-3 : Int32) hc (dc_at dX9_refusedSeen 37 rfl) (by decide) ?_
        exact r_iretP hc he (hm) (hs) (dc_at dX9_refusedSeen 38 rfl) hf
def l_X9_refusedSeen_23 (F : Nat) (h : PH) : Nat → Nat → Nat → Int32 → Option Int32
  | 0 => fun _ _ _ => none
  | n + 1 => fun v0 v3 v4 => b_X9_refusedSeen_23 F (l_X9_refusedSeen_23 F h n) h v0 v3 v4
theorem tl_X9_refusedSeen_23 {M : MV} {X : XT} {F : Nat} {h : PH} {r : Int32} {ce sl mc ms : Nat} (hc : Cx M X RX9 cX9_refusedSeen) (hr : Rx M 3 176 mc ms 5) (he : Ex M X (some .int) "refusedSeen" (some (.int r)) h mc ms) (hm : ce ≤ mc) (hs : sl ≤ ms) (n : Nat) : ∀ (v0 : Nat) (v3 : Nat) (v4 : Int32), l_X9_refusedSeen_23 F h n v0 v3 v4 = some r → GG M X h ce sl 23 [(0, .ref (X.1 + v0)), (3, .ref (X.1 + v3)), (4, .int v4)] [] := by
  induction n with
  | zero => intro v0 v3 v4 hf; cases hf
  | succ n ih => intro v0 v3 v4 hf; exact tb_X9_refusedSeen_23 (F := F) hc hr he hm hs  ih hf
def b_X9_refusedSeen_0 (F : Nat) (h : PH) (v0 : Nat) (v1 : Int32) : Option Int32 := cO 9 h v0 ((m_X9_refusedRow h v0 v1 (2 : Int32)).bind fun x1 => (if x1 = 0 then ((gR 9 7 h v0).bind fun a2 => ((aR 4 h a2 v1).bind fun a3 => (l_X9_refusedSeen_23 F h F v0 a3 (0 : Int32)))) else (some x1)))
set_option maxRecDepth 20000 in
theorem t_X9_refusedSeen_0 {M : MV} {X : XT} {F : Nat} {h : PH} {r : Int32} {ce sl mc ms : Nat} {v0 : Nat} {v1 : Int32} (hc : Cx M X RX9 cX9_refusedSeen) (hr : Rx M 3 176 mc ms 5) (he : Ex M X (some .int) "refusedSeen" (some (.int r)) h mc ms) (hm : ce ≤ mc) (hs : sl ≤ ms) (hf : b_X9_refusedSeen_0 F h v0 v1 = some r) : GG M X h ce sl 0 [(0, .ref (X.1 + v0)), (1, .int v1)] [] := by
  unfold b_X9_refusedSeen_0 at hf
  refine r_aload_n hc 0 (dc_at dX9_refusedSeen 0 rfl) rfl ?_
  refine r_iload_n hc 1 (dc_at dX9_refusedSeen 1 rfl) rfl ?_
  refine r_iconst (2 : Int32) hc (dc_at dX9_refusedSeen 2 rfl) (by decide) ?_
  obtain ⟨ho, hf⟩ := cO_some hf
  refine ob hf fun x1 ex hf => ?_
  refine r_callVi (As := [.int v1, .int ((2 : Int32))]) (ci := 9) hc hr (dc_at dX9_refusedSeen 3 rfl) ml_X9_150 mv_X9_refusedRow vi_X9_refusedRow rfl ho rfl (mt_X9_refusedRow ex) (by first | exact Nat.le_of_ble_eq_true rfl | omega) (by first | exact Nat.le_of_ble_eq_true rfl | omega) (by first | exact Nat.le_of_ble_eq_true rfl | omega) hm hs ?_
  refine r_istore_n [(2, .int x1), (0, .ref (X.1 + v0)), (1, .int v1)] hc hr (dc_at dX9_refusedSeen 4 rfl) (by decide) rfl ?_
  refine r_iload_n hc 0 (dc_at dX9_refusedSeen 5 rfl) rfl ?_
  refine r_if_eq (tgt := 13) hc (dc_at dX9_refusedSeen 6 rfl) (by decide) hf (fun hf => ?_) (fun hf => ?_)
  · refine r_aload_n hc 1 (dc_at dX9_refusedSeen 9 rfl) rfl ?_
    refine r_getR hc (dc_at dX9_refusedSeen 10 rfl) fl_X9_36 hf fun a2 hf => ?_
    refine r_iload_n hc 2 (dc_at dX9_refusedSeen 11 rfl) rfl ?_
    refine r_aaloadR (t := 4) hc (dc_at dX9_refusedSeen 12 rfl) rfl hf fun a3 hf => ?_
    refine r_astore_n [(3, .ref (X.1 + a3)), (2, .int x1), (0, .ref (X.1 + v0)), (1, .int v1)] hc hr (dc_at dX9_refusedSeen 13 rfl) (by decide) rfl ?_
    refine r_iconst (0 : Int32) hc (dc_at dX9_refusedSeen 14 rfl) (by decide) ?_
    refine r_istore [(4, .int ((0 : Int32))), (3, .ref (X.1 + a3)), (2, .int x1), (0, .ref (X.1 + v0)), (1, .int v1)] hc hr (dc_at dX9_refusedSeen 15 rfl) (by decide) rfl ?_
    exact gg_sub [3, 1, 0] rfl (tl_X9_refusedSeen_23 hc hr he hm hs  F _ _ _ hf)
  · refine r_iload_n hc 0 (dc_at dX9_refusedSeen 7 rfl) rfl ?_
    exact r_iretP hc he (hm) (hs) (dc_at dX9_refusedSeen 8 rfl) hf
def m_X9_refusedSeen (F : Nat) (h : PH) (p0 : Nat) (p1 : Int32) : Option Int32 := b_X9_refusedSeen_0 F h p0 p1
theorem mt_X9_refusedSeen {l : Launch} {X : XT} {F : Nat} {h : PH} {p0 : Nat} {p1 : Int32} {r : Int32} (ex : m_X9_refusedSeen F h p0 p1 = some r) : MT l X yX9_refusedSeen cX9_refusedSeen 5 (some .int) 3 176 0 0 [.ref (X.1 + p0), .int p1] h (some (.int r)) h := MT.of (by decide) (Nat.le_of_ble_eq_true rfl) fun M hl hc hr he => by
  subst hl
  exact gg_sub [0, 1] rfl (t_X9_refusedSeen_0  hc hr he (Nat.zero_le _) (Nat.zero_le _) ex)
/-! FractionLift.fewRows(I)Z -/
def lX9_fewRowsL : List (Nat × Instr × Nat × Nat) := [(0, .lconst 1, 1, 1), (1, .lstore_n 2, 1, 2), (2, .iconst 0, 1, 3), (3, .istore 4, 2, 5), (5, .iload 4, 2, 7), (7, .iload_n 1, 1, 8), (8, .if_icmp .ge 20, 3, 11), (11, .lload_n 2, 1, 12), (12, .aload_n 0, 1, 13), (13, .getfield 26, 3, 16), (16, .getfield 159, 3, 19), (19, .i2l, 1, 20), (20, .lmul, 1, 21), (21, .lstore_n 2, 1, 22), (22, .iinc 4 1, 3, 25), (25, .goto (-20), 3, 28), (28, .lload_n 2, 1, 29), (29, .ldc2_w 406, 3, 32), (32, .lcmp, 1, 33), (33, .ifCond .gt 7, 3, 36), (36, .iconst 1, 1, 37), (37, .goto 4, 3, 40), (40, .iconst 0, 1, 41), (41, .ireturn, 1, 42)]
set_option maxRecDepth 20000 in
theorem dX9_fewRows : dcL cX9_fewRows lX9_fewRowsL = true := by decide +kernel
def b_X9_fewRows_5 (F : Nat) (self4 : Nat → Int32 → Int64 → Int32 → Option Int32) (h : PH) (v0 : Nat) (v1 : Int32) (v2 : Int64) (v4 : Int32) : Option Int32 := if v1 ≤ v4 then (if (200000 : Int64) < v2 then (rZP (0 : Int32)) else (rZP (1 : Int32))) else ((gR 9 4 h v0).bind fun a1 => ((gI 0 6 h a1).bind fun x2 => (bindv ((v2 * (Int32.toInt64 x2))) fun x3 => (bindv (v4 + (1)) fun x4 => (self4 v0 v1 x3 x4)))))
set_option maxRecDepth 20000 in
theorem tb_X9_fewRows_5 {M : MV} {X : XT} {F : Nat} {self4 : Nat → Int32 → Int64 → Int32 → Option Int32} {h : PH} {r : Int32} {ce sl mc ms : Nat} {v0 : Nat} {v1 : Int32} {v2 : Int64} {v4 : Int32} (hc : Cx M X RX9 cX9_fewRows) (hr : Rx M 1 60 mc ms 5) (he : Ex M X (some .boolean) "fewRows" (some (.int r)) h mc ms) (hm : ce ≤ mc) (hs : sl ≤ ms) (ih4 : ∀ (v0 : Nat) (v1 : Int32) (v2 : Int64) (v4 : Int32), self4 v0 v1 v2 v4 = some r → GG M X h ce sl 5 [(0, .ref (X.1 + v0)), (1, .int v1), (2, .long v2), (4, .int v4)] []) (hf : b_X9_fewRows_5 F self4 h v0 v1 v2 v4 = some r) : GG M X h ce sl 5 [(0, .ref (X.1 + v0)), (1, .int v1), (2, .long v2), (4, .int v4)] [] := by
  unfold b_X9_fewRows_5 at hf
  refine r_iload hc 3 (dc_at dX9_fewRows 4 rfl) rfl ?_
  refine r_iload_n hc 1 (dc_at dX9_fewRows 5 rfl) rfl ?_
  refine r_icmp_ge (tgt := 28) hc (dc_at dX9_fewRows 6 rfl) (by decide) hf (fun hf => ?_) (fun hf => ?_)
  · refine r_lload_n hc 2 (dc_at dX9_fewRows 16 rfl) rfl ?_
    refine r_ldc2 hc (dc_at dX9_fewRows 17 rfl) cl2_X9_406 ?_
    refine r_lcmp_gt (tgt := 40) hc (dc_at dX9_fewRows 18 rfl) (dc_at dX9_fewRows 19 rfl) (by decide) hf (fun hf => ?_) (fun hf => ?_)
    · refine r_iconst (0 : Int32) hc (dc_at dX9_fewRows 22 rfl) (by decide) ?_
      exact r_zretP hc he (hm) (hs) (dc_at dX9_fewRows 23 rfl) hf
    · refine r_iconst (1 : Int32) hc (dc_at dX9_fewRows 20 rfl) (by decide) ?_
      refine r_goto (tgt := 41) hc (dc_at dX9_fewRows 21 rfl) (by decide) ?_
      exact r_zretP hc he (hm) (hs) (dc_at dX9_fewRows 23 rfl) hf
  · refine r_lload_n hc 2 (dc_at dX9_fewRows 7 rfl) rfl ?_
    refine r_aload_n hc 0 (dc_at dX9_fewRows 8 rfl) rfl ?_
    refine r_getR hc (dc_at dX9_fewRows 9 rfl) fl_X9_26 hf fun a1 hf => ?_
    refine r_getI hc (dc_at dX9_fewRows 10 rfl) fl_X9_159 hf fun x2 hf => ?_
    refine r_i2l hc (dc_at dX9_fewRows 11 rfl) ?_
    refine r_lmul hc (dc_at dX9_fewRows 12 rfl) ?_
    refine r_nm (mk := Value.long) hf fun x3 hf => ?_
    refine r_lstore_n [(2, .long x3), (0, .ref (X.1 + v0)), (1, .int v1), (4, .int v4)] hc hr (dc_at dX9_fewRows 13 rfl) (by decide) rfl ?_
    refine obv hf fun x4 e_x4 hf => ?_
    refine r_iinc 3 [(4, .int x4), (2, .long x3), (0, .ref (X.1 + v0)), (1, .int v1)] hc hr (dc_at dX9_fewRows 14 rfl) rfl (by rw [e_x4]; rfl) (by decide) rfl ?_
    refine r_goto (tgt := 5) hc (dc_at dX9_fewRows 15 rfl) (by decide) ?_
    exact gg_sub [2, 3, 1, 0] rfl (ih4 _ _ _ _ hf)
def l_X9_fewRows_5 (F : Nat) (h : PH) : Nat → Nat → Int32 → Int64 → Int32 → Option Int32
  | 0 => fun _ _ _ _ => none
  | n + 1 => fun v0 v1 v2 v4 => b_X9_fewRows_5 F (l_X9_fewRows_5 F h n) h v0 v1 v2 v4
theorem tl_X9_fewRows_5 {M : MV} {X : XT} {F : Nat} {h : PH} {r : Int32} {ce sl mc ms : Nat} (hc : Cx M X RX9 cX9_fewRows) (hr : Rx M 1 60 mc ms 5) (he : Ex M X (some .boolean) "fewRows" (some (.int r)) h mc ms) (hm : ce ≤ mc) (hs : sl ≤ ms) (n : Nat) : ∀ (v0 : Nat) (v1 : Int32) (v2 : Int64) (v4 : Int32), l_X9_fewRows_5 F h n v0 v1 v2 v4 = some r → GG M X h ce sl 5 [(0, .ref (X.1 + v0)), (1, .int v1), (2, .long v2), (4, .int v4)] [] := by
  induction n with
  | zero => intro v0 v1 v2 v4 hf; cases hf
  | succ n ih => intro v0 v1 v2 v4 hf; exact tb_X9_fewRows_5 (F := F) hc hr he hm hs  ih hf
def b_X9_fewRows_0 (F : Nat) (h : PH) (v0 : Nat) (v1 : Int32) : Option Int32 := l_X9_fewRows_5 F h F v0 v1 (1 : Int64) (0 : Int32)
set_option maxRecDepth 20000 in
theorem t_X9_fewRows_0 {M : MV} {X : XT} {F : Nat} {h : PH} {r : Int32} {ce sl mc ms : Nat} {v0 : Nat} {v1 : Int32} (hc : Cx M X RX9 cX9_fewRows) (hr : Rx M 1 60 mc ms 5) (he : Ex M X (some .boolean) "fewRows" (some (.int r)) h mc ms) (hm : ce ≤ mc) (hs : sl ≤ ms) (hf : b_X9_fewRows_0 F h v0 v1 = some r) : GG M X h ce sl 0 [(0, .ref (X.1 + v0)), (1, .int v1)] [] := by
  unfold b_X9_fewRows_0 at hf
  refine r_lconst (1 : Int64) hc (dc_at dX9_fewRows 0 rfl) (by decide) ?_
  refine r_lstore_n [(2, .long ((1 : Int64))), (0, .ref (X.1 + v0)), (1, .int v1)] hc hr (dc_at dX9_fewRows 1 rfl) (by decide) rfl ?_
  refine r_iconst (0 : Int32) hc (dc_at dX9_fewRows 2 rfl) (by decide) ?_
  refine r_istore [(4, .int ((0 : Int32))), (2, .long ((1 : Int64))), (0, .ref (X.1 + v0)), (1, .int v1)] hc hr (dc_at dX9_fewRows 3 rfl) (by decide) rfl ?_
  exact gg_sub [2, 3, 1, 0] rfl (tl_X9_fewRows_5 hc hr he hm hs  F _ _ _ _ hf)
def m_X9_fewRows (F : Nat) (h : PH) (p0 : Nat) (p1 : Int32) : Option Int32 := b_X9_fewRows_0 F h p0 p1
theorem mt_X9_fewRows {l : Launch} {X : XT} {F : Nat} {h : PH} {p0 : Nat} {p1 : Int32} {r : Int32} (ex : m_X9_fewRows F h p0 p1 = some r) : MT l X yX9_fewRows cX9_fewRows 5 (some .boolean) 1 60 0 0 [.ref (X.1 + p0), .int p1] h (some (.int r)) h := MT.of (by decide) (Nat.le_of_ble_eq_true rfl) fun M hl hc hr he => by
  subst hl
  exact gg_sub [0, 1] rfl (t_X9_fewRows_0  hc hr he (Nat.zero_le _) (Nat.zero_le _) ex)
/-! FractionLift.watcherHere()LFractionLift$Watcher; -/
def lX9_watcherHereL : List (Nat × Instr × Nat × Nat) := [(0, .aload_n 0, 1, 1), (1, .getfield 418, 3, 4), (4, .ifnonnull 18, 3, 7), (7, .aload_n 0, 1, 8), (8, .new 313, 3, 11), (11, .dup, 1, 12), (12, .aload_n 0, 1, 13), (13, .getfield 52, 3, 16), (16, .invokespecial 422, 3, 19), (19, .putfield 418, 3, 22), (22, .aload_n 0, 1, 23), (23, .getfield 418, 3, 26), (26, .areturn, 1, 27)]
set_option maxRecDepth 20000 in
theorem dX9_watcherHere : dcL cX9_watcherHere lX9_watcherHereL = true := by decide +kernel
def b_X9_watcherHere_0 (h : PH) (v0 : Nat) : Option (Nat × PH) := (gN 9 17 h v0).bind fun q1 => (if q1 = none then (bindv h.length fun a3 => (bindv (h ++ [.inr (8, df8)]) fun h4 => ((gR 9 11 h4 v0).bind fun a5 => (bind2 (m_X8_init h4 a3 a5) fun _ h7 => ((pV 9 17 (.ref a3) h7 v0).bind fun h8 => ((gR 9 17 h8 v0).bind fun a9 => (some (a9, h8)))))))) else ((gR 9 17 h v0).bind fun a2 => (some (a2, h))))
set_option maxRecDepth 20000 in
theorem t_X9_watcherHere_0 {M : MV} {X : XT} {h hz : PH} {r : Nat} {mc ms : Nat} {v0 : Nat} (hc : Cx M X RX9 cX9_watcherHere) (hr : Rx M 2 118 mc ms 1) (he : Ex M X (some (.object "FractionLift$Watcher")) "watcherHere" (some (.ref (X.1 + r))) hz mc ms) (hm : 0 ≤ mc) (hs : 0 ≤ ms) (hcost : gN 9 17 h v0 = some none → 3 ≤ mc ∧ 24 ≤ ms) (hf : b_X9_watcherHere_0 h v0 = some (r, hz)) : GG M X h 0 0 0 [(0, .ref (X.1 + v0))] [] := by
  unfold b_X9_watcherHere_0 at hf
  refine r_aload_n hc 0 (dc_at dX9_watcherHere 0 rfl) rfl ?_
  refine r_getN hc (dc_at dX9_watcherHere 1 rfl) fl_X9_418 hf fun q1 e_q1 hf => ?_
  refine r_ifnonnull (tgt := 22) hc (dc_at dX9_watcherHere 2 rfl) (by decide) hf (fun hf => ?_) (fun hf hnull => ?_)
  · refine r_aload_n hc 0 (dc_at dX9_watcherHere 10 rfl) rfl ?_
    refine r_getR hc (dc_at dX9_watcherHere 11 rfl) fl_X9_418 hf fun a2 hf => ?_
    exact r_aret hc he (Or.inl ⟨_, rfl⟩) (by omega) (by omega) (dc_at dX9_watcherHere 12 rfl) hf
  · have hmc := hcost (by rw [e_q1, hnull])
    refine r_aload_n hc 0 (dc_at dX9_watcherHere 3 rfl) rfl ?_
    refine r_newN (N := 8) hc hr (dc_at dX9_watcherHere 4 rfl) nw_X9_313 (by omega) (by omega) hf fun a3 h4 hf => ?_
    refine r_dup hc (dc_at dX9_watcherHere 5 rfl) rfl ?_
    refine r_aload_n hc 0 (dc_at dX9_watcherHere 6 rfl) rfl ?_
    refine r_getR hc (dc_at dX9_watcherHere 7 rfl) fl_X9_52 hf fun a5 hf => ?_
    refine ob2 hf fun u h7 ex hf => ?_
    refine r_callIC (As := [.ref (X.1 + a5)]) hc hr (dc_at dX9_watcherHere 8 rfl) ml_X9_422 mv_X8_init im_X8_init rfl rfl (mt_X8_init ex) (by first | exact Nat.le_of_ble_eq_true rfl | omega) (by first | exact Nat.le_of_ble_eq_true rfl | omega) (by first | exact Nat.le_of_ble_eq_true rfl | omega) (by omega) (by omega) ?_
    refine r_putR hc he (dc_at dX9_watcherHere 9 rfl) fp_X9_418 (fun q => by cases q) ⟨rfl, fun _ => ⟨rfl, rfl⟩⟩ hf fun h8 hf => ?_
    refine r_aload_n hc 0 (dc_at dX9_watcherHere 10 rfl) rfl ?_
    refine r_getR hc (dc_at dX9_watcherHere 11 rfl) fl_X9_418 hf fun a9 hf => ?_
    exact r_aret hc he (Or.inl ⟨_, rfl⟩) (by omega) (by omega) (dc_at dX9_watcherHere 12 rfl) hf
def m_X9_watcherHere (h : PH) (p0 : Nat) : Option (Nat × PH) := b_X9_watcherHere_0 h p0
theorem mt_X9_watcherHere {l : Launch} {X : XT} {h hz : PH} {p0 : Nat} {r : Nat} {mc ms : Nat} (ex : m_X9_watcherHere h p0 = some (r, hz)) (hcost : gN 9 17 h p0 = some none → 3 ≤ mc ∧ 24 ≤ ms) : MT l X yX9_watcherHere cX9_watcherHere 1 (some (.object "FractionLift$Watcher")) 2 118 mc ms [.ref (X.1 + p0)] h (some (.ref (X.1 + r))) hz := MT.of (by decide) (Nat.le_of_ble_eq_true rfl) fun M hl hc hr he => by
  subst hl
  exact gg_sub [0] rfl (t_X9_watcherHere_0  hc hr he (Nat.zero_le _) (Nat.zero_le _) hcost ex)
/-! FractionLift.fits(II)I -/
def lX9_fitsL : List (Nat × Instr × Nat × Nat) := [(0, .aload_n 0, 1, 1), (1, .iload_n 1, 1, 2), (2, .invokevirtual 302, 3, 5), (5, .istore_n 3, 1, 6), (6, .iload_n 3, 1, 7), (7, .ifCond .eq 5, 3, 10), (10, .iload_n 3, 1, 11), (11, .ireturn, 1, 12), (12, .aload_n 0, 1, 13), (13, .aload_n 0, 1, 14), (14, .getfield 36, 3, 17), (17, .iload_n 1, 1, 18), (18, .aaload, 1, 19), (19, .getfield 153, 3, 22), (22, .invokevirtual 305, 3, 25), (25, .ifCond .ne 7, 3, 28), (28, .sipush (-1000), 3, 31), (31, .ireturn, 1, 32), (32, .aload_n 0, 1, 33), (33, .invokevirtual 308, 3, 36), (36, .astore 4, 2, 38), (38, .aload 4, 2, 40), (40, .aload_n 0, 1, 41), (41, .getfield 26, 3, 44), (44, .aload_n 0, 1, 45), (45, .getfield 36, 3, 48), (48, .iload_n 1, 1, 49), (49, .aaload, 1, 50), (50, .iload_n 2, 1, 51), (51, .invokevirtual 312, 3, 54), (54, .iload_n 2, 1, 55), (55, .iconst (-1), 1, 56), (56, .if_icmp .ne 11, 3, 59), (59, .aload 4, 2, 61), (61, .getfield 318, 3, 64), (64, .goto 8, 3, 67), (67, .aload 4, 2, 69), (69, .getfield 321, 3, 72), (72, .ireturn, 1, 73)]
set_option maxRecDepth 20000 in
theorem dX9_fits : dcL cX9_fits lX9_fitsL = true := by decide +kernel
def b_X9_fits_0 (F : Nat) (h : PH) (v0 : Nat) (v1 : Int32) (v2 : Int32) : Option (Int32 × PH) := cO 9 h v0 ((m_X9_refusedSeen F h v0 v1).bind fun x1 => (if x1 = 0 then ((gR 9 7 h v0).bind fun a2 => ((aR 4 h a2 v1).bind fun a3 => ((gI 7 1 h a3).bind fun x4 => (cO 9 h v0 ((m_X9_fewRows F h v0 x4).bind fun x5 => (if x5 = 0 then (some ((-1000 : Int32), h)) else (cO 9 h v0 (bind2 (m_X9_watcherHere h v0) fun a6 h7 => ((gR 9 4 h7 v0).bind fun a8 => ((gR 9 7 h7 v0).bind fun a9 => ((aR 4 h7 a9 v1).bind fun a10 => (cO 8 h7 a6 (bind2 (m_X8_watchAll F h7 a6 a8 a10 v2) fun _ h12 => (if v2 = (-1 : Int32) then ((gI 8 0 h12 a6).bind fun x14 => (some (x14, h12))) else ((gI 8 1 h12 a6).bind fun x13 => (some (x13, h12))))))))))))))))) else (some (x1, h))))
set_option maxRecDepth 20000 in
theorem t_X9_fits_0 {M : MV} {X : XT} {F : Nat} {h hz : PH} {r : Int32} {mc ms : Nat} {v0 : Nat} {v1 : Int32} {v2 : Int32} (hc : Cx M X RX9 cX9_fits) (hr : Rx M 17 988 mc ms 5) (he : Ex M X (some .int) "fits" (some (.int r)) hz mc ms) (hm : 0 ≤ mc) (hs : 0 ≤ ms) (hcost : gN 9 17 h v0 = some none → 3 ≤ mc ∧ 24 ≤ ms) (hf : b_X9_fits_0 F h v0 v1 v2 = some (r, hz)) : GG M X h 0 0 0 [(0, .ref (X.1 + v0)), (1, .int v1), (2, .int v2)] [] := by
  unfold b_X9_fits_0 at hf
  refine r_aload_n hc 0 (dc_at dX9_fits 0 rfl) rfl ?_
  refine r_iload_n hc 1 (dc_at dX9_fits 1 rfl) rfl ?_
  obtain ⟨ho, hf⟩ := cO_some hf
  refine ob hf fun x1 ex hf => ?_
  refine r_callVi (As := [.int v1]) (ci := 9) hc hr (dc_at dX9_fits 2 rfl) ml_X9_302 mv_X9_refusedSeen vi_X9_refusedSeen rfl ho rfl (mt_X9_refusedSeen ex) (by first | exact Nat.le_of_ble_eq_true rfl | omega) (by first | exact Nat.le_of_ble_eq_true rfl | omega) (by first | exact Nat.le_of_ble_eq_true rfl | omega) (by omega) (by omega) ?_
  refine r_istore_n [(3, .int x1), (0, .ref (X.1 + v0)), (1, .int v1), (2, .int v2)] hc hr (dc_at dX9_fits 3 rfl) (by decide) rfl ?_
  refine r_iload_n hc 0 (dc_at dX9_fits 4 rfl) rfl ?_
  refine r_if_eq (tgt := 12) hc (dc_at dX9_fits 5 rfl) (by decide) hf (fun hf => ?_) (fun hf => ?_)
  · refine r_aload_n hc 1 (dc_at dX9_fits 8 rfl) rfl ?_
    refine r_aload_n hc 1 (dc_at dX9_fits 9 rfl) rfl ?_
    refine r_getR hc (dc_at dX9_fits 10 rfl) fl_X9_36 hf fun a2 hf => ?_
    refine r_iload_n hc 2 (dc_at dX9_fits 11 rfl) rfl ?_
    refine r_aaloadR (t := 4) hc (dc_at dX9_fits 12 rfl) rfl hf fun a3 hf => ?_
    refine r_getI hc (dc_at dX9_fits 13 rfl) fl_X9_153 hf fun x4 hf => ?_
    obtain ⟨ho, hf⟩ := cO_some hf
    refine ob hf fun x5 ex hf => ?_
    refine r_callVi (As := [.int x4]) (ci := 9) hc hr (dc_at dX9_fits 14 rfl) ml_X9_305 mv_X9_fewRows vi_X9_fewRows rfl ho rfl (mt_X9_fewRows ex) (by first | exact Nat.le_of_ble_eq_true rfl | omega) (by first | exact Nat.le_of_ble_eq_true rfl | omega) (by first | exact Nat.le_of_ble_eq_true rfl | omega) (by omega) (by omega) ?_
    refine r_if_ne (tgt := 32) hc (dc_at dX9_fits 15 rfl) (by decide) hf (fun hf => ?_) (fun hf => ?_)
    · refine r_aload_n hc 1 (dc_at dX9_fits 18 rfl) rfl ?_
      obtain ⟨ho, hf⟩ := cO_some hf
      refine ob2 hf fun a6 h7 ex hf => ?_
      refine r_callVrC (As := []) (ci := 9) hc hr (dc_at dX9_fits 19 rfl) ml_X9_308 mv_X9_watcherHere vi_X9_watcherHere rfl ho rfl (mt_X9_watcherHere ex hcost) (by first | exact Nat.le_of_ble_eq_true rfl | omega) (by first | exact Nat.le_of_ble_eq_true rfl | omega) (by first | exact Nat.le_of_ble_eq_true rfl | omega) (by omega) (by omega) ?_
      refine r_astore [(4, .ref (X.1 + a6)), (3, .int x1), (0, .ref (X.1 + v0)), (1, .int v1), (2, .int v2)] hc hr (dc_at dX9_fits 20 rfl) (by decide) rfl ?_
      refine r_aload hc 0 (dc_at dX9_fits 21 rfl) rfl ?_
      refine r_aload_n hc 2 (dc_at dX9_fits 22 rfl) rfl ?_
      refine r_getR hc (dc_at dX9_fits 23 rfl) fl_X9_26 hf fun a8 hf => ?_
      refine r_aload_n hc 2 (dc_at dX9_fits 24 rfl) rfl ?_
      refine r_getR hc (dc_at dX9_fits 25 rfl) fl_X9_36 hf fun a9 hf => ?_
      refine r_iload_n hc 3 (dc_at dX9_fits 26 rfl) rfl ?_
      refine r_aaloadR (t := 4) hc (dc_at dX9_fits 27 rfl) rfl hf fun a10 hf => ?_
      refine r_iload_n hc 4 (dc_at dX9_fits 28 rfl) rfl ?_
      obtain ⟨ho, hf⟩ := cO_some hf
      refine ob2 hf fun u h12 ex hf => ?_
      refine r_callVv (As := [.ref (X.1 + a8), .ref (X.1 + a10), .int v2]) (ci := 8) hc hr (dc_at dX9_fits 29 rfl) ml_X9_312 mv_X8_watchAll vi_X8_watchAll rfl ho rfl (mt_X8_watchAll ex) (by first | exact Nat.le_of_ble_eq_true rfl | omega) (by first | exact Nat.le_of_ble_eq_true rfl | omega) (by first | exact Nat.le_of_ble_eq_true rfl | omega) (by omega) (by omega) ?_
      refine r_iload_n hc 4 (dc_at dX9_fits 30 rfl) rfl ?_
      refine r_iconst (-1 : Int32) hc (dc_at dX9_fits 31 rfl) (by decide) ?_
      refine r_icmp_ne (tgt := 67) hc (dc_at dX9_fits 32 rfl) (by decide) hf (fun hf => ?_) (fun hf => ?_)
      · refine r_aload hc 0 (dc_at dX9_fits 36 rfl) rfl ?_
        refine r_getI hc (dc_at dX9_fits 37 rfl) fl_X9_321 hf fun x13 hf => ?_
        exact r_iret hc he (by omega) (by omega) (dc_at dX9_fits 38 rfl) hf
      · refine r_aload hc 0 (dc_at dX9_fits 33 rfl) rfl ?_
        refine r_getI hc (dc_at dX9_fits 34 rfl) fl_X9_318 hf fun x14 hf => ?_
        refine r_goto (tgt := 72) hc (dc_at dX9_fits 35 rfl) (by decide) ?_
        exact r_iret hc he (by omega) (by omega) (dc_at dX9_fits 38 rfl) hf
    · refine r_sipush (-1000 : Int32) hc (dc_at dX9_fits 16 rfl) (by decide) ?_
      exact r_iret hc he (by omega) (by omega) (dc_at dX9_fits 17 rfl) hf
  · refine r_iload_n hc 0 (dc_at dX9_fits 6 rfl) rfl ?_
    exact r_iret hc he (by omega) (by omega) (dc_at dX9_fits 7 rfl) hf
def m_X9_fits (F : Nat) (h : PH) (p0 : Nat) (p1 : Int32) (p2 : Int32) : Option (Int32 × PH) := b_X9_fits_0 F h p0 p1 p2
theorem mt_X9_fits {l : Launch} {X : XT} {F : Nat} {h hz : PH} {p0 : Nat} {p1 : Int32} {p2 : Int32} {r : Int32} {mc ms : Nat} (ex : m_X9_fits F h p0 p1 p2 = some (r, hz)) (hcost : gN 9 17 h p0 = some none → 3 ≤ mc ∧ 24 ≤ ms) : MT l X yX9_fits cX9_fits 5 (some .int) 17 988 mc ms [.ref (X.1 + p0), .int p1, .int p2] h (some (.int r)) hz := MT.of (by decide) (Nat.le_of_ble_eq_true rfl) fun M hl hc hr he => by
  subst hl
  exact gg_sub [0, 1, 2] rfl (t_X9_fits_0  hc hr he (Nat.zero_le _) (Nat.zero_le _) hcost ex)
/-! FractionLift.sure(II)I -/
def lX9_sureL : List (Nat × Instr × Nat × Nat) := [(0, .aload_n 0, 1, 1), (1, .iload_n 1, 1, 2), (2, .invokevirtual 302, 3, 5), (5, .istore_n 3, 1, 6), (6, .iload_n 3, 1, 7), (7, .ifCond .eq 5, 3, 10), (10, .iload_n 3, 1, 11), (11, .ireturn, 1, 12), (12, .iload_n 2, 1, 13), (13, .ifCond .lt 16, 3, 16), (16, .iload_n 2, 1, 17), (17, .aload_n 0, 1, 18), (18, .getfield 36, 3, 21), (21, .iload_n 1, 1, 22), (22, .aaload, 1, 23), (23, .getfield 153, 3, 26), (26, .if_icmp .lt 6, 3, 29), (29, .bipush (-3), 2, 31), (31, .ireturn, 1, 32), (32, .aload_n 0, 1, 33), (33, .aload_n 0, 1, 34), (34, .getfield 36, 3, 37), (37, .iload_n 1, 1, 38), (38, .aaload, 1, 39), (39, .getfield 153, 3, 42), (42, .invokevirtual 305, 3, 45), (45, .ifCond .ne 7, 3, 48), (48, .sipush (-1000), 3, 51), (51, .ireturn, 1, 52), (52, .aload_n 0, 1, 53), (53, .invokevirtual 308, 3, 56), (56, .astore 4, 2, 58), (58, .aload 4, 2, 60), (60, .aload_n 0, 1, 61), (61, .getfield 26, 3, 64), (64, .aload_n 0, 1, 65), (65, .getfield 36, 3, 68), (68, .iload_n 1, 1, 69), (69, .aaload, 1, 70), (70, .iconst (-1), 1, 71), (71, .invokevirtual 312, 3, 74), (74, .aload 4, 2, 76), (76, .getfield 318, 3, 79), (79, .ifCond .le 13, 3, 82), (82, .aload 4, 2, 84), (84, .getfield 324, 3, 87), (87, .iload_n 2, 1, 88), (88, .iaload, 1, 89), (89, .goto 4, 3, 92), (92, .iconst (-1), 1, 93), (93, .ireturn, 1, 94)]
set_option maxRecDepth 20000 in
theorem dX9_sure : dcL cX9_sure lX9_sureL = true := by decide +kernel
def b_X9_sure_0 (F : Nat) (h : PH) (v0 : Nat) (v1 : Int32) (v2 : Int32) : Option (Int32 × PH) := cO 9 h v0 ((m_X9_refusedSeen F h v0 v1).bind fun x1 => (if x1 = 0 then (if v2 < 0 then (some ((-3 : Int32), h)) else ((gR 9 7 h v0).bind fun a2 => ((aR 4 h a2 v1).bind fun a3 => ((gI 7 1 h a3).bind fun x4 => (if v2 < x4 then ((gR 9 7 h v0).bind fun a5 => ((aR 4 h a5 v1).bind fun a6 => ((gI 7 1 h a6).bind fun x7 => (cO 9 h v0 ((m_X9_fewRows F h v0 x7).bind fun x8 => (if x8 = 0 then (some ((-1000 : Int32), h)) else (cO 9 h v0 (bind2 (m_X9_watcherHere h v0) fun a9 h10 => ((gR 9 4 h10 v0).bind fun a11 => ((gR 9 7 h10 v0).bind fun a12 => ((aR 4 h10 a12 v1).bind fun a13 => (cO 8 h10 a9 (bind2 (m_X8_watchAll F h10 a9 a11 a13 (-1 : Int32)) fun _ h15 => ((gI 8 0 h15 a9).bind fun x16 => (if x16 ≤ 0 then (some ((-1 : Int32), h15)) else ((gR 8 2 h15 a9).bind fun a17 => ((aI 0 h15 a17 v2).bind fun x18 => (some (x18, h15))))))))))))))))))) else (some ((-3 : Int32), h))))))) else (some (x1, h))))
set_option maxRecDepth 20000 in
theorem t_X9_sure_0 {M : MV} {X : XT} {F : Nat} {h hz : PH} {r : Int32} {mc ms : Nat} {v0 : Nat} {v1 : Int32} {v2 : Int32} (hc : Cx M X RX9 cX9_sure) (hr : Rx M 17 988 mc ms 5) (he : Ex M X (some .int) "sure" (some (.int r)) hz mc ms) (hm : 0 ≤ mc) (hs : 0 ≤ ms) (hcost : gN 9 17 h v0 = some none → 3 ≤ mc ∧ 24 ≤ ms) (hf : b_X9_sure_0 F h v0 v1 v2 = some (r, hz)) : GG M X h 0 0 0 [(0, .ref (X.1 + v0)), (1, .int v1), (2, .int v2)] [] := by
  unfold b_X9_sure_0 at hf
  refine r_aload_n hc 0 (dc_at dX9_sure 0 rfl) rfl ?_
  refine r_iload_n hc 1 (dc_at dX9_sure 1 rfl) rfl ?_
  obtain ⟨ho, hf⟩ := cO_some hf
  refine ob hf fun x1 ex hf => ?_
  refine r_callVi (As := [.int v1]) (ci := 9) hc hr (dc_at dX9_sure 2 rfl) ml_X9_302 mv_X9_refusedSeen vi_X9_refusedSeen rfl ho rfl (mt_X9_refusedSeen ex) (by first | exact Nat.le_of_ble_eq_true rfl | omega) (by first | exact Nat.le_of_ble_eq_true rfl | omega) (by first | exact Nat.le_of_ble_eq_true rfl | omega) (by omega) (by omega) ?_
  refine r_istore_n [(3, .int x1), (0, .ref (X.1 + v0)), (1, .int v1), (2, .int v2)] hc hr (dc_at dX9_sure 3 rfl) (by decide) rfl ?_
  refine r_iload_n hc 0 (dc_at dX9_sure 4 rfl) rfl ?_
  refine r_if_eq (tgt := 12) hc (dc_at dX9_sure 5 rfl) (by decide) hf (fun hf => ?_) (fun hf => ?_)
  · refine r_iload_n hc 3 (dc_at dX9_sure 8 rfl) rfl ?_
    refine r_if_lt (tgt := 29) hc (dc_at dX9_sure 9 rfl) (by decide) hf (fun hf => ?_) (fun hf => ?_)
    · refine r_bipush (-3 : Int32) hc (dc_at dX9_sure 17 rfl) (by decide) ?_
      exact r_iret hc he (by omega) (by omega) (dc_at dX9_sure 18 rfl) hf
    · refine r_iload_n hc 3 (dc_at dX9_sure 10 rfl) rfl ?_
      refine r_aload_n hc 1 (dc_at dX9_sure 11 rfl) rfl ?_
      refine r_getR hc (dc_at dX9_sure 12 rfl) fl_X9_36 hf fun a2 hf => ?_
      refine r_iload_n hc 2 (dc_at dX9_sure 13 rfl) rfl ?_
      refine r_aaloadR (t := 4) hc (dc_at dX9_sure 14 rfl) rfl hf fun a3 hf => ?_
      refine r_getI hc (dc_at dX9_sure 15 rfl) fl_X9_153 hf fun x4 hf => ?_
      refine r_icmp_lt (tgt := 32) hc (dc_at dX9_sure 16 rfl) (by decide) hf (fun hf => ?_) (fun hf => ?_)
      · refine r_aload_n hc 1 (dc_at dX9_sure 19 rfl) rfl ?_
        refine r_aload_n hc 1 (dc_at dX9_sure 20 rfl) rfl ?_
        refine r_getR hc (dc_at dX9_sure 21 rfl) fl_X9_36 hf fun a5 hf => ?_
        refine r_iload_n hc 2 (dc_at dX9_sure 22 rfl) rfl ?_
        refine r_aaloadR (t := 4) hc (dc_at dX9_sure 23 rfl) rfl hf fun a6 hf => ?_
        refine r_getI hc (dc_at dX9_sure 24 rfl) fl_X9_153 hf fun x7 hf => ?_
        obtain ⟨ho, hf⟩ := cO_some hf
        refine ob hf fun x8 ex hf => ?_
        refine r_callVi (As := [.int x7]) (ci := 9) hc hr (dc_at dX9_sure 25 rfl) ml_X9_305 mv_X9_fewRows vi_X9_fewRows rfl ho rfl (mt_X9_fewRows ex) (by first | exact Nat.le_of_ble_eq_true rfl | omega) (by first | exact Nat.le_of_ble_eq_true rfl | omega) (by first | exact Nat.le_of_ble_eq_true rfl | omega) (by omega) (by omega) ?_
        refine r_if_ne (tgt := 52) hc (dc_at dX9_sure 26 rfl) (by decide) hf (fun hf => ?_) (fun hf => ?_)
        · refine r_aload_n hc 1 (dc_at dX9_sure 29 rfl) rfl ?_
          obtain ⟨ho, hf⟩ := cO_some hf
          refine ob2 hf fun a9 h10 ex hf => ?_
          refine r_callVrC (As := []) (ci := 9) hc hr (dc_at dX9_sure 30 rfl) ml_X9_308 mv_X9_watcherHere vi_X9_watcherHere rfl ho rfl (mt_X9_watcherHere ex hcost) (by first | exact Nat.le_of_ble_eq_true rfl | omega) (by first | exact Nat.le_of_ble_eq_true rfl | omega) (by first | exact Nat.le_of_ble_eq_true rfl | omega) (by omega) (by omega) ?_
          refine r_astore [(4, .ref (X.1 + a9)), (3, .int x1), (0, .ref (X.1 + v0)), (1, .int v1), (2, .int v2)] hc hr (dc_at dX9_sure 31 rfl) (by decide) rfl ?_
          refine r_aload hc 0 (dc_at dX9_sure 32 rfl) rfl ?_
          refine r_aload_n hc 2 (dc_at dX9_sure 33 rfl) rfl ?_
          refine r_getR hc (dc_at dX9_sure 34 rfl) fl_X9_26 hf fun a11 hf => ?_
          refine r_aload_n hc 2 (dc_at dX9_sure 35 rfl) rfl ?_
          refine r_getR hc (dc_at dX9_sure 36 rfl) fl_X9_36 hf fun a12 hf => ?_
          refine r_iload_n hc 3 (dc_at dX9_sure 37 rfl) rfl ?_
          refine r_aaloadR (t := 4) hc (dc_at dX9_sure 38 rfl) rfl hf fun a13 hf => ?_
          refine r_iconst (-1 : Int32) hc (dc_at dX9_sure 39 rfl) (by decide) ?_
          obtain ⟨ho, hf⟩ := cO_some hf
          refine ob2 hf fun u h15 ex hf => ?_
          refine r_callVv (As := [.ref (X.1 + a11), .ref (X.1 + a13), .int ((-1 : Int32))]) (ci := 8) hc hr (dc_at dX9_sure 40 rfl) ml_X9_312 mv_X8_watchAll vi_X8_watchAll rfl ho rfl (mt_X8_watchAll ex) (by first | exact Nat.le_of_ble_eq_true rfl | omega) (by first | exact Nat.le_of_ble_eq_true rfl | omega) (by first | exact Nat.le_of_ble_eq_true rfl | omega) (by omega) (by omega) ?_
          refine r_aload hc 0 (dc_at dX9_sure 41 rfl) rfl ?_
          refine r_getI hc (dc_at dX9_sure 42 rfl) fl_X9_318 hf fun x16 hf => ?_
          refine r_if_le (tgt := 92) hc (dc_at dX9_sure 43 rfl) (by decide) hf (fun hf => ?_) (fun hf => ?_)
          · refine r_iconst (-1 : Int32) hc (dc_at dX9_sure 49 rfl) (by decide) ?_
            exact r_iret hc he (by omega) (by omega) (dc_at dX9_sure 50 rfl) hf
          · refine r_aload hc 0 (dc_at dX9_sure 44 rfl) rfl ?_
            refine r_getR hc (dc_at dX9_sure 45 rfl) fl_X9_324 hf fun a17 hf => ?_
            refine r_iload_n hc 4 (dc_at dX9_sure 46 rfl) rfl ?_
            refine r_iaload hc (dc_at dX9_sure 47 rfl) hf fun x18 hf => ?_
            refine r_goto (tgt := 93) hc (dc_at dX9_sure 48 rfl) (by decide) ?_
            exact r_iret hc he (by omega) (by omega) (dc_at dX9_sure 50 rfl) hf
        · refine r_sipush (-1000 : Int32) hc (dc_at dX9_sure 27 rfl) (by decide) ?_
          exact r_iret hc he (by omega) (by omega) (dc_at dX9_sure 28 rfl) hf
      · refine r_bipush (-3 : Int32) hc (dc_at dX9_sure 17 rfl) (by decide) ?_
        exact r_iret hc he (by omega) (by omega) (dc_at dX9_sure 18 rfl) hf
  · refine r_iload_n hc 0 (dc_at dX9_sure 6 rfl) rfl ?_
    exact r_iret hc he (by omega) (by omega) (dc_at dX9_sure 7 rfl) hf
def m_X9_sure (F : Nat) (h : PH) (p0 : Nat) (p1 : Int32) (p2 : Int32) : Option (Int32 × PH) := b_X9_sure_0 F h p0 p1 p2
theorem mt_X9_sure {l : Launch} {X : XT} {F : Nat} {h hz : PH} {p0 : Nat} {p1 : Int32} {p2 : Int32} {r : Int32} {mc ms : Nat} (ex : m_X9_sure F h p0 p1 p2 = some (r, hz)) (hcost : gN 9 17 h p0 = some none → 3 ≤ mc ∧ 24 ≤ ms) : MT l X yX9_sure cX9_sure 5 (some .int) 17 988 mc ms [.ref (X.1 + p0), .int p1, .int p2] h (some (.int r)) hz := MT.of (by decide) (Nat.le_of_ble_eq_true rfl) fun M hl hc hr he => by
  subst hl
  exact gg_sub [0, 1, 2] rfl (t_X9_sure_0  hc hr he (Nat.zero_le _) (Nat.zero_le _) hcost ex)
/-! FractionLift.hasButtonsAlone(LFractionLift$Tray;)Z -/
def lX9_hasButtonsAloneL : List (Nat × Instr × Nat × Nat) := [(0, .iconst 0, 1, 1), (1, .istore_n 2, 1, 2), (2, .iload_n 2, 1, 3), (3, .aload_n 1, 1, 4), (4, .getfield 153, 3, 7), (7, .if_icmp .ge 40, 3, 10), (10, .aload_n 1, 1, 11), (11, .getfield 366, 3, 14), (14, .iload_n 2, 1, 15), (15, .laload, 1, 16), (16, .lconst 0, 1, 17), (17, .lcmp, 1, 18), (18, .ifCond .lt 21, 3, 21), (21, .aload_n 1, 1, 22), (22, .getfield 366, 3, 25), (25, .iload_n 2, 1, 26), (26, .laload, 1, 27), (27, .aload_n 0, 1, 28), (28, .getfield 26, 3, 31), (31, .getfield 159, 3, 34), (34, .i2l, 1, 35), (35, .lcmp, 1, 36), (36, .ifCond .lt 5, 3, 39), (39, .iconst 0, 1, 40), (40, .ireturn, 1, 41), (41, .iinc 2 1, 3, 44), (44, .goto (-42), 3, 47), (47, .iconst 1, 1, 48), (48, .ireturn, 1, 49)]
set_option maxRecDepth 20000 in
theorem dX9_hasButtonsAlone : dcL cX9_hasButtonsAlone lX9_hasButtonsAloneL = true := by decide +kernel
def b_X9_hasButtonsAlone_2 (F : Nat) (self2 : Nat → Nat → Int32 → Option Int32) (h : PH) (v0 : Nat) (v1 : Nat) (v2 : Int32) : Option Int32 := (gI 7 1 h v1).bind fun x1 => (if x1 ≤ v2 then (rZP (1 : Int32)) else ((gR 7 2 h v1).bind fun a2 => ((aL h a2 v2).bind fun x3 => (if x3 < (0 : Int64) then (rZP (0 : Int32)) else ((gR 7 2 h v1).bind fun a4 => ((aL h a4 v2).bind fun x5 => ((gR 9 4 h v0).bind fun a6 => ((gI 0 6 h a6).bind fun x7 => (if x5 < (Int32.toInt64 x7) then (bindv (v2 + (1)) fun x8 => (self2 v0 v1 x8)) else (rZP (0 : Int32)))))))))))
set_option maxRecDepth 20000 in
theorem tb_X9_hasButtonsAlone_2 {M : MV} {X : XT} {F : Nat} {self2 : Nat → Nat → Int32 → Option Int32} {h : PH} {r : Int32} {ce sl mc ms : Nat} {v0 : Nat} {v1 : Nat} {v2 : Int32} (hc : Cx M X RX9 cX9_hasButtonsAlone) (hr : Rx M 1 60 mc ms 3) (he : Ex M X (some .boolean) "hasButtonsAlone" (some (.int r)) h mc ms) (hm : ce ≤ mc) (hs : sl ≤ ms) (ih2 : ∀ (v0 : Nat) (v1 : Nat) (v2 : Int32), self2 v0 v1 v2 = some r → GG M X h ce sl 2 [(0, .ref (X.1 + v0)), (1, .ref (X.1 + v1)), (2, .int v2)] []) (hf : b_X9_hasButtonsAlone_2 F self2 h v0 v1 v2 = some r) : GG M X h ce sl 2 [(0, .ref (X.1 + v0)), (1, .ref (X.1 + v1)), (2, .int v2)] [] := by
  unfold b_X9_hasButtonsAlone_2 at hf
  refine r_iload_n hc 2 (dc_at dX9_hasButtonsAlone 2 rfl) rfl ?_
  refine r_aload_n hc 1 (dc_at dX9_hasButtonsAlone 3 rfl) rfl ?_
  refine r_getI hc (dc_at dX9_hasButtonsAlone 4 rfl) fl_X9_153 hf fun x1 hf => ?_
  refine r_icmp_ge (tgt := 47) hc (dc_at dX9_hasButtonsAlone 5 rfl) (by decide) hf (fun hf => ?_) (fun hf => ?_)
  · refine r_iconst (1 : Int32) hc (dc_at dX9_hasButtonsAlone 27 rfl) (by decide) ?_
    exact r_zretP hc he (hm) (hs) (dc_at dX9_hasButtonsAlone 28 rfl) hf
  · refine r_aload_n hc 1 (dc_at dX9_hasButtonsAlone 6 rfl) rfl ?_
    refine r_getR hc (dc_at dX9_hasButtonsAlone 7 rfl) fl_X9_366 hf fun a2 hf => ?_
    refine r_iload_n hc 2 (dc_at dX9_hasButtonsAlone 8 rfl) rfl ?_
    refine r_laload hc (dc_at dX9_hasButtonsAlone 9 rfl) hf fun x3 hf => ?_
    refine r_lconst (0 : Int64) hc (dc_at dX9_hasButtonsAlone 10 rfl) (by decide) ?_
    refine r_lcmp_lt (tgt := 39) hc (dc_at dX9_hasButtonsAlone 11 rfl) (dc_at dX9_hasButtonsAlone 12 rfl) (by decide) hf (fun hf => ?_) (fun hf => ?_)
    · refine r_iconst (0 : Int32) hc (dc_at dX9_hasButtonsAlone 23 rfl) (by decide) ?_
      exact r_zretP hc he (hm) (hs) (dc_at dX9_hasButtonsAlone 24 rfl) hf
    · refine r_aload_n hc 1 (dc_at dX9_hasButtonsAlone 13 rfl) rfl ?_
      refine r_getR hc (dc_at dX9_hasButtonsAlone 14 rfl) fl_X9_366 hf fun a4 hf => ?_
      refine r_iload_n hc 2 (dc_at dX9_hasButtonsAlone 15 rfl) rfl ?_
      refine r_laload hc (dc_at dX9_hasButtonsAlone 16 rfl) hf fun x5 hf => ?_
      refine r_aload_n hc 0 (dc_at dX9_hasButtonsAlone 17 rfl) rfl ?_
      refine r_getR hc (dc_at dX9_hasButtonsAlone 18 rfl) fl_X9_26 hf fun a6 hf => ?_
      refine r_getI hc (dc_at dX9_hasButtonsAlone 19 rfl) fl_X9_159 hf fun x7 hf => ?_
      refine r_i2l hc (dc_at dX9_hasButtonsAlone 20 rfl) ?_
      refine r_lcmp_lt (tgt := 41) hc (dc_at dX9_hasButtonsAlone 21 rfl) (dc_at dX9_hasButtonsAlone 22 rfl) (by decide) hf (fun hf => ?_) (fun hf => ?_)
      · refine obv hf fun x8 e_x8 hf => ?_
        refine r_iinc 2 [(2, .int x8), (0, .ref (X.1 + v0)), (1, .ref (X.1 + v1))] hc hr (dc_at dX9_hasButtonsAlone 25 rfl) rfl (by rw [e_x8]; rfl) (by decide) rfl ?_
        refine r_goto (tgt := 2) hc (dc_at dX9_hasButtonsAlone 26 rfl) (by decide) ?_
        exact gg_sub [1, 2, 0] rfl (ih2 _ _ _ hf)
      · refine r_iconst (0 : Int32) hc (dc_at dX9_hasButtonsAlone 23 rfl) (by decide) ?_
        exact r_zretP hc he (hm) (hs) (dc_at dX9_hasButtonsAlone 24 rfl) hf
def l_X9_hasButtonsAlone_2 (F : Nat) (h : PH) : Nat → Nat → Nat → Int32 → Option Int32
  | 0 => fun _ _ _ => none
  | n + 1 => fun v0 v1 v2 => b_X9_hasButtonsAlone_2 F (l_X9_hasButtonsAlone_2 F h n) h v0 v1 v2
theorem tl_X9_hasButtonsAlone_2 {M : MV} {X : XT} {F : Nat} {h : PH} {r : Int32} {ce sl mc ms : Nat} (hc : Cx M X RX9 cX9_hasButtonsAlone) (hr : Rx M 1 60 mc ms 3) (he : Ex M X (some .boolean) "hasButtonsAlone" (some (.int r)) h mc ms) (hm : ce ≤ mc) (hs : sl ≤ ms) (n : Nat) : ∀ (v0 : Nat) (v1 : Nat) (v2 : Int32), l_X9_hasButtonsAlone_2 F h n v0 v1 v2 = some r → GG M X h ce sl 2 [(0, .ref (X.1 + v0)), (1, .ref (X.1 + v1)), (2, .int v2)] [] := by
  induction n with
  | zero => intro v0 v1 v2 hf; cases hf
  | succ n ih => intro v0 v1 v2 hf; exact tb_X9_hasButtonsAlone_2 (F := F) hc hr he hm hs  ih hf
def b_X9_hasButtonsAlone_0 (F : Nat) (h : PH) (v0 : Nat) (v1 : Nat) : Option Int32 := l_X9_hasButtonsAlone_2 F h F v0 v1 (0 : Int32)
set_option maxRecDepth 20000 in
theorem t_X9_hasButtonsAlone_0 {M : MV} {X : XT} {F : Nat} {h : PH} {r : Int32} {ce sl mc ms : Nat} {v0 : Nat} {v1 : Nat} (hc : Cx M X RX9 cX9_hasButtonsAlone) (hr : Rx M 1 60 mc ms 3) (he : Ex M X (some .boolean) "hasButtonsAlone" (some (.int r)) h mc ms) (hm : ce ≤ mc) (hs : sl ≤ ms) (hf : b_X9_hasButtonsAlone_0 F h v0 v1 = some r) : GG M X h ce sl 0 [(0, .ref (X.1 + v0)), (1, .ref (X.1 + v1))] [] := by
  unfold b_X9_hasButtonsAlone_0 at hf
  refine r_iconst (0 : Int32) hc (dc_at dX9_hasButtonsAlone 0 rfl) (by decide) ?_
  refine r_istore_n [(2, .int ((0 : Int32))), (0, .ref (X.1 + v0)), (1, .ref (X.1 + v1))] hc hr (dc_at dX9_hasButtonsAlone 1 rfl) (by decide) rfl ?_
  exact gg_sub [1, 2, 0] rfl (tl_X9_hasButtonsAlone_2 hc hr he hm hs  F _ _ _ hf)
def m_X9_hasButtonsAlone (F : Nat) (h : PH) (p0 : Nat) (p1 : Nat) : Option Int32 := b_X9_hasButtonsAlone_0 F h p0 p1
theorem mt_X9_hasButtonsAlone {l : Launch} {X : XT} {F : Nat} {h : PH} {p0 : Nat} {p1 : Nat} {r : Int32} (ex : m_X9_hasButtonsAlone F h p0 p1 = some r) : MT l X yX9_hasButtonsAlone cX9_hasButtonsAlone 3 (some .boolean) 1 60 0 0 [.ref (X.1 + p0), .ref (X.1 + p1)] h (some (.int r)) h := MT.of (by decide) (Nat.le_of_ble_eq_true rfl) fun M hl hc hr he => by
  subst hl
  exact gg_sub [0, 1] rfl (t_X9_hasButtonsAlone_0  hc hr he (Nat.zero_le _) (Nat.zero_le _) ex)
/-! FractionLift.odds(III)J -/
def lX9_oddsL : List (Nat × Instr × Nat × Nat) := [(0, .aload_n 0, 1, 1), (1, .iload_n 1, 1, 2), (2, .iconst 1, 1, 3), (3, .invokevirtual 150, 3, 6), (6, .istore 4, 2, 8), (8, .iload 4, 2, 10), (10, .ifCond .eq 7, 3, 13), (13, .iload 4, 2, 15), (15, .i2l, 1, 16), (16, .lreturn, 1, 17), (17, .aload_n 0, 1, 18), (18, .iload_n 2, 1, 19), (19, .iload_n 3, 1, 20), (20, .invokevirtual 132, 3, 23), (23, .ifCond .eq 16, 3, 26), (26, .aload_n 0, 1, 27), (27, .aload_n 0, 1, 28), (28, .getfield 36, 3, 31), (31, .iload_n 1, 1, 32), (32, .aaload, 1, 33), (33, .invokevirtual 327, 3, 36), (36, .ifCond .ne 7, 3, 39), (39, .ldc2_w 174, 3, 42), (42, .lreturn, 1, 43), (43, .aload_n 0, 1, 44), (44, .invokevirtual 210, 3, 47), (47, .astore 5, 2, 49), (49, .aload 5, 2, 51), (51, .aload_n 0, 1, 52), (52, .getfield 36, 3, 55), (55, .iload_n 1, 1, 56), (56, .aaload, 1, 57), (57, .invokevirtual 331, 3, 60), (60, .istore 6, 2, 62), (62, .aload 5, 2, 64), (64, .getfield 225, 3, 67), (67, .aload_n 0, 1, 68), (68, .getfield 59, 3, 71), (71, .getfield 136, 3, 74), (74, .l2i, 1, 75), (75, .aload_n 0, 1, 76), (76, .getfield 59, 3, 79), (79, .getfield 140, 3, 82), (82, .l2i, 1, 83), (83, .iload 6, 2, 85), (85, .invokevirtual 335, 3, 88), (88, .lreturn, 1, 89)]
set_option maxRecDepth 20000 in
theorem dX9_odds : dcL cX9_odds lX9_oddsL = true := by decide +kernel
def b_X9_odds_0 (F : Nat) (h : PH) (v0 : Nat) (v1 : Int32) (v2 : Int32) (v3 : Int32) : Option (Int64 × PH) := cO 9 h v0 ((m_X9_refusedRow h v0 v1 (1 : Int32)).bind fun x1 => (if x1 = 0 then (cO 9 h v0 (bind2 (m_X9_asksFloor F h v0 v2 v3) fun x2 h3 => (if x2 = 0 then (some ((-3 : Int64), h3)) else ((gR 9 7 h3 v0).bind fun a4 => ((aR 4 h3 a4 v1).bind fun a5 => (cO 9 h3 v0 ((m_X9_hasButtonsAlone F h3 v0 a5).bind fun x6 => (if x6 = 0 then (some ((-3 : Int64), h3)) else (cO 9 h3 v0 (bind2 (m_X9_routesFromHere F h3 v0) fun a7 h8 => ((gR 9 7 h8 v0).bind fun a9 => ((aR 4 h8 a9 v1).bind fun a10 => (cO 5 h8 a7 (bind2 (m_X5_layChances F h8 a7 a10) fun x11 h12 => ((gR 5 0 h12 a7).bind fun a13 => ((gR 9 12 h12 v0).bind fun a14 => ((gL 2 0 h12 a14).bind fun x15 => ((gR 9 12 h12 v0).bind fun a16 => ((gL 2 1 h12 a16).bind fun x17 => (cO 1 h12 a13 ((m_X1_weightOf F h12 a13 (Int64.toInt32 x15) (Int64.toInt32 x17) x11).bind fun x18 => (some (x18, h12))))))))))))))))))))))) else (some ((Int32.toInt64 x1), h))))
set_option maxRecDepth 20000 in
theorem t_X9_odds_0 {M : MV} {X : XT} {F : Nat} {h hz : PH} {r : Int64} {mc ms : Nat} {v0 : Nat} {v1 : Int32} {v2 : Int32} {v3 : Int32} (hc : Cx M X RX9 cX9_odds) (hr : Rx M 7 408 mc ms 7) (he : Ex M X (some .long) "odds" (some (.long r)) hz mc ms) (hm : 0 ≤ mc) (hs : 0 ≤ ms) (hcost : gN 9 16 h v0 = some none → 10 ≤ mc ∧ 46057 ≤ ms) (hf : b_X9_odds_0 F h v0 v1 v2 v3 = some (r, hz)) : GG M X h 0 0 0 [(0, .ref (X.1 + v0)), (1, .int v1), (2, .int v2), (3, .int v3)] [] := by
  unfold b_X9_odds_0 at hf
  refine r_aload_n hc 0 (dc_at dX9_odds 0 rfl) rfl ?_
  refine r_iload_n hc 1 (dc_at dX9_odds 1 rfl) rfl ?_
  refine r_iconst (1 : Int32) hc (dc_at dX9_odds 2 rfl) (by decide) ?_
  obtain ⟨ho, hf⟩ := cO_some hf
  refine ob hf fun x1 ex hf => ?_
  refine r_callVi (As := [.int v1, .int ((1 : Int32))]) (ci := 9) hc hr (dc_at dX9_odds 3 rfl) ml_X9_150 mv_X9_refusedRow vi_X9_refusedRow rfl ho rfl (mt_X9_refusedRow ex) (by first | exact Nat.le_of_ble_eq_true rfl | omega) (by first | exact Nat.le_of_ble_eq_true rfl | omega) (by first | exact Nat.le_of_ble_eq_true rfl | omega) (by omega) (by omega) ?_
  refine r_istore [(4, .int x1), (0, .ref (X.1 + v0)), (1, .int v1), (2, .int v2), (3, .int v3)] hc hr (dc_at dX9_odds 4 rfl) (by decide) rfl ?_
  refine r_iload hc 0 (dc_at dX9_odds 5 rfl) rfl ?_
  refine r_if_eq (tgt := 17) hc (dc_at dX9_odds 6 rfl) (by decide) hf (fun hf => ?_) (fun hf => ?_)
  · refine r_aload_n hc 1 (dc_at dX9_odds 10 rfl) rfl ?_
    refine r_iload_n hc 3 (dc_at dX9_odds 11 rfl) rfl ?_
    refine r_iload_n hc 4 (dc_at dX9_odds 12 rfl) rfl ?_
    obtain ⟨ho, hf⟩ := cO_some hf
    refine ob2 hf fun x2 h3 ex hf => ?_
    refine r_callVi (As := [.int v2, .int v3]) (ci := 9) hc hr (dc_at dX9_odds 13 rfl) ml_X9_132 mv_X9_asksFloor vi_X9_asksFloor rfl ho rfl (mt_X9_asksFloor ex) (by first | exact Nat.le_of_ble_eq_true rfl | omega) (by first | exact Nat.le_of_ble_eq_true rfl | omega) (by first | exact Nat.le_of_ble_eq_true rfl | omega) (by omega) (by omega) ?_
    have hcost : gN 9 16 h3 v0 = some none → 10 ≤ mc ∧ 46057 ≤ ms := fun z => hcost ((asks_keeps ex 16).symm.trans z)
    refine r_if_eq (tgt := 39) hc (dc_at dX9_odds 14 rfl) (by decide) hf (fun hf => ?_) (fun hf => ?_)
    · refine r_ldc2 hc (dc_at dX9_odds 22 rfl) cl2_X9_174 ?_
      exact r_lret hc he (by omega) (by omega) (dc_at dX9_odds 23 rfl) hf
    · refine r_aload_n hc 1 (dc_at dX9_odds 15 rfl) rfl ?_
      refine r_aload_n hc 1 (dc_at dX9_odds 16 rfl) rfl ?_
      refine r_getR hc (dc_at dX9_odds 17 rfl) fl_X9_36 hf fun a4 hf => ?_
      refine r_iload_n hc 2 (dc_at dX9_odds 18 rfl) rfl ?_
      refine r_aaloadR (t := 4) hc (dc_at dX9_odds 19 rfl) rfl hf fun a5 hf => ?_
      obtain ⟨ho, hf⟩ := cO_some hf
      refine ob hf fun x6 ex hf => ?_
      refine r_callVi (As := [.ref (X.1 + a5)]) (ci := 9) hc hr (dc_at dX9_odds 20 rfl) ml_X9_327 mv_X9_hasButtonsAlone vi_X9_hasButtonsAlone rfl ho rfl (mt_X9_hasButtonsAlone ex) (by first | exact Nat.le_of_ble_eq_true rfl | omega) (by first | exact Nat.le_of_ble_eq_true rfl | omega) (by first | exact Nat.le_of_ble_eq_true rfl | omega) (by omega) (by omega) ?_
      refine r_if_ne (tgt := 43) hc (dc_at dX9_odds 21 rfl) (by decide) hf (fun hf => ?_) (fun hf => ?_)
      · refine r_aload_n hc 1 (dc_at dX9_odds 24 rfl) rfl ?_
        obtain ⟨ho, hf⟩ := cO_some hf
        refine ob2 hf fun a7 h8 ex hf => ?_
        refine r_callVrC (As := []) (ci := 9) hc hr (dc_at dX9_odds 25 rfl) ml_X9_210 mv_X9_routesFromHere vi_X9_routesFromHere rfl ho rfl (mt_X9_routesFromHere ex hcost) (by first | exact Nat.le_of_ble_eq_true rfl | omega) (by first | exact Nat.le_of_ble_eq_true rfl | omega) (by first | exact Nat.le_of_ble_eq_true rfl | omega) (by omega) (by omega) ?_
        refine r_astore [(5, .ref (X.1 + a7)), (4, .int x1), (0, .ref (X.1 + v0)), (1, .int v1), (2, .int v2), (3, .int v3)] hc hr (dc_at dX9_odds 26 rfl) (by decide) rfl ?_
        refine r_aload hc 0 (dc_at dX9_odds 27 rfl) rfl ?_
        refine r_aload_n hc 2 (dc_at dX9_odds 28 rfl) rfl ?_
        refine r_getR hc (dc_at dX9_odds 29 rfl) fl_X9_36 hf fun a9 hf => ?_
        refine r_iload_n hc 3 (dc_at dX9_odds 30 rfl) rfl ?_
        refine r_aaloadR (t := 4) hc (dc_at dX9_odds 31 rfl) rfl hf fun a10 hf => ?_
        obtain ⟨ho, hf⟩ := cO_some hf
        refine ob2 hf fun x11 h12 ex hf => ?_
        refine r_callVi (As := [.ref (X.1 + a10)]) (ci := 5) hc hr (dc_at dX9_odds 32 rfl) ml_X9_331 mv_X5_layChances vi_X5_layChances rfl ho rfl (mt_X5_layChances ex) (by first | exact Nat.le_of_ble_eq_true rfl | omega) (by first | exact Nat.le_of_ble_eq_true rfl | omega) (by first | exact Nat.le_of_ble_eq_true rfl | omega) (by omega) (by omega) ?_
        refine r_istore [(6, .int x11), (5, .ref (X.1 + a7)), (4, .int x1), (0, .ref (X.1 + v0)), (1, .int v1), (2, .int v2), (3, .int v3)] hc hr (dc_at dX9_odds 33 rfl) (by decide) rfl ?_
        refine r_aload hc 1 (dc_at dX9_odds 34 rfl) rfl ?_
        refine r_getR hc (dc_at dX9_odds 35 rfl) fl_X9_225 hf fun a13 hf => ?_
        refine r_aload_n hc 3 (dc_at dX9_odds 36 rfl) rfl ?_
        refine r_getR hc (dc_at dX9_odds 37 rfl) fl_X9_59 hf fun a14 hf => ?_
        refine r_getL hc (dc_at dX9_odds 38 rfl) fl_X9_136 hf fun x15 hf => ?_
        refine r_l2i hc (dc_at dX9_odds 39 rfl) ?_
        refine r_aload_n hc 3 (dc_at dX9_odds 40 rfl) rfl ?_
        refine r_getR hc (dc_at dX9_odds 41 rfl) fl_X9_59 hf fun a16 hf => ?_
        refine r_getL hc (dc_at dX9_odds 42 rfl) fl_X9_140 hf fun x17 hf => ?_
        refine r_l2i hc (dc_at dX9_odds 43 rfl) ?_
        refine r_iload hc 0 (dc_at dX9_odds 44 rfl) rfl ?_
        obtain ⟨ho, hf⟩ := cO_some hf
        refine ob hf fun x18 ex hf => ?_
        refine r_callVl (As := [.int ((Int64.toInt32 x15)), .int ((Int64.toInt32 x17)), .int x11]) (ci := 1) hc hr (dc_at dX9_odds 45 rfl) ml_X9_335 mv_X1_weightOf vi_X1_weightOf rfl ho rfl (mt_X1_weightOf ex) (by first | exact Nat.le_of_ble_eq_true rfl | omega) (by first | exact Nat.le_of_ble_eq_true rfl | omega) (by first | exact Nat.le_of_ble_eq_true rfl | omega) (by omega) (by omega) ?_
        exact r_lret hc he (by omega) (by omega) (dc_at dX9_odds 46 rfl) hf
      · refine r_ldc2 hc (dc_at dX9_odds 22 rfl) cl2_X9_174 ?_
        exact r_lret hc he (by omega) (by omega) (dc_at dX9_odds 23 rfl) hf
  · refine r_iload hc 0 (dc_at dX9_odds 7 rfl) rfl ?_
    refine r_i2l hc (dc_at dX9_odds 8 rfl) ?_
    exact r_lret hc he (by omega) (by omega) (dc_at dX9_odds 9 rfl) hf
def m_X9_odds (F : Nat) (h : PH) (p0 : Nat) (p1 : Int32) (p2 : Int32) (p3 : Int32) : Option (Int64 × PH) := b_X9_odds_0 F h p0 p1 p2 p3
theorem mt_X9_odds {l : Launch} {X : XT} {F : Nat} {h hz : PH} {p0 : Nat} {p1 : Int32} {p2 : Int32} {p3 : Int32} {r : Int64} {mc ms : Nat} (ex : m_X9_odds F h p0 p1 p2 p3 = some (r, hz)) (hcost : gN 9 16 h p0 = some none → 10 ≤ mc ∧ 46057 ≤ ms) : MT l X yX9_odds cX9_odds 7 (some .long) 7 408 mc ms [.ref (X.1 + p0), .int p1, .int p2, .int p3] h (some (.long r)) hz := MT.of (by decide) (Nat.le_of_ble_eq_true rfl) fun M hl hc hr he => by
  subst hl
  exact gg_sub [0, 1, 2, 3] rfl (t_X9_odds_0  hc hr he (Nat.zero_le _) (Nat.zero_le _) hcost ex)
/-! FractionLift.ends(I)I -/
def lX9_endsL : List (Nat × Instr × Nat × Nat) := [(0, .aload_n 0, 1, 1), (1, .iload_n 1, 1, 2), (2, .iconst 1, 1, 3), (3, .invokevirtual 150, 3, 6), (6, .istore_n 2, 1, 7), (7, .iload_n 2, 1, 8), (8, .ifCond .eq 5, 3, 11), (11, .iload_n 2, 1, 12), (12, .ireturn, 1, 13), (13, .aload_n 0, 1, 14), (14, .aload_n 0, 1, 15), (15, .getfield 36, 3, 18), (18, .iload_n 1, 1, 19), (19, .aaload, 1, 20), (20, .invokevirtual 327, 3, 23), (23, .ifCond .ne 6, 3, 26), (26, .bipush (-3), 2, 28), (28, .ireturn, 1, 29), (29, .aload_n 0, 1, 30), (30, .invokevirtual 210, 3, 33), (33, .astore_n 3, 1, 34), (34, .aload_n 3, 1, 35), (35, .aload_n 0, 1, 36), (36, .getfield 36, 3, 39), (39, .iload_n 1, 1, 40), (40, .aaload, 1, 41), (41, .invokevirtual 331, 3, 44), (44, .istore 4, 2, 46), (46, .aload_n 3, 1, 47), (47, .getfield 225, 3, 50), (50, .getfield 229, 3, 53), (53, .iload 4, 2, 55), (55, .isub, 1, 56), (56, .ireturn, 1, 57)]
set_option maxRecDepth 20000 in
theorem dX9_ends : dcL cX9_ends lX9_endsL = true := by decide +kernel
def b_X9_ends_0 (F : Nat) (h : PH) (v0 : Nat) (v1 : Int32) : Option (Int32 × PH) := cO 9 h v0 ((m_X9_refusedRow h v0 v1 (1 : Int32)).bind fun x1 => (if x1 = 0 then ((gR 9 7 h v0).bind fun a2 => ((aR 4 h a2 v1).bind fun a3 => (cO 9 h v0 ((m_X9_hasButtonsAlone F h v0 a3).bind fun x4 => (if x4 = 0 then (some ((-3 : Int32), h)) else (cO 9 h v0 (bind2 (m_X9_routesFromHere F h v0) fun a5 h6 => ((gR 9 7 h6 v0).bind fun a7 => ((aR 4 h6 a7 v1).bind fun a8 => (cO 5 h6 a5 (bind2 (m_X5_layChances F h6 a5 a8) fun x9 h10 => ((gR 5 0 h10 a5).bind fun a11 => ((gI 1 4 h10 a11).bind fun x12 => (some ((x12 - x9), h10))))))))))))))) else (some (x1, h))))
set_option maxRecDepth 20000 in
theorem t_X9_ends_0 {M : MV} {X : XT} {F : Nat} {h hz : PH} {r : Int32} {mc ms : Nat} {v0 : Nat} {v1 : Int32} (hc : Cx M X RX9 cX9_ends) (hr : Rx M 7 408 mc ms 5) (he : Ex M X (some .int) "ends" (some (.int r)) hz mc ms) (hm : 0 ≤ mc) (hs : 0 ≤ ms) (hcost : gN 9 16 h v0 = some none → 10 ≤ mc ∧ 46057 ≤ ms) (hf : b_X9_ends_0 F h v0 v1 = some (r, hz)) : GG M X h 0 0 0 [(0, .ref (X.1 + v0)), (1, .int v1)] [] := by
  unfold b_X9_ends_0 at hf
  refine r_aload_n hc 0 (dc_at dX9_ends 0 rfl) rfl ?_
  refine r_iload_n hc 1 (dc_at dX9_ends 1 rfl) rfl ?_
  refine r_iconst (1 : Int32) hc (dc_at dX9_ends 2 rfl) (by decide) ?_
  obtain ⟨ho, hf⟩ := cO_some hf
  refine ob hf fun x1 ex hf => ?_
  refine r_callVi (As := [.int v1, .int ((1 : Int32))]) (ci := 9) hc hr (dc_at dX9_ends 3 rfl) ml_X9_150 mv_X9_refusedRow vi_X9_refusedRow rfl ho rfl (mt_X9_refusedRow ex) (by first | exact Nat.le_of_ble_eq_true rfl | omega) (by first | exact Nat.le_of_ble_eq_true rfl | omega) (by first | exact Nat.le_of_ble_eq_true rfl | omega) (by omega) (by omega) ?_
  refine r_istore_n [(2, .int x1), (0, .ref (X.1 + v0)), (1, .int v1)] hc hr (dc_at dX9_ends 4 rfl) (by decide) rfl ?_
  refine r_iload_n hc 0 (dc_at dX9_ends 5 rfl) rfl ?_
  refine r_if_eq (tgt := 13) hc (dc_at dX9_ends 6 rfl) (by decide) hf (fun hf => ?_) (fun hf => ?_)
  · refine r_aload_n hc 1 (dc_at dX9_ends 9 rfl) rfl ?_
    refine r_aload_n hc 1 (dc_at dX9_ends 10 rfl) rfl ?_
    refine r_getR hc (dc_at dX9_ends 11 rfl) fl_X9_36 hf fun a2 hf => ?_
    refine r_iload_n hc 2 (dc_at dX9_ends 12 rfl) rfl ?_
    refine r_aaloadR (t := 4) hc (dc_at dX9_ends 13 rfl) rfl hf fun a3 hf => ?_
    obtain ⟨ho, hf⟩ := cO_some hf
    refine ob hf fun x4 ex hf => ?_
    refine r_callVi (As := [.ref (X.1 + a3)]) (ci := 9) hc hr (dc_at dX9_ends 14 rfl) ml_X9_327 mv_X9_hasButtonsAlone vi_X9_hasButtonsAlone rfl ho rfl (mt_X9_hasButtonsAlone ex) (by first | exact Nat.le_of_ble_eq_true rfl | omega) (by first | exact Nat.le_of_ble_eq_true rfl | omega) (by first | exact Nat.le_of_ble_eq_true rfl | omega) (by omega) (by omega) ?_
    refine r_if_ne (tgt := 29) hc (dc_at dX9_ends 15 rfl) (by decide) hf (fun hf => ?_) (fun hf => ?_)
    · refine r_aload_n hc 1 (dc_at dX9_ends 18 rfl) rfl ?_
      obtain ⟨ho, hf⟩ := cO_some hf
      refine ob2 hf fun a5 h6 ex hf => ?_
      refine r_callVrC (As := []) (ci := 9) hc hr (dc_at dX9_ends 19 rfl) ml_X9_210 mv_X9_routesFromHere vi_X9_routesFromHere rfl ho rfl (mt_X9_routesFromHere ex hcost) (by first | exact Nat.le_of_ble_eq_true rfl | omega) (by first | exact Nat.le_of_ble_eq_true rfl | omega) (by first | exact Nat.le_of_ble_eq_true rfl | omega) (by omega) (by omega) ?_
      refine r_astore_n [(3, .ref (X.1 + a5)), (2, .int x1), (0, .ref (X.1 + v0)), (1, .int v1)] hc hr (dc_at dX9_ends 20 rfl) (by decide) rfl ?_
      refine r_aload_n hc 0 (dc_at dX9_ends 21 rfl) rfl ?_
      refine r_aload_n hc 2 (dc_at dX9_ends 22 rfl) rfl ?_
      refine r_getR hc (dc_at dX9_ends 23 rfl) fl_X9_36 hf fun a7 hf => ?_
      refine r_iload_n hc 3 (dc_at dX9_ends 24 rfl) rfl ?_
      refine r_aaloadR (t := 4) hc (dc_at dX9_ends 25 rfl) rfl hf fun a8 hf => ?_
      obtain ⟨ho, hf⟩ := cO_some hf
      refine ob2 hf fun x9 h10 ex hf => ?_
      refine r_callVi (As := [.ref (X.1 + a8)]) (ci := 5) hc hr (dc_at dX9_ends 26 rfl) ml_X9_331 mv_X5_layChances vi_X5_layChances rfl ho rfl (mt_X5_layChances ex) (by first | exact Nat.le_of_ble_eq_true rfl | omega) (by first | exact Nat.le_of_ble_eq_true rfl | omega) (by first | exact Nat.le_of_ble_eq_true rfl | omega) (by omega) (by omega) ?_
      refine r_istore [(4, .int x9), (3, .ref (X.1 + a5)), (2, .int x1), (0, .ref (X.1 + v0)), (1, .int v1)] hc hr (dc_at dX9_ends 27 rfl) (by decide) rfl ?_
      refine r_aload_n hc 1 (dc_at dX9_ends 28 rfl) rfl ?_
      refine r_getR hc (dc_at dX9_ends 29 rfl) fl_X9_225 hf fun a11 hf => ?_
      refine r_getI hc (dc_at dX9_ends 30 rfl) fl_X9_229 hf fun x12 hf => ?_
      refine r_iload hc 0 (dc_at dX9_ends 31 rfl) rfl ?_
      refine r_isub hc (dc_at dX9_ends 32 rfl) ?_
      exact r_iret hc he (by omega) (by omega) (dc_at dX9_ends 33 rfl) hf
    · refine r_bipush (-3 : Int32) hc (dc_at dX9_ends 16 rfl) (by decide) ?_
      exact r_iret hc he (by omega) (by omega) (dc_at dX9_ends 17 rfl) hf
  · refine r_iload_n hc 0 (dc_at dX9_ends 7 rfl) rfl ?_
    exact r_iret hc he (by omega) (by omega) (dc_at dX9_ends 8 rfl) hf
def m_X9_ends (F : Nat) (h : PH) (p0 : Nat) (p1 : Int32) : Option (Int32 × PH) := b_X9_ends_0 F h p0 p1
theorem mt_X9_ends {l : Launch} {X : XT} {F : Nat} {h hz : PH} {p0 : Nat} {p1 : Int32} {r : Int32} {mc ms : Nat} (ex : m_X9_ends F h p0 p1 = some (r, hz)) (hcost : gN 9 16 h p0 = some none → 10 ≤ mc ∧ 46057 ≤ ms) : MT l X yX9_ends cX9_ends 5 (some .int) 7 408 mc ms [.ref (X.1 + p0), .int p1] h (some (.int r)) hz := MT.of (by decide) (Nat.le_of_ble_eq_true rfl) fun M hl hc hr he => by
  subst hl
  exact gg_sub [0, 1] rfl (t_X9_ends_0  hc hr he (Nat.zero_le _) (Nat.zero_le _) hcost ex)
/-! FractionLift.numbers(III)I -/
def lX9_numbersL : List (Nat × Instr × Nat × Nat) := [(0, .iload_n 1, 1, 1), (1, .ifCond .lt 17, 3, 4), (4, .iload_n 1, 1, 5), (5, .iconst 4, 1, 6), (6, .if_icmp .ge 12, 3, 9), (9, .iload_n 2, 1, 10), (10, .ifCond .lt 8, 3, 13), (13, .iload_n 2, 1, 14), (14, .iconst 3, 1, 15), (15, .if_icmp .le 6, 3, 18), (18, .bipush (-2), 2, 20), (20, .ireturn, 1, 21), (21, .iload_n 3, 1, 22), (22, .ifCond .lt 9, 3, 25), (25, .iload_n 3, 1, 26), (26, .bipush 40, 2, 28), (28, .if_icmp .le 6, 3, 31), (31, .bipush (-3), 2, 33), (33, .ireturn, 1, 34), (34, .aload_n 0, 1, 35), (35, .getfield 36, 3, 38), (38, .iload_n 1, 1, 39), (39, .aaload, 1, 40), (40, .ifnonnull 16, 3, 43), (43, .aload_n 0, 1, 44), (44, .getfield 36, 3, 47), (47, .iload_n 1, 1, 48), (48, .new 34, 3, 51), (51, .dup, 1, 52), (52, .invokespecial 339, 3, 55), (55, .aastore, 1, 56), (56, .aload_n 0, 1, 57), (57, .getfield 36, 3, 60), (60, .iload_n 1, 1, 61), (61, .aaload, 1, 62), (62, .iload_n 2, 1, 63), (63, .iload_n 3, 1, 64), (64, .invokevirtual 340, 3, 67), (67, .iconst 0, 1, 68), (68, .ireturn, 1, 69)]
set_option maxRecDepth 20000 in
theorem dX9_numbers : dcL cX9_numbers lX9_numbersL = true := by decide +kernel
def b_X9_numbers_56 (F : Nat) (h : PH) (v0 : Nat) (v1 : Int32) (v2 : Int32) (v3 : Int32) : Option (Int32 × PH) := (gR 9 7 h v0).bind fun a1 => ((aR 4 h a1 v1).bind fun a2 => (cO 7 h a2 (bind2 (m_X7_layOut F h a2 v2 v3) fun _ h4 => (some ((0 : Int32), h4)))))
set_option maxRecDepth 20000 in
theorem t_X9_numbers_56 {M : MV} {X : XT} {F : Nat} {h hz : PH} {r : Int32} {ce sl mc ms : Nat} {v0 : Nat} {v1 : Int32} {v2 : Int32} {v3 : Int32} (hc : Cx M X RX9 cX9_numbers) (hr : Rx M 3 176 mc ms 4) (he : Ex M X (some .int) "numbers" (some (.int r)) hz mc ms) (hm : ce ≤ mc) (hs : sl ≤ ms) (hf : b_X9_numbers_56 F h v0 v1 v2 v3 = some (r, hz)) : GG M X h ce sl 56 [(0, .ref (X.1 + v0)), (1, .int v1), (2, .int v2), (3, .int v3)] [] := by
  unfold b_X9_numbers_56 at hf
  refine r_aload_n hc 0 (dc_at dX9_numbers 31 rfl) rfl ?_
  refine r_getRe hc (dc_at dX9_numbers 32 rfl) fl_X9_36 hf fun a1 e_a1 hf => ?_
  refine r_iload_n hc 1 (dc_at dX9_numbers 33 rfl) rfl ?_
  refine r_aaloadR (t := 4) hc (dc_at dX9_numbers 34 rfl) rfl hf fun a2 hf => ?_
  refine r_iload_n hc 2 (dc_at dX9_numbers 35 rfl) rfl ?_
  refine r_iload_n hc 3 (dc_at dX9_numbers 36 rfl) rfl ?_
  obtain ⟨ho, hf⟩ := cO_some hf
  refine ob2 hf fun u h4 ex hf => ?_
  refine r_callVv (As := [.int v2, .int v3]) (ci := 7) hc hr (dc_at dX9_numbers 37 rfl) ml_X9_340 mv_X7_layOut vi_X7_layOut rfl ho rfl (mt_X7_layOut ex) (by first | exact Nat.le_of_ble_eq_true rfl | omega) (by first | exact Nat.le_of_ble_eq_true rfl | omega) (by first | exact Nat.le_of_ble_eq_true rfl | omega) (by omega) (by omega) ?_
  refine r_iconst (0 : Int32) hc (dc_at dX9_numbers 38 rfl) (by decide) ?_
  exact r_iret hc he (by omega) (by omega) (dc_at dX9_numbers 39 rfl) hf
def b_X9_numbers_0 (F : Nat) (h : PH) (v0 : Nat) (v1 : Int32) (v2 : Int32) (v3 : Int32) : Option (Int32 × PH) := if v1 < 0 then (some ((-2 : Int32), h)) else (if (4 : Int32) ≤ v1 then (some ((-2 : Int32), h)) else (if v2 < 0 then (some ((-2 : Int32), h)) else (if v2 ≤ (3 : Int32) then (if v3 < 0 then (some ((-3 : Int32), h)) else (if v3 ≤ (40 : Int32) then ((gR 9 7 h v0).bind fun a1 => ((aN 4 h a1 v1).bind fun q2 => (if q2 = none then ((gR 9 7 h v0).bind fun a3 => (bindv h.length fun a4 => (bindv (h ++ [.inr (7, df7)]) fun h5 => (bind2 (m_X7_init h5 a4) fun _ h7 => ((sR 4 7 h7 a3 v1 a4).bind fun h8 => (b_X9_numbers_56 F h8 v0 v1 v2 v3)))))) else (b_X9_numbers_56 F h v0 v1 v2 v3)))) else (some ((-3 : Int32), h)))) else (some ((-2 : Int32), h)))))
set_option maxRecDepth 20000 in
theorem t_X9_numbers_0 {M : MV} {X : XT} {F : Nat} {h hz : PH} {r : Int32} {mc ms : Nat} {v0 : Nat} {v1 : Int32} {v2 : Int32} {v3 : Int32} (hc : Cx M X RX9 cX9_numbers) (hr : Rx M 3 176 mc ms 4) (he : Ex M X (some .int) "numbers" (some (.int r)) hz mc ms) (hm : 0 ≤ mc) (hs : 0 ≤ ms) (hcost : ((gR 9 7 h v0).bind fun a => aN 4 h a v1) = some none → 2 ≤ mc ∧ 43 ≤ ms) (hf : b_X9_numbers_0 F h v0 v1 v2 v3 = some (r, hz)) : GG M X h 0 0 0 [(0, .ref (X.1 + v0)), (1, .int v1), (2, .int v2), (3, .int v3)] [] := by
  unfold b_X9_numbers_0 at hf
  refine r_iload_n hc 1 (dc_at dX9_numbers 0 rfl) rfl ?_
  refine r_if_lt (tgt := 18) hc (dc_at dX9_numbers 1 rfl) (by decide) hf (fun hf => ?_) (fun hf => ?_)
  · refine r_bipush (-2 : Int32) hc (dc_at dX9_numbers 10 rfl) (by decide) ?_
    exact r_iret hc he (by omega) (by omega) (dc_at dX9_numbers 11 rfl) hf
  · refine r_iload_n hc 1 (dc_at dX9_numbers 2 rfl) rfl ?_
    refine r_iconst (4 : Int32) hc (dc_at dX9_numbers 3 rfl) (by decide) ?_
    refine r_icmp_ge (tgt := 18) hc (dc_at dX9_numbers 4 rfl) (by decide) hf (fun hf => ?_) (fun hf => ?_)
    · refine r_bipush (-2 : Int32) hc (dc_at dX9_numbers 10 rfl) (by decide) ?_
      exact r_iret hc he (by omega) (by omega) (dc_at dX9_numbers 11 rfl) hf
    · refine r_iload_n hc 2 (dc_at dX9_numbers 5 rfl) rfl ?_
      refine r_if_lt (tgt := 18) hc (dc_at dX9_numbers 6 rfl) (by decide) hf (fun hf => ?_) (fun hf => ?_)
      · refine r_bipush (-2 : Int32) hc (dc_at dX9_numbers 10 rfl) (by decide) ?_
        exact r_iret hc he (by omega) (by omega) (dc_at dX9_numbers 11 rfl) hf
      · refine r_iload_n hc 2 (dc_at dX9_numbers 7 rfl) rfl ?_
        refine r_iconst (3 : Int32) hc (dc_at dX9_numbers 8 rfl) (by decide) ?_
        refine r_icmp_le (tgt := 21) hc (dc_at dX9_numbers 9 rfl) (by decide) hf (fun hf => ?_) (fun hf => ?_)
        · refine r_iload_n hc 3 (dc_at dX9_numbers 12 rfl) rfl ?_
          refine r_if_lt (tgt := 31) hc (dc_at dX9_numbers 13 rfl) (by decide) hf (fun hf => ?_) (fun hf => ?_)
          · refine r_bipush (-3 : Int32) hc (dc_at dX9_numbers 17 rfl) (by decide) ?_
            exact r_iret hc he (by omega) (by omega) (dc_at dX9_numbers 18 rfl) hf
          · refine r_iload_n hc 3 (dc_at dX9_numbers 14 rfl) rfl ?_
            refine r_bipush (40 : Int32) hc (dc_at dX9_numbers 15 rfl) (by decide) ?_
            refine r_icmp_le (tgt := 34) hc (dc_at dX9_numbers 16 rfl) (by decide) hf (fun hf => ?_) (fun hf => ?_)
            · refine r_aload_n hc 0 (dc_at dX9_numbers 19 rfl) rfl ?_
              refine r_getRe hc (dc_at dX9_numbers 20 rfl) fl_X9_36 hf fun a1 e_a1 hf => ?_
              refine r_iload_n hc 1 (dc_at dX9_numbers 21 rfl) rfl ?_
              refine r_aaloadN (t := 4) hc (dc_at dX9_numbers 22 rfl) rfl hf fun q2 e_q2 hf => ?_
              refine r_ifnonnull (tgt := 56) hc (dc_at dX9_numbers 23 rfl) (by decide) hf (fun hf => ?_) (fun hf hnull => ?_)
              · exact gg_sub [0, 1, 2, 3] rfl (t_X9_numbers_56 hc hr he (by omega) (by omega)  hf)
              · have hmc := hcost (by rw [e_a1, Option.bind_some, e_q2, hnull])
                refine r_aload_n hc 0 (dc_at dX9_numbers 24 rfl) rfl ?_
                refine r_getRe hc (dc_at dX9_numbers 25 rfl) fl_X9_36 hf fun a3 e_a3 hf => ?_
                refine r_iload_n hc 1 (dc_at dX9_numbers 26 rfl) rfl ?_
                refine r_newN (N := 3) hc hr (dc_at dX9_numbers 27 rfl) nw_X9_34 (by omega) (by omega) hf fun a4 h5 hf => ?_
                refine r_dup hc (dc_at dX9_numbers 28 rfl) rfl ?_
                refine ob2 hf fun u h7 ex hf => ?_
                refine r_callIC (As := []) hc hr (dc_at dX9_numbers 29 rfl) ml_X9_339 mv_X7_init im_X7_init rfl rfl (mt_X7_init ex) (by first | exact Nat.le_of_ble_eq_true rfl | omega) (by first | exact Nat.le_of_ble_eq_true rfl | omega) (by first | exact Nat.le_of_ble_eq_true rfl | omega) (by omega) (by omega) ?_
                refine r_aastore (t := 4) (ci := 7) hc (dc_at dX9_numbers 30 rfl) rfl rfl hf fun h8 hf => ?_
                exact gg_sub [0, 1, 2, 3] rfl (t_X9_numbers_56 hc hr he (by omega) (by omega)  hf)
            · refine r_bipush (-3 : Int32) hc (dc_at dX9_numbers 17 rfl) (by decide) ?_
              exact r_iret hc he (by omega) (by omega) (dc_at dX9_numbers 18 rfl) hf
        · refine r_bipush (-2 : Int32) hc (dc_at dX9_numbers 10 rfl) (by decide) ?_
          exact r_iret hc he (by omega) (by omega) (dc_at dX9_numbers 11 rfl) hf
def m_X9_numbers (F : Nat) (h : PH) (p0 : Nat) (p1 : Int32) (p2 : Int32) (p3 : Int32) : Option (Int32 × PH) := b_X9_numbers_0 F h p0 p1 p2 p3
theorem mt_X9_numbers {l : Launch} {X : XT} {F : Nat} {h hz : PH} {p0 : Nat} {p1 : Int32} {p2 : Int32} {p3 : Int32} {r : Int32} {mc ms : Nat} (ex : m_X9_numbers F h p0 p1 p2 p3 = some (r, hz)) (hcost : ((gR 9 7 h p0).bind fun a => aN 4 h a p1) = some none → 2 ≤ mc ∧ 43 ≤ ms) : MT l X yX9_numbers cX9_numbers 4 (some .int) 3 176 mc ms [.ref (X.1 + p0), .int p1, .int p2, .int p3] h (some (.int r)) hz := MT.of (by decide) (Nat.le_of_ble_eq_true rfl) fun M hl hc hr he => by
  subst hl
  exact gg_sub [0, 1, 2, 3] rfl (t_X9_numbers_0  hc hr he (Nat.zero_le _) (Nat.zero_le _) hcost ex)
/-! FractionLift.write(IIJ)J -/
def lX9_writeL : List (Nat × Instr × Nat × Nat) := [(0, .aload_n 0, 1, 1), (1, .iload_n 1, 1, 2), (2, .invokevirtual 343, 3, 5), (5, .istore 5, 2, 7), (7, .iload 5, 2, 9), (9, .ifCond .eq 7, 3, 12), (12, .iload 5, 2, 14), (14, .i2l, 1, 15), (15, .lreturn, 1, 16), (16, .aload_n 0, 1, 17), (17, .getfield 36, 3, 20), (20, .iload_n 1, 1, 21), (21, .aaload, 1, 22), (22, .iload_n 2, 1, 23), (23, .lload_n 3, 1, 24), (24, .invokevirtual 346, 3, 27), (27, .lreturn, 1, 28)]
set_option maxRecDepth 20000 in
theorem dX9_write : dcL cX9_write lX9_writeL = true := by decide +kernel
def b_X9_write_0 (h : PH) (v0 : Nat) (v1 : Int32) (v2 : Int32) (v3 : Int64) : Option (Int64 × PH) := cO 9 h v0 ((m_X9_refusedTray h v0 v1).bind fun x1 => (if x1 = 0 then ((gR 9 7 h v0).bind fun a2 => ((aR 4 h a2 v1).bind fun a3 => (cO 7 h a3 (bind2 (m_X7_lay h a3 v2 v3) fun x4 h5 => (some (x4, h5)))))) else (some ((Int32.toInt64 x1), h))))
set_option maxRecDepth 20000 in
theorem t_X9_write_0 {M : MV} {X : XT} {h hz : PH} {r : Int64} {ce sl mc ms : Nat} {v0 : Nat} {v1 : Int32} {v2 : Int32} {v3 : Int64} (hc : Cx M X RX9 cX9_write) (hr : Rx M 3 176 mc ms 6) (he : Ex M X (some .long) "write" (some (.long r)) hz mc ms) (hm : ce ≤ mc) (hs : sl ≤ ms) (hf : b_X9_write_0 h v0 v1 v2 v3 = some (r, hz)) : GG M X h ce sl 0 [(0, .ref (X.1 + v0)), (1, .int v1), (2, .int v2), (3, .long v3)] [] := by
  unfold b_X9_write_0 at hf
  refine r_aload_n hc 0 (dc_at dX9_write 0 rfl) rfl ?_
  refine r_iload_n hc 1 (dc_at dX9_write 1 rfl) rfl ?_
  obtain ⟨ho, hf⟩ := cO_some hf
  refine ob hf fun x1 ex hf => ?_
  refine r_callVi (As := [.int v1]) (ci := 9) hc hr (dc_at dX9_write 2 rfl) ml_X9_343 mv_X9_refusedTray vi_X9_refusedTray rfl ho rfl (mt_X9_refusedTray ex) (by first | exact Nat.le_of_ble_eq_true rfl | omega) (by first | exact Nat.le_of_ble_eq_true rfl | omega) (by first | exact Nat.le_of_ble_eq_true rfl | omega) hm hs ?_
  refine r_istore [(5, .int x1), (0, .ref (X.1 + v0)), (1, .int v1), (2, .int v2), (3, .long v3)] hc hr (dc_at dX9_write 3 rfl) (by decide) rfl ?_
  refine r_iload hc 0 (dc_at dX9_write 4 rfl) rfl ?_
  refine r_if_eq (tgt := 16) hc (dc_at dX9_write 5 rfl) (by decide) hf (fun hf => ?_) (fun hf => ?_)
  · refine r_aload_n hc 1 (dc_at dX9_write 9 rfl) rfl ?_
    refine r_getR hc (dc_at dX9_write 10 rfl) fl_X9_36 hf fun a2 hf => ?_
    refine r_iload_n hc 2 (dc_at dX9_write 11 rfl) rfl ?_
    refine r_aaloadR (t := 4) hc (dc_at dX9_write 12 rfl) rfl hf fun a3 hf => ?_
    refine r_iload_n hc 3 (dc_at dX9_write 13 rfl) rfl ?_
    refine r_lload_n hc 4 (dc_at dX9_write 14 rfl) rfl ?_
    obtain ⟨ho, hf⟩ := cO_some hf
    refine ob2 hf fun x4 h5 ex hf => ?_
    refine r_callVl (As := [.int v2, .long v3]) (ci := 7) hc hr (dc_at dX9_write 15 rfl) ml_X9_346 mv_X7_lay vi_X7_lay rfl ho rfl (mt_X7_lay ex) (by first | exact Nat.le_of_ble_eq_true rfl | omega) (by first | exact Nat.le_of_ble_eq_true rfl | omega) (by first | exact Nat.le_of_ble_eq_true rfl | omega) hm hs ?_
    exact r_lret hc he (hm) (hs) (dc_at dX9_write 16 rfl) hf
  · refine r_iload hc 0 (dc_at dX9_write 6 rfl) rfl ?_
    refine r_i2l hc (dc_at dX9_write 7 rfl) ?_
    exact r_lret hc he (hm) (hs) (dc_at dX9_write 8 rfl) hf
def m_X9_write (h : PH) (p0 : Nat) (p1 : Int32) (p2 : Int32) (p3 : Int64) : Option (Int64 × PH) := b_X9_write_0 h p0 p1 p2 p3
theorem mt_X9_write {l : Launch} {X : XT} {h hz : PH} {p0 : Nat} {p1 : Int32} {p2 : Int32} {p3 : Int64} {r : Int64} (ex : m_X9_write h p0 p1 p2 p3 = some (r, hz)) : MT l X yX9_write cX9_write 6 (some .long) 3 176 0 0 [.ref (X.1 + p0), .int p1, .int p2, .long p3] h (some (.long r)) hz := MT.of (by decide) (Nat.le_of_ble_eq_true rfl) fun M hl hc hr he => by
  subst hl
  exact gg_sub [0, 1, 2, 3] rfl (t_X9_write_0  hc hr he (Nat.zero_le _) (Nat.zero_le _) ex)
/-! FractionLift.copy(I)I -/
def lX9_copyL : List (Nat × Instr × Nat × Nat) := [(0, .aload_n 0, 1, 1), (1, .iload_n 1, 1, 2), (2, .invokevirtual 343, 3, 5), (5, .istore_n 2, 1, 6), (6, .iload_n 2, 1, 7), (7, .ifCond .eq 5, 3, 10), (10, .iload_n 2, 1, 11), (11, .ireturn, 1, 12), (12, .aload_n 0, 1, 13), (13, .getfield 36, 3, 16), (16, .iload_n 1, 1, 17), (17, .aaload, 1, 18), (18, .astore_n 3, 1, 19), (19, .aload_n 0, 1, 20), (20, .aload_n 0, 1, 21), (21, .getfield 26, 3, 24), (24, .getfield 96, 3, 27), (27, .i2l, 1, 28), (28, .aload_n 0, 1, 29), (29, .getfield 26, 3, 32), (32, .getfield 99, 3, 35), (35, .i2l, 1, 36), (36, .invokevirtual 262, 3, 39), (39, .aload_n 3, 1, 40), (40, .getfield 153, 3, 43), (43, .invokestatic 350, 3, 46), (46, .istore 4, 2, 48), (48, .iconst 0, 1, 49), (49, .istore 5, 2, 51), (51, .iload 5, 2, 53), (53, .iload 4, 2, 55), (55, .if_icmp .ge 23, 3, 58), (58, .aload_n 3, 1, 59), (59, .iload 5, 2, 61), (61, .aload_n 0, 1, 62), (62, .getfield 66, 3, 65), (65, .iload 5, 2, 67), (67, .laload, 1, 68), (68, .invokevirtual 346, 3, 71), (71, .pop2, 1, 72), (72, .iinc 5 1, 3, 75), (75, .goto (-24), 3, 78), (78, .iload 4, 2, 80), (80, .ireturn, 1, 81)]
set_option maxRecDepth 20000 in
theorem dX9_copy : dcL cX9_copy lX9_copyL = true := by decide +kernel
def b_X9_copy_51 (F : Nat) (self29 : PH → Nat → Nat → Int32 → Int32 → Option (Int32 × PH)) (h : PH) (v0 : Nat) (v3 : Nat) (v4 : Int32) (v5 : Int32) : Option (Int32 × PH) := if v4 ≤ v5 then (some (v4, h)) else ((gR 9 14 h v0).bind fun a1 => ((aL h a1 v5).bind fun x2 => (cO 7 h v3 (bind2 (m_X7_lay h v3 v5 x2) fun x3 h4 => (bindv (v5 + (1)) fun x5 => (self29 h4 v0 v3 v4 x5))))))
set_option maxRecDepth 20000 in
theorem tb_X9_copy_51 {M : MV} {X : XT} {F : Nat} {self29 : PH → Nat → Nat → Int32 → Int32 → Option (Int32 × PH)} {h hz : PH} {r : Int32} {ce sl mc ms : Nat} {v0 : Nat} {v3 : Nat} {v4 : Int32} {v5 : Int32} (hc : Cx M X RX9 cX9_copy) (hr : Rx M 3 176 mc ms 6) (he : Ex M X (some .int) "copy" (some (.int r)) hz mc ms) (hm : ce ≤ mc) (hs : sl ≤ ms) (ih29 : ∀ (h : PH) (v0 : Nat) (v3 : Nat) (v4 : Int32) (v5 : Int32), self29 h v0 v3 v4 v5 = some (r, hz) → GG M X h ce sl 51 [(0, .ref (X.1 + v0)), (3, .ref (X.1 + v3)), (4, .int v4), (5, .int v5)] []) (hf : b_X9_copy_51 F self29 h v0 v3 v4 v5 = some (r, hz)) : GG M X h ce sl 51 [(0, .ref (X.1 + v0)), (3, .ref (X.1 + v3)), (4, .int v4), (5, .int v5)] [] := by
  unfold b_X9_copy_51 at hf
  refine r_iload hc 3 (dc_at dX9_copy 29 rfl) rfl ?_
  refine r_iload hc 2 (dc_at dX9_copy 30 rfl) rfl ?_
  refine r_icmp_ge (tgt := 78) hc (dc_at dX9_copy 31 rfl) (by decide) hf (fun hf => ?_) (fun hf => ?_)
  · refine r_iload hc 2 (dc_at dX9_copy 42 rfl) rfl ?_
    exact r_iret hc he (hm) (hs) (dc_at dX9_copy 43 rfl) hf
  · refine r_aload_n hc 1 (dc_at dX9_copy 32 rfl) rfl ?_
    refine r_iload hc 3 (dc_at dX9_copy 33 rfl) rfl ?_
    refine r_aload_n hc 0 (dc_at dX9_copy 34 rfl) rfl ?_
    refine r_getR hc (dc_at dX9_copy 35 rfl) fl_X9_66 hf fun a1 hf => ?_
    refine r_iload hc 3 (dc_at dX9_copy 36 rfl) rfl ?_
    refine r_laload hc (dc_at dX9_copy 37 rfl) hf fun x2 hf => ?_
    obtain ⟨ho, hf⟩ := cO_some hf
    refine ob2 hf fun x3 h4 ex hf => ?_
    refine r_callVl (As := [.int v5, .long x2]) (ci := 7) hc hr (dc_at dX9_copy 38 rfl) ml_X9_346 mv_X7_lay vi_X7_lay rfl ho rfl (mt_X7_lay ex) (by first | exact Nat.le_of_ble_eq_true rfl | omega) (by first | exact Nat.le_of_ble_eq_true rfl | omega) (by first | exact Nat.le_of_ble_eq_true rfl | omega) hm hs ?_
    refine r_pop2 hc (dc_at dX9_copy 39 rfl) rfl ?_
    refine obv hf fun x5 e_x5 hf => ?_
    refine r_iinc 3 [(5, .int x5), (0, .ref (X.1 + v0)), (3, .ref (X.1 + v3)), (4, .int v4)] hc hr (dc_at dX9_copy 40 rfl) rfl (by rw [e_x5]; rfl) (by decide) rfl ?_
    refine r_goto (tgt := 51) hc (dc_at dX9_copy 41 rfl) (by decide) ?_
    exact gg_sub [1, 2, 3, 0] rfl (ih29 _ _ _ _ _ hf)
def l_X9_copy_51 (F : Nat) : Nat → PH → Nat → Nat → Int32 → Int32 → Option (Int32 × PH)
  | 0 => fun _ _ _ _ _ => none
  | n + 1 => fun h v0 v3 v4 v5 => b_X9_copy_51 F (l_X9_copy_51 F n) h v0 v3 v4 v5
theorem tl_X9_copy_51 {M : MV} {X : XT} {F : Nat} {hz : PH} {r : Int32} {ce sl mc ms : Nat} (hc : Cx M X RX9 cX9_copy) (hr : Rx M 3 176 mc ms 6) (he : Ex M X (some .int) "copy" (some (.int r)) hz mc ms) (hm : ce ≤ mc) (hs : sl ≤ ms) (n : Nat) : ∀ (h : PH) (v0 : Nat) (v3 : Nat) (v4 : Int32) (v5 : Int32), l_X9_copy_51 F n h v0 v3 v4 v5 = some (r, hz) → GG M X h ce sl 51 [(0, .ref (X.1 + v0)), (3, .ref (X.1 + v3)), (4, .int v4), (5, .int v5)] [] := by
  induction n with
  | zero => intro h v0 v3 v4 v5 hf; cases hf
  | succ n ih => intro h v0 v3 v4 v5 hf; exact tb_X9_copy_51 (F := F) hc hr he hm hs  ih hf
def b_X9_copy_0 (F : Nat) (h : PH) (v0 : Nat) (v1 : Int32) : Option (Int32 × PH) := cO 9 h v0 ((m_X9_refusedTray h v0 v1).bind fun x1 => (if x1 = 0 then ((gR 9 7 h v0).bind fun a2 => ((aR 4 h a2 v1).bind fun a3 => ((gR 9 4 h v0).bind fun a4 => ((gI 0 4 h a4).bind fun x5 => ((gR 9 4 h v0).bind fun a6 => ((gI 0 5 h a6).bind fun x7 => (cO 9 h v0 (bind2 (m_X9_layTerms F h v0 (Int32.toInt64 x5) (Int32.toInt64 x7)) fun x8 h9 => ((gI 7 1 h9 a3).bind fun x10 => (bindv (jmin x8 x10) fun x11 => (l_X9_copy_51 F F h9 v0 a3 x11 (0 : Int32)))))))))))) else (some (x1, h))))
set_option maxRecDepth 20000 in
theorem t_X9_copy_0 {M : MV} {X : XT} {F : Nat} {h hz : PH} {r : Int32} {ce sl mc ms : Nat} {v0 : Nat} {v1 : Int32} (hc : Cx M X RX9 cX9_copy) (hr : Rx M 3 176 mc ms 6) (he : Ex M X (some .int) "copy" (some (.int r)) hz mc ms) (hm : ce ≤ mc) (hs : sl ≤ ms) (hf : b_X9_copy_0 F h v0 v1 = some (r, hz)) : GG M X h ce sl 0 [(0, .ref (X.1 + v0)), (1, .int v1)] [] := by
  unfold b_X9_copy_0 at hf
  refine r_aload_n hc 0 (dc_at dX9_copy 0 rfl) rfl ?_
  refine r_iload_n hc 1 (dc_at dX9_copy 1 rfl) rfl ?_
  obtain ⟨ho, hf⟩ := cO_some hf
  refine ob hf fun x1 ex hf => ?_
  refine r_callVi (As := [.int v1]) (ci := 9) hc hr (dc_at dX9_copy 2 rfl) ml_X9_343 mv_X9_refusedTray vi_X9_refusedTray rfl ho rfl (mt_X9_refusedTray ex) (by first | exact Nat.le_of_ble_eq_true rfl | omega) (by first | exact Nat.le_of_ble_eq_true rfl | omega) (by first | exact Nat.le_of_ble_eq_true rfl | omega) hm hs ?_
  refine r_istore_n [(2, .int x1), (0, .ref (X.1 + v0)), (1, .int v1)] hc hr (dc_at dX9_copy 3 rfl) (by decide) rfl ?_
  refine r_iload_n hc 0 (dc_at dX9_copy 4 rfl) rfl ?_
  refine r_if_eq (tgt := 12) hc (dc_at dX9_copy 5 rfl) (by decide) hf (fun hf => ?_) (fun hf => ?_)
  · refine r_aload_n hc 1 (dc_at dX9_copy 8 rfl) rfl ?_
    refine r_getR hc (dc_at dX9_copy 9 rfl) fl_X9_36 hf fun a2 hf => ?_
    refine r_iload_n hc 2 (dc_at dX9_copy 10 rfl) rfl ?_
    refine r_aaloadR (t := 4) hc (dc_at dX9_copy 11 rfl) rfl hf fun a3 hf => ?_
    refine r_astore_n [(3, .ref (X.1 + a3)), (2, .int x1), (0, .ref (X.1 + v0)), (1, .int v1)] hc hr (dc_at dX9_copy 12 rfl) (by decide) rfl ?_
    refine r_aload_n hc 2 (dc_at dX9_copy 13 rfl) rfl ?_
    refine r_aload_n hc 2 (dc_at dX9_copy 14 rfl) rfl ?_
    refine r_getR hc (dc_at dX9_copy 15 rfl) fl_X9_26 hf fun a4 hf => ?_
    refine r_getI hc (dc_at dX9_copy 16 rfl) fl_X9_96 hf fun x5 hf => ?_
    refine r_i2l hc (dc_at dX9_copy 17 rfl) ?_
    refine r_aload_n hc 2 (dc_at dX9_copy 18 rfl) rfl ?_
    refine r_getR hc (dc_at dX9_copy 19 rfl) fl_X9_26 hf fun a6 hf => ?_
    refine r_getI hc (dc_at dX9_copy 20 rfl) fl_X9_99 hf fun x7 hf => ?_
    refine r_i2l hc (dc_at dX9_copy 21 rfl) ?_
    obtain ⟨ho, hf⟩ := cO_some hf
    refine ob2 hf fun x8 h9 ex hf => ?_
    refine r_callVi (As := [.long ((Int32.toInt64 x5)), .long ((Int32.toInt64 x7))]) (ci := 9) hc hr (dc_at dX9_copy 22 rfl) ml_X9_262 mv_X9_layTerms vi_X9_layTerms rfl ho rfl (mt_X9_layTerms ex) (by first | exact Nat.le_of_ble_eq_true rfl | omega) (by first | exact Nat.le_of_ble_eq_true rfl | omega) (by first | exact Nat.le_of_ble_eq_true rfl | omega) hm hs ?_
    refine r_aload_n hc 0 (dc_at dX9_copy 23 rfl) rfl ?_
    refine r_getI hc (dc_at dX9_copy 24 rfl) fl_X9_153 hf fun x10 hf => ?_
    refine r_mmin hc hr (dc_at dX9_copy 25 rfl) ml_X9_350 mv_J9_min_7cf53 st_J9_min_7cf53 (by first | exact Nat.le_of_ble_eq_true rfl | omega) (by first | exact Nat.le_of_ble_eq_true rfl | omega) (hm) (hs) ?_
    refine r_nm (mk := Value.int) hf fun x11 hf => ?_
    refine r_istore [(4, .int x11), (3, .ref (X.1 + a3)), (2, .int x1), (0, .ref (X.1 + v0)), (1, .int v1)] hc hr (dc_at dX9_copy 26 rfl) (by decide) rfl ?_
    refine r_iconst (0 : Int32) hc (dc_at dX9_copy 27 rfl) (by decide) ?_
    refine r_istore [(5, .int ((0 : Int32))), (4, .int x11), (3, .ref (X.1 + a3)), (2, .int x1), (0, .ref (X.1 + v0)), (1, .int v1)] hc hr (dc_at dX9_copy 28 rfl) (by decide) rfl ?_
    exact gg_sub [4, 2, 1, 0] rfl (tl_X9_copy_51 hc hr he hm hs  F _ _ _ _ _ hf)
  · refine r_iload_n hc 0 (dc_at dX9_copy 6 rfl) rfl ?_
    exact r_iret hc he (hm) (hs) (dc_at dX9_copy 7 rfl) hf
def m_X9_copy (F : Nat) (h : PH) (p0 : Nat) (p1 : Int32) : Option (Int32 × PH) := b_X9_copy_0 F h p0 p1
theorem mt_X9_copy {l : Launch} {X : XT} {F : Nat} {h hz : PH} {p0 : Nat} {p1 : Int32} {r : Int32} (ex : m_X9_copy F h p0 p1 = some (r, hz)) : MT l X yX9_copy cX9_copy 6 (some .int) 3 176 0 0 [.ref (X.1 + p0), .int p1] h (some (.int r)) hz := MT.of (by decide) (Nat.le_of_ble_eq_true rfl) fun M hl hc hr he => by
  subst hl
  exact gg_sub [0, 1] rfl (t_X9_copy_0  hc hr he (Nat.zero_le _) (Nat.zero_le _) ex)
/-! FractionLift.image(I)I -/
def lX9_imageL : List (Nat × Instr × Nat × Nat) := [(0, .iload_n 1, 1, 1), (1, .ifCond .lt 8, 3, 4), (4, .iload_n 1, 1, 5), (5, .iconst 2, 1, 6), (6, .if_icmp .lt 6, 3, 9), (9, .bipush (-2), 2, 11), (11, .ireturn, 1, 12), (12, .aload_n 0, 1, 13), (13, .getfield 30, 3, 16), (16, .iload_n 1, 1, 17), (17, .aaload, 1, 18), (18, .ifnonnull 16, 3, 21), (21, .aload_n 0, 1, 22), (22, .getfield 30, 3, 25), (25, .iload_n 1, 1, 26), (26, .new 23, 3, 29), (29, .dup, 1, 30), (30, .invokespecial 25, 3, 33), (33, .aastore, 1, 34), (34, .aload_n 0, 1, 35), (35, .getfield 30, 3, 38), (38, .iload_n 1, 1, 39), (39, .aaload, 1, 40), (40, .aload_n 0, 1, 41), (41, .getfield 26, 3, 44), (44, .invokevirtual 355, 3, 47), (47, .iconst 0, 1, 48), (48, .ireturn, 1, 49)]
set_option maxRecDepth 20000 in
theorem dX9_image : dcL cX9_image lX9_imageL = true := by decide +kernel
def b_X9_image_34 (h : PH) (v0 : Nat) (v1 : Int32) : Option (Int32 × PH) := (gR 9 6 h v0).bind fun a1 => ((aR 3 h a1 v1).bind fun a2 => ((gR 9 4 h v0).bind fun a3 => (cO 0 h a2 (bind2 (m_X0_takeFrom h a2 a3) fun _ h5 => (some ((0 : Int32), h5))))))
set_option maxRecDepth 20000 in
theorem t_X9_image_34 {M : MV} {X : XT} {h hz : PH} {r : Int32} {ce sl mc ms : Nat} {v0 : Nat} {v1 : Int32} (hc : Cx M X RX9 cX9_image) (hr : Rx M 2 118 mc ms 2) (he : Ex M X (some .int) "image" (some (.int r)) hz mc ms) (hm : ce ≤ mc) (hs : sl ≤ ms) (hf : b_X9_image_34 h v0 v1 = some (r, hz)) : GG M X h ce sl 34 [(0, .ref (X.1 + v0)), (1, .int v1)] [] := by
  unfold b_X9_image_34 at hf
  refine r_aload_n hc 0 (dc_at dX9_image 19 rfl) rfl ?_
  refine r_getRe hc (dc_at dX9_image 20 rfl) fl_X9_30 hf fun a1 e_a1 hf => ?_
  refine r_iload_n hc 1 (dc_at dX9_image 21 rfl) rfl ?_
  refine r_aaloadR (t := 3) hc (dc_at dX9_image 22 rfl) rfl hf fun a2 hf => ?_
  refine r_aload_n hc 0 (dc_at dX9_image 23 rfl) rfl ?_
  refine r_getR hc (dc_at dX9_image 24 rfl) fl_X9_26 hf fun a3 hf => ?_
  obtain ⟨ho, hf⟩ := cO_some hf
  refine ob2 hf fun u h5 ex hf => ?_
  refine r_callVv (As := [.ref (X.1 + a3)]) (ci := 0) hc hr (dc_at dX9_image 25 rfl) ml_X9_355 mv_X0_takeFrom vi_X0_takeFrom rfl ho rfl (mt_X0_takeFrom ex) (by first | exact Nat.le_of_ble_eq_true rfl | omega) (by first | exact Nat.le_of_ble_eq_true rfl | omega) (by first | exact Nat.le_of_ble_eq_true rfl | omega) (by omega) (by omega) ?_
  refine r_iconst (0 : Int32) hc (dc_at dX9_image 26 rfl) (by decide) ?_
  exact r_iret hc he (by omega) (by omega) (dc_at dX9_image 27 rfl) hf
def b_X9_image_0 (h : PH) (v0 : Nat) (v1 : Int32) : Option (Int32 × PH) := if v1 < 0 then (some ((-2 : Int32), h)) else (if v1 < (2 : Int32) then ((gR 9 6 h v0).bind fun a1 => ((aN 3 h a1 v1).bind fun q2 => (if q2 = none then ((gR 9 6 h v0).bind fun a3 => (bindv h.length fun a4 => (bindv (h ++ [.inr (0, df0)]) fun h5 => (bind2 (m_X0_init h5 a4) fun _ h7 => ((sR 3 0 h7 a3 v1 a4).bind fun h8 => (b_X9_image_34 h8 v0 v1)))))) else (b_X9_image_34 h v0 v1)))) else (some ((-2 : Int32), h)))
set_option maxRecDepth 20000 in
theorem t_X9_image_0 {M : MV} {X : XT} {h hz : PH} {r : Int32} {mc ms : Nat} {v0 : Nat} {v1 : Int32} (hc : Cx M X RX9 cX9_image) (hr : Rx M 2 118 mc ms 2) (he : Ex M X (some .int) "image" (some (.int r)) hz mc ms) (hm : 0 ≤ mc) (hs : 0 ≤ ms) (hcost : ((gR 9 6 h v0).bind fun a => aN 3 h a v1) = some none → 10 ≤ mc ∧ 988 ≤ ms) (hf : b_X9_image_0 h v0 v1 = some (r, hz)) : GG M X h 0 0 0 [(0, .ref (X.1 + v0)), (1, .int v1)] [] := by
  unfold b_X9_image_0 at hf
  refine r_iload_n hc 1 (dc_at dX9_image 0 rfl) rfl ?_
  refine r_if_lt (tgt := 9) hc (dc_at dX9_image 1 rfl) (by decide) hf (fun hf => ?_) (fun hf => ?_)
  · refine r_bipush (-2 : Int32) hc (dc_at dX9_image 5 rfl) (by decide) ?_
    exact r_iret hc he (by omega) (by omega) (dc_at dX9_image 6 rfl) hf
  · refine r_iload_n hc 1 (dc_at dX9_image 2 rfl) rfl ?_
    refine r_iconst (2 : Int32) hc (dc_at dX9_image 3 rfl) (by decide) ?_
    refine r_icmp_lt (tgt := 12) hc (dc_at dX9_image 4 rfl) (by decide) hf (fun hf => ?_) (fun hf => ?_)
    · refine r_aload_n hc 0 (dc_at dX9_image 7 rfl) rfl ?_
      refine r_getRe hc (dc_at dX9_image 8 rfl) fl_X9_30 hf fun a1 e_a1 hf => ?_
      refine r_iload_n hc 1 (dc_at dX9_image 9 rfl) rfl ?_
      refine r_aaloadN (t := 3) hc (dc_at dX9_image 10 rfl) rfl hf fun q2 e_q2 hf => ?_
      refine r_ifnonnull (tgt := 34) hc (dc_at dX9_image 11 rfl) (by decide) hf (fun hf => ?_) (fun hf hnull => ?_)
      · exact gg_sub [0, 1] rfl (t_X9_image_34 hc hr he (by omega) (by omega)  hf)
      · have hmc := hcost (by rw [e_a1, Option.bind_some, e_q2, hnull])
        refine r_aload_n hc 0 (dc_at dX9_image 12 rfl) rfl ?_
        refine r_getRe hc (dc_at dX9_image 13 rfl) fl_X9_30 hf fun a3 e_a3 hf => ?_
        refine r_iload_n hc 1 (dc_at dX9_image 14 rfl) rfl ?_
        refine r_newN (N := 18) hc hr (dc_at dX9_image 15 rfl) nw_X9_23 (by omega) (by omega) hf fun a4 h5 hf => ?_
        refine r_dup hc (dc_at dX9_image 16 rfl) rfl ?_
        refine ob2 hf fun u h7 ex hf => ?_
        refine r_callIC (As := []) hc hr (dc_at dX9_image 17 rfl) ml_X9_25 mv_X0_init im_X0_init rfl rfl (mt_X0_init ex) (by first | exact Nat.le_of_ble_eq_true rfl | omega) (by first | exact Nat.le_of_ble_eq_true rfl | omega) (by first | exact Nat.le_of_ble_eq_true rfl | omega) (by omega) (by omega) ?_
        refine r_aastore (t := 3) (ci := 0) hc (dc_at dX9_image 18 rfl) rfl rfl hf fun h8 hf => ?_
        exact gg_sub [0, 1] rfl (t_X9_image_34 hc hr he (by omega) (by omega)  hf)
    · refine r_bipush (-2 : Int32) hc (dc_at dX9_image 5 rfl) (by decide) ?_
      exact r_iret hc he (by omega) (by omega) (dc_at dX9_image 6 rfl) hf
def m_X9_image (h : PH) (p0 : Nat) (p1 : Int32) : Option (Int32 × PH) := b_X9_image_0 h p0 p1
theorem mt_X9_image {l : Launch} {X : XT} {h hz : PH} {p0 : Nat} {p1 : Int32} {r : Int32} {mc ms : Nat} (ex : m_X9_image h p0 p1 = some (r, hz)) (hcost : ((gR 9 6 h p0).bind fun a => aN 3 h a p1) = some none → 10 ≤ mc ∧ 988 ≤ ms) : MT l X yX9_image cX9_image 2 (some .int) 2 118 mc ms [.ref (X.1 + p0), .int p1] h (some (.int r)) hz := MT.of (by decide) (Nat.le_of_ble_eq_true rfl) fun M hl hc hr he => by
  subst hl
  exact gg_sub [0, 1] rfl (t_X9_image_0  hc hr he (Nat.zero_le _) (Nat.zero_le _) hcost ex)
