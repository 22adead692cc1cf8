/-! FractionLift$Reader.fractionThen(I)Z -/
def lX3_fractionThenL : List (Nat × Instr × Nat × Nat) := [(0, .aload_n 0, 1, 1), (1, .iconst 0, 1, 2), (2, .sipush 999, 3, 5), (5, .invokevirtual 107, 3, 8), (8, .ifCond .ne 5, 3, 11), (11, .iconst 0, 1, 12), (12, .ireturn, 1, 13), (13, .aload_n 0, 1, 14), (14, .getfield 111, 3, 17), (17, .istore_n 2, 1, 18), (18, .iconst 1, 1, 19), (19, .istore_n 3, 1, 20), (20, .aload_n 0, 1, 21), (21, .getfield 64, 3, 24), (24, .bipush 47, 2, 26), (26, .if_icmp .ne 24, 3, 29), (29, .aload_n 0, 1, 30), (30, .invokevirtual 98, 3, 33), (33, .aload_n 0, 1, 34), (34, .iconst 1, 1, 35), (35, .bipush 99, 2, 37), (37, .invokevirtual 107, 3, 40), (40, .ifCond .ne 5, 3, 43), (43, .iconst 0, 1, 44), (44, .ireturn, 1, 45), (45, .aload_n 0, 1, 46), (46, .getfield 111, 3, 49), (49, .istore_n 3, 1, 50), (50, .aload_n 0, 1, 51), (51, .getfield 64, 3, 54), (54, .iload_n 1, 1, 55), (55, .if_icmp .eq 8, 3, 58), (58, .aload_n 0, 1, 59), (59, .invokevirtual 92, 3, 62), (62, .ireturn, 1, 63), (63, .aload_n 0, 1, 64), (64, .getfield 32, 3, 67), (67, .iload_n 2, 1, 68), (68, .i2l, 1, 69), (69, .iload_n 3, 1, 70), (70, .i2l, 1, 71), (71, .invokevirtual 163, 3, 74), (74, .aload_n 0, 1, 75), (75, .getfield 12, 3, 78), (78, .aload_n 0, 1, 79), (79, .getfield 32, 3, 82), (82, .getfield 124, 3, 85), (85, .aload_n 0, 1, 86), (86, .getfield 32, 3, 89), (89, .getfield 131, 3, 92), (92, .invokevirtual 167, 3, 95), (95, .ifCond .ne 11, 3, 98), (98, .aload_n 0, 1, 99), (99, .iconst 3, 1, 100), (100, .invokevirtual 137, 3, 103), (103, .ifCond .eq 7, 3, 106), (106, .iconst 1, 1, 107), (107, .goto 4, 3, 110), (110, .iconst 0, 1, 111), (111, .ireturn, 1, 112)]
set_option maxRecDepth 20000 in
theorem dX3_fractionThen : dcL cX3_fractionThen lX3_fractionThenL = true := by decide +kernel
def b_X3_fractionThen_50 (F : Nat) (h : PH) (v0 : Nat) (v1 : Int32) (v2 : Int32) (v3 : Int32) : Option (Int32 × PH) := (gI 3 5 h v0).bind fun x1 => (if x1 = v1 then ((gR 3 13 h v0).bind fun a2 => (cO 2 h a2 (bind2 (m_X2_put F h a2 (Int32.toInt64 v2) (Int32.toInt64 v3)) fun _ h4 => ((gR 3 0 h4 v0).bind fun a5 => ((gR 3 13 h4 v0).bind fun a6 => ((gL 2 0 h4 a6).bind fun x7 => ((gR 3 13 h4 v0).bind fun a8 => ((gL 2 1 h4 a8).bind fun x9 => (cO 0 h4 a5 ((m_X0_isFloor h4 a5 x7 x9).bind fun x10 => (if x10 = 0 then (cO 3 h4 v0 (bind2 (m_X3_failed h4 v0 (3 : Int32)) fun x11 h12 => (if x11 = 0 then (rZ (0 : Int32) h12) else (rZ (1 : Int32) h12)))) else (rZ (1 : Int32) h4)))))))))))) else (cO 3 h v0 (bind2 (m_X3_cantStand h v0) fun x13 h14 => (rZ x13 h14))))
set_option maxRecDepth 20000 in
theorem t_X3_fractionThen_50 {M : MV} {X : XT} {F : Nat} {h hz : PH} {r : Int32} {ce sl mc ms : Nat} {v0 : Nat} {v1 : Int32} {v2 : Int32} {v3 : Int32} (hc : Cx M X RX3 cX3_fractionThen) (hr : Rx M 4 234 mc ms 4) (he : Ex M X (some .boolean) "fractionThen" (some (.int r)) hz mc ms) (hm : ce ≤ mc) (hs : sl ≤ ms) (hf : b_X3_fractionThen_50 F h v0 v1 v2 v3 = some (r, hz)) : GG M X h ce sl 50 [(0, .ref (X.1 + v0)), (1, .int v1), (2, .int v2), (3, .int v3)] [] := by
  unfold b_X3_fractionThen_50 at hf
  refine r_aload_n hc 0 (dc_at dX3_fractionThen 28 rfl) rfl ?_
  refine r_getI hc (dc_at dX3_fractionThen 29 rfl) fl_X3_64 hf fun x1 hf => ?_
  refine r_iload_n hc 1 (dc_at dX3_fractionThen 30 rfl) rfl ?_
  refine r_icmp_eq (tgt := 63) hc (dc_at dX3_fractionThen 31 rfl) (by decide) hf (fun hf => ?_) (fun hf => ?_)
  · refine r_aload_n hc 0 (dc_at dX3_fractionThen 35 rfl) rfl ?_
    refine r_getR hc (dc_at dX3_fractionThen 36 rfl) fl_X3_32 hf fun a2 hf => ?_
    refine r_iload_n hc 2 (dc_at dX3_fractionThen 37 rfl) rfl ?_
    refine r_i2l hc (dc_at dX3_fractionThen 38 rfl) ?_
    refine r_iload_n hc 3 (dc_at dX3_fractionThen 39 rfl) rfl ?_
    refine r_i2l hc (dc_at dX3_fractionThen 40 rfl) ?_
    obtain ⟨ho, hf⟩ := cO_some hf
    refine ob2 hf fun u h4 ex hf => ?_
    refine r_callVv (As := [.long ((Int32.toInt64 v2)), .long ((Int32.toInt64 v3))]) (ci := 2) hc hr (dc_at dX3_fractionThen 41 rfl) ml_X3_163 mv_X2_put vi_X2_put rfl ho rfl (mt_X2_put ex) (by first | exact Nat.le_of_ble_eq_true rfl | omega) (by first | exact Nat.le_of_ble_eq_true rfl | omega) (by first | exact Nat.le_of_ble_eq_true rfl | omega) hm hs ?_
    refine r_aload_n hc 0 (dc_at dX3_fractionThen 42 rfl) rfl ?_
    refine r_getR hc (dc_at dX3_fractionThen 43 rfl) fl_X3_12 hf fun a5 hf => ?_
    refine r_aload_n hc 0 (dc_at dX3_fractionThen 44 rfl) rfl ?_
    refine r_getR hc (dc_at dX3_fractionThen 45 rfl) fl_X3_32 hf fun a6 hf => ?_
    refine r_getL hc (dc_at dX3_fractionThen 46 rfl) fl_X3_124 hf fun x7 hf => ?_
    refine r_aload_n hc 0 (dc_at dX3_fractionThen 47 rfl) rfl ?_
    refine r_getR hc (dc_at dX3_fractionThen 48 rfl) fl_X3_32 hf fun a8 hf => ?_
    refine r_getL hc (dc_at dX3_fractionThen 49 rfl) fl_X3_131 hf fun x9 hf => ?_
    obtain ⟨ho, hf⟩ := cO_some hf
    refine ob hf fun x10 ex hf => ?_
    refine r_callVi (As := [.long x7, .long x9]) (ci := 0) hc hr (dc_at dX3_fractionThen 50 rfl) ml_X3_167 mv_X0_isFloor vi_X0_isFloor rfl ho rfl (mt_X0_isFloor ex) (by first | exact Nat.le_of_ble_eq_true rfl | omega) (by first | exact Nat.le_of_ble_eq_true rfl | omega) (by first | exact Nat.le_of_ble_eq_true rfl | omega) hm hs ?_
    refine r_if_ne (tgt := 106) hc (dc_at dX3_fractionThen 51 rfl) (by decide) hf (fun hf => ?_) (fun hf => ?_)
    · refine r_iconst (1 : Int32) hc (dc_at dX3_fractionThen 56 rfl) (by decide) ?_
      refine r_goto (tgt := 111) hc (dc_at dX3_fractionThen 57 rfl) (by decide) ?_
      exact r_zret hc he (hm) (hs) (dc_at dX3_fractionThen 59 rfl) hf
    · refine r_aload_n hc 0 (dc_at dX3_fractionThen 52 rfl) rfl ?_
      refine r_iconst (3 : Int32) hc (dc_at dX3_fractionThen 53 rfl) (by decide) ?_
      obtain ⟨ho, hf⟩ := cO_some hf
      refine ob2 hf fun x11 h12 ex hf => ?_
      refine r_callVi (As := [.int ((3 : Int32))]) (ci := 3) hc hr (dc_at dX3_fractionThen 54 rfl) ml_X3_137 mv_X3_failed vi_X3_failed rfl ho rfl (mt_X3_failed ex) (by first | exact Nat.le_of_ble_eq_true rfl | omega) (by first | exact Nat.le_of_ble_eq_true rfl | omega) (by first | exact Nat.le_of_ble_eq_true rfl | omega) hm hs ?_
      refine r_if_eq (tgt := 110) hc (dc_at dX3_fractionThen 55 rfl) (by decide) hf (fun hf => ?_) (fun hf => ?_)
      · refine r_iconst (0 : Int32) hc (dc_at dX3_fractionThen 58 rfl) (by decide) ?_
        exact r_zret hc he (hm) (hs) (dc_at dX3_fractionThen 59 rfl) hf
      · refine r_iconst (1 : Int32) hc (dc_at dX3_fractionThen 56 rfl) (by decide) ?_
        refine r_goto (tgt := 111) hc (dc_at dX3_fractionThen 57 rfl) (by decide) ?_
        exact r_zret hc he (hm) (hs) (dc_at dX3_fractionThen 59 rfl) hf
  · refine r_aload_n hc 0 (dc_at dX3_fractionThen 32 rfl) rfl ?_
    obtain ⟨ho, hf⟩ := cO_some hf
    refine ob2 hf fun x13 h14 ex hf => ?_
    refine r_callVi (As := []) (ci := 3) hc hr (dc_at dX3_fractionThen 33 rfl) ml_X3_92 mv_X3_cantStand vi_X3_cantStand rfl ho rfl (mt_X3_cantStand ex) (by first | exact Nat.le_of_ble_eq_true rfl | omega) (by first | exact Nat.le_of_ble_eq_true rfl | omega) (by first | exact Nat.le_of_ble_eq_true rfl | omega) hm hs ?_
    exact r_zret hc he (hm) (hs) (dc_at dX3_fractionThen 34 rfl) hf
def b_X3_fractionThen_0 (F : Nat) (h : PH) (v0 : Nat) (v1 : Int32) : Option (Int32 × PH) := cO 3 h v0 (bind2 (m_X3_numberWithin h v0 (0 : Int32) (999 : Int32)) fun x1 h2 => (if x1 = 0 then (rZ (0 : Int32) h2) else ((gI 3 8 h2 v0).bind fun x3 => ((gI 3 5 h2 v0).bind fun x4 => (if x4 = (47 : Int32) then (cO 3 h2 v0 (bind2 (m_X3_next h2 v0) fun _ h6 => (cO 3 h6 v0 (bind2 (m_X3_numberWithin h6 v0 (1 : Int32) (99 : Int32)) fun x7 h8 => (if x7 = 0 then (rZ (0 : Int32) h8) else ((gI 3 8 h8 v0).bind fun x9 => (b_X3_fractionThen_50 F h8 v0 v1 x3 x9))))))) else (b_X3_fractionThen_50 F h2 v0 v1 x3 (1 : Int32)))))))
set_option maxRecDepth 20000 in
theorem t_X3_fractionThen_0 {M : MV} {X : XT} {F : Nat} {h hz : PH} {r : Int32} {ce sl mc ms : Nat} {v0 : Nat} {v1 : Int32} (hc : Cx M X RX3 cX3_fractionThen) (hr : Rx M 4 234 mc ms 4) (he : Ex M X (some .boolean) "fractionThen" (some (.int r)) hz mc ms) (hm : ce ≤ mc) (hs : sl ≤ ms) (hf : b_X3_fractionThen_0 F h v0 v1 = some (r, hz)) : GG M X h ce sl 0 [(0, .ref (X.1 + v0)), (1, .int v1)] [] := by
  unfold b_X3_fractionThen_0 at hf
  refine r_aload_n hc 0 (dc_at dX3_fractionThen 0 rfl) rfl ?_
  refine r_iconst (0 : Int32) hc (dc_at dX3_fractionThen 1 rfl) (by decide) ?_
  refine r_sipush (999 : Int32) hc (dc_at dX3_fractionThen 2 rfl) (by decide) ?_
  obtain ⟨ho, hf⟩ := cO_some hf
  refine ob2 hf fun x1 h2 ex hf => ?_
  refine r_callVi (As := [.int ((0 : Int32)), .int ((999 : Int32))]) (ci := 3) hc hr (dc_at dX3_fractionThen 3 rfl) ml_X3_107 mv_X3_numberWithin vi_X3_numberWithin rfl ho rfl (mt_X3_numberWithin ex) (by first | exact Nat.le_of_ble_eq_true rfl | omega) (by first | exact Nat.le_of_ble_eq_true rfl | omega) (by first | exact Nat.le_of_ble_eq_true rfl | omega) hm hs ?_
  refine r_if_ne (tgt := 13) hc (dc_at dX3_fractionThen 4 rfl) (by decide) hf (fun hf => ?_) (fun hf => ?_)
  · refine r_aload_n hc 0 (dc_at dX3_fractionThen 7 rfl) rfl ?_
    refine r_getI hc (dc_at dX3_fractionThen 8 rfl) fl_X3_111 hf fun x3 hf => ?_
    refine r_istore_n [(2, .int x3), (0, .ref (X.1 + v0)), (1, .int v1)] hc hr (dc_at dX3_fractionThen 9 rfl) (by decide) rfl ?_
    refine r_iconst (1 : Int32) hc (dc_at dX3_fractionThen 10 rfl) (by decide) ?_
    refine r_istore_n [(3, .int ((1 : Int32))), (2, .int x3), (0, .ref (X.1 + v0)), (1, .int v1)] hc hr (dc_at dX3_fractionThen 11 rfl) (by decide) rfl ?_
    refine r_aload_n hc 2 (dc_at dX3_fractionThen 12 rfl) rfl ?_
    refine r_getI hc (dc_at dX3_fractionThen 13 rfl) fl_X3_64 hf fun x4 hf => ?_
    refine r_bipush (47 : Int32) hc (dc_at dX3_fractionThen 14 rfl) (by decide) ?_
    refine r_icmp_ne (tgt := 50) hc (dc_at dX3_fractionThen 15 rfl) (by decide) hf (fun hf => ?_) (fun hf => ?_)
    · exact gg_sub [2, 3, 1, 0] rfl (t_X3_fractionThen_50 hc hr he hm hs  hf)
    · refine r_aload_n hc 2 (dc_at dX3_fractionThen 16 rfl) rfl ?_
      obtain ⟨ho, hf⟩ := cO_some hf
      refine ob2 hf fun u h6 ex hf => ?_
      refine r_callVv (As := []) (ci := 3) hc hr (dc_at dX3_fractionThen 17 rfl) ml_X3_98 mv_X3_next vi_X3_next rfl ho rfl (mt_X3_next ex) (by first | exact Nat.le_of_ble_eq_true rfl | omega) (by first | exact Nat.le_of_ble_eq_true rfl | omega) (by first | exact Nat.le_of_ble_eq_true rfl | omega) hm hs ?_
      refine r_aload_n hc 2 (dc_at dX3_fractionThen 18 rfl) rfl ?_
      refine r_iconst (1 : Int32) hc (dc_at dX3_fractionThen 19 rfl) (by decide) ?_
      refine r_bipush (99 : Int32) hc (dc_at dX3_fractionThen 20 rfl) (by decide) ?_
      obtain ⟨ho, hf⟩ := cO_some hf
      refine ob2 hf fun x7 h8 ex hf => ?_
      refine r_callVi (As := [.int ((1 : Int32)), .int ((99 : Int32))]) (ci := 3) hc hr (dc_at dX3_fractionThen 21 rfl) ml_X3_107 mv_X3_numberWithin vi_X3_numberWithin rfl ho rfl (mt_X3_numberWithin ex) (by first | exact Nat.le_of_ble_eq_true rfl | omega) (by first | exact Nat.le_of_ble_eq_true rfl | omega) (by first | exact Nat.le_of_ble_eq_true rfl | omega) hm hs ?_
      refine r_if_ne (tgt := 45) hc (dc_at dX3_fractionThen 22 rfl) (by decide) hf (fun hf => ?_) (fun hf => ?_)
      · refine r_aload_n hc 2 (dc_at dX3_fractionThen 25 rfl) rfl ?_
        refine r_getI hc (dc_at dX3_fractionThen 26 rfl) fl_X3_111 hf fun x9 hf => ?_
        refine r_istore_n [(3, .int x9), (2, .int x3), (0, .ref (X.1 + v0)), (1, .int v1)] hc hr (dc_at dX3_fractionThen 27 rfl) (by decide) rfl ?_
        exact gg_sub [2, 3, 1, 0] rfl (t_X3_fractionThen_50 hc hr he hm hs  hf)
      · refine r_iconst (0 : Int32) hc (dc_at dX3_fractionThen 23 rfl) (by decide) ?_
        exact r_zret hc he (hm) (hs) (dc_at dX3_fractionThen 24 rfl) hf
  · refine r_iconst (0 : Int32) hc (dc_at dX3_fractionThen 5 rfl) (by decide) ?_
    exact r_zret hc he (hm) (hs) (dc_at dX3_fractionThen 6 rfl) hf
def m_X3_fractionThen (F : Nat) (h : PH) (p0 : Nat) (p1 : Int32) : Option (Int32 × PH) := b_X3_fractionThen_0 F h p0 p1
theorem mt_X3_fractionThen {l : Launch} {X : XT} {F : Nat} {h hz : PH} {p0 : Nat} {p1 : Int32} {r : Int32} (ex : m_X3_fractionThen F h p0 p1 = some (r, hz)) : MT l X yX3_fractionThen cX3_fractionThen 4 (some .boolean) 4 234 0 0 [.ref (X.1 + p0), .int p1] h (some (.int r)) hz := MT.of (by decide) (Nat.le_of_ble_eq_true rfl) fun M hl hc hr he => by
  subst hl
  exact gg_sub [0, 1] rfl (t_X3_fractionThen_0  hc hr he (Nat.zero_le _) (Nat.zero_le _) ex)
/-! FractionLift$Reader.floorLine()Z -/
def lX3_floorLineL : List (Nat × Instr × Nat × Nat) := [(0, .aload_n 0, 1, 1), (1, .getfield 12, 3, 4), (4, .getfield 101, 3, 7), (7, .bipush 8, 2, 9), (9, .if_icmp .lt 9, 3, 12), (12, .aload_n 0, 1, 13), (13, .iconst 4, 1, 14), (14, .invokevirtual 137, 3, 17), (17, .ireturn, 1, 18), (18, .aload_n 0, 1, 19), (19, .invokevirtual 98, 3, 22), (22, .aload_n 0, 1, 23), (23, .bipush 10, 2, 25), (25, .invokevirtual 120, 3, 28), (28, .ifCond .ne 5, 3, 31), (31, .iconst 0, 1, 32), (32, .ireturn, 1, 33), (33, .aload_n 0, 1, 34), (34, .getfield 12, 3, 37), (37, .aload_n 0, 1, 38), (38, .getfield 32, 3, 41), (41, .getfield 124, 3, 44), (44, .aload_n 0, 1, 45), (45, .getfield 32, 3, 48), (48, .getfield 131, 3, 51), (51, .invokevirtual 144, 3, 54), (54, .iconst (-1), 1, 55), (55, .if_icmp .eq 9, 3, 58), (58, .aload_n 0, 1, 59), (59, .iconst 3, 1, 60), (60, .invokevirtual 137, 3, 63), (63, .ireturn, 1, 64), (64, .aload_n 0, 1, 65), (65, .invokevirtual 98, 3, 68), (68, .iconst 0, 1, 69), (69, .istore_n 1, 1, 70), (70, .iload_n 1, 1, 71), (71, .iconst 3, 1, 72), (72, .if_icmp .ge 34, 3, 75), (75, .aload_n 0, 1, 76), (76, .iconst 0, 1, 77), (77, .bipush 99, 2, 79), (79, .invokevirtual 107, 3, 82), (82, .ifCond .ne 5, 3, 85), (85, .iconst 0, 1, 86), (86, .ireturn, 1, 87), (87, .aload_n 0, 1, 88), (88, .getfield 12, 3, 91), (91, .getfield 148, 3, 94), (94, .iload_n 1, 1, 95), (95, .aload_n 0, 1, 96), (96, .getfield 111, 3, 99), (99, .iastore, 1, 100), (100, .iinc 1 1, 3, 103), (103, .goto (-33), 3, 106), (106, .aload_n 0, 1, 107), (107, .getfield 12, 3, 110), (110, .aload_n 0, 1, 111), (111, .getfield 32, 3, 114), (114, .getfield 124, 3, 117), (117, .l2i, 1, 118), (118, .aload_n 0, 1, 119), (119, .getfield 32, 3, 122), (122, .getfield 131, 3, 125), (125, .l2i, 1, 126), (126, .invokevirtual 151, 3, 129), (129, .iconst 1, 1, 130), (130, .ireturn, 1, 131)]
set_option maxRecDepth 20000 in
theorem dX3_floorLine : dcL cX3_floorLine lX3_floorLineL = true := by decide +kernel
def b_X3_floorLine_70 (F : Nat) (self36 : PH → Nat → Int32 → Option (Int32 × PH)) (h : PH) (v0 : Nat) (v1 : Int32) : Option (Int32 × PH) := if (3 : Int32) ≤ v1 then ((gR 3 0 h v0).bind fun a1 => ((gR 3 13 h v0).bind fun a2 => ((gL 2 0 h a2).bind fun x3 => ((gR 3 13 h v0).bind fun a4 => ((gL 2 1 h a4).bind fun x5 => (cO 0 h a1 (bind2 (m_X0_addFloor F h a1 (Int64.toInt32 x3) (Int64.toInt32 x5)) fun _ h7 => (rZ (1 : Int32) h7)))))))) else (cO 3 h v0 (bind2 (m_X3_numberWithin h v0 (0 : Int32) (99 : Int32)) fun x8 h9 => (if x8 = 0 then (rZ (0 : Int32) h9) else ((gR 3 0 h9 v0).bind fun a10 => ((gR 0 13 h9 a10).bind fun a11 => ((gI 3 8 h9 v0).bind fun x12 => ((sI 0 h9 a11 v1 x12).bind fun h13 => (bindv (v1 + (1)) fun x14 => (self36 h13 v0 x14)))))))))
set_option maxRecDepth 20000 in
theorem tb_X3_floorLine_70 {M : MV} {X : XT} {F : Nat} {self36 : PH → Nat → Int32 → Option (Int32 × PH)} {h hz : PH} {r : Int32} {ce sl mc ms : Nat} {v0 : Nat} {v1 : Int32} (hc : Cx M X RX3 cX3_floorLine) (hr : Rx M 5 292 mc ms 2) (he : Ex M X (some .boolean) "floorLine" (some (.int r)) hz mc ms) (hm : ce ≤ mc) (hs : sl ≤ ms) (ih36 : ∀ (h : PH) (v0 : Nat) (v1 : Int32), self36 h v0 v1 = some (r, hz) → GG M X h ce sl 70 [(0, .ref (X.1 + v0)), (1, .int v1)] []) (hf : b_X3_floorLine_70 F self36 h v0 v1 = some (r, hz)) : GG M X h ce sl 70 [(0, .ref (X.1 + v0)), (1, .int v1)] [] := by
  unfold b_X3_floorLine_70 at hf
  refine r_iload_n hc 1 (dc_at dX3_floorLine 36 rfl) rfl ?_
  refine r_iconst (3 : Int32) hc (dc_at dX3_floorLine 37 rfl) (by decide) ?_
  refine r_icmp_ge (tgt := 106) hc (dc_at dX3_floorLine 38 rfl) (by decide) hf (fun hf => ?_) (fun hf => ?_)
  · refine r_aload_n hc 0 (dc_at dX3_floorLine 55 rfl) rfl ?_
    refine r_getR hc (dc_at dX3_floorLine 56 rfl) fl_X3_12 hf fun a1 hf => ?_
    refine r_aload_n hc 0 (dc_at dX3_floorLine 57 rfl) rfl ?_
    refine r_getR hc (dc_at dX3_floorLine 58 rfl) fl_X3_32 hf fun a2 hf => ?_
    refine r_getL hc (dc_at dX3_floorLine 59 rfl) fl_X3_124 hf fun x3 hf => ?_
    refine r_l2i hc (dc_at dX3_floorLine 60 rfl) ?_
    refine r_aload_n hc 0 (dc_at dX3_floorLine 61 rfl) rfl ?_
    refine r_getR hc (dc_at dX3_floorLine 62 rfl) fl_X3_32 hf fun a4 hf => ?_
    refine r_getL hc (dc_at dX3_floorLine 63 rfl) fl_X3_131 hf fun x5 hf => ?_
    refine r_l2i hc (dc_at dX3_floorLine 64 rfl) ?_
    obtain ⟨ho, hf⟩ := cO_some hf
    refine ob2 hf fun u h7 ex hf => ?_
    refine r_callVv (As := [.int ((Int64.toInt32 x3)), .int ((Int64.toInt32 x5))]) (ci := 0) hc hr (dc_at dX3_floorLine 65 rfl) ml_X3_151 mv_X0_addFloor vi_X0_addFloor rfl ho rfl (mt_X0_addFloor ex) (by first | exact Nat.le_of_ble_eq_true rfl | omega) (by first | exact Nat.le_of_ble_eq_true rfl | omega) (by first | exact Nat.le_of_ble_eq_true rfl | omega) hm hs ?_
    refine r_iconst (1 : Int32) hc (dc_at dX3_floorLine 66 rfl) (by decide) ?_
    exact r_zret hc he (hm) (hs) (dc_at dX3_floorLine 67 rfl) hf
  · refine r_aload_n hc 0 (dc_at dX3_floorLine 39 rfl) rfl ?_
    refine r_iconst (0 : Int32) hc (dc_at dX3_floorLine 40 rfl) (by decide) ?_
    refine r_bipush (99 : Int32) hc (dc_at dX3_floorLine 41 rfl) (by decide) ?_
    obtain ⟨ho, hf⟩ := cO_some hf
    refine ob2 hf fun x8 h9 ex hf => ?_
    refine r_callVi (As := [.int ((0 : Int32)), .int ((99 : Int32))]) (ci := 3) hc hr (dc_at dX3_floorLine 42 rfl) ml_X3_107 mv_X3_numberWithin vi_X3_numberWithin rfl ho rfl (mt_X3_numberWithin ex) (by first | exact Nat.le_of_ble_eq_true rfl | omega) (by first | exact Nat.le_of_ble_eq_true rfl | omega) (by first | exact Nat.le_of_ble_eq_true rfl | omega) hm hs ?_
    refine r_if_ne (tgt := 87) hc (dc_at dX3_floorLine 43 rfl) (by decide) hf (fun hf => ?_) (fun hf => ?_)
    · refine r_aload_n hc 0 (dc_at dX3_floorLine 46 rfl) rfl ?_
      refine r_getR hc (dc_at dX3_floorLine 47 rfl) fl_X3_12 hf fun a10 hf => ?_
      refine r_getR hc (dc_at dX3_floorLine 48 rfl) fl_X3_148 hf fun a11 hf => ?_
      refine r_iload_n hc 1 (dc_at dX3_floorLine 49 rfl) rfl ?_
      refine r_aload_n hc 0 (dc_at dX3_floorLine 50 rfl) rfl ?_
      refine r_getI hc (dc_at dX3_floorLine 51 rfl) fl_X3_111 hf fun x12 hf => ?_
      refine r_iastore hc (dc_at dX3_floorLine 52 rfl) hf fun h13 hf => ?_
      refine obv hf fun x14 e_x14 hf => ?_
      refine r_iinc 1 [(1, .int x14), (0, .ref (X.1 + v0))] hc hr (dc_at dX3_floorLine 53 rfl) rfl (by rw [e_x14]; rfl) (by decide) rfl ?_
      refine r_goto (tgt := 70) hc (dc_at dX3_floorLine 54 rfl) (by decide) ?_
      exact gg_sub [1, 0] rfl (ih36 _ _ _ hf)
    · refine r_iconst (0 : Int32) hc (dc_at dX3_floorLine 44 rfl) (by decide) ?_
      exact r_zret hc he (hm) (hs) (dc_at dX3_floorLine 45 rfl) hf
def l_X3_floorLine_70 (F : Nat) : Nat → PH → Nat → Int32 → Option (Int32 × PH)
  | 0 => fun _ _ _ => none
  | n + 1 => fun h v0 v1 => b_X3_floorLine_70 F (l_X3_floorLine_70 F n) h v0 v1
theorem tl_X3_floorLine_70 {M : MV} {X : XT} {F : Nat} {hz : PH} {r : Int32} {ce sl mc ms : Nat} (hc : Cx M X RX3 cX3_floorLine) (hr : Rx M 5 292 mc ms 2) (he : Ex M X (some .boolean) "floorLine" (some (.int r)) hz mc ms) (hm : ce ≤ mc) (hs : sl ≤ ms) (n : Nat) : ∀ (h : PH) (v0 : Nat) (v1 : Int32), l_X3_floorLine_70 F n h v0 v1 = some (r, hz) → GG M X h ce sl 70 [(0, .ref (X.1 + v0)), (1, .int v1)] [] := by
  induction n with
  | zero => intro h v0 v1 hf; cases hf
  | succ n ih => intro h v0 v1 hf; exact tb_X3_floorLine_70 (F := F) hc hr he hm hs  ih hf
def b_X3_floorLine_0 (F : Nat) (h : PH) (v0 : Nat) : Option (Int32 × PH) := (gR 3 0 h v0).bind fun a1 => ((gI 0 9 h a1).bind fun x2 => (if x2 < (8 : Int32) then (cO 3 h v0 (bind2 (m_X3_next h v0) fun _ h4 => (cO 3 h4 v0 (bind2 (m_X3_fractionThen F h4 v0 (10 : Int32)) fun x5 h6 => (if x5 = 0 then (rZ (0 : Int32) h6) else ((gR 3 0 h6 v0).bind fun a7 => ((gR 3 13 h6 v0).bind fun a8 => ((gL 2 0 h6 a8).bind fun x9 => ((gR 3 13 h6 v0).bind fun a10 => ((gL 2 1 h6 a10).bind fun x11 => (cO 0 h6 a7 ((m_X0_floorAt F h6 a7 x9 x11).bind fun x12 => (if x12 = (-1 : Int32) then (cO 3 h6 v0 (bind2 (m_X3_next h6 v0) fun _ h14 => (l_X3_floorLine_70 F F h14 v0 (0 : Int32)))) else (cO 3 h6 v0 (bind2 (m_X3_failed h6 v0 (3 : Int32)) fun x15 h16 => (rZ x15 h16)))))))))))))))) else (cO 3 h v0 (bind2 (m_X3_failed h v0 (4 : Int32)) fun x17 h18 => (rZ x17 h18)))))
set_option maxRecDepth 20000 in
theorem t_X3_floorLine_0 {M : MV} {X : XT} {F : Nat} {h hz : PH} {r : Int32} {ce sl mc ms : Nat} {v0 : Nat} (hc : Cx M X RX3 cX3_floorLine) (hr : Rx M 5 292 mc ms 2) (he : Ex M X (some .boolean) "floorLine" (some (.int r)) hz mc ms) (hm : ce ≤ mc) (hs : sl ≤ ms) (hf : b_X3_floorLine_0 F h v0 = some (r, hz)) : GG M X h ce sl 0 [(0, .ref (X.1 + v0))] [] := by
  unfold b_X3_floorLine_0 at hf
  refine r_aload_n hc 0 (dc_at dX3_floorLine 0 rfl) rfl ?_
  refine r_getR hc (dc_at dX3_floorLine 1 rfl) fl_X3_12 hf fun a1 hf => ?_
  refine r_getI hc (dc_at dX3_floorLine 2 rfl) fl_X3_101 hf fun x2 hf => ?_
  refine r_bipush (8 : Int32) hc (dc_at dX3_floorLine 3 rfl) (by decide) ?_
  refine r_icmp_lt (tgt := 18) hc (dc_at dX3_floorLine 4 rfl) (by decide) hf (fun hf => ?_) (fun hf => ?_)
  · refine r_aload_n hc 0 (dc_at dX3_floorLine 9 rfl) rfl ?_
    obtain ⟨ho, hf⟩ := cO_some hf
    refine ob2 hf fun u h4 ex hf => ?_
    refine r_callVv (As := []) (ci := 3) hc hr (dc_at dX3_floorLine 10 rfl) ml_X3_98 mv_X3_next vi_X3_next rfl ho rfl (mt_X3_next ex) (by first | exact Nat.le_of_ble_eq_true rfl | omega) (by first | exact Nat.le_of_ble_eq_true rfl | omega) (by first | exact Nat.le_of_ble_eq_true rfl | omega) hm hs ?_
    refine r_aload_n hc 0 (dc_at dX3_floorLine 11 rfl) rfl ?_
    refine r_bipush (10 : Int32) hc (dc_at dX3_floorLine 12 rfl) (by decide) ?_
    obtain ⟨ho, hf⟩ := cO_some hf
    refine ob2 hf fun x5 h6 ex hf => ?_
    refine r_callVi (As := [.int ((10 : Int32))]) (ci := 3) hc hr (dc_at dX3_floorLine 13 rfl) ml_X3_120 mv_X3_fractionThen vi_X3_fractionThen rfl ho rfl (mt_X3_fractionThen ex) (by first | exact Nat.le_of_ble_eq_true rfl | omega) (by first | exact Nat.le_of_ble_eq_true rfl | omega) (by first | exact Nat.le_of_ble_eq_true rfl | omega) hm hs ?_
    refine r_if_ne (tgt := 33) hc (dc_at dX3_floorLine 14 rfl) (by decide) hf (fun hf => ?_) (fun hf => ?_)
    · refine r_aload_n hc 0 (dc_at dX3_floorLine 17 rfl) rfl ?_
      refine r_getR hc (dc_at dX3_floorLine 18 rfl) fl_X3_12 hf fun a7 hf => ?_
      refine r_aload_n hc 0 (dc_at dX3_floorLine 19 rfl) rfl ?_
      refine r_getR hc (dc_at dX3_floorLine 20 rfl) fl_X3_32 hf fun a8 hf => ?_
      refine r_getL hc (dc_at dX3_floorLine 21 rfl) fl_X3_124 hf fun x9 hf => ?_
      refine r_aload_n hc 0 (dc_at dX3_floorLine 22 rfl) rfl ?_
      refine r_getR hc (dc_at dX3_floorLine 23 rfl) fl_X3_32 hf fun a10 hf => ?_
      refine r_getL hc (dc_at dX3_floorLine 24 rfl) fl_X3_131 hf fun x11 hf => ?_
      obtain ⟨ho, hf⟩ := cO_some hf
      refine ob hf fun x12 ex hf => ?_
      refine r_callVi (As := [.long x9, .long x11]) (ci := 0) hc hr (dc_at dX3_floorLine 25 rfl) ml_X3_144 mv_X0_floorAt vi_X0_floorAt rfl ho rfl (mt_X0_floorAt ex) (by first | exact Nat.le_of_ble_eq_true rfl | omega) (by first | exact Nat.le_of_ble_eq_true rfl | omega) (by first | exact Nat.le_of_ble_eq_true rfl | omega) hm hs ?_
      refine r_iconst (-1 : Int32) hc (dc_at dX3_floorLine 26 rfl) (by decide) ?_
      refine r_icmp_eq (tgt := 64) hc (dc_at dX3_floorLine 27 rfl) (by decide) hf (fun hf => ?_) (fun hf => ?_)
      · refine r_aload_n hc 0 (dc_at dX3_floorLine 32 rfl) rfl ?_
        obtain ⟨ho, hf⟩ := cO_some hf
        refine ob2 hf fun u h14 ex hf => ?_
        refine r_callVv (As := []) (ci := 3) hc hr (dc_at dX3_floorLine 33 rfl) ml_X3_98 mv_X3_next vi_X3_next rfl ho rfl (mt_X3_next ex) (by first | exact Nat.le_of_ble_eq_true rfl | omega) (by first | exact Nat.le_of_ble_eq_true rfl | omega) (by first | exact Nat.le_of_ble_eq_true rfl | omega) hm hs ?_
        refine r_iconst (0 : Int32) hc (dc_at dX3_floorLine 34 rfl) (by decide) ?_
        refine r_istore_n [(1, .int ((0 : Int32))), (0, .ref (X.1 + v0))] hc hr (dc_at dX3_floorLine 35 rfl) (by decide) rfl ?_
        exact gg_sub [1, 0] rfl (tl_X3_floorLine_70 hc hr he hm hs  F _ _ _ hf)
      · refine r_aload_n hc 0 (dc_at dX3_floorLine 28 rfl) rfl ?_
        refine r_iconst (3 : Int32) hc (dc_at dX3_floorLine 29 rfl) (by decide) ?_
        obtain ⟨ho, hf⟩ := cO_some hf
        refine ob2 hf fun x15 h16 ex hf => ?_
        refine r_callVi (As := [.int ((3 : Int32))]) (ci := 3) hc hr (dc_at dX3_floorLine 30 rfl) ml_X3_137 mv_X3_failed vi_X3_failed rfl ho rfl (mt_X3_failed ex) (by first | exact Nat.le_of_ble_eq_true rfl | omega) (by first | exact Nat.le_of_ble_eq_true rfl | omega) (by first | exact Nat.le_of_ble_eq_true rfl | omega) hm hs ?_
        exact r_zret hc he (hm) (hs) (dc_at dX3_floorLine 31 rfl) hf
    · refine r_iconst (0 : Int32) hc (dc_at dX3_floorLine 15 rfl) (by decide) ?_
      exact r_zret hc he (hm) (hs) (dc_at dX3_floorLine 16 rfl) hf
  · refine r_aload_n hc 0 (dc_at dX3_floorLine 5 rfl) rfl ?_
    refine r_iconst (4 : Int32) hc (dc_at dX3_floorLine 6 rfl) (by decide) ?_
    obtain ⟨ho, hf⟩ := cO_some hf
    refine ob2 hf fun x17 h18 ex hf => ?_
    refine r_callVi (As := [.int ((4 : Int32))]) (ci := 3) hc hr (dc_at dX3_floorLine 7 rfl) ml_X3_137 mv_X3_failed vi_X3_failed rfl ho rfl (mt_X3_failed ex) (by first | exact Nat.le_of_ble_eq_true rfl | omega) (by first | exact Nat.le_of_ble_eq_true rfl | omega) (by first | exact Nat.le_of_ble_eq_true rfl | omega) hm hs ?_
    exact r_zret hc he (hm) (hs) (dc_at dX3_floorLine 8 rfl) hf
def m_X3_floorLine (F : Nat) (h : PH) (p0 : Nat) : Option (Int32 × PH) := b_X3_floorLine_0 F h p0
theorem mt_X3_floorLine {l : Launch} {X : XT} {F : Nat} {h hz : PH} {p0 : Nat} {r : Int32} (ex : m_X3_floorLine F h p0 = some (r, hz)) : MT l X yX3_floorLine cX3_floorLine 2 (some .boolean) 5 292 0 0 [.ref (X.1 + p0)] h (some (.int r)) hz := MT.of (by decide) (Nat.le_of_ble_eq_true rfl) fun M hl hc hr he => by
  subst hl
  exact gg_sub [0] rfl (t_X3_floorLine_0  hc hr he (Nat.zero_le _) (Nat.zero_le _) ex)
/-! FractionLift$Reader.tenantLine()Z -/
def lX3_tenantLineL : List (Nat × Instr × Nat × Nat) := [(0, .aload_n 0, 1, 1), (1, .getfield 12, 3, 4), (4, .getfield 104, 3, 7), (7, .bipush 6, 2, 9), (9, .if_icmp .lt 9, 3, 12), (12, .aload_n 0, 1, 13), (13, .iconst 4, 1, 14), (14, .invokevirtual 137, 3, 17), (17, .ireturn, 1, 18), (18, .aload_n 0, 1, 19), (19, .invokevirtual 98, 3, 22), (22, .aload_n 0, 1, 23), (23, .bipush 59, 2, 25), (25, .invokevirtual 120, 3, 28), (28, .ifCond .ne 5, 3, 31), (31, .iconst 0, 1, 32), (32, .ireturn, 1, 33), (33, .aload_n 0, 1, 34), (34, .getfield 12, 3, 37), (37, .aload_n 0, 1, 38), (38, .getfield 32, 3, 41), (41, .getfield 124, 3, 44), (44, .l2i, 1, 45), (45, .aload_n 0, 1, 46), (46, .getfield 32, 3, 49), (49, .getfield 131, 3, 52), (52, .l2i, 1, 53), (53, .invokevirtual 140, 3, 56), (56, .iconst 1, 1, 57), (57, .ireturn, 1, 58)]
set_option maxRecDepth 20000 in
theorem dX3_tenantLine : dcL cX3_tenantLine lX3_tenantLineL = true := by decide +kernel
def b_X3_tenantLine_0 (F : Nat) (h : PH) (v0 : Nat) : Option (Int32 × PH) := (gR 3 0 h v0).bind fun a1 => ((gI 0 15 h a1).bind fun x2 => (if x2 < (6 : Int32) then (cO 3 h v0 (bind2 (m_X3_next h v0) fun _ h4 => (cO 3 h4 v0 (bind2 (m_X3_fractionThen F h4 v0 (59 : Int32)) fun x5 h6 => (if x5 = 0 then (rZ (0 : Int32) h6) else ((gR 3 0 h6 v0).bind fun a7 => ((gR 3 13 h6 v0).bind fun a8 => ((gL 2 0 h6 a8).bind fun x9 => ((gR 3 13 h6 v0).bind fun a10 => ((gL 2 1 h6 a10).bind fun x11 => (cO 0 h6 a7 (bind2 (m_X0_addTenant h6 a7 (Int64.toInt32 x9) (Int64.toInt32 x11)) fun _ h13 => (rZ (1 : Int32) h13))))))))))))) else (cO 3 h v0 (bind2 (m_X3_failed h v0 (4 : Int32)) fun x14 h15 => (rZ x14 h15)))))
set_option maxRecDepth 20000 in
theorem t_X3_tenantLine_0 {M : MV} {X : XT} {F : Nat} {h hz : PH} {r : Int32} {ce sl mc ms : Nat} {v0 : Nat} (hc : Cx M X RX3 cX3_tenantLine) (hr : Rx M 5 292 mc ms 1) (he : Ex M X (some .boolean) "tenantLine" (some (.int r)) hz mc ms) (hm : ce ≤ mc) (hs : sl ≤ ms) (hf : b_X3_tenantLine_0 F h v0 = some (r, hz)) : GG M X h ce sl 0 [(0, .ref (X.1 + v0))] [] := by
  unfold b_X3_tenantLine_0 at hf
  refine r_aload_n hc 0 (dc_at dX3_tenantLine 0 rfl) rfl ?_
  refine r_getR hc (dc_at dX3_tenantLine 1 rfl) fl_X3_12 hf fun a1 hf => ?_
  refine r_getI hc (dc_at dX3_tenantLine 2 rfl) fl_X3_104 hf fun x2 hf => ?_
  refine r_bipush (6 : Int32) hc (dc_at dX3_tenantLine 3 rfl) (by decide) ?_
  refine r_icmp_lt (tgt := 18) hc (dc_at dX3_tenantLine 4 rfl) (by decide) hf (fun hf => ?_) (fun hf => ?_)
  · refine r_aload_n hc 0 (dc_at dX3_tenantLine 9 rfl) rfl ?_
    obtain ⟨ho, hf⟩ := cO_some hf
    refine ob2 hf fun u h4 ex hf => ?_
    refine r_callVv (As := []) (ci := 3) hc hr (dc_at dX3_tenantLine 10 rfl) ml_X3_98 mv_X3_next vi_X3_next rfl ho rfl (mt_X3_next ex) (by first | exact Nat.le_of_ble_eq_true rfl | omega) (by first | exact Nat.le_of_ble_eq_true rfl | omega) (by first | exact Nat.le_of_ble_eq_true rfl | omega) hm hs ?_
    refine r_aload_n hc 0 (dc_at dX3_tenantLine 11 rfl) rfl ?_
    refine r_bipush (59 : Int32) hc (dc_at dX3_tenantLine 12 rfl) (by decide) ?_
    obtain ⟨ho, hf⟩ := cO_some hf
    refine ob2 hf fun x5 h6 ex hf => ?_
    refine r_callVi (As := [.int ((59 : Int32))]) (ci := 3) hc hr (dc_at dX3_tenantLine 13 rfl) ml_X3_120 mv_X3_fractionThen vi_X3_fractionThen rfl ho rfl (mt_X3_fractionThen ex) (by first | exact Nat.le_of_ble_eq_true rfl | omega) (by first | exact Nat.le_of_ble_eq_true rfl | omega) (by first | exact Nat.le_of_ble_eq_true rfl | omega) hm hs ?_
    refine r_if_ne (tgt := 33) hc (dc_at dX3_tenantLine 14 rfl) (by decide) hf (fun hf => ?_) (fun hf => ?_)
    · refine r_aload_n hc 0 (dc_at dX3_tenantLine 17 rfl) rfl ?_
      refine r_getR hc (dc_at dX3_tenantLine 18 rfl) fl_X3_12 hf fun a7 hf => ?_
      refine r_aload_n hc 0 (dc_at dX3_tenantLine 19 rfl) rfl ?_
      refine r_getR hc (dc_at dX3_tenantLine 20 rfl) fl_X3_32 hf fun a8 hf => ?_
      refine r_getL hc (dc_at dX3_tenantLine 21 rfl) fl_X3_124 hf fun x9 hf => ?_
      refine r_l2i hc (dc_at dX3_tenantLine 22 rfl) ?_
      refine r_aload_n hc 0 (dc_at dX3_tenantLine 23 rfl) rfl ?_
      refine r_getR hc (dc_at dX3_tenantLine 24 rfl) fl_X3_32 hf fun a10 hf => ?_
      refine r_getL hc (dc_at dX3_tenantLine 25 rfl) fl_X3_131 hf fun x11 hf => ?_
      refine r_l2i hc (dc_at dX3_tenantLine 26 rfl) ?_
      obtain ⟨ho, hf⟩ := cO_some hf
      refine ob2 hf fun u h13 ex hf => ?_
      refine r_callVv (As := [.int ((Int64.toInt32 x9)), .int ((Int64.toInt32 x11))]) (ci := 0) hc hr (dc_at dX3_tenantLine 27 rfl) ml_X3_140 mv_X0_addTenant vi_X0_addTenant rfl ho rfl (mt_X0_addTenant ex) (by first | exact Nat.le_of_ble_eq_true rfl | omega) (by first | exact Nat.le_of_ble_eq_true rfl | omega) (by first | exact Nat.le_of_ble_eq_true rfl | omega) hm hs ?_
      refine r_iconst (1 : Int32) hc (dc_at dX3_tenantLine 28 rfl) (by decide) ?_
      exact r_zret hc he (hm) (hs) (dc_at dX3_tenantLine 29 rfl) hf
    · refine r_iconst (0 : Int32) hc (dc_at dX3_tenantLine 15 rfl) (by decide) ?_
      exact r_zret hc he (hm) (hs) (dc_at dX3_tenantLine 16 rfl) hf
  · refine r_aload_n hc 0 (dc_at dX3_tenantLine 5 rfl) rfl ?_
    refine r_iconst (4 : Int32) hc (dc_at dX3_tenantLine 6 rfl) (by decide) ?_
    obtain ⟨ho, hf⟩ := cO_some hf
    refine ob2 hf fun x14 h15 ex hf => ?_
    refine r_callVi (As := [.int ((4 : Int32))]) (ci := 3) hc hr (dc_at dX3_tenantLine 7 rfl) ml_X3_137 mv_X3_failed vi_X3_failed rfl ho rfl (mt_X3_failed ex) (by first | exact Nat.le_of_ble_eq_true rfl | omega) (by first | exact Nat.le_of_ble_eq_true rfl | omega) (by first | exact Nat.le_of_ble_eq_true rfl | omega) hm hs ?_
    exact r_zret hc he (hm) (hs) (dc_at dX3_tenantLine 8 rfl) hf
def m_X3_tenantLine (F : Nat) (h : PH) (p0 : Nat) : Option (Int32 × PH) := b_X3_tenantLine_0 F h p0
theorem mt_X3_tenantLine {l : Launch} {X : XT} {F : Nat} {h hz : PH} {p0 : Nat} {r : Int32} (ex : m_X3_tenantLine F h p0 = some (r, hz)) : MT l X yX3_tenantLine cX3_tenantLine 1 (some .boolean) 5 292 0 0 [.ref (X.1 + p0)] h (some (.int r)) hz := MT.of (by decide) (Nat.le_of_ble_eq_true rfl) fun M hl hc hr he => by
  subst hl
  exact gg_sub [0] rfl (t_X3_tenantLine_0  hc hr he (Nat.zero_le _) (Nat.zero_le _) ex)
/-! FractionLift$Reader.atLine()Z -/
def lX3_atLineL : List (Nat × Instr × Nat × Nat) := [(0, .aload_n 0, 1, 1), (1, .invokevirtual 98, 3, 4), (4, .aload_n 0, 1, 5), (5, .bipush 59, 2, 7), (7, .invokevirtual 120, 3, 10), (10, .ifCond .ne 5, 3, 13), (13, .iconst 0, 1, 14), (14, .ireturn, 1, 15), (15, .aload_n 0, 1, 16), (16, .getfield 12, 3, 19), (19, .aload_n 0, 1, 20), (20, .getfield 32, 3, 23), (23, .getfield 124, 3, 26), (26, .l2i, 1, 27), (27, .putfield 128, 3, 30), (30, .aload_n 0, 1, 31), (31, .getfield 12, 3, 34), (34, .aload_n 0, 1, 35), (35, .getfield 32, 3, 38), (38, .getfield 131, 3, 41), (41, .l2i, 1, 42), (42, .putfield 134, 3, 45), (45, .aload_n 0, 1, 46), (46, .iconst 1, 1, 47), (47, .putfield 43, 3, 50), (50, .iconst 1, 1, 51), (51, .ireturn, 1, 52)]
set_option maxRecDepth 20000 in
theorem dX3_atLine : dcL cX3_atLine lX3_atLineL = true := by decide +kernel
def b_X3_atLine_0 (F : Nat) (h : PH) (v0 : Nat) : Option (Int32 × PH) := cO 3 h v0 (bind2 (m_X3_next h v0) fun _ h2 => (cO 3 h2 v0 (bind2 (m_X3_fractionThen F h2 v0 (59 : Int32)) fun x3 h4 => (if x3 = 0 then (rZ (0 : Int32) h4) else ((gR 3 0 h4 v0).bind fun a5 => ((gR 3 13 h4 v0).bind fun a6 => ((gL 2 0 h4 a6).bind fun x7 => ((pV 0 4 (.int (Int64.toInt32 x7)) h4 a5).bind fun h8 => ((gR 3 0 h8 v0).bind fun a9 => ((gR 3 13 h8 v0).bind fun a10 => ((gL 2 1 h8 a10).bind fun x11 => ((pV 0 5 (.int (Int64.toInt32 x11)) h8 a9).bind fun h12 => ((pZ 3 9 (1 : Int32) h12 v0).bind fun h13 => (rZ (1 : Int32) h13))))))))))))))
set_option maxRecDepth 20000 in
theorem t_X3_atLine_0 {M : MV} {X : XT} {F : Nat} {h hz : PH} {r : Int32} {ce sl mc ms : Nat} {v0 : Nat} (hc : Cx M X RX3 cX3_atLine) (hr : Rx M 5 292 mc ms 1) (he : Ex M X (some .boolean) "atLine" (some (.int r)) hz mc ms) (hm : ce ≤ mc) (hs : sl ≤ ms) (hf : b_X3_atLine_0 F h v0 = some (r, hz)) : GG M X h ce sl 0 [(0, .ref (X.1 + v0))] [] := by
  unfold b_X3_atLine_0 at hf
  refine r_aload_n hc 0 (dc_at dX3_atLine 0 rfl) rfl ?_
  obtain ⟨ho, hf⟩ := cO_some hf
  refine ob2 hf fun u h2 ex hf => ?_
  refine r_callVv (As := []) (ci := 3) hc hr (dc_at dX3_atLine 1 rfl) ml_X3_98 mv_X3_next vi_X3_next rfl ho rfl (mt_X3_next ex) (by first | exact Nat.le_of_ble_eq_true rfl | omega) (by first | exact Nat.le_of_ble_eq_true rfl | omega) (by first | exact Nat.le_of_ble_eq_true rfl | omega) hm hs ?_
  refine r_aload_n hc 0 (dc_at dX3_atLine 2 rfl) rfl ?_
  refine r_bipush (59 : Int32) hc (dc_at dX3_atLine 3 rfl) (by decide) ?_
  obtain ⟨ho, hf⟩ := cO_some hf
  refine ob2 hf fun x3 h4 ex hf => ?_
  refine r_callVi (As := [.int ((59 : Int32))]) (ci := 3) hc hr (dc_at dX3_atLine 4 rfl) ml_X3_120 mv_X3_fractionThen vi_X3_fractionThen rfl ho rfl (mt_X3_fractionThen ex) (by first | exact Nat.le_of_ble_eq_true rfl | omega) (by first | exact Nat.le_of_ble_eq_true rfl | omega) (by first | exact Nat.le_of_ble_eq_true rfl | omega) hm hs ?_
  refine r_if_ne (tgt := 15) hc (dc_at dX3_atLine 5 rfl) (by decide) hf (fun hf => ?_) (fun hf => ?_)
  · refine r_aload_n hc 0 (dc_at dX3_atLine 8 rfl) rfl ?_
    refine r_getR hc (dc_at dX3_atLine 9 rfl) fl_X3_12 hf fun a5 hf => ?_
    refine r_aload_n hc 0 (dc_at dX3_atLine 10 rfl) rfl ?_
    refine r_getR hc (dc_at dX3_atLine 11 rfl) fl_X3_32 hf fun a6 hf => ?_
    refine r_getL hc (dc_at dX3_atLine 12 rfl) fl_X3_124 hf fun x7 hf => ?_
    refine r_l2i hc (dc_at dX3_atLine 13 rfl) ?_
    refine r_putI hc he (dc_at dX3_atLine 14 rfl) fp_X3_128 (fun q => by cases q) hf fun h8 hf => ?_
    refine r_aload_n hc 0 (dc_at dX3_atLine 15 rfl) rfl ?_
    refine r_getR hc (dc_at dX3_atLine 16 rfl) fl_X3_12 hf fun a9 hf => ?_
    refine r_aload_n hc 0 (dc_at dX3_atLine 17 rfl) rfl ?_
    refine r_getR hc (dc_at dX3_atLine 18 rfl) fl_X3_32 hf fun a10 hf => ?_
    refine r_getL hc (dc_at dX3_atLine 19 rfl) fl_X3_131 hf fun x11 hf => ?_
    refine r_l2i hc (dc_at dX3_atLine 20 rfl) ?_
    refine r_putI hc he (dc_at dX3_atLine 21 rfl) fp_X3_134 (fun q => by cases q) hf fun h12 hf => ?_
    refine r_aload_n hc 0 (dc_at dX3_atLine 22 rfl) rfl ?_
    refine r_iconst (1 : Int32) hc (dc_at dX3_atLine 23 rfl) (by decide) ?_
    refine r_putZ hc he (dc_at dX3_atLine 24 rfl) fp_X3_43 (fun q => by cases q) hf fun h13 hf => ?_
    refine r_iconst (1 : Int32) hc (dc_at dX3_atLine 25 rfl) (by decide) ?_
    exact r_zret hc he (hm) (hs) (dc_at dX3_atLine 26 rfl) hf
  · refine r_iconst (0 : Int32) hc (dc_at dX3_atLine 6 rfl) (by decide) ?_
    exact r_zret hc he (hm) (hs) (dc_at dX3_atLine 7 rfl) hf
def m_X3_atLine (F : Nat) (h : PH) (p0 : Nat) : Option (Int32 × PH) := b_X3_atLine_0 F h p0
theorem mt_X3_atLine {l : Launch} {X : XT} {F : Nat} {h hz : PH} {p0 : Nat} {r : Int32} (ex : m_X3_atLine F h p0 = some (r, hz)) : MT l X yX3_atLine cX3_atLine 1 (some .boolean) 5 292 0 0 [.ref (X.1 + p0)] h (some (.int r)) hz := MT.of (by decide) (Nat.le_of_ble_eq_true rfl) fun M hl hc hr he => by
  subst hl
  exact gg_sub [0] rfl (t_X3_atLine_0  hc hr he (Nat.zero_le _) (Nat.zero_le _) ex)
/-! FractionLift$Reader.stickLine()Z -/
def lX3_stickLineL : List (Nat × Instr × Nat × Nat) := [(0, .aload_n 0, 1, 1), (1, .invokevirtual 98, 3, 4), (4, .aload_n 0, 1, 5), (5, .iconst 0, 1, 6), (6, .bipush 9, 2, 8), (8, .invokevirtual 107, 3, 11), (11, .ifCond .ne 5, 3, 14), (14, .iconst 0, 1, 15), (15, .ireturn, 1, 16), (16, .aload_n 0, 1, 17), (17, .getfield 12, 3, 20), (20, .aload_n 0, 1, 21), (21, .getfield 111, 3, 24), (24, .putfield 117, 3, 27), (27, .iconst 1, 1, 28), (28, .ireturn, 1, 29)]
set_option maxRecDepth 20000 in
theorem dX3_stickLine : dcL cX3_stickLine lX3_stickLineL = true := by decide +kernel
def b_X3_stickLine_0 (h : PH) (v0 : Nat) : Option (Int32 × PH) := cO 3 h v0 (bind2 (m_X3_next h v0) fun _ h2 => (cO 3 h2 v0 (bind2 (m_X3_numberWithin h2 v0 (0 : Int32) (9 : Int32)) fun x3 h4 => (if x3 = 0 then (rZ (0 : Int32) h4) else ((gR 3 0 h4 v0).bind fun a5 => ((gI 3 8 h4 v0).bind fun x6 => ((pV 0 1 (.int x6) h4 a5).bind fun h7 => (rZ (1 : Int32) h7))))))))
set_option maxRecDepth 20000 in
theorem t_X3_stickLine_0 {M : MV} {X : XT} {h hz : PH} {r : Int32} {ce sl mc ms : Nat} {v0 : Nat} (hc : Cx M X RX3 cX3_stickLine) (hr : Rx M 4 234 mc ms 1) (he : Ex M X (some .boolean) "stickLine" (some (.int r)) hz mc ms) (hm : ce ≤ mc) (hs : sl ≤ ms) (hf : b_X3_stickLine_0 h v0 = some (r, hz)) : GG M X h ce sl 0 [(0, .ref (X.1 + v0))] [] := by
  unfold b_X3_stickLine_0 at hf
  refine r_aload_n hc 0 (dc_at dX3_stickLine 0 rfl) rfl ?_
  obtain ⟨ho, hf⟩ := cO_some hf
  refine ob2 hf fun u h2 ex hf => ?_
  refine r_callVv (As := []) (ci := 3) hc hr (dc_at dX3_stickLine 1 rfl) ml_X3_98 mv_X3_next vi_X3_next rfl ho rfl (mt_X3_next ex) (by first | exact Nat.le_of_ble_eq_true rfl | omega) (by first | exact Nat.le_of_ble_eq_true rfl | omega) (by first | exact Nat.le_of_ble_eq_true rfl | omega) hm hs ?_
  refine r_aload_n hc 0 (dc_at dX3_stickLine 2 rfl) rfl ?_
  refine r_iconst (0 : Int32) hc (dc_at dX3_stickLine 3 rfl) (by decide) ?_
  refine r_bipush (9 : Int32) hc (dc_at dX3_stickLine 4 rfl) (by decide) ?_
  obtain ⟨ho, hf⟩ := cO_some hf
  refine ob2 hf fun x3 h4 ex hf => ?_
  refine r_callVi (As := [.int ((0 : Int32)), .int ((9 : Int32))]) (ci := 3) hc hr (dc_at dX3_stickLine 5 rfl) ml_X3_107 mv_X3_numberWithin vi_X3_numberWithin rfl ho rfl (mt_X3_numberWithin ex) (by first | exact Nat.le_of_ble_eq_true rfl | omega) (by first | exact Nat.le_of_ble_eq_true rfl | omega) (by first | exact Nat.le_of_ble_eq_true rfl | omega) hm hs ?_
  refine r_if_ne (tgt := 16) hc (dc_at dX3_stickLine 6 rfl) (by decide) hf (fun hf => ?_) (fun hf => ?_)
  · refine r_aload_n hc 0 (dc_at dX3_stickLine 9 rfl) rfl ?_
    refine r_getR hc (dc_at dX3_stickLine 10 rfl) fl_X3_12 hf fun a5 hf => ?_
    refine r_aload_n hc 0 (dc_at dX3_stickLine 11 rfl) rfl ?_
    refine r_getI hc (dc_at dX3_stickLine 12 rfl) fl_X3_111 hf fun x6 hf => ?_
    refine r_putI hc he (dc_at dX3_stickLine 13 rfl) fp_X3_117 (fun q => by cases q) hf fun h7 hf => ?_
    refine r_iconst (1 : Int32) hc (dc_at dX3_stickLine 14 rfl) (by decide) ?_
    exact r_zret hc he (hm) (hs) (dc_at dX3_stickLine 15 rfl) hf
  · refine r_iconst (0 : Int32) hc (dc_at dX3_stickLine 7 rfl) (by decide) ?_
    exact r_zret hc he (hm) (hs) (dc_at dX3_stickLine 8 rfl) hf
def m_X3_stickLine (h : PH) (p0 : Nat) : Option (Int32 × PH) := b_X3_stickLine_0 h p0
theorem mt_X3_stickLine {l : Launch} {X : XT} {h hz : PH} {p0 : Nat} {r : Int32} (ex : m_X3_stickLine h p0 = some (r, hz)) : MT l X yX3_stickLine cX3_stickLine 1 (some .boolean) 4 234 0 0 [.ref (X.1 + p0)] h (some (.int r)) hz := MT.of (by decide) (Nat.le_of_ble_eq_true rfl) fun M hl hc hr he => by
  subst hl
  exact gg_sub [0] rfl (t_X3_stickLine_0  hc hr he (Nat.zero_le _) (Nat.zero_le _) ex)
/-! FractionLift$Reader.line()Z -/
def lX3_lineL : List (Nat × Instr × Nat × Nat) := [(0, .aload_n 0, 1, 1), (1, .getfield 64, 3, 4), (4, .tableswitch 70 4 9 #[40, 45, 50, 55, 60, 65], 40, 44), (44, .aload_n 0, 1, 45), (45, .invokevirtual 74, 3, 48), (48, .ireturn, 1, 49), (49, .aload_n 0, 1, 50), (50, .invokevirtual 77, 3, 53), (53, .ireturn, 1, 54), (54, .aload_n 0, 1, 55), (55, .invokevirtual 80, 3, 58), (58, .ireturn, 1, 59), (59, .aload_n 0, 1, 60), (60, .invokevirtual 83, 3, 63), (63, .ireturn, 1, 64), (64, .aload_n 0, 1, 65), (65, .invokevirtual 86, 3, 68), (68, .ireturn, 1, 69), (69, .aload_n 0, 1, 70), (70, .invokevirtual 89, 3, 73), (73, .ireturn, 1, 74), (74, .aload_n 0, 1, 75), (75, .invokevirtual 92, 3, 78), (78, .ireturn, 1, 79)]
set_option maxRecDepth 20000 in
theorem dX3_line : dcL cX3_line lX3_lineL = true := by decide +kernel
def b_X3_line_0 (F : Nat) (h : PH) (v0 : Nat) : Option (Int32 × PH) := (gI 3 5 h v0).bind fun x1 => (swN x1 (4) [cO 3 h v0 (bind2 (m_X3_topLine h v0) fun x2 h3 => (rZ x2 h3)), cO 3 h v0 (bind2 (m_X3_buttonLine F h v0) fun x4 h5 => (rZ x4 h5)), cO 3 h v0 (bind2 (m_X3_floorLine F h v0) fun x6 h7 => (rZ x6 h7)), cO 3 h v0 (bind2 (m_X3_tenantLine F h v0) fun x8 h9 => (rZ x8 h9)), cO 3 h v0 (bind2 (m_X3_atLine F h v0) fun x10 h11 => (rZ x10 h11)), cO 3 h v0 (bind2 (m_X3_stickLine h v0) fun x12 h13 => (rZ x12 h13))] (cO 3 h v0 (bind2 (m_X3_cantStand h v0) fun x14 h15 => (rZ x14 h15))))
set_option maxRecDepth 20000 in
theorem t_X3_line_0 {M : MV} {X : XT} {F : Nat} {h hz : PH} {r : Int32} {ce sl mc ms : Nat} {v0 : Nat} (hc : Cx M X RX3 cX3_line) (hr : Rx M 6 350 mc ms 1) (he : Ex M X (some .boolean) "line" (some (.int r)) hz mc ms) (hm : ce ≤ mc) (hs : sl ≤ ms) (hf : b_X3_line_0 F h v0 = some (r, hz)) : GG M X h ce sl 0 [(0, .ref (X.1 + v0))] [] := by
  unfold b_X3_line_0 at hf
  refine r_aload_n hc 0 (dc_at dX3_line 0 rfl) rfl ?_
  refine r_getI hc (dc_at dX3_line 1 rfl) fl_X3_64 hf fun x1 hf => ?_
  rcases sw_cases hf with ⟨i, hi, hx, hf⟩ | ⟨hx, hf⟩
  · rcases (show i = 0 ∨ i = 1 ∨ i = 2 ∨ i = 3 ∨ i = 4 ∨ i = 5 by simp only [List.length_cons, List.length_nil] at hi; omega) with rfl | rfl | rfl | rfl | rfl | rfl
    · have hf := gd_at hf rfl
      refine r_tableIn (tgt := 44) 0 hc (dc_at dX3_line 2 rfl) hx rfl (by decide) (by decide) ?_
      refine r_aload_n hc 0 (dc_at dX3_line 3 rfl) rfl ?_
      obtain ⟨ho, hf⟩ := cO_some hf
      refine ob2 hf fun x2 h3 ex hf => ?_
      refine r_callVi (As := []) (ci := 3) hc hr (dc_at dX3_line 4 rfl) ml_X3_74 mv_X3_topLine vi_X3_topLine rfl ho rfl (mt_X3_topLine ex) (by first | exact Nat.le_of_ble_eq_true rfl | omega) (by first | exact Nat.le_of_ble_eq_true rfl | omega) (by first | exact Nat.le_of_ble_eq_true rfl | omega) hm hs ?_
      exact r_zret hc he (hm) (hs) (dc_at dX3_line 5 rfl) hf
    · have hf := gd_at hf rfl
      refine r_tableIn (tgt := 49) 1 hc (dc_at dX3_line 2 rfl) hx rfl (by decide) (by decide) ?_
      refine r_aload_n hc 0 (dc_at dX3_line 6 rfl) rfl ?_
      obtain ⟨ho, hf⟩ := cO_some hf
      refine ob2 hf fun x4 h5 ex hf => ?_
      refine r_callVi (As := []) (ci := 3) hc hr (dc_at dX3_line 7 rfl) ml_X3_77 mv_X3_buttonLine vi_X3_buttonLine rfl ho rfl (mt_X3_buttonLine ex) (by first | exact Nat.le_of_ble_eq_true rfl | omega) (by first | exact Nat.le_of_ble_eq_true rfl | omega) (by first | exact Nat.le_of_ble_eq_true rfl | omega) hm hs ?_
      exact r_zret hc he (hm) (hs) (dc_at dX3_line 8 rfl) hf
    · have hf := gd_at hf rfl
      refine r_tableIn (tgt := 54) 2 hc (dc_at dX3_line 2 rfl) hx rfl (by decide) (by decide) ?_
      refine r_aload_n hc 0 (dc_at dX3_line 9 rfl) rfl ?_
      obtain ⟨ho, hf⟩ := cO_some hf
      refine ob2 hf fun x6 h7 ex hf => ?_
      refine r_callVi (As := []) (ci := 3) hc hr (dc_at dX3_line 10 rfl) ml_X3_80 mv_X3_floorLine vi_X3_floorLine rfl ho rfl (mt_X3_floorLine ex) (by first | exact Nat.le_of_ble_eq_true rfl | omega) (by first | exact Nat.le_of_ble_eq_true rfl | omega) (by first | exact Nat.le_of_ble_eq_true rfl | omega) hm hs ?_
      exact r_zret hc he (hm) (hs) (dc_at dX3_line 11 rfl) hf
    · have hf := gd_at hf rfl
      refine r_tableIn (tgt := 59) 3 hc (dc_at dX3_line 2 rfl) hx rfl (by decide) (by decide) ?_
      refine r_aload_n hc 0 (dc_at dX3_line 12 rfl) rfl ?_
      obtain ⟨ho, hf⟩ := cO_some hf
      refine ob2 hf fun x8 h9 ex hf => ?_
      refine r_callVi (As := []) (ci := 3) hc hr (dc_at dX3_line 13 rfl) ml_X3_83 mv_X3_tenantLine vi_X3_tenantLine rfl ho rfl (mt_X3_tenantLine ex) (by first | exact Nat.le_of_ble_eq_true rfl | omega) (by first | exact Nat.le_of_ble_eq_true rfl | omega) (by first | exact Nat.le_of_ble_eq_true rfl | omega) hm hs ?_
      exact r_zret hc he (hm) (hs) (dc_at dX3_line 14 rfl) hf
    · have hf := gd_at hf rfl
      refine r_tableIn (tgt := 64) 4 hc (dc_at dX3_line 2 rfl) hx rfl (by decide) (by decide) ?_
      refine r_aload_n hc 0 (dc_at dX3_line 15 rfl) rfl ?_
      obtain ⟨ho, hf⟩ := cO_some hf
      refine ob2 hf fun x10 h11 ex hf => ?_
      refine r_callVi (As := []) (ci := 3) hc hr (dc_at dX3_line 16 rfl) ml_X3_86 mv_X3_atLine vi_X3_atLine rfl ho rfl (mt_X3_atLine ex) (by first | exact Nat.le_of_ble_eq_true rfl | omega) (by first | exact Nat.le_of_ble_eq_true rfl | omega) (by first | exact Nat.le_of_ble_eq_true rfl | omega) hm hs ?_
      exact r_zret hc he (hm) (hs) (dc_at dX3_line 17 rfl) hf
    · have hf := gd_at hf rfl
      refine r_tableIn (tgt := 69) 5 hc (dc_at dX3_line 2 rfl) hx rfl (by decide) (by decide) ?_
      refine r_aload_n hc 0 (dc_at dX3_line 18 rfl) rfl ?_
      obtain ⟨ho, hf⟩ := cO_some hf
      refine ob2 hf fun x12 h13 ex hf => ?_
      refine r_callVi (As := []) (ci := 3) hc hr (dc_at dX3_line 19 rfl) ml_X3_89 mv_X3_stickLine vi_X3_stickLine rfl ho rfl (mt_X3_stickLine ex) (by first | exact Nat.le_of_ble_eq_true rfl | omega) (by first | exact Nat.le_of_ble_eq_true rfl | omega) (by first | exact Nat.le_of_ble_eq_true rfl | omega) hm hs ?_
      exact r_zret hc he (hm) (hs) (dc_at dX3_line 20 rfl) hf
  · refine r_tableOut (tgt := 74) 6 hc (dc_at dX3_line 2 rfl) hx (by decide) (by decide) ?_
    refine r_aload_n hc 0 (dc_at dX3_line 21 rfl) rfl ?_
    obtain ⟨ho, hf⟩ := cO_some hf
    refine ob2 hf fun x14 h15 ex hf => ?_
    refine r_callVi (As := []) (ci := 3) hc hr (dc_at dX3_line 22 rfl) ml_X3_92 mv_X3_cantStand vi_X3_cantStand rfl ho rfl (mt_X3_cantStand ex) (by first | exact Nat.le_of_ble_eq_true rfl | omega) (by first | exact Nat.le_of_ble_eq_true rfl | omega) (by first | exact Nat.le_of_ble_eq_true rfl | omega) hm hs ?_
    exact r_zret hc he (hm) (hs) (dc_at dX3_line 23 rfl) hf
def m_X3_line (F : Nat) (h : PH) (p0 : Nat) : Option (Int32 × PH) := b_X3_line_0 F h p0
theorem mt_X3_line {l : Launch} {X : XT} {F : Nat} {h hz : PH} {p0 : Nat} {r : Int32} (ex : m_X3_line F h p0 = some (r, hz)) : MT l X yX3_line cX3_line 1 (some .boolean) 6 350 0 0 [.ref (X.1 + p0)] h (some (.int r)) hz := MT.of (by decide) (Nat.le_of_ble_eq_true rfl) fun M hl hc hr he => by
  subst hl
  exact gg_sub [0] rfl (t_X3_line_0  hc hr he (Nat.zero_le _) (Nat.zero_le _) ex)
/-! FractionLift$Reader.closes()Z -/
def lX3_closesL : List (Nat × Instr × Nat × Nat) := [(0, .aload_n 0, 1, 1), (1, .getfield 64, 3, 4), (4, .bipush 59, 2, 6), (6, .if_icmp .eq 8, 3, 9), (9, .aload_n 0, 1, 10), (10, .invokevirtual 92, 3, 13), (13, .ireturn, 1, 14), (14, .aload_n 0, 1, 15), (15, .getfield 12, 3, 18), (18, .dup, 1, 19), (19, .getfield 95, 3, 22), (22, .iconst 1, 1, 23), (23, .iadd, 1, 24), (24, .putfield 95, 3, 27), (27, .aload_n 0, 1, 28), (28, .invokevirtual 98, 3, 31), (31, .iconst 1, 1, 32), (32, .ireturn, 1, 33)]
set_option maxRecDepth 20000 in
theorem dX3_closes : dcL cX3_closes lX3_closesL = true := by decide +kernel
def b_X3_closes_0 (h : PH) (v0 : Nat) : Option (Int32 × PH) := (gI 3 5 h v0).bind fun x1 => (if x1 = (59 : Int32) then ((gR 3 0 h v0).bind fun a2 => ((gI 0 2 h a2).bind fun x3 => ((pV 0 2 (.int ((x3 + (1 : Int32)))) h a2).bind fun h4 => (cO 3 h4 v0 (bind2 (m_X3_next h4 v0) fun _ h6 => (rZ (1 : Int32) h6)))))) else (cO 3 h v0 (bind2 (m_X3_cantStand h v0) fun x7 h8 => (rZ x7 h8))))
set_option maxRecDepth 20000 in
theorem t_X3_closes_0 {M : MV} {X : XT} {h hz : PH} {r : Int32} {ce sl mc ms : Nat} {v0 : Nat} (hc : Cx M X RX3 cX3_closes) (hr : Rx M 3 176 mc ms 1) (he : Ex M X (some .boolean) "closes" (some (.int r)) hz mc ms) (hm : ce ≤ mc) (hs : sl ≤ ms) (hf : b_X3_closes_0 h v0 = some (r, hz)) : GG M X h ce sl 0 [(0, .ref (X.1 + v0))] [] := by
  unfold b_X3_closes_0 at hf
  refine r_aload_n hc 0 (dc_at dX3_closes 0 rfl) rfl ?_
  refine r_getI hc (dc_at dX3_closes 1 rfl) fl_X3_64 hf fun x1 hf => ?_
  refine r_bipush (59 : Int32) hc (dc_at dX3_closes 2 rfl) (by decide) ?_
  refine r_icmp_eq (tgt := 14) hc (dc_at dX3_closes 3 rfl) (by decide) hf (fun hf => ?_) (fun hf => ?_)
  · refine r_aload_n hc 0 (dc_at dX3_closes 7 rfl) rfl ?_
    refine r_getR hc (dc_at dX3_closes 8 rfl) fl_X3_12 hf fun a2 hf => ?_
    refine r_dup hc (dc_at dX3_closes 9 rfl) rfl ?_
    refine r_getI hc (dc_at dX3_closes 10 rfl) fl_X3_95 hf fun x3 hf => ?_
    refine r_iconst (1 : Int32) hc (dc_at dX3_closes 11 rfl) (by decide) ?_
    refine r_iadd hc (dc_at dX3_closes 12 rfl) ?_
    refine r_putI hc he (dc_at dX3_closes 13 rfl) fp_X3_95 (fun q => by cases q) hf fun h4 hf => ?_
    refine r_aload_n hc 0 (dc_at dX3_closes 14 rfl) rfl ?_
    obtain ⟨ho, hf⟩ := cO_some hf
    refine ob2 hf fun u h6 ex hf => ?_
    refine r_callVv (As := []) (ci := 3) hc hr (dc_at dX3_closes 15 rfl) ml_X3_98 mv_X3_next vi_X3_next rfl ho rfl (mt_X3_next ex) (by first | exact Nat.le_of_ble_eq_true rfl | omega) (by first | exact Nat.le_of_ble_eq_true rfl | omega) (by first | exact Nat.le_of_ble_eq_true rfl | omega) hm hs ?_
    refine r_iconst (1 : Int32) hc (dc_at dX3_closes 16 rfl) (by decide) ?_
    exact r_zret hc he (hm) (hs) (dc_at dX3_closes 17 rfl) hf
  · refine r_aload_n hc 0 (dc_at dX3_closes 4 rfl) rfl ?_
    obtain ⟨ho, hf⟩ := cO_some hf
    refine ob2 hf fun x7 h8 ex hf => ?_
    refine r_callVi (As := []) (ci := 3) hc hr (dc_at dX3_closes 5 rfl) ml_X3_92 mv_X3_cantStand vi_X3_cantStand rfl ho rfl (mt_X3_cantStand ex) (by first | exact Nat.le_of_ble_eq_true rfl | omega) (by first | exact Nat.le_of_ble_eq_true rfl | omega) (by first | exact Nat.le_of_ble_eq_true rfl | omega) hm hs ?_
    exact r_zret hc he (hm) (hs) (dc_at dX3_closes 6 rfl) hf
def m_X3_closes (h : PH) (p0 : Nat) : Option (Int32 × PH) := b_X3_closes_0 h p0
theorem mt_X3_closes {l : Launch} {X : XT} {h hz : PH} {p0 : Nat} {r : Int32} (ex : m_X3_closes h p0 = some (r, hz)) : MT l X yX3_closes cX3_closes 1 (some .boolean) 3 176 0 0 [.ref (X.1 + p0)] h (some (.int r)) hz := MT.of (by decide) (Nat.le_of_ble_eq_true rfl) fun M hl hc hr he => by
  subst hl
  exact gg_sub [0] rfl (t_X3_closes_0  hc hr he (Nat.zero_le _) (Nat.zero_le _) ex)
/-! FractionLift$Reader.readAll([II)V -/
def lX3_readAllL : List (Nat × Instr × Nat × Nat) := [(0, .aload_n 0, 1, 1), (1, .iconst 0, 1, 2), (2, .putfield 36, 3, 5), (5, .aload_n 0, 1, 6), (6, .iconst (-1), 1, 7), (7, .putfield 40, 3, 10), (10, .aload_n 0, 1, 11), (11, .iconst 0, 1, 12), (12, .putfield 43, 3, 15), (15, .aload_n 0, 1, 16), (16, .iconst 0, 1, 17), (17, .putfield 47, 3, 20), (20, .aload_n 0, 1, 21), (21, .getfield 12, 3, 24), (24, .invokevirtual 50, 3, 27), (27, .aload_n 0, 1, 28), (28, .getfield 21, 3, 31), (31, .aload_n 1, 1, 32), (32, .iload_n 2, 1, 33), (33, .invokevirtual 53, 3, 36), (36, .aload_n 0, 1, 37), (37, .iconst 0, 1, 38), (38, .invokevirtual 57, 3, 41), (41, .iconst 0, 1, 42), (42, .istore_n 3, 1, 43), (43, .iload_n 3, 1, 44), (44, .aload_n 0, 1, 45), (45, .getfield 21, 3, 48), (48, .getfield 61, 3, 51), (51, .if_icmp .ge 32, 3, 54), (54, .aload_n 0, 1, 55), (55, .getfield 64, 3, 58), (58, .iconst 1, 1, 59), (59, .if_icmp .eq 24, 3, 62), (62, .aload_n 0, 1, 63), (63, .invokevirtual 67, 3, 66), (66, .ifCond .eq 10, 3, 69), (69, .aload_n 0, 1, 70), (70, .invokevirtual 71, 3, 73), (73, .ifCond .ne 4, 3, 76), (76, .return_, 1, 77), (77, .iinc 3 1, 3, 80), (80, .goto (-37), 3, 83), (83, .return_, 1, 84)]
set_option maxRecDepth 20000 in
theorem dX3_readAll : dcL cX3_readAll lX3_readAllL = true := by decide +kernel
def b_X3_readAll_43 (F : Nat) (self25 : PH → Nat → Int32 → Option (Unit × PH)) (h : PH) (v0 : Nat) (v3 : Int32) : Option (Unit × PH) := (gR 3 3 h v0).bind fun a1 => ((gI 6 0 h a1).bind fun x2 => (if x2 ≤ v3 then (some ((), h)) else ((gI 3 5 h v0).bind fun x3 => (if x3 = (1 : Int32) then (some ((), h)) else (cO 3 h v0 (bind2 (m_X3_line F h v0) fun x4 h5 => (if x4 = 0 then (some ((), h5)) else (cO 3 h5 v0 (bind2 (m_X3_closes h5 v0) fun x6 h7 => (if x6 = 0 then (some ((), h7)) else (bindv (v3 + (1)) fun x8 => (self25 h7 v0 x8))))))))))))
set_option maxRecDepth 20000 in
theorem tb_X3_readAll_43 {M : MV} {X : XT} {F : Nat} {self25 : PH → Nat → Int32 → Option (Unit × PH)} {h hz : PH} {r : Unit} {ce sl mc ms : Nat} {v0 : Nat} {v3 : Int32} (hc : Cx M X RX3 cX3_readAll) (hr : Rx M 13 754 mc ms 4) (he : Ex M X none "readAll" none hz mc ms) (hm : ce ≤ mc) (hs : sl ≤ ms) (ih25 : ∀ (h : PH) (v0 : Nat) (v3 : Int32), self25 h v0 v3 = some (r, hz) → GG M X h ce sl 43 [(0, .ref (X.1 + v0)), (3, .int v3)] []) (hf : b_X3_readAll_43 F self25 h v0 v3 = some (r, hz)) : GG M X h ce sl 43 [(0, .ref (X.1 + v0)), (3, .int v3)] [] := by
  unfold b_X3_readAll_43 at hf
  refine r_iload_n hc 1 (dc_at dX3_readAll 25 rfl) rfl ?_
  refine r_aload_n hc 0 (dc_at dX3_readAll 26 rfl) rfl ?_
  refine r_getR hc (dc_at dX3_readAll 27 rfl) fl_X3_21 hf fun a1 hf => ?_
  refine r_getI hc (dc_at dX3_readAll 28 rfl) fl_X3_61 hf fun x2 hf => ?_
  refine r_icmp_ge (tgt := 83) hc (dc_at dX3_readAll 29 rfl) (by decide) hf (fun hf => ?_) (fun hf => ?_)
  · exact r_vret hc he (hm) (hs) (dc_at dX3_readAll 43 rfl) hf
  · refine r_aload_n hc 0 (dc_at dX3_readAll 30 rfl) rfl ?_
    refine r_getI hc (dc_at dX3_readAll 31 rfl) fl_X3_64 hf fun x3 hf => ?_
    refine r_iconst (1 : Int32) hc (dc_at dX3_readAll 32 rfl) (by decide) ?_
    refine r_icmp_eq (tgt := 83) hc (dc_at dX3_readAll 33 rfl) (by decide) hf (fun hf => ?_) (fun hf => ?_)
    · exact r_vret hc he (hm) (hs) (dc_at dX3_readAll 43 rfl) hf
    · refine r_aload_n hc 0 (dc_at dX3_readAll 34 rfl) rfl ?_
      obtain ⟨ho, hf⟩ := cO_some hf
      refine ob2 hf fun x4 h5 ex hf => ?_
      refine r_callVi (As := []) (ci := 3) hc hr (dc_at dX3_readAll 35 rfl) ml_X3_67 mv_X3_line vi_X3_line rfl ho rfl (mt_X3_line ex) (by first | exact Nat.le_of_ble_eq_true rfl | omega) (by first | exact Nat.le_of_ble_eq_true rfl | omega) (by first | exact Nat.le_of_ble_eq_true rfl | omega) hm hs ?_
      refine r_if_eq (tgt := 76) hc (dc_at dX3_readAll 36 rfl) (by decide) hf (fun hf => ?_) (fun hf => ?_)
      · exact r_vret hc he (hm) (hs) (dc_at dX3_readAll 40 rfl) hf
      · refine r_aload_n hc 0 (dc_at dX3_readAll 37 rfl) rfl ?_
        obtain ⟨ho, hf⟩ := cO_some hf
        refine ob2 hf fun x6 h7 ex hf => ?_
        refine r_callVi (As := []) (ci := 3) hc hr (dc_at dX3_readAll 38 rfl) ml_X3_71 mv_X3_closes vi_X3_closes rfl ho rfl (mt_X3_closes ex) (by first | exact Nat.le_of_ble_eq_true rfl | omega) (by first | exact Nat.le_of_ble_eq_true rfl | omega) (by first | exact Nat.le_of_ble_eq_true rfl | omega) hm hs ?_
        refine r_if_ne (tgt := 77) hc (dc_at dX3_readAll 39 rfl) (by decide) hf (fun hf => ?_) (fun hf => ?_)
        · refine obv hf fun x8 e_x8 hf => ?_
          refine r_iinc 1 [(3, .int x8), (0, .ref (X.1 + v0))] hc hr (dc_at dX3_readAll 41 rfl) rfl (by rw [e_x8]; rfl) (by decide) rfl ?_
          refine r_goto (tgt := 43) hc (dc_at dX3_readAll 42 rfl) (by decide) ?_
          exact gg_sub [1, 0] rfl (ih25 _ _ _ hf)
        · exact r_vret hc he (hm) (hs) (dc_at dX3_readAll 40 rfl) hf
def l_X3_readAll_43 (F : Nat) : Nat → PH → Nat → Int32 → Option (Unit × PH)
  | 0 => fun _ _ _ => none
  | n + 1 => fun h v0 v3 => b_X3_readAll_43 F (l_X3_readAll_43 F n) h v0 v3
theorem tl_X3_readAll_43 {M : MV} {X : XT} {F : Nat} {hz : PH} {r : Unit} {ce sl mc ms : Nat} (hc : Cx M X RX3 cX3_readAll) (hr : Rx M 13 754 mc ms 4) (he : Ex M X none "readAll" none hz mc ms) (hm : ce ≤ mc) (hs : sl ≤ ms) (n : Nat) : ∀ (h : PH) (v0 : Nat) (v3 : Int32), l_X3_readAll_43 F n h v0 v3 = some (r, hz) → GG M X h ce sl 43 [(0, .ref (X.1 + v0)), (3, .int v3)] [] := by
  induction n with
  | zero => intro h v0 v3 hf; cases hf
  | succ n ih => intro h v0 v3 hf; exact tb_X3_readAll_43 (F := F) hc hr he hm hs  ih hf
def b_X3_readAll_0 (F : Nat) (h : PH) (v0 : Nat) (v1 : Nat) (v2 : Int32) : Option (Unit × PH) := (pV 3 1 (.int (0 : Int32)) h v0).bind fun h1 => ((pV 3 2 (.int (-1 : Int32)) h1 v0).bind fun h2 => ((pZ 3 9 (0 : Int32) h2 v0).bind fun h3 => ((pV 3 10 (.int (0 : Int32)) h3 v0).bind fun h4 => ((gR 3 0 h4 v0).bind fun a5 => (cO 0 h4 a5 (bind2 (m_X0_untell h4 a5) fun _ h7 => ((gR 3 3 h7 v0).bind fun a8 => (cO 6 h7 a8 (bind2 (m_X6_scanAll F h7 a8 v1 v2) fun _ h10 => (cO 3 h10 v0 (bind2 (m_X3_lookAt h10 v0 (0 : Int32)) fun _ h12 => (l_X3_readAll_43 F F h12 v0 (0 : Int32)))))))))))))
set_option maxRecDepth 20000 in
theorem t_X3_readAll_0 {M : MV} {X : XT} {F : Nat} {h hz : PH} {r : Unit} {ce sl mc ms : Nat} {v0 : Nat} {v1 : Nat} {v2 : Int32} (hc : Cx M X RX3 cX3_readAll) (hr : Rx M 13 754 mc ms 4) (he : Ex M X none "readAll" none hz mc ms) (hm : ce ≤ mc) (hs : sl ≤ ms) (hf : b_X3_readAll_0 F h v0 v1 v2 = some (r, hz)) : GG M X h ce sl 0 [(0, .ref (X.1 + v0)), (1, .ref (X.1 + v1)), (2, .int v2)] [] := by
  unfold b_X3_readAll_0 at hf
  refine r_aload_n hc 0 (dc_at dX3_readAll 0 rfl) rfl ?_
  refine r_iconst (0 : Int32) hc (dc_at dX3_readAll 1 rfl) (by decide) ?_
  refine r_putI hc he (dc_at dX3_readAll 2 rfl) fp_X3_36 (fun q => by cases q) hf fun h1 hf => ?_
  refine r_aload_n hc 0 (dc_at dX3_readAll 3 rfl) rfl ?_
  refine r_iconst (-1 : Int32) hc (dc_at dX3_readAll 4 rfl) (by decide) ?_
  refine r_putI hc he (dc_at dX3_readAll 5 rfl) fp_X3_40 (fun q => by cases q) hf fun h2 hf => ?_
  refine r_aload_n hc 0 (dc_at dX3_readAll 6 rfl) rfl ?_
  refine r_iconst (0 : Int32) hc (dc_at dX3_readAll 7 rfl) (by decide) ?_
  refine r_putZ hc he (dc_at dX3_readAll 8 rfl) fp_X3_43 (fun q => by cases q) hf fun h3 hf => ?_
  refine r_aload_n hc 0 (dc_at dX3_readAll 9 rfl) rfl ?_
  refine r_iconst (0 : Int32) hc (dc_at dX3_readAll 10 rfl) (by decide) ?_
  refine r_putI hc he (dc_at dX3_readAll 11 rfl) fp_X3_47 (fun q => by cases q) hf fun h4 hf => ?_
  refine r_aload_n hc 0 (dc_at dX3_readAll 12 rfl) rfl ?_
  refine r_getR hc (dc_at dX3_readAll 13 rfl) fl_X3_12 hf fun a5 hf => ?_
  obtain ⟨ho, hf⟩ := cO_some hf
  refine ob2 hf fun u h7 ex hf => ?_
  refine r_callVv (As := []) (ci := 0) hc hr (dc_at dX3_readAll 14 rfl) ml_X3_50 mv_X0_untell vi_X0_untell rfl ho rfl (mt_X0_untell ex) (by first | exact Nat.le_of_ble_eq_true rfl | omega) (by first | exact Nat.le_of_ble_eq_true rfl | omega) (by first | exact Nat.le_of_ble_eq_true rfl | omega) hm hs ?_
  refine r_aload_n hc 0 (dc_at dX3_readAll 15 rfl) rfl ?_
  refine r_getR hc (dc_at dX3_readAll 16 rfl) fl_X3_21 hf fun a8 hf => ?_
  refine r_aload_n hc 1 (dc_at dX3_readAll 17 rfl) rfl ?_
  refine r_iload_n hc 2 (dc_at dX3_readAll 18 rfl) rfl ?_
  obtain ⟨ho, hf⟩ := cO_some hf
  refine ob2 hf fun u h10 ex hf => ?_
  refine r_callVv (As := [.ref (X.1 + v1), .int v2]) (ci := 6) hc hr (dc_at dX3_readAll 19 rfl) ml_X3_53 mv_X6_scanAll vi_X6_scanAll rfl ho rfl (mt_X6_scanAll ex) (by first | exact Nat.le_of_ble_eq_true rfl | omega) (by first | exact Nat.le_of_ble_eq_true rfl | omega) (by first | exact Nat.le_of_ble_eq_true rfl | omega) hm hs ?_
  refine r_aload_n hc 0 (dc_at dX3_readAll 20 rfl) rfl ?_
  refine r_iconst (0 : Int32) hc (dc_at dX3_readAll 21 rfl) (by decide) ?_
  obtain ⟨ho, hf⟩ := cO_some hf
  refine ob2 hf fun u h12 ex hf => ?_
  refine r_callVv (As := [.int ((0 : Int32))]) (ci := 3) hc hr (dc_at dX3_readAll 22 rfl) ml_X3_57 mv_X3_lookAt vi_X3_lookAt rfl ho rfl (mt_X3_lookAt ex) (by first | exact Nat.le_of_ble_eq_true rfl | omega) (by first | exact Nat.le_of_ble_eq_true rfl | omega) (by first | exact Nat.le_of_ble_eq_true rfl | omega) hm hs ?_
  refine r_iconst (0 : Int32) hc (dc_at dX3_readAll 23 rfl) (by decide) ?_
  refine r_istore_n [(3, .int ((0 : Int32))), (0, .ref (X.1 + v0)), (1, .ref (X.1 + v1)), (2, .int v2)] hc hr (dc_at dX3_readAll 24 rfl) (by decide) rfl ?_
  exact gg_sub [1, 0] rfl (tl_X3_readAll_43 hc hr he hm hs  F _ _ _ hf)
def m_X3_readAll (F : Nat) (h : PH) (p0 : Nat) (p1 : Nat) (p2 : Int32) : Option (Unit × PH) := b_X3_readAll_0 F h p0 p1 p2
theorem mt_X3_readAll {l : Launch} {X : XT} {F : Nat} {h hz : PH} {p0 : Nat} {p1 : Nat} {p2 : Int32} {r : Unit} (ex : m_X3_readAll F h p0 p1 p2 = some (r, hz)) : MT l X yX3_readAll cX3_readAll 4 none 13 754 0 0 [.ref (X.1 + p0), .ref (X.1 + p1), .int p2] h none hz := MT.of (by decide) (Nat.le_of_ble_eq_true rfl) fun M hl hc hr he => by
  subst hl
  exact gg_sub [0, 1, 2] rfl (t_X3_readAll_0  hc hr he (Nat.zero_le _) (Nat.zero_le _) ex)
/-! FractionLift$Reckoner.<init>()V -/
def lX4_initL : List (Nat × Instr × Nat × Nat) := [(0, .aload_n 0, 1, 1), (1, .invokespecial 3, 3, 4), (4, .aload_n 0, 1, 5), (5, .bipush 64, 2, 7), (7, .newarray .long, 2, 9), (9, .putfield 9, 3, 12), (12, .aload_n 0, 1, 13), (13, .bipush 64, 2, 15), (15, .newarray .long, 2, 17), (17, .putfield 15, 3, 20), (20, .return_, 1, 21)]
set_option maxRecDepth 20000 in
theorem dX4_init : dcL cX4_init lX4_initL = true := by decide +kernel
def b_X4_init_0 (h : PH) (v0 : Nat) : Option (Unit × PH) := bindv h.length fun a1 => (bindv (h ++ [.inl (1, 64, .inr (.inl (fun _ => 0)))]) fun h2 => ((pV 4 2 (.ref a1) h2 v0).bind fun h3 => (bindv h3.length fun a4 => (bindv (h3 ++ [.inl (1, 64, .inr (.inl (fun _ => 0)))]) fun h5 => ((pV 4 3 (.ref a4) h5 v0).bind fun h6 => (some ((), h6)))))))
set_option maxRecDepth 20000 in
theorem t_X4_init_0 {M : MV} {X : XT} {h hz : PH} {r : Unit} {v0 : Nat} (hc : Cx M X RX4 cX4_init) (hr : Rx M 1 60 2 128 1) (he : Ex M X none "<init>" none hz 2 128) (hm : 0 ≤ 2) (hs : 0 ≤ 128) (hf : b_X4_init_0 h v0 = some (r, hz)) : GG M X h 0 0 0 [(0, .ref (X.1 + v0))] [] := by
  unfold b_X4_init_0 at hf
  refine r_aload_n hc 0 (dc_at dX4_init 0 rfl) rfl ?_
  refine r_objinit hc hr (dc_at dX4_init 1 rfl) oi_X4_3 oiw (by first | exact Nat.le_of_ble_eq_true rfl | omega) (by first | exact Nat.le_of_ble_eq_true rfl | omega) ?_
  refine r_aload_n hc 0 (dc_at dX4_init 2 rfl) rfl ?_
  refine r_bipush (64 : Int32) hc (dc_at dX4_init 3 rfl) (by decide) ?_
  refine r_newarrN (t := 1) (N := 64) (ty := .long) hc hr (dc_at dX4_init 4 rfl) arr_long rfl (fun _ _ z => z) rfl (fun _ => rfl) (by decide) (by decide) (by decide) (Nat.le_of_ble_eq_true rfl) (Nat.le_of_ble_eq_true rfl) hf fun a1 h2 hf => ?_
  refine r_putR hc he (dc_at dX4_init 5 rfl) fp_X4_9 (fun _ => rfl) ⟨rfl, fun _ => ⟨rfl, rfl⟩⟩ hf fun h3 hf => ?_
  refine r_aload_n hc 0 (dc_at dX4_init 6 rfl) rfl ?_
  refine r_bipush (64 : Int32) hc (dc_at dX4_init 7 rfl) (by decide) ?_
  refine r_newarrN (t := 1) (N := 64) (ty := .long) hc hr (dc_at dX4_init 8 rfl) arr_long rfl (fun _ _ z => z) rfl (fun _ => rfl) (by decide) (by decide) (by decide) (Nat.le_of_ble_eq_true rfl) (Nat.le_of_ble_eq_true rfl) hf fun a4 h5 hf => ?_
  refine r_putR hc he (dc_at dX4_init 9 rfl) fp_X4_15 (fun _ => rfl) ⟨rfl, fun _ => ⟨rfl, rfl⟩⟩ hf fun h6 hf => ?_
  exact r_vret hc he (Nat.le_of_ble_eq_true rfl) (Nat.le_of_ble_eq_true rfl) (dc_at dX4_init 10 rfl) hf
def m_X4_init (h : PH) (p0 : Nat) : Option (Unit × PH) := b_X4_init_0 h p0
theorem mt_X4_init {l : Launch} {X : XT} {h hz : PH} {p0 : Nat} {r : Unit} (ex : m_X4_init h p0 = some (r, hz)) : MT l X yX4_init cX4_init 1 none 1 60 2 128 [.ref (X.1 + p0)] h none hz := MT.of (by decide) (Nat.le_of_ble_eq_true rfl) fun M hl hc hr he => by
  subst hl
  exact gg_sub [0] rfl (t_X4_init_0  hc hr he (Nat.zero_le _) (Nat.zero_le _) ex)
/-! FractionLift$Reckoner.pile(JJ)V -/
def lX4_pileL : List (Nat × Instr × Nat × Nat) := [(0, .aload_n 0, 1, 1), (1, .getfield 24, 3, 4), (4, .bipush 64, 2, 6), (6, .if_icmp .ge 33, 3, 9), (9, .aload_n 0, 1, 10), (10, .getfield 9, 3, 13), (13, .aload_n 0, 1, 14), (14, .getfield 24, 3, 17), (17, .lload_n 1, 1, 18), (18, .lastore, 1, 19), (19, .aload_n 0, 1, 20), (20, .getfield 15, 3, 23), (23, .aload_n 0, 1, 24), (24, .getfield 24, 3, 27), (27, .lload_n 3, 1, 28), (28, .lastore, 1, 29), (29, .aload_n 0, 1, 30), (30, .dup, 1, 31), (31, .getfield 24, 3, 34), (34, .iconst 1, 1, 35), (35, .iadd, 1, 36), (36, .putfield 24, 3, 39), (39, .return_, 1, 40)]
set_option maxRecDepth 20000 in
theorem dX4_pile : dcL cX4_pile lX4_pileL = true := by decide +kernel
def b_X4_pile_0 (h : PH) (v0 : Nat) (v1 : Int64) (v3 : Int64) : Option (Unit × PH) := (gI 4 4 h v0).bind fun x1 => (if (64 : Int32) ≤ x1 then (some ((), h)) else ((gR 4 2 h v0).bind fun a2 => ((gI 4 4 h v0).bind fun x3 => ((sL h a2 x3 v1).bind fun h4 => ((gR 4 3 h4 v0).bind fun a5 => ((gI 4 4 h4 v0).bind fun x6 => ((sL h4 a5 x6 v3).bind fun h7 => ((gI 4 4 h7 v0).bind fun x8 => ((pV 4 4 (.int ((x8 + (1 : Int32)))) h7 v0).bind fun h9 => (some ((), h9)))))))))))
set_option maxRecDepth 20000 in
theorem t_X4_pile_0 {M : MV} {X : XT} {h hz : PH} {r : Unit} {ce sl mc ms : Nat} {v0 : Nat} {v1 : Int64} {v3 : Int64} (hc : Cx M X RX4 cX4_pile) (hr : Rx M 1 60 mc ms 5) (he : Ex M X none "pile" none hz mc ms) (hm : ce ≤ mc) (hs : sl ≤ ms) (hf : b_X4_pile_0 h v0 v1 v3 = some (r, hz)) : GG M X h ce sl 0 [(0, .ref (X.1 + v0)), (1, .long v1), (3, .long v3)] [] := by
  unfold b_X4_pile_0 at hf
  refine r_aload_n hc 0 (dc_at dX4_pile 0 rfl) rfl ?_
  refine r_getI hc (dc_at dX4_pile 1 rfl) fl_X4_24 hf fun x1 hf => ?_
  refine r_bipush (64 : Int32) hc (dc_at dX4_pile 2 rfl) (by decide) ?_
  refine r_icmp_ge (tgt := 39) hc (dc_at dX4_pile 3 rfl) (by decide) hf (fun hf => ?_) (fun hf => ?_)
  · exact r_vret hc he (hm) (hs) (dc_at dX4_pile 22 rfl) hf
  · refine r_aload_n hc 0 (dc_at dX4_pile 4 rfl) rfl ?_
    refine r_getR hc (dc_at dX4_pile 5 rfl) fl_X4_9 hf fun a2 hf => ?_
    refine r_aload_n hc 0 (dc_at dX4_pile 6 rfl) rfl ?_
    refine r_getI hc (dc_at dX4_pile 7 rfl) fl_X4_24 hf fun x3 hf => ?_
    refine r_lload_n hc 1 (dc_at dX4_pile 8 rfl) rfl ?_
    refine r_lastore hc (dc_at dX4_pile 9 rfl) hf fun h4 hf => ?_
    refine r_aload_n hc 0 (dc_at dX4_pile 10 rfl) rfl ?_
    refine r_getR hc (dc_at dX4_pile 11 rfl) fl_X4_15 hf fun a5 hf => ?_
    refine r_aload_n hc 0 (dc_at dX4_pile 12 rfl) rfl ?_
    refine r_getI hc (dc_at dX4_pile 13 rfl) fl_X4_24 hf fun x6 hf => ?_
    refine r_lload_n hc 2 (dc_at dX4_pile 14 rfl) rfl ?_
    refine r_lastore hc (dc_at dX4_pile 15 rfl) hf fun h7 hf => ?_
    refine r_aload_n hc 0 (dc_at dX4_pile 16 rfl) rfl ?_
    refine r_dup hc (dc_at dX4_pile 17 rfl) rfl ?_
    refine r_getI hc (dc_at dX4_pile 18 rfl) fl_X4_24 hf fun x8 hf => ?_
    refine r_iconst (1 : Int32) hc (dc_at dX4_pile 19 rfl) (by decide) ?_
    refine r_iadd hc (dc_at dX4_pile 20 rfl) ?_
    refine r_putI hc he (dc_at dX4_pile 21 rfl) fp_X4_24 (fun q => by cases q) hf fun h9 hf => ?_
    exact r_vret hc he (hm) (hs) (dc_at dX4_pile 22 rfl) hf
def m_X4_pile (h : PH) (p0 : Nat) (p1 : Int64) (p3 : Int64) : Option (Unit × PH) := b_X4_pile_0 h p0 p1 p3
theorem mt_X4_pile {l : Launch} {X : XT} {h hz : PH} {p0 : Nat} {p1 : Int64} {p3 : Int64} {r : Unit} (ex : m_X4_pile h p0 p1 p3 = some (r, hz)) : MT l X yX4_pile cX4_pile 5 none 1 60 0 0 [.ref (X.1 + p0), .long p1, .long p3] h none hz := MT.of (by decide) (Nat.le_of_ble_eq_true rfl) fun M hl hc hr he => by
  subst hl
  exact gg_sub [0, 1, 2] rfl (t_X4_pile_0  hc hr he (Nat.zero_le _) (Nat.zero_le _) ex)
/-! FractionLift$Reckoner.settle(JJ)I -/
def lX4_settleL : List (Nat × Instr × Nat × Nat) := [(0, .lload_n 3, 1, 1), (1, .lconst 1, 1, 2), (2, .lcmp, 1, 3), (3, .ifCond .ne 7, 3, 6), (6, .lconst 1, 1, 7), (7, .goto 8, 3, 10), (10, .lload_n 1, 1, 11), (11, .lload_n 3, 1, 12), (12, .invokestatic 59, 3, 15), (15, .lstore 5, 2, 17), (17, .lload 5, 2, 19), (19, .lconst 1, 1, 20), (20, .lcmp, 1, 21), (21, .ifCond .ge 5, 3, 24), (24, .iconst 2, 1, 25), (25, .ireturn, 1, 26), (26, .lload_n 1, 1, 27), (27, .lload 5, 2, 29), (29, .ldiv, 1, 30), (30, .lstore 7, 2, 32), (32, .lload_n 3, 1, 33), (33, .lload 5, 2, 35), (35, .ldiv, 1, 36), (36, .lstore 9, 2, 38), (38, .aload_n 0, 1, 39), (39, .getfield 9, 3, 42), (42, .aload_n 0, 1, 43), (43, .getfield 24, 3, 46), (46, .iconst 1, 1, 47), (47, .isub, 1, 48), (48, .lload 7, 2, 50), (50, .lastore, 1, 51), (51, .aload_n 0, 1, 52), (52, .getfield 15, 3, 55), (55, .aload_n 0, 1, 56), (56, .getfield 24, 3, 59), (59, .iconst 1, 1, 60), (60, .isub, 1, 61), (61, .lload 9, 2, 63), (63, .lastore, 1, 64), (64, .lload 7, 2, 66), (66, .invokestatic 63, 3, 69), (69, .ldc2_w 69, 3, 72), (72, .lcmp, 1, 73), (73, .ifCond .gt 12, 3, 76), (76, .lload 9, 2, 78), (78, .ldc2_w 69, 3, 81), (81, .lcmp, 1, 82), (82, .ifCond .le 7, 3, 85), (85, .iconst 3, 1, 86), (86, .goto 4, 3, 89), (89, .iconst 0, 1, 90), (90, .ireturn, 1, 91)]
set_option maxRecDepth 20000 in
theorem dX4_settle : dcL cX4_settle lX4_settleL = true := by decide +kernel
def b_X4_settle_15 (F : Nat) (h : PH) (v0 : Nat) (v1 : Int64) (v3 : Int64) (s0 : Int64) : Option (Int32 × PH) := if (1 : Int64) ≤ s0 then (if s0 = 0 then none else (bindv (v1 / s0) fun x1 => (if s0 = 0 then none else (bindv (v3 / s0) fun x2 => ((gR 4 2 h v0).bind fun a3 => ((gI 4 4 h v0).bind fun x4 => ((sL h a3 ((x4 - (1 : Int32))) x1).bind fun h5 => ((gR 4 3 h5 v0).bind fun a6 => ((gI 4 4 h5 v0).bind fun x7 => ((sL h5 a6 ((x7 - (1 : Int32))) x2).bind fun h8 => (if (1000000000 : Int64) < (jabsL x1) then (some ((3 : Int32), h8)) else (if x2 ≤ (1000000000 : Int64) then (some ((0 : Int32), h8)) else (some ((3 : Int32), h8)))))))))))))) else (some ((2 : Int32), h))
set_option maxRecDepth 20000 in
theorem t_X4_settle_15 {M : MV} {X : XT} {F : Nat} {h hz : PH} {r : Int32} {ce sl mc ms : Nat} {v0 : Nat} {v1 : Int64} {v3 : Int64} {s0 : Int64} (hc : Cx M X RX4 cX4_settle) (hr : Rx M 2 118 mc ms 11) (he : Ex M X (some .int) "settle" (some (.int r)) hz mc ms) (hm : ce ≤ mc) (hs : sl ≤ ms) (hf : b_X4_settle_15 F h v0 v1 v3 s0 = some (r, hz)) : GG M X h ce sl 15 [(0, .ref (X.1 + v0)), (1, .long v1), (3, .long v3)] [.long s0] := by
  unfold b_X4_settle_15 at hf
  refine r_lstore [(5, .long s0), (0, .ref (X.1 + v0)), (1, .long v1), (3, .long v3)] hc hr (dc_at dX4_settle 9 rfl) (by decide) rfl ?_
  refine r_lload hc 0 (dc_at dX4_settle 10 rfl) rfl ?_
  refine r_lconst (1 : Int64) hc (dc_at dX4_settle 11 rfl) (by decide) ?_
  refine r_lcmp_ge (tgt := 26) hc (dc_at dX4_settle 12 rfl) (dc_at dX4_settle 13 rfl) (by decide) hf (fun hf => ?_) (fun hf => ?_)
  · refine r_lload_n hc 2 (dc_at dX4_settle 16 rfl) rfl ?_
    refine r_lload hc 0 (dc_at dX4_settle 17 rfl) rfl ?_
    refine r_ldiv hc (dc_at dX4_settle 18 rfl) hf (fun hf => ?_)
    refine r_nm (mk := Value.long) hf fun x1 hf => ?_
    refine r_lstore [(7, .long x1), (5, .long s0), (0, .ref (X.1 + v0)), (1, .long v1), (3, .long v3)] hc hr (dc_at dX4_settle 19 rfl) (by decide) rfl ?_
    refine r_lload_n hc 4 (dc_at dX4_settle 20 rfl) rfl ?_
    refine r_lload hc 1 (dc_at dX4_settle 21 rfl) rfl ?_
    refine r_ldiv hc (dc_at dX4_settle 22 rfl) hf (fun hf => ?_)
    refine r_nm (mk := Value.long) hf fun x2 hf => ?_
    refine r_lstore [(9, .long x2), (7, .long x1), (5, .long s0), (0, .ref (X.1 + v0)), (1, .long v1), (3, .long v3)] hc hr (dc_at dX4_settle 23 rfl) (by decide) rfl ?_
    refine r_aload_n hc 3 (dc_at dX4_settle 24 rfl) rfl ?_
    refine r_getR hc (dc_at dX4_settle 25 rfl) fl_X4_9 hf fun a3 hf => ?_
    refine r_aload_n hc 3 (dc_at dX4_settle 26 rfl) rfl ?_
    refine r_getI hc (dc_at dX4_settle 27 rfl) fl_X4_24 hf fun x4 hf => ?_
    refine r_iconst (1 : Int32) hc (dc_at dX4_settle 28 rfl) (by decide) ?_
    refine r_isub hc (dc_at dX4_settle 29 rfl) ?_
    refine r_lload hc 1 (dc_at dX4_settle 30 rfl) rfl ?_
    refine r_lastore hc (dc_at dX4_settle 31 rfl) hf fun h5 hf => ?_
    refine r_aload_n hc 3 (dc_at dX4_settle 32 rfl) rfl ?_
    refine r_getR hc (dc_at dX4_settle 33 rfl) fl_X4_15 hf fun a6 hf => ?_
    refine r_aload_n hc 3 (dc_at dX4_settle 34 rfl) rfl ?_
    refine r_getI hc (dc_at dX4_settle 35 rfl) fl_X4_24 hf fun x7 hf => ?_
    refine r_iconst (1 : Int32) hc (dc_at dX4_settle 36 rfl) (by decide) ?_
    refine r_isub hc (dc_at dX4_settle 37 rfl) ?_
    refine r_lload hc 0 (dc_at dX4_settle 38 rfl) rfl ?_
    refine r_lastore hc (dc_at dX4_settle 39 rfl) hf fun h8 hf => ?_
    refine r_lload hc 1 (dc_at dX4_settle 40 rfl) rfl ?_
    refine r_mabsL hc hr (dc_at dX4_settle 41 rfl) ml_X4_63 mv_J9_abs_067f4 st_J9_abs_067f4 (by first | exact Nat.le_of_ble_eq_true rfl | omega) (by first | exact Nat.le_of_ble_eq_true rfl | omega) (hm) (hs) ?_
    refine r_ldc2 hc (dc_at dX4_settle 42 rfl) cl2_X4_69 ?_
    refine r_lcmp_gt (tgt := 85) hc (dc_at dX4_settle 43 rfl) (dc_at dX4_settle 44 rfl) (by decide) hf (fun hf => ?_) (fun hf => ?_)
    · refine r_iconst (3 : Int32) hc (dc_at dX4_settle 49 rfl) (by decide) ?_
      refine r_goto (tgt := 90) hc (dc_at dX4_settle 50 rfl) (by decide) ?_
      exact r_iret hc he (hm) (hs) (dc_at dX4_settle 52 rfl) hf
    · refine r_lload hc 0 (dc_at dX4_settle 45 rfl) rfl ?_
      refine r_ldc2 hc (dc_at dX4_settle 46 rfl) cl2_X4_69 ?_
      refine r_lcmp_le (tgt := 89) hc (dc_at dX4_settle 47 rfl) (dc_at dX4_settle 48 rfl) (by decide) hf (fun hf => ?_) (fun hf => ?_)
      · refine r_iconst (0 : Int32) hc (dc_at dX4_settle 51 rfl) (by decide) ?_
        exact r_iret hc he (hm) (hs) (dc_at dX4_settle 52 rfl) hf
      · refine r_iconst (3 : Int32) hc (dc_at dX4_settle 49 rfl) (by decide) ?_
        refine r_goto (tgt := 90) hc (dc_at dX4_settle 50 rfl) (by decide) ?_
        exact r_iret hc he (hm) (hs) (dc_at dX4_settle 52 rfl) hf
  · refine r_iconst (2 : Int32) hc (dc_at dX4_settle 14 rfl) (by decide) ?_
    exact r_iret hc he (hm) (hs) (dc_at dX4_settle 15 rfl) hf
def b_X4_settle_0 (F : Nat) (h : PH) (v0 : Nat) (v1 : Int64) (v3 : Int64) : Option (Int32 × PH) := if v3 = (1 : Int64) then (b_X4_settle_15 F h v0 v1 v3 (1 : Int64)) else ((m_X9_commonFactor F v1 v3).bind fun x1 => (b_X4_settle_15 F h v0 v1 v3 x1))
set_option maxRecDepth 20000 in
theorem t_X4_settle_0 {M : MV} {X : XT} {F : Nat} {h hz : PH} {r : Int32} {ce sl mc ms : Nat} {v0 : Nat} {v1 : Int64} {v3 : Int64} (hc : Cx M X RX4 cX4_settle) (hr : Rx M 2 118 mc ms 11) (he : Ex M X (some .int) "settle" (some (.int r)) hz mc ms) (hm : ce ≤ mc) (hs : sl ≤ ms) (hf : b_X4_settle_0 F h v0 v1 v3 = some (r, hz)) : GG M X h ce sl 0 [(0, .ref (X.1 + v0)), (1, .long v1), (3, .long v3)] [] := by
  unfold b_X4_settle_0 at hf
  refine r_lload_n hc 2 (dc_at dX4_settle 0 rfl) rfl ?_
  refine r_lconst (1 : Int64) hc (dc_at dX4_settle 1 rfl) (by decide) ?_
  refine r_lcmp_ne (tgt := 10) hc (dc_at dX4_settle 2 rfl) (dc_at dX4_settle 3 rfl) (by decide) hf (fun hf => ?_) (fun hf => ?_)
  · refine r_lload_n hc 1 (dc_at dX4_settle 6 rfl) rfl ?_
    refine r_lload_n hc 2 (dc_at dX4_settle 7 rfl) rfl ?_
    refine ob hf fun x1 ex hf => ?_
    refine r_callSNl (As := [.long v1, .long v3]) 1 (by decide) hc hr (dc_at dX4_settle 8 rfl) rfl mv_X9_commonFactor st_X9_commonFactor rfl (mt_X9_commonFactor ex) (by first | exact Nat.le_of_ble_eq_true rfl | omega) (by first | exact Nat.le_of_ble_eq_true rfl | omega) (by first | exact Nat.le_of_ble_eq_true rfl | omega) hm hs ?_
    exact gg_sub [0, 1, 2] rfl (t_X4_settle_15 hc hr he hm hs  hf)
  · refine r_lconst (1 : Int64) hc (dc_at dX4_settle 4 rfl) (by decide) ?_
    refine r_goto (tgt := 15) hc (dc_at dX4_settle 5 rfl) (by decide) ?_
    exact gg_sub [0, 1, 2] rfl (t_X4_settle_15 hc hr he hm hs  hf)
def m_X4_settle (F : Nat) (h : PH) (p0 : Nat) (p1 : Int64) (p3 : Int64) : Option (Int32 × PH) := b_X4_settle_0 F h p0 p1 p3
theorem mt_X4_settle {l : Launch} {X : XT} {F : Nat} {h hz : PH} {p0 : Nat} {p1 : Int64} {p3 : Int64} {r : Int32} (ex : m_X4_settle F h p0 p1 p3 = some (r, hz)) : MT l X yX4_settle cX4_settle 11 (some .int) 2 118 0 0 [.ref (X.1 + p0), .long p1, .long p3] h (some (.int r)) hz := MT.of (by decide) (Nat.le_of_ble_eq_true rfl) fun M hl hc hr he => by
  subst hl
  exact gg_sub [0, 1, 2] rfl (t_X4_settle_0  hc hr he (Nat.zero_le _) (Nat.zero_le _) ex)
/-! FractionLift$Reckoner.join(I)I -/
def lX4_joinL : List (Nat × Instr × Nat × Nat) := [(0, .aload_n 0, 1, 1), (1, .getfield 24, 3, 4), (4, .iconst 2, 1, 5), (5, .if_icmp .ge 5, 3, 8), (8, .iconst 4, 1, 9), (9, .ireturn, 1, 10), (10, .aload_n 0, 1, 11), (11, .dup, 1, 12), (12, .getfield 24, 3, 15), (15, .iconst 1, 1, 16), (16, .isub, 1, 17), (17, .putfield 24, 3, 20), (20, .aload_n 0, 1, 21), (21, .getfield 9, 3, 24), (24, .aload_n 0, 1, 25), (25, .getfield 24, 3, 28), (28, .iconst 1, 1, 29), (29, .isub, 1, 30), (30, .laload, 1, 31), (31, .lstore_n 2, 1, 32), (32, .aload_n 0, 1, 33), (33, .getfield 15, 3, 36), (36, .aload_n 0, 1, 37), (37, .getfield 24, 3, 40), (40, .iconst 1, 1, 41), (41, .isub, 1, 42), (42, .laload, 1, 43), (43, .lstore 4, 2, 45), (45, .aload_n 0, 1, 46), (46, .getfield 9, 3, 49), (49, .aload_n 0, 1, 50), (50, .getfield 24, 3, 53), (53, .laload, 1, 54), (54, .lstore 6, 2, 56), (56, .aload_n 0, 1, 57), (57, .getfield 15, 3, 60), (60, .aload_n 0, 1, 61), (61, .getfield 24, 3, 64), (64, .laload, 1, 65), (65, .lstore 8, 2, 67), (67, .iload_n 1, 1, 68), (68, .tableswitch 82 (-5) (-3) #[68, 48, 28], 28, 96), (96, .aload_n 0, 1, 97), (97, .lload_n 2, 1, 98), (98, .lload 8, 2, 100), (100, .lmul, 1, 101), (101, .lload 6, 2, 103), (103, .lload 4, 2, 105), (105, .lmul, 1, 106), (106, .ladd, 1, 107), (107, .lload 4, 2, 109), (109, .lload 8, 2, 111), (111, .lmul, 1, 112), (112, .invokevirtual 55, 3, 115), (115, .ireturn, 1, 116), (116, .aload_n 0, 1, 117), (117, .lload_n 2, 1, 118), (118, .lload 8, 2, 120), (120, .lmul, 1, 121), (121, .lload 6, 2, 123), (123, .lload 4, 2, 125), (125, .lmul, 1, 126), (126, .lsub, 1, 127), (127, .lload 4, 2, 129), (129, .lload 8, 2, 131), (131, .lmul, 1, 132), (132, .invokevirtual 55, 3, 135), (135, .ireturn, 1, 136), (136, .aload_n 0, 1, 137), (137, .lload_n 2, 1, 138), (138, .lload 6, 2, 140), (140, .lmul, 1, 141), (141, .lload 4, 2, 143), (143, .lload 8, 2, 145), (145, .lmul, 1, 146), (146, .invokevirtual 55, 3, 149), (149, .ireturn, 1, 150), (150, .lload 6, 2, 152), (152, .lconst 0, 1, 153), (153, .lcmp, 1, 154), (154, .ifCond .ne 5, 3, 157), (157, .iconst 2, 1, 158), (158, .ireturn, 1, 159), (159, .lload 6, 2, 161), (161, .lconst 0, 1, 162), (162, .lcmp, 1, 163), (163, .ifCond .ge 21, 3, 166), (166, .aload_n 0, 1, 167), (167, .lload_n 2, 1, 168), (168, .lneg, 1, 169), (169, .lload 8, 2, 171), (171, .lmul, 1, 172), (172, .lload 6, 2, 174), (174, .lneg, 1, 175), (175, .lload 4, 2, 177), (177, .lmul, 1, 178), (178, .invokevirtual 55, 3, 181), (181, .goto 16, 3, 184), (184, .aload_n 0, 1, 185), (185, .lload_n 2, 1, 186), (186, .lload 8, 2, 188), (188, .lmul, 1, 189), (189, .lload 6, 2, 191), (191, .lload 4, 2, 193), (193, .lmul, 1, 194), (194, .invokevirtual 55, 3, 197), (197, .ireturn, 1, 198)]
set_option maxRecDepth 20000 in
theorem dX4_join : dcL cX4_join lX4_joinL = true := by decide +kernel
def b_X4_join_0 (F : Nat) (h : PH) (v0 : Nat) (v1 : Int32) : Option (Int32 × PH) := (gI 4 4 h v0).bind fun x1 => (if (2 : Int32) ≤ x1 then ((gI 4 4 h v0).bind fun x2 => ((pV 4 4 (.int ((x2 - (1 : Int32)))) h v0).bind fun h3 => ((gR 4 2 h3 v0).bind fun a4 => ((gI 4 4 h3 v0).bind fun x5 => ((aL h3 a4 ((x5 - (1 : Int32)))).bind fun x6 => ((gR 4 3 h3 v0).bind fun a7 => ((gI 4 4 h3 v0).bind fun x8 => ((aL h3 a7 ((x8 - (1 : Int32)))).bind fun x9 => ((gR 4 2 h3 v0).bind fun a10 => ((gI 4 4 h3 v0).bind fun x11 => ((aL h3 a10 x11).bind fun x12 => ((gR 4 3 h3 v0).bind fun a13 => ((gI 4 4 h3 v0).bind fun x14 => ((aL h3 a13 x14).bind fun x15 => (swN v1 (-5) [cO 4 h3 v0 (bind2 (m_X4_settle F h3 v0 (x6 * x12) (x9 * x15)) fun x16 h17 => (some (x16, h17))), cO 4 h3 v0 (bind2 (m_X4_settle F h3 v0 (((x6 * x15) - (x12 * x9))) (x9 * x15)) fun x18 h19 => (some (x18, h19))), cO 4 h3 v0 (bind2 (m_X4_settle F h3 v0 (((x6 * x15) + (x12 * x9))) (x9 * x15)) fun x20 h21 => (some (x20, h21)))] (if x12 = (0 : Int64) then (some ((2 : Int32), h3)) else (if (0 : Int64) ≤ x12 then (cO 4 h3 v0 (bind2 (m_X4_settle F h3 v0 (x6 * x15) (x12 * x9)) fun x22 h23 => (some (x22, h23)))) else (cO 4 h3 v0 (bind2 (m_X4_settle F h3 v0 (((-x6) * x15)) (((-x12) * x9))) fun x24 h25 => (some (x24, h25))))))))))))))))))))) else (some ((4 : Int32), h)))
set_option maxRecDepth 20000 in
theorem t_X4_join_0 {M : MV} {X : XT} {F : Nat} {h hz : PH} {r : Int32} {ce sl mc ms : Nat} {v0 : Nat} {v1 : Int32} (hc : Cx M X RX4 cX4_join) (hr : Rx M 3 176 mc ms 10) (he : Ex M X (some .int) "join" (some (.int r)) hz mc ms) (hm : ce ≤ mc) (hs : sl ≤ ms) (hf : b_X4_join_0 F h v0 v1 = some (r, hz)) : GG M X h ce sl 0 [(0, .ref (X.1 + v0)), (1, .int v1)] [] := by
  unfold b_X4_join_0 at hf
  refine r_aload_n hc 0 (dc_at dX4_join 0 rfl) rfl ?_
  refine r_getI hc (dc_at dX4_join 1 rfl) fl_X4_24 hf fun x1 hf => ?_
  refine r_iconst (2 : Int32) hc (dc_at dX4_join 2 rfl) (by decide) ?_
  refine r_icmp_ge (tgt := 10) hc (dc_at dX4_join 3 rfl) (by decide) hf (fun hf => ?_) (fun hf => ?_)
  · refine r_aload_n hc 0 (dc_at dX4_join 6 rfl) rfl ?_
    refine r_dup hc (dc_at dX4_join 7 rfl) rfl ?_
    refine r_getI hc (dc_at dX4_join 8 rfl) fl_X4_24 hf fun x2 hf => ?_
    refine r_iconst (1 : Int32) hc (dc_at dX4_join 9 rfl) (by decide) ?_
    refine r_isub hc (dc_at dX4_join 10 rfl) ?_
    refine r_putI hc he (dc_at dX4_join 11 rfl) fp_X4_24 (fun q => by cases q) hf fun h3 hf => ?_
    refine r_aload_n hc 0 (dc_at dX4_join 12 rfl) rfl ?_
    refine r_getR hc (dc_at dX4_join 13 rfl) fl_X4_9 hf fun a4 hf => ?_
    refine r_aload_n hc 0 (dc_at dX4_join 14 rfl) rfl ?_
    refine r_getI hc (dc_at dX4_join 15 rfl) fl_X4_24 hf fun x5 hf => ?_
    refine r_iconst (1 : Int32) hc (dc_at dX4_join 16 rfl) (by decide) ?_
    refine r_isub hc (dc_at dX4_join 17 rfl) ?_
    refine r_laload hc (dc_at dX4_join 18 rfl) hf fun x6 hf => ?_
    refine r_lstore_n [(2, .long x6), (0, .ref (X.1 + v0)), (1, .int v1)] hc hr (dc_at dX4_join 19 rfl) (by decide) rfl ?_
    refine r_aload_n hc 1 (dc_at dX4_join 20 rfl) rfl ?_
    refine r_getR hc (dc_at dX4_join 21 rfl) fl_X4_15 hf fun a7 hf => ?_
    refine r_aload_n hc 1 (dc_at dX4_join 22 rfl) rfl ?_
    refine r_getI hc (dc_at dX4_join 23 rfl) fl_X4_24 hf fun x8 hf => ?_
    refine r_iconst (1 : Int32) hc (dc_at dX4_join 24 rfl) (by decide) ?_
    refine r_isub hc (dc_at dX4_join 25 rfl) ?_
    refine r_laload hc (dc_at dX4_join 26 rfl) hf fun x9 hf => ?_
    refine r_lstore [(4, .long x9), (2, .long x6), (0, .ref (X.1 + v0)), (1, .int v1)] hc hr (dc_at dX4_join 27 rfl) (by decide) rfl ?_
    refine r_aload_n hc 2 (dc_at dX4_join 28 rfl) rfl ?_
    refine r_getR hc (dc_at dX4_join 29 rfl) fl_X4_9 hf fun a10 hf => ?_
    refine r_aload_n hc 2 (dc_at dX4_join 30 rfl) rfl ?_
    refine r_getI hc (dc_at dX4_join 31 rfl) fl_X4_24 hf fun x11 hf => ?_
    refine r_laload hc (dc_at dX4_join 32 rfl) hf fun x12 hf => ?_
    refine r_lstore [(6, .long x12), (4, .long x9), (2, .long x6), (0, .ref (X.1 + v0)), (1, .int v1)] hc hr (dc_at dX4_join 33 rfl) (by decide) rfl ?_
    refine r_aload_n hc 3 (dc_at dX4_join 34 rfl) rfl ?_
    refine r_getR hc (dc_at dX4_join 35 rfl) fl_X4_15 hf fun a13 hf => ?_
    refine r_aload_n hc 3 (dc_at dX4_join 36 rfl) rfl ?_
    refine r_getI hc (dc_at dX4_join 37 rfl) fl_X4_24 hf fun x14 hf => ?_
    refine r_laload hc (dc_at dX4_join 38 rfl) hf fun x15 hf => ?_
    refine r_lstore [(8, .long x15), (6, .long x12), (4, .long x9), (2, .long x6), (0, .ref (X.1 + v0)), (1, .int v1)] hc hr (dc_at dX4_join 39 rfl) (by decide) rfl ?_
    refine r_iload_n hc 5 (dc_at dX4_join 40 rfl) rfl ?_
    rcases sw_cases hf with ⟨i, hi, hx, hf⟩ | ⟨hx, hf⟩
    · rcases (show i = 0 ∨ i = 1 ∨ i = 2 by simp only [List.length_cons, List.length_nil] at hi; omega) with rfl | rfl | rfl
      · have hf := gd_at hf rfl
        refine r_tableIn (tgt := 136) 0 hc (dc_at dX4_join 41 rfl) hx rfl (by decide) (by decide) ?_
        refine r_aload_n hc 4 (dc_at dX4_join 68 rfl) rfl ?_
        refine r_lload_n hc 3 (dc_at dX4_join 69 rfl) rfl ?_
        refine r_lload hc 1 (dc_at dX4_join 70 rfl) rfl ?_
        refine r_lmul hc (dc_at dX4_join 71 rfl) ?_
        refine r_lload hc 2 (dc_at dX4_join 72 rfl) rfl ?_
        refine r_lload hc 0 (dc_at dX4_join 73 rfl) rfl ?_
        refine r_lmul hc (dc_at dX4_join 74 rfl) ?_
        obtain ⟨ho, hf⟩ := cO_some hf
        refine ob2 hf fun x16 h17 ex hf => ?_
        refine r_callVi (As := [.long ((x6 * x12)), .long ((x9 * x15))]) (ci := 4) hc hr (dc_at dX4_join 75 rfl) ml_X4_55 mv_X4_settle vi_X4_settle rfl ho rfl (mt_X4_settle ex) (by first | exact Nat.le_of_ble_eq_true rfl | omega) (by first | exact Nat.le_of_ble_eq_true rfl | omega) (by first | exact Nat.le_of_ble_eq_true rfl | omega) hm hs ?_
        exact r_iret hc he (hm) (hs) (dc_at dX4_join 76 rfl) hf
      · have hf := gd_at hf rfl
        refine r_tableIn (tgt := 116) 1 hc (dc_at dX4_join 41 rfl) hx rfl (by decide) (by decide) ?_
        refine r_aload_n hc 4 (dc_at dX4_join 55 rfl) rfl ?_
        refine r_lload_n hc 3 (dc_at dX4_join 56 rfl) rfl ?_
        refine r_lload hc 0 (dc_at dX4_join 57 rfl) rfl ?_
        refine r_lmul hc (dc_at dX4_join 58 rfl) ?_
        refine r_lload hc 1 (dc_at dX4_join 59 rfl) rfl ?_
        refine r_lload hc 2 (dc_at dX4_join 60 rfl) rfl ?_
        refine r_lmul hc (dc_at dX4_join 61 rfl) ?_
        refine r_lsub hc (dc_at dX4_join 62 rfl) ?_
        refine r_lload hc 2 (dc_at dX4_join 63 rfl) rfl ?_
        refine r_lload hc 0 (dc_at dX4_join 64 rfl) rfl ?_
        refine r_lmul hc (dc_at dX4_join 65 rfl) ?_
        obtain ⟨ho, hf⟩ := cO_some hf
        refine ob2 hf fun x18 h19 ex hf => ?_
        refine r_callVi (As := [.long (((x6 * x15) - (x12 * x9))), .long ((x9 * x15))]) (ci := 4) hc hr (dc_at dX4_join 66 rfl) ml_X4_55 mv_X4_settle vi_X4_settle rfl ho rfl (mt_X4_settle ex) (by first | exact Nat.le_of_ble_eq_true rfl | omega) (by first | exact Nat.le_of_ble_eq_true rfl | omega) (by first | exact Nat.le_of_ble_eq_true rfl | omega) hm hs ?_
        exact r_iret hc he (hm) (hs) (dc_at dX4_join 67 rfl) hf
      · have hf := gd_at hf rfl
        refine r_tableIn (tgt := 96) 2 hc (dc_at dX4_join 41 rfl) hx rfl (by decide) (by decide) ?_
        refine r_aload_n hc 4 (dc_at dX4_join 42 rfl) rfl ?_
        refine r_lload_n hc 3 (dc_at dX4_join 43 rfl) rfl ?_
        refine r_lload hc 0 (dc_at dX4_join 44 rfl) rfl ?_
        refine r_lmul hc (dc_at dX4_join 45 rfl) ?_
        refine r_lload hc 1 (dc_at dX4_join 46 rfl) rfl ?_
        refine r_lload hc 2 (dc_at dX4_join 47 rfl) rfl ?_
        refine r_lmul hc (dc_at dX4_join 48 rfl) ?_
        refine r_ladd hc (dc_at dX4_join 49 rfl) ?_
        refine r_lload hc 2 (dc_at dX4_join 50 rfl) rfl ?_
        refine r_lload hc 0 (dc_at dX4_join 51 rfl) rfl ?_
        refine r_lmul hc (dc_at dX4_join 52 rfl) ?_
        obtain ⟨ho, hf⟩ := cO_some hf
        refine ob2 hf fun x20 h21 ex hf => ?_
        refine r_callVi (As := [.long (((x6 * x15) + (x12 * x9))), .long ((x9 * x15))]) (ci := 4) hc hr (dc_at dX4_join 53 rfl) ml_X4_55 mv_X4_settle vi_X4_settle rfl ho rfl (mt_X4_settle ex) (by first | exact Nat.le_of_ble_eq_true rfl | omega) (by first | exact Nat.le_of_ble_eq_true rfl | omega) (by first | exact Nat.le_of_ble_eq_true rfl | omega) hm hs ?_
        exact r_iret hc he (hm) (hs) (dc_at dX4_join 54 rfl) hf
    · refine r_tableOut (tgt := 150) 3 hc (dc_at dX4_join 41 rfl) hx (by decide) (by decide) ?_
      refine r_lload hc 1 (dc_at dX4_join 77 rfl) rfl ?_
      refine r_lconst (0 : Int64) hc (dc_at dX4_join 78 rfl) (by decide) ?_
      refine r_lcmp_ne (tgt := 159) hc (dc_at dX4_join 79 rfl) (dc_at dX4_join 80 rfl) (by decide) hf (fun hf => ?_) (fun hf => ?_)
      · refine r_lload hc 1 (dc_at dX4_join 83 rfl) rfl ?_
        refine r_lconst (0 : Int64) hc (dc_at dX4_join 84 rfl) (by decide) ?_
        refine r_lcmp_ge (tgt := 184) hc (dc_at dX4_join 85 rfl) (dc_at dX4_join 86 rfl) (by decide) hf (fun hf => ?_) (fun hf => ?_)
        · refine r_aload_n hc 4 (dc_at dX4_join 98 rfl) rfl ?_
          refine r_lload_n hc 3 (dc_at dX4_join 99 rfl) rfl ?_
          refine r_lload hc 0 (dc_at dX4_join 100 rfl) rfl ?_
          refine r_lmul hc (dc_at dX4_join 101 rfl) ?_
          refine r_lload hc 1 (dc_at dX4_join 102 rfl) rfl ?_
          refine r_lload hc 2 (dc_at dX4_join 103 rfl) rfl ?_
          refine r_lmul hc (dc_at dX4_join 104 rfl) ?_
          obtain ⟨ho, hf⟩ := cO_some hf
          refine ob2 hf fun x22 h23 ex hf => ?_
          refine r_callVi (As := [.long ((x6 * x15)), .long ((x12 * x9))]) (ci := 4) hc hr (dc_at dX4_join 105 rfl) ml_X4_55 mv_X4_settle vi_X4_settle rfl ho rfl (mt_X4_settle ex) (by first | exact Nat.le_of_ble_eq_true rfl | omega) (by first | exact Nat.le_of_ble_eq_true rfl | omega) (by first | exact Nat.le_of_ble_eq_true rfl | omega) hm hs ?_
          exact r_iret hc he (hm) (hs) (dc_at dX4_join 106 rfl) hf
        · refine r_aload_n hc 4 (dc_at dX4_join 87 rfl) rfl ?_
          refine r_lload_n hc 3 (dc_at dX4_join 88 rfl) rfl ?_
          refine r_lneg hc (dc_at dX4_join 89 rfl) ?_
          refine r_lload hc 0 (dc_at dX4_join 90 rfl) rfl ?_
          refine r_lmul hc (dc_at dX4_join 91 rfl) ?_
          refine r_lload hc 1 (dc_at dX4_join 92 rfl) rfl ?_
          refine r_lneg hc (dc_at dX4_join 93 rfl) ?_
          refine r_lload hc 2 (dc_at dX4_join 94 rfl) rfl ?_
          refine r_lmul hc (dc_at dX4_join 95 rfl) ?_
          obtain ⟨ho, hf⟩ := cO_some hf
          refine ob2 hf fun x24 h25 ex hf => ?_
          refine r_callVi (As := [.long (((-x6) * x15)), .long (((-x12) * x9))]) (ci := 4) hc hr (dc_at dX4_join 96 rfl) ml_X4_55 mv_X4_settle vi_X4_settle rfl ho rfl (mt_X4_settle ex) (by first | exact Nat.le_of_ble_eq_true rfl | omega) (by first | exact Nat.le_of_ble_eq_true rfl | omega) (by first | exact Nat.le_of_ble_eq_true rfl | omega) hm hs ?_
          refine r_goto (tgt := 197) hc (dc_at dX4_join 97 rfl) (by decide) ?_
          exact r_iret hc he (hm) (hs) (dc_at dX4_join 106 rfl) hf
      · refine r_iconst (2 : Int32) hc (dc_at dX4_join 81 rfl) (by decide) ?_
        exact r_iret hc he (hm) (hs) (dc_at dX4_join 82 rfl) hf
  · refine r_iconst (4 : Int32) hc (dc_at dX4_join 4 rfl) (by decide) ?_
    exact r_iret hc he (hm) (hs) (dc_at dX4_join 5 rfl) hf
def m_X4_join (F : Nat) (h : PH) (p0 : Nat) (p1 : Int32) : Option (Int32 × PH) := b_X4_join_0 F h p0 p1
theorem mt_X4_join {l : Launch} {X : XT} {F : Nat} {h hz : PH} {p0 : Nat} {p1 : Int32} {r : Int32} (ex : m_X4_join F h p0 p1 = some (r, hz)) : MT l X yX4_join cX4_join 10 (some .int) 3 176 0 0 [.ref (X.1 + p0), .int p1] h (some (.int r)) hz := MT.of (by decide) (Nat.le_of_ble_eq_true rfl) fun M hl hc hr he => by
  subst hl
  exact gg_sub [0, 1] rfl (t_X4_join_0  hc hr he (Nat.zero_le _) (Nat.zero_le _) ex)
/-! FractionLift$Reckoner.lead(LFractionLift$House;IJJ)I -/
def lX4_leadL : List (Nat × Instr × Nat × Nat) := [(0, .iload_n 2, 1, 1), (1, .ifCond .lt 11, 3, 4), (4, .iload_n 2, 1, 5), (5, .aload_n 1, 1, 6), (6, .getfield 18, 3, 9), (9, .if_icmp .lt 5, 3, 12), (12, .iconst 1, 1, 13), (13, .ireturn, 1, 14), (14, .aload_n 0, 1, 15), (15, .iconst 0, 1, 16), (16, .putfield 24, 3, 19), (19, .aload_n 1, 1, 20), (20, .getfield 27, 3, 23), (23, .iload_n 2, 1, 24), (24, .iconst 1, 1, 25), (25, .iadd, 1, 26), (26, .iaload, 1, 27), (27, .istore 7, 2, 29), (29, .aload_n 1, 1, 30), (30, .getfield 27, 3, 33), (33, .iload_n 2, 1, 34), (34, .iaload, 1, 35), (35, .istore 8, 2, 37), (37, .iload 8, 2, 39), (39, .iload 7, 2, 41), (41, .if_icmp .ge 89, 3, 44), (44, .aload_n 1, 1, 45), (45, .getfield 31, 3, 48), (48, .iload 8, 2, 50), (50, .iaload, 1, 51), (51, .istore 9, 2, 53), (53, .iconst 0, 1, 54), (54, .istore 10, 2, 56), (56, .iload 9, 2, 58), (58, .ifCond .lt 14, 3, 61), (61, .aload_n 0, 1, 62), (62, .iload 9, 2, 64), (64, .i2l, 1, 65), (65, .lconst 1, 1, 66), (66, .invokevirtual 34, 3, 69), (69, .goto 47, 3, 72), (72, .iload 9, 2, 74), (74, .iconst (-1), 1, 75), (75, .if_icmp .ne 13, 3, 78), (78, .aload_n 0, 1, 79), (79, .lload_n 3, 1, 80), (80, .lload 5, 2, 82), (82, .invokevirtual 34, 3, 85), (85, .goto 31, 3, 88), (88, .iload 9, 2, 90), (90, .bipush (-2), 2, 92), (92, .if_icmp .ne 16, 3, 95), (95, .aload_n 0, 1, 96), (96, .aload_n 1, 1, 97), (97, .getfield 38, 3, 100), (100, .i2l, 1, 101), (101, .lconst 1, 1, 102), (102, .invokevirtual 34, 3, 105), (105, .goto 11, 3, 108), (108, .aload_n 0, 1, 109), (109, .iload 9, 2, 111), (111, .invokevirtual 41, 3, 114), (114, .istore 10, 2, 116), (116, .iload 10, 2, 118), (118, .ifCond .eq 6, 3, 121), (121, .iload 10, 2, 123), (123, .ireturn, 1, 124), (124, .iinc 8 1, 3, 127), (127, .goto (-90), 3, 130), (130, .aload_n 0, 1, 131), (131, .getfield 24, 3, 134), (134, .iconst 1, 1, 135), (135, .if_icmp .ne 22, 3, 138), (138, .aload_n 1, 1, 139), (139, .aload_n 0, 1, 140), (140, .getfield 9, 3, 143), (143, .iconst 0, 1, 144), (144, .laload, 1, 145), (145, .aload_n 0, 1, 146), (146, .getfield 15, 3, 149), (149, .iconst 0, 1, 150), (150, .laload, 1, 151), (151, .invokevirtual 45, 3, 154), (154, .ifCond .ne 5, 3, 157), (157, .iconst 4, 1, 158), (158, .ireturn, 1, 159), (159, .aload_n 0, 1, 160), (160, .aload_n 0, 1, 161), (161, .getfield 9, 3, 164), (164, .iconst 0, 1, 165), (165, .laload, 1, 166), (166, .l2i, 1, 167), (167, .putfield 49, 3, 170), (170, .aload_n 0, 1, 171), (171, .aload_n 0, 1, 172), (172, .getfield 15, 3, 175), (175, .iconst 0, 1, 176), (176, .laload, 1, 177), (177, .l2i, 1, 178), (178, .putfield 52, 3, 181), (181, .iconst 0, 1, 182), (182, .ireturn, 1, 183)]
set_option maxRecDepth 20000 in
theorem dX4_lead : dcL cX4_lead lX4_leadL = true := by decide +kernel
def b_X4_lead_116 (F : Nat) (self23 : PH → Nat → Nat → Int64 → Int64 → Int32 → Int32 → Option (Int32 × PH)) (h : PH) (v0 : Nat) (v1 : Nat) (v3 : Int64) (v5 : Int64) (v7 : Int32) (v8 : Int32) (v10 : Int32) : Option (Int32 × PH) := if v10 = 0 then (bindv (v8 + (1)) fun x1 => (self23 h v0 v1 v3 v5 v7 x1)) else (some (v10, h))
set_option maxRecDepth 20000 in
theorem t_X4_lead_116 {M : MV} {X : XT} {F : Nat} {self23 : PH → Nat → Nat → Int64 → Int64 → Int32 → Int32 → Option (Int32 × PH)} {h hz : PH} {r : Int32} {ce sl mc ms : Nat} {v0 : Nat} {v1 : Nat} {v3 : Int64} {v5 : Int64} {v7 : Int32} {v8 : Int32} {v10 : Int32} (hc : Cx M X RX4 cX4_lead) (hr : Rx M 4 234 mc ms 11) (he : Ex M X (some .int) "lead" (some (.int r)) hz mc ms) (hm : ce ≤ mc) (hs : sl ≤ ms) (ih23 : ∀ (h : PH) (v0 : Nat) (v1 : Nat) (v3 : Int64) (v5 : Int64) (v7 : Int32) (v8 : Int32), self23 h v0 v1 v3 v5 v7 v8 = some (r, hz) → GG M X h ce sl 37 [(0, .ref (X.1 + v0)), (1, .ref (X.1 + v1)), (3, .long v3), (5, .long v5), (7, .int v7), (8, .int v8)] []) (hf : b_X4_lead_116 F self23 h v0 v1 v3 v5 v7 v8 v10 = some (r, hz)) : GG M X h ce sl 116 [(0, .ref (X.1 + v0)), (1, .ref (X.1 + v1)), (3, .long v3), (5, .long v5), (7, .int v7), (8, .int v8), (10, .int v10)] [] := by
  unfold b_X4_lead_116 at hf
  refine r_iload hc 6 (dc_at dX4_lead 63 rfl) rfl ?_
  refine r_if_eq (tgt := 124) hc (dc_at dX4_lead 64 rfl) (by decide) hf (fun hf => ?_) (fun hf => ?_)
  · refine obv hf fun x1 e_x1 hf => ?_
    refine r_iinc 5 [(8, .int x1), (0, .ref (X.1 + v0)), (1, .ref (X.1 + v1)), (3, .long v3), (5, .long v5), (7, .int v7), (10, .int v10)] hc hr (dc_at dX4_lead 67 rfl) rfl (by rw [e_x1]; rfl) (by decide) rfl ?_
    refine r_goto (tgt := 37) hc (dc_at dX4_lead 68 rfl) (by decide) ?_
    exact gg_sub [1, 2, 3, 4, 5, 0] rfl (ih23 _ _ _ _ _ _ _ hf)
  · refine r_iload hc 6 (dc_at dX4_lead 65 rfl) rfl ?_
    exact r_iret hc he (hm) (hs) (dc_at dX4_lead 66 rfl) hf
def b_X4_lead_37 (F : Nat) (self23 : PH → Nat → Nat → Int64 → Int64 → Int32 → Int32 → Option (Int32 × PH)) (h : PH) (v0 : Nat) (v1 : Nat) (v3 : Int64) (v5 : Int64) (v7 : Int32) (v8 : Int32) : Option (Int32 × PH) := if v7 ≤ v8 then ((gI 4 4 h v0).bind fun x1 => (if x1 = (1 : Int32) then ((gR 4 2 h v0).bind fun a2 => ((aL h a2 (0 : Int32)).bind fun x3 => ((gR 4 3 h v0).bind fun a4 => ((aL h a4 (0 : Int32)).bind fun x5 => (cO 0 h v1 ((m_X0_isFloor h v1 x3 x5).bind fun x6 => (if x6 = 0 then (some ((4 : Int32), h)) else ((gR 4 2 h v0).bind fun a7 => ((aL h a7 (0 : Int32)).bind fun x8 => ((pV 4 0 (.int (Int64.toInt32 x8)) h v0).bind fun h9 => ((gR 4 3 h9 v0).bind fun a10 => ((aL h9 a10 (0 : Int32)).bind fun x11 => ((pV 4 1 (.int (Int64.toInt32 x11)) h9 v0).bind fun h12 => (some ((0 : Int32), h12))))))))))))))) else (some ((4 : Int32), h)))) else ((gR 0 8 h v1).bind fun a13 => ((aI 0 h a13 v8).bind fun x14 => (if x14 < 0 then (if x14 = (-1 : Int32) then (cO 4 h v0 (bind2 (m_X4_pile h v0 v3 v5) fun _ h21 => (b_X4_lead_116 F self23 h21 v0 v1 v3 v5 v7 v8 (0 : Int32)))) else (if x14 = (-2 : Int32) then ((gI 0 0 h v1).bind fun x17 => (cO 4 h v0 (bind2 (m_X4_pile h v0 (Int32.toInt64 x17) (1 : Int64)) fun _ h19 => (b_X4_lead_116 F self23 h19 v0 v1 v3 v5 v7 v8 (0 : Int32))))) else (cO 4 h v0 (bind2 (m_X4_join F h v0 x14) fun x15 h16 => (b_X4_lead_116 F self23 h16 v0 v1 v3 v5 v7 v8 x15))))) else (cO 4 h v0 (bind2 (m_X4_pile h v0 (Int32.toInt64 x14) (1 : Int64)) fun _ h23 => (b_X4_lead_116 F self23 h23 v0 v1 v3 v5 v7 v8 (0 : Int32)))))))
set_option maxRecDepth 20000 in
theorem tb_X4_lead_37 {M : MV} {X : XT} {F : Nat} {self23 : PH → Nat → Nat → Int64 → Int64 → Int32 → Int32 → Option (Int32 × PH)} {h hz : PH} {r : Int32} {ce sl mc ms : Nat} {v0 : Nat} {v1 : Nat} {v3 : Int64} {v5 : Int64} {v7 : Int32} {v8 : Int32} (hc : Cx M X RX4 cX4_lead) (hr : Rx M 4 234 mc ms 11) (he : Ex M X (some .int) "lead" (some (.int r)) hz mc ms) (hm : ce ≤ mc) (hs : sl ≤ ms) (ih23 : ∀ (h : PH) (v0 : Nat) (v1 : Nat) (v3 : Int64) (v5 : Int64) (v7 : Int32) (v8 : Int32), self23 h v0 v1 v3 v5 v7 v8 = some (r, hz) → GG M X h ce sl 37 [(0, .ref (X.1 + v0)), (1, .ref (X.1 + v1)), (3, .long v3), (5, .long v5), (7, .int v7), (8, .int v8)] []) (hf : b_X4_lead_37 F self23 h v0 v1 v3 v5 v7 v8 = some (r, hz)) : GG M X h ce sl 37 [(0, .ref (X.1 + v0)), (1, .ref (X.1 + v1)), (3, .long v3), (5, .long v5), (7, .int v7), (8, .int v8)] [] := by
  unfold b_X4_lead_37 at hf
  refine r_iload hc 5 (dc_at dX4_lead 23 rfl) rfl ?_
  refine r_iload hc 4 (dc_at dX4_lead 24 rfl) rfl ?_
  refine r_icmp_ge (tgt := 130) hc (dc_at dX4_lead 25 rfl) (by decide) hf (fun hf => ?_) (fun hf => ?_)
  · refine r_aload_n hc 0 (dc_at dX4_lead 69 rfl) rfl ?_
    refine r_getI hc (dc_at dX4_lead 70 rfl) fl_X4_24 hf fun x1 hf => ?_
    refine r_iconst (1 : Int32) hc (dc_at dX4_lead 71 rfl) (by decide) ?_
    refine r_icmp_ne (tgt := 157) hc (dc_at dX4_lead 72 rfl) (by decide) hf (fun hf => ?_) (fun hf => ?_)
    · refine r_iconst (4 : Int32) hc (dc_at dX4_lead 84 rfl) (by decide) ?_
      exact r_iret hc he (hm) (hs) (dc_at dX4_lead 85 rfl) hf
    · refine r_aload_n hc 1 (dc_at dX4_lead 73 rfl) rfl ?_
      refine r_aload_n hc 0 (dc_at dX4_lead 74 rfl) rfl ?_
      refine r_getR hc (dc_at dX4_lead 75 rfl) fl_X4_9 hf fun a2 hf => ?_
      refine r_iconst (0 : Int32) hc (dc_at dX4_lead 76 rfl) (by decide) ?_
      refine r_laload hc (dc_at dX4_lead 77 rfl) hf fun x3 hf => ?_
      refine r_aload_n hc 0 (dc_at dX4_lead 78 rfl) rfl ?_
      refine r_getR hc (dc_at dX4_lead 79 rfl) fl_X4_15 hf fun a4 hf => ?_
      refine r_iconst (0 : Int32) hc (dc_at dX4_lead 80 rfl) (by decide) ?_
      refine r_laload hc (dc_at dX4_lead 81 rfl) hf fun x5 hf => ?_
      obtain ⟨ho, hf⟩ := cO_some hf
      refine ob hf fun x6 ex hf => ?_
      refine r_callVi (As := [.long x3, .long x5]) (ci := 0) hc hr (dc_at dX4_lead 82 rfl) ml_X4_45 mv_X0_isFloor vi_X0_isFloor rfl ho rfl (mt_X0_isFloor ex) (by first | exact Nat.le_of_ble_eq_true rfl | omega) (by first | exact Nat.le_of_ble_eq_true rfl | omega) (by first | exact Nat.le_of_ble_eq_true rfl | omega) hm hs ?_
      refine r_if_ne (tgt := 159) hc (dc_at dX4_lead 83 rfl) (by decide) hf (fun hf => ?_) (fun hf => ?_)
      · refine r_aload_n hc 0 (dc_at dX4_lead 86 rfl) rfl ?_
        refine r_aload_n hc 0 (dc_at dX4_lead 87 rfl) rfl ?_
        refine r_getR hc (dc_at dX4_lead 88 rfl) fl_X4_9 hf fun a7 hf => ?_
        refine r_iconst (0 : Int32) hc (dc_at dX4_lead 89 rfl) (by decide) ?_
        refine r_laload hc (dc_at dX4_lead 90 rfl) hf fun x8 hf => ?_
        refine r_l2i hc (dc_at dX4_lead 91 rfl) ?_
        refine r_putI hc he (dc_at dX4_lead 92 rfl) fp_X4_49 (fun q => by cases q) hf fun h9 hf => ?_
        refine r_aload_n hc 0 (dc_at dX4_lead 93 rfl) rfl ?_
        refine r_aload_n hc 0 (dc_at dX4_lead 94 rfl) rfl ?_
        refine r_getR hc (dc_at dX4_lead 95 rfl) fl_X4_15 hf fun a10 hf => ?_
        refine r_iconst (0 : Int32) hc (dc_at dX4_lead 96 rfl) (by decide) ?_
        refine r_laload hc (dc_at dX4_lead 97 rfl) hf fun x11 hf => ?_
        refine r_l2i hc (dc_at dX4_lead 98 rfl) ?_
        refine r_putI hc he (dc_at dX4_lead 99 rfl) fp_X4_52 (fun q => by cases q) hf fun h12 hf => ?_
        refine r_iconst (0 : Int32) hc (dc_at dX4_lead 100 rfl) (by decide) ?_
        exact r_iret hc he (hm) (hs) (dc_at dX4_lead 101 rfl) hf
      · refine r_iconst (4 : Int32) hc (dc_at dX4_lead 84 rfl) (by decide) ?_
        exact r_iret hc he (hm) (hs) (dc_at dX4_lead 85 rfl) hf
  · refine r_aload_n hc 1 (dc_at dX4_lead 26 rfl) rfl ?_
    refine r_getR hc (dc_at dX4_lead 27 rfl) fl_X4_31 hf fun a13 hf => ?_
    refine r_iload hc 5 (dc_at dX4_lead 28 rfl) rfl ?_
    refine r_iaload hc (dc_at dX4_lead 29 rfl) hf fun x14 hf => ?_
    refine r_istore [(9, .int x14), (0, .ref (X.1 + v0)), (1, .ref (X.1 + v1)), (3, .long v3), (5, .long v5), (7, .int v7), (8, .int v8)] hc hr (dc_at dX4_lead 30 rfl) (by decide) rfl ?_
    refine r_iconst (0 : Int32) hc (dc_at dX4_lead 31 rfl) (by decide) ?_
    refine r_istore [(10, .int ((0 : Int32))), (9, .int x14), (0, .ref (X.1 + v0)), (1, .ref (X.1 + v1)), (3, .long v3), (5, .long v5), (7, .int v7), (8, .int v8)] hc hr (dc_at dX4_lead 32 rfl) (by decide) rfl ?_
    refine r_iload hc 1 (dc_at dX4_lead 33 rfl) rfl ?_
    refine r_if_lt (tgt := 72) hc (dc_at dX4_lead 34 rfl) (by decide) hf (fun hf => ?_) (fun hf => ?_)
    · refine r_iload hc 1 (dc_at dX4_lead 41 rfl) rfl ?_
      refine r_iconst (-1 : Int32) hc (dc_at dX4_lead 42 rfl) (by decide) ?_
      refine r_icmp_ne (tgt := 88) hc (dc_at dX4_lead 43 rfl) (by decide) hf (fun hf => ?_) (fun hf => ?_)
      · refine r_iload hc 1 (dc_at dX4_lead 49 rfl) rfl ?_
        refine r_bipush (-2 : Int32) hc (dc_at dX4_lead 50 rfl) (by decide) ?_
        refine r_icmp_ne (tgt := 108) hc (dc_at dX4_lead 51 rfl) (by decide) hf (fun hf => ?_) (fun hf => ?_)
        · refine r_aload_n hc 2 (dc_at dX4_lead 59 rfl) rfl ?_
          refine r_iload hc 1 (dc_at dX4_lead 60 rfl) rfl ?_
          obtain ⟨ho, hf⟩ := cO_some hf
          refine ob2 hf fun x15 h16 ex hf => ?_
          refine r_callVi (As := [.int x14]) (ci := 4) hc hr (dc_at dX4_lead 61 rfl) ml_X4_41 mv_X4_join vi_X4_join rfl ho rfl (mt_X4_join ex) (by first | exact Nat.le_of_ble_eq_true rfl | omega) (by first | exact Nat.le_of_ble_eq_true rfl | omega) (by first | exact Nat.le_of_ble_eq_true rfl | omega) hm hs ?_
          refine r_istore [(10, .int x15), (9, .int x14), (0, .ref (X.1 + v0)), (1, .ref (X.1 + v1)), (3, .long v3), (5, .long v5), (7, .int v7), (8, .int v8)] hc hr (dc_at dX4_lead 62 rfl) (by decide) rfl ?_
          exact gg_sub [2, 3, 4, 5, 6, 7, 0] rfl (t_X4_lead_116 hc hr he hm hs ih23 hf)
        · refine r_aload_n hc 2 (dc_at dX4_lead 52 rfl) rfl ?_
          refine r_aload_n hc 3 (dc_at dX4_lead 53 rfl) rfl ?_
          refine r_getI hc (dc_at dX4_lead 54 rfl) fl_X4_38 hf fun x17 hf => ?_
          refine r_i2l hc (dc_at dX4_lead 55 rfl) ?_
          refine r_lconst (1 : Int64) hc (dc_at dX4_lead 56 rfl) (by decide) ?_
          obtain ⟨ho, hf⟩ := cO_some hf
          refine ob2 hf fun u h19 ex hf => ?_
          refine r_callVv (As := [.long ((Int32.toInt64 x17)), .long ((1 : Int64))]) (ci := 4) hc hr (dc_at dX4_lead 57 rfl) ml_X4_34 mv_X4_pile vi_X4_pile rfl ho rfl (mt_X4_pile ex) (by first | exact Nat.le_of_ble_eq_true rfl | omega) (by first | exact Nat.le_of_ble_eq_true rfl | omega) (by first | exact Nat.le_of_ble_eq_true rfl | omega) hm hs ?_
          refine r_goto (tgt := 116) hc (dc_at dX4_lead 58 rfl) (by decide) ?_
          exact gg_sub [2, 3, 4, 5, 6, 7, 0] rfl (t_X4_lead_116 hc hr he hm hs ih23 hf)
      · refine r_aload_n hc 2 (dc_at dX4_lead 44 rfl) rfl ?_
        refine r_lload_n hc 4 (dc_at dX4_lead 45 rfl) rfl ?_
        refine r_lload hc 5 (dc_at dX4_lead 46 rfl) rfl ?_
        obtain ⟨ho, hf⟩ := cO_some hf
        refine ob2 hf fun u h21 ex hf => ?_
        refine r_callVv (As := [.long v3, .long v5]) (ci := 4) hc hr (dc_at dX4_lead 47 rfl) ml_X4_34 mv_X4_pile vi_X4_pile rfl ho rfl (mt_X4_pile ex) (by first | exact Nat.le_of_ble_eq_true rfl | omega) (by first | exact Nat.le_of_ble_eq_true rfl | omega) (by first | exact Nat.le_of_ble_eq_true rfl | omega) hm hs ?_
        refine r_goto (tgt := 116) hc (dc_at dX4_lead 48 rfl) (by decide) ?_
        exact gg_sub [2, 3, 4, 5, 6, 7, 0] rfl (t_X4_lead_116 hc hr he hm hs ih23 hf)
    · refine r_aload_n hc 2 (dc_at dX4_lead 35 rfl) rfl ?_
      refine r_iload hc 1 (dc_at dX4_lead 36 rfl) rfl ?_
      refine r_i2l hc (dc_at dX4_lead 37 rfl) ?_
      refine r_lconst (1 : Int64) hc (dc_at dX4_lead 38 rfl) (by decide) ?_
      obtain ⟨ho, hf⟩ := cO_some hf
      refine ob2 hf fun u h23 ex hf => ?_
      refine r_callVv (As := [.long ((Int32.toInt64 x14)), .long ((1 : Int64))]) (ci := 4) hc hr (dc_at dX4_lead 39 rfl) ml_X4_34 mv_X4_pile vi_X4_pile rfl ho rfl (mt_X4_pile ex) (by first | exact Nat.le_of_ble_eq_true rfl | omega) (by first | exact Nat.le_of_ble_eq_true rfl | omega) (by first | exact Nat.le_of_ble_eq_true rfl | omega) hm hs ?_
      refine r_goto (tgt := 116) hc (dc_at dX4_lead 40 rfl) (by decide) ?_
      exact gg_sub [2, 3, 4, 5, 6, 7, 0] rfl (t_X4_lead_116 hc hr he hm hs ih23 hf)
def l_X4_lead_37 (F : Nat) : Nat → PH → Nat → Nat → Int64 → Int64 → Int32 → Int32 → Option (Int32 × PH)
  | 0 => fun _ _ _ _ _ _ _ => none
  | n + 1 => fun h v0 v1 v3 v5 v7 v8 => b_X4_lead_37 F (l_X4_lead_37 F n) h v0 v1 v3 v5 v7 v8
theorem tl_X4_lead_37 {M : MV} {X : XT} {F : Nat} {hz : PH} {r : Int32} {ce sl mc ms : Nat} (hc : Cx M X RX4 cX4_lead) (hr : Rx M 4 234 mc ms 11) (he : Ex M X (some .int) "lead" (some (.int r)) hz mc ms) (hm : ce ≤ mc) (hs : sl ≤ ms) (n : Nat) : ∀ (h : PH) (v0 : Nat) (v1 : Nat) (v3 : Int64) (v5 : Int64) (v7 : Int32) (v8 : Int32), l_X4_lead_37 F n h v0 v1 v3 v5 v7 v8 = some (r, hz) → GG M X h ce sl 37 [(0, .ref (X.1 + v0)), (1, .ref (X.1 + v1)), (3, .long v3), (5, .long v5), (7, .int v7), (8, .int v8)] [] := by
  induction n with
  | zero => intro h v0 v1 v3 v5 v7 v8 hf; cases hf
  | succ n ih => intro h v0 v1 v3 v5 v7 v8 hf; exact tb_X4_lead_37 (F := F) hc hr he hm hs  ih hf
def b_X4_lead_0 (F : Nat) (h : PH) (v0 : Nat) (v1 : Nat) (v2 : Int32) (v3 : Int64) (v5 : Int64) : Option (Int32 × PH) := if v2 < 0 then (some ((1 : Int32), h)) else ((gI 0 6 h v1).bind fun x1 => (if v2 < x1 then ((pV 4 4 (.int (0 : Int32)) h v0).bind fun h2 => ((gR 0 7 h2 v1).bind fun a3 => ((aI 0 h2 a3 ((v2 + (1 : Int32)))).bind fun x4 => ((gR 0 7 h2 v1).bind fun a5 => ((aI 0 h2 a5 v2).bind fun x6 => (l_X4_lead_37 F F h2 v0 v1 v3 v5 x4 x6)))))) else (some ((1 : Int32), h))))
set_option maxRecDepth 20000 in
theorem t_X4_lead_0 {M : MV} {X : XT} {F : Nat} {h hz : PH} {r : Int32} {ce sl mc ms : Nat} {v0 : Nat} {v1 : Nat} {v2 : Int32} {v3 : Int64} {v5 : Int64} (hc : Cx M X RX4 cX4_lead) (hr : Rx M 4 234 mc ms 11) (he : Ex M X (some .int) "lead" (some (.int r)) hz mc ms) (hm : ce ≤ mc) (hs : sl ≤ ms) (hf : b_X4_lead_0 F h v0 v1 v2 v3 v5 = some (r, hz)) : GG M X h ce sl 0 [(0, .ref (X.1 + v0)), (1, .ref (X.1 + v1)), (2, .int v2), (3, .long v3), (5, .long v5)] [] := by
  unfold b_X4_lead_0 at hf
  refine r_iload_n hc 2 (dc_at dX4_lead 0 rfl) rfl ?_
  refine r_if_lt (tgt := 12) hc (dc_at dX4_lead 1 rfl) (by decide) hf (fun hf => ?_) (fun hf => ?_)
  · refine r_iconst (1 : Int32) hc (dc_at dX4_lead 6 rfl) (by decide) ?_
    exact r_iret hc he (hm) (hs) (dc_at dX4_lead 7 rfl) hf
  · refine r_iload_n hc 2 (dc_at dX4_lead 2 rfl) rfl ?_
    refine r_aload_n hc 1 (dc_at dX4_lead 3 rfl) rfl ?_
    refine r_getI hc (dc_at dX4_lead 4 rfl) fl_X4_18 hf fun x1 hf => ?_
    refine r_icmp_lt (tgt := 14) hc (dc_at dX4_lead 5 rfl) (by decide) hf (fun hf => ?_) (fun hf => ?_)
    · refine r_aload_n hc 0 (dc_at dX4_lead 8 rfl) rfl ?_
      refine r_iconst (0 : Int32) hc (dc_at dX4_lead 9 rfl) (by decide) ?_
      refine r_putI hc he (dc_at dX4_lead 10 rfl) fp_X4_24 (fun q => by cases q) hf fun h2 hf => ?_
      refine r_aload_n hc 1 (dc_at dX4_lead 11 rfl) rfl ?_
      refine r_getR hc (dc_at dX4_lead 12 rfl) fl_X4_27 hf fun a3 hf => ?_
      refine r_iload_n hc 2 (dc_at dX4_lead 13 rfl) rfl ?_
      refine r_iconst (1 : Int32) hc (dc_at dX4_lead 14 rfl) (by decide) ?_
      refine r_iadd hc (dc_at dX4_lead 15 rfl) ?_
      refine r_iaload hc (dc_at dX4_lead 16 rfl) hf fun x4 hf => ?_
      refine r_istore [(7, .int x4), (0, .ref (X.1 + v0)), (1, .ref (X.1 + v1)), (2, .int v2), (3, .long v3), (5, .long v5)] hc hr (dc_at dX4_lead 17 rfl) (by decide) rfl ?_
      refine r_aload_n hc 2 (dc_at dX4_lead 18 rfl) rfl ?_
      refine r_getR hc (dc_at dX4_lead 19 rfl) fl_X4_27 hf fun a5 hf => ?_
      refine r_iload_n hc 3 (dc_at dX4_lead 20 rfl) rfl ?_
      refine r_iaload hc (dc_at dX4_lead 21 rfl) hf fun x6 hf => ?_
      refine r_istore [(8, .int x6), (7, .int x4), (0, .ref (X.1 + v0)), (1, .ref (X.1 + v1)), (2, .int v2), (3, .long v3), (5, .long v5)] hc hr (dc_at dX4_lead 22 rfl) (by decide) rfl ?_
      exact gg_sub [2, 3, 5, 6, 1, 0] rfl (tl_X4_lead_37 hc hr he hm hs  F _ _ _ _ _ _ _ hf)
    · refine r_iconst (1 : Int32) hc (dc_at dX4_lead 6 rfl) (by decide) ?_
      exact r_iret hc he (hm) (hs) (dc_at dX4_lead 7 rfl) hf
def m_X4_lead (F : Nat) (h : PH) (p0 : Nat) (p1 : Nat) (p2 : Int32) (p3 : Int64) (p5 : Int64) : Option (Int32 × PH) := b_X4_lead_0 F h p0 p1 p2 p3 p5
theorem mt_X4_lead {l : Launch} {X : XT} {F : Nat} {h hz : PH} {p0 : Nat} {p1 : Nat} {p2 : Int32} {p3 : Int64} {p5 : Int64} {r : Int32} (ex : m_X4_lead F h p0 p1 p2 p3 p5 = some (r, hz)) : MT l X yX4_lead cX4_lead 11 (some .int) 4 234 0 0 [.ref (X.1 + p0), .ref (X.1 + p1), .int p2, .long p3, .long p5] h (some (.int r)) hz := MT.of (by decide) (Nat.le_of_ble_eq_true rfl) fun M hl hc hr he => by
  subst hl
  exact gg_sub [0, 1, 2, 3, 4] rfl (t_X4_lead_0  hc hr he (Nat.zero_le _) (Nat.zero_le _) ex)
/-! FractionLift.inverseBy(II)I -/
def lX9_inverseByL : List (Nat × Instr × Nat × Nat) := [(0, .iconst 1, 1, 1), (1, .istore_n 2, 1, 2), (2, .iload_n 2, 1, 3), (3, .iload_n 1, 1, 4), (4, .if_icmp .ge 20, 3, 7), (7, .iload_n 0, 1, 8), (8, .iload_n 2, 1, 9), (9, .imul, 1, 10), (10, .iload_n 1, 1, 11), (11, .irem, 1, 12), (12, .iconst 1, 1, 13), (13, .if_icmp .ne 5, 3, 16), (16, .iload_n 2, 1, 17), (17, .ireturn, 1, 18), (18, .iinc 2 1, 3, 21), (21, .goto (-19), 3, 24), (24, .iconst (-1), 1, 25), (25, .ireturn, 1, 26)]
set_option maxRecDepth 20000 in
theorem dX9_inverseBy : dcL cX9_inverseBy lX9_inverseByL = true := by decide +kernel
def b_X9_inverseBy_2 (F : Nat) (self2 : Int32 → Int32 → Int32 → Option Int32) (v0 : Int32) (v1 : Int32) (v2 : Int32) : Option Int32 := if v1 ≤ v2 then (some (-1 : Int32)) else (if v1 = 0 then none else (if ((remI (v0 * v2) v1)) = (1 : Int32) then (some v2) else (bindv (v2 + (1)) fun x1 => (self2 v0 v1 x1))))
set_option maxRecDepth 20000 in
theorem tb_X9_inverseBy_2 {M : MV} {X : XT} {F : Nat} {self2 : Int32 → Int32 → Int32 → Option Int32} {h : PH} {r : Int32} {ce sl mc ms : Nat} {v0 : Int32} {v1 : Int32} {v2 : Int32} (hc : Cx M X RX9 cX9_inverseBy) (hr : Rx M 1 60 mc ms 3) (he : Ex M X (some .int) "inverseBy" (some (.int r)) h mc ms) (hm : ce ≤ mc) (hs : sl ≤ ms) (ih2 : ∀ (v0 : Int32) (v1 : Int32) (v2 : Int32), self2 v0 v1 v2 = some r → GG M X h ce sl 2 [(0, .int v0), (1, .int v1), (2, .int v2)] []) (hf : b_X9_inverseBy_2 F self2 v0 v1 v2 = some r) : GG M X h ce sl 2 [(0, .int v0), (1, .int v1), (2, .int v2)] [] := by
  unfold b_X9_inverseBy_2 at hf
  refine r_iload_n hc 2 (dc_at dX9_inverseBy 2 rfl) rfl ?_
  refine r_iload_n hc 1 (dc_at dX9_inverseBy 3 rfl) rfl ?_
  refine r_icmp_ge (tgt := 24) hc (dc_at dX9_inverseBy 4 rfl) (by decide) hf (fun hf => ?_) (fun hf => ?_)
  · refine r_iconst (-1 : Int32) hc (dc_at dX9_inverseBy 16 rfl) (by decide) ?_
    exact r_iretP hc he (hm) (hs) (dc_at dX9_inverseBy 17 rfl) hf
  · refine r_iload_n hc 0 (dc_at dX9_inverseBy 5 rfl) rfl ?_
    refine r_iload_n hc 2 (dc_at dX9_inverseBy 6 rfl) rfl ?_
    refine r_imul hc (dc_at dX9_inverseBy 7 rfl) ?_
    refine r_iload_n hc 1 (dc_at dX9_inverseBy 8 rfl) rfl ?_
    refine r_irem hc (dc_at dX9_inverseBy 9 rfl) hf (fun hf => ?_)
    refine r_iconst (1 : Int32) hc (dc_at dX9_inverseBy 10 rfl) (by decide) ?_
    refine r_icmp_ne (tgt := 18) hc (dc_at dX9_inverseBy 11 rfl) (by decide) hf (fun hf => ?_) (fun hf => ?_)
    · refine obv hf fun x1 e_x1 hf => ?_
      refine r_iinc 2 [(2, .int x1), (0, .int v0), (1, .int v1)] hc hr (dc_at dX9_inverseBy 14 rfl) rfl (by rw [e_x1]; rfl) (by decide) rfl ?_
      refine r_goto (tgt := 2) hc (dc_at dX9_inverseBy 15 rfl) (by decide) ?_
      exact gg_sub [1, 2, 0] rfl (ih2 _ _ _ hf)
    · refine r_iload_n hc 2 (dc_at dX9_inverseBy 12 rfl) rfl ?_
      exact r_iretP hc he (hm) (hs) (dc_at dX9_inverseBy 13 rfl) hf
def l_X9_inverseBy_2 (F : Nat) : Nat → Int32 → Int32 → Int32 → Option Int32
  | 0 => fun _ _ _ => none
  | n + 1 => fun v0 v1 v2 => b_X9_inverseBy_2 F (l_X9_inverseBy_2 F n) v0 v1 v2
theorem tl_X9_inverseBy_2 {M : MV} {X : XT} {F : Nat} {h : PH} {r : Int32} {ce sl mc ms : Nat} (hc : Cx M X RX9 cX9_inverseBy) (hr : Rx M 1 60 mc ms 3) (he : Ex M X (some .int) "inverseBy" (some (.int r)) h mc ms) (hm : ce ≤ mc) (hs : sl ≤ ms) (n : Nat) : ∀ (v0 : Int32) (v1 : Int32) (v2 : Int32), l_X9_inverseBy_2 F n v0 v1 v2 = some r → GG M X h ce sl 2 [(0, .int v0), (1, .int v1), (2, .int v2)] [] := by
  induction n with
  | zero => intro v0 v1 v2 hf; cases hf
  | succ n ih => intro v0 v1 v2 hf; exact tb_X9_inverseBy_2 (F := F) hc hr he hm hs  ih hf
def b_X9_inverseBy_0 (F : Nat) (v0 : Int32) (v1 : Int32) : Option Int32 := l_X9_inverseBy_2 F F v0 v1 (1 : Int32)
set_option maxRecDepth 20000 in
theorem t_X9_inverseBy_0 {M : MV} {X : XT} {F : Nat} {h : PH} {r : Int32} {ce sl mc ms : Nat} {v0 : Int32} {v1 : Int32} (hc : Cx M X RX9 cX9_inverseBy) (hr : Rx M 1 60 mc ms 3) (he : Ex M X (some .int) "inverseBy" (some (.int r)) h mc ms) (hm : ce ≤ mc) (hs : sl ≤ ms) (hf : b_X9_inverseBy_0 F v0 v1 = some r) : GG M X h ce sl 0 [(0, .int v0), (1, .int v1)] [] := by
  unfold b_X9_inverseBy_0 at hf
  refine r_iconst (1 : Int32) hc (dc_at dX9_inverseBy 0 rfl) (by decide) ?_
  refine r_istore_n [(2, .int ((1 : Int32))), (0, .int v0), (1, .int v1)] hc hr (dc_at dX9_inverseBy 1 rfl) (by decide) rfl ?_
  exact gg_sub [1, 2, 0] rfl (tl_X9_inverseBy_2 hc hr he hm hs  F _ _ _ hf)
def m_X9_inverseBy (F : Nat) (p0 : Int32) (p1 : Int32) : Option Int32 := b_X9_inverseBy_0 F p0 p1
theorem mt_X9_inverseBy {l : Launch} {X : XT} {F : Nat} {h : PH} {p0 : Int32} {p1 : Int32} {r : Int32} (ex : m_X9_inverseBy F p0 p1 = some r) : MT l X yX9_inverseBy cX9_inverseBy 3 (some .int) 1 60 0 0 [.int p0, .int p1] h (some (.int r)) h := MT.of (by decide) (Nat.le_of_ble_eq_true rfl) fun M hl hc hr he => by
  subst hl
  exact gg_sub [0, 1] rfl (t_X9_inverseBy_0  hc hr he (Nat.zero_le _) (Nat.zero_le _) ex)
/-! FractionLift$Reckoner.joinBy(II)Z -/
def lX4_joinByL : List (Nat × Instr × Nat × Nat) := [(0, .aload_n 0, 1, 1), (1, .getfield 24, 3, 4), (4, .iconst 2, 1, 5), (5, .if_icmp .lt 8, 3, 8), (8, .iload_n 2, 1, 9), (9, .iconst 2, 1, 10), (10, .if_icmp .ge 5, 3, 13), (13, .iconst 0, 1, 14), (14, .ireturn, 1, 15), (15, .aload_n 0, 1, 16), (16, .dup, 1, 17), (17, .getfield 24, 3, 20), (20, .iconst 1, 1, 21), (21, .isub, 1, 22), (22, .putfield 24, 3, 25), (25, .aload_n 0, 1, 26), (26, .getfield 9, 3, 29), (29, .aload_n 0, 1, 30), (30, .getfield 24, 3, 33), (33, .iconst 1, 1, 34), (34, .isub, 1, 35), (35, .laload, 1, 36), (36, .l2i, 1, 37), (37, .istore_n 3, 1, 38), (38, .aload_n 0, 1, 39), (39, .getfield 9, 3, 42), (42, .aload_n 0, 1, 43), (43, .getfield 24, 3, 46), (46, .laload, 1, 47), (47, .l2i, 1, 48), (48, .istore 4, 2, 50), (50, .iload_n 1, 1, 51), (51, .tableswitch 60 (-5) (-3) #[49, 36, 25], 25, 76), (76, .iload_n 3, 1, 77), (77, .iload 4, 2, 79), (79, .iadd, 1, 80), (80, .iload_n 2, 1, 81), (81, .irem, 1, 82), (82, .istore 5, 2, 84), (84, .goto 51, 3, 87), (87, .iload_n 3, 1, 88), (88, .iload 4, 2, 90), (90, .isub, 1, 91), (91, .iload_n 2, 1, 92), (92, .iadd, 1, 93), (93, .iload_n 2, 1, 94), (94, .irem, 1, 95), (95, .istore 5, 2, 97), (97, .goto 38, 3, 100), (100, .iload_n 3, 1, 101), (101, .iload 4, 2, 103), (103, .imul, 1, 104), (104, .iload_n 2, 1, 105), (105, .irem, 1, 106), (106, .istore 5, 2, 108), (108, .goto 27, 3, 111), (111, .iload 4, 2, 113), (113, .iload_n 2, 1, 114), (114, .invokestatic 75, 3, 117), (117, .istore 6, 2, 119), (119, .iload 6, 2, 121), (121, .iconst (-1), 1, 122), (122, .if_icmp .ne 5, 3, 125), (125, .iconst 0, 1, 126), (126, .ireturn, 1, 127), (127, .iload_n 3, 1, 128), (128, .iload 6, 2, 130), (130, .imul, 1, 131), (131, .iload_n 2, 1, 132), (132, .irem, 1, 133), (133, .istore 5, 2, 135), (135, .aload_n 0, 1, 136), (136, .getfield 9, 3, 139), (139, .aload_n 0, 1, 140), (140, .getfield 24, 3, 143), (143, .iconst 1, 1, 144), (144, .isub, 1, 145), (145, .iload 5, 2, 147), (147, .i2l, 1, 148), (148, .lastore, 1, 149), (149, .iconst 1, 1, 150), (150, .ireturn, 1, 151)]
set_option maxRecDepth 20000 in
theorem dX4_joinBy : dcL cX4_joinBy lX4_joinByL = true := by decide +kernel
def b_X4_joinBy_135 (F : Nat) (h : PH) (v0 : Nat) (v5 : Int32) : Option (Int32 × PH) := (gR 4 2 h v0).bind fun a1 => ((gI 4 4 h v0).bind fun x2 => ((sL h a1 ((x2 - (1 : Int32))) (Int32.toInt64 v5)).bind fun h3 => (rZ (1 : Int32) h3)))
set_option maxRecDepth 20000 in
theorem t_X4_joinBy_135 {M : MV} {X : XT} {F : Nat} {h hz : PH} {r : Int32} {ce sl mc ms : Nat} {v0 : Nat} {v5 : Int32} (hc : Cx M X RX4 cX4_joinBy) (hr : Rx M 2 118 mc ms 7) (he : Ex M X (some .boolean) "joinBy" (some (.int r)) hz mc ms) (hm : ce ≤ mc) (hs : sl ≤ ms) (hf : b_X4_joinBy_135 F h v0 v5 = some (r, hz)) : GG M X h ce sl 135 [(0, .ref (X.1 + v0)), (5, .int v5)] [] := by
  unfold b_X4_joinBy_135 at hf
  refine r_aload_n hc 0 (dc_at dX4_joinBy 71 rfl) rfl ?_
  refine r_getR hc (dc_at dX4_joinBy 72 rfl) fl_X4_9 hf fun a1 hf => ?_
  refine r_aload_n hc 0 (dc_at dX4_joinBy 73 rfl) rfl ?_
  refine r_getI hc (dc_at dX4_joinBy 74 rfl) fl_X4_24 hf fun x2 hf => ?_
  refine r_iconst (1 : Int32) hc (dc_at dX4_joinBy 75 rfl) (by decide) ?_
  refine r_isub hc (dc_at dX4_joinBy 76 rfl) ?_
  refine r_iload hc 1 (dc_at dX4_joinBy 77 rfl) rfl ?_
  refine r_i2l hc (dc_at dX4_joinBy 78 rfl) ?_
  refine r_lastore hc (dc_at dX4_joinBy 79 rfl) hf fun h3 hf => ?_
  refine r_iconst (1 : Int32) hc (dc_at dX4_joinBy 80 rfl) (by decide) ?_
  exact r_zret hc he (hm) (hs) (dc_at dX4_joinBy 81 rfl) hf
def b_X4_joinBy_0 (F : Nat) (h : PH) (v0 : Nat) (v1 : Int32) (v2 : Int32) : Option (Int32 × PH) := (gI 4 4 h v0).bind fun x1 => (if x1 < (2 : Int32) then (rZ (0 : Int32) h) else (if (2 : Int32) ≤ v2 then ((gI 4 4 h v0).bind fun x2 => ((pV 4 4 (.int ((x2 - (1 : Int32)))) h v0).bind fun h3 => ((gR 4 2 h3 v0).bind fun a4 => ((gI 4 4 h3 v0).bind fun x5 => ((aL h3 a4 ((x5 - (1 : Int32)))).bind fun x6 => (bindv (Int64.toInt32 x6) fun x7 => ((gR 4 2 h3 v0).bind fun a8 => ((gI 4 4 h3 v0).bind fun x9 => ((aL h3 a8 x9).bind fun x10 => (bindv (Int64.toInt32 x10) fun x11 => (swN v1 (-5) [if v2 = 0 then none else (bindv ((remI (x7 * x11) v2)) fun x12 => (b_X4_joinBy_135 F h3 v0 x12)), if v2 = 0 then none else (bindv ((remI (((x7 - x11) + v2)) v2)) fun x13 => (b_X4_joinBy_135 F h3 v0 x13)), if v2 = 0 then none else (bindv ((remI (x7 + x11) v2)) fun x14 => (b_X4_joinBy_135 F h3 v0 x14))] ((m_X9_inverseBy F x11 v2).bind fun x15 => (if x15 = (-1 : Int32) then (rZ (0 : Int32) h3) else (if v2 = 0 then none else (bindv ((remI (x7 * x15) v2)) fun x16 => (b_X4_joinBy_135 F h3 v0 x16)))))))))))))))) else (rZ (0 : Int32) h)))
set_option maxRecDepth 20000 in
theorem t_X4_joinBy_0 {M : MV} {X : XT} {F : Nat} {h hz : PH} {r : Int32} {ce sl mc ms : Nat} {v0 : Nat} {v1 : Int32} {v2 : Int32} (hc : Cx M X RX4 cX4_joinBy) (hr : Rx M 2 118 mc ms 7) (he : Ex M X (some .boolean) "joinBy" (some (.int r)) hz mc ms) (hm : ce ≤ mc) (hs : sl ≤ ms) (hf : b_X4_joinBy_0 F h v0 v1 v2 = some (r, hz)) : GG M X h ce sl 0 [(0, .ref (X.1 + v0)), (1, .int v1), (2, .int v2)] [] := by
  unfold b_X4_joinBy_0 at hf
  refine r_aload_n hc 0 (dc_at dX4_joinBy 0 rfl) rfl ?_
  refine r_getI hc (dc_at dX4_joinBy 1 rfl) fl_X4_24 hf fun x1 hf => ?_
  refine r_iconst (2 : Int32) hc (dc_at dX4_joinBy 2 rfl) (by decide) ?_
  refine r_icmp_lt (tgt := 13) hc (dc_at dX4_joinBy 3 rfl) (by decide) hf (fun hf => ?_) (fun hf => ?_)
  · refine r_iconst (0 : Int32) hc (dc_at dX4_joinBy 7 rfl) (by decide) ?_
    exact r_zret hc he (hm) (hs) (dc_at dX4_joinBy 8 rfl) hf
  · refine r_iload_n hc 2 (dc_at dX4_joinBy 4 rfl) rfl ?_
    refine r_iconst (2 : Int32) hc (dc_at dX4_joinBy 5 rfl) (by decide) ?_
    refine r_icmp_ge (tgt := 15) hc (dc_at dX4_joinBy 6 rfl) (by decide) hf (fun hf => ?_) (fun hf => ?_)
    · refine r_aload_n hc 0 (dc_at dX4_joinBy 9 rfl) rfl ?_
      refine r_dup hc (dc_at dX4_joinBy 10 rfl) rfl ?_
      refine r_getI hc (dc_at dX4_joinBy 11 rfl) fl_X4_24 hf fun x2 hf => ?_
      refine r_iconst (1 : Int32) hc (dc_at dX4_joinBy 12 rfl) (by decide) ?_
      refine r_isub hc (dc_at dX4_joinBy 13 rfl) ?_
      refine r_putI hc he (dc_at dX4_joinBy 14 rfl) fp_X4_24 (fun q => by cases q) hf fun h3 hf => ?_
      refine r_aload_n hc 0 (dc_at dX4_joinBy 15 rfl) rfl ?_
      refine r_getR hc (dc_at dX4_joinBy 16 rfl) fl_X4_9 hf fun a4 hf => ?_
      refine r_aload_n hc 0 (dc_at dX4_joinBy 17 rfl) rfl ?_
      refine r_getI hc (dc_at dX4_joinBy 18 rfl) fl_X4_24 hf fun x5 hf => ?_
      refine r_iconst (1 : Int32) hc (dc_at dX4_joinBy 19 rfl) (by decide) ?_
      refine r_isub hc (dc_at dX4_joinBy 20 rfl) ?_
      refine r_laload hc (dc_at dX4_joinBy 21 rfl) hf fun x6 hf => ?_
      refine r_l2i hc (dc_at dX4_joinBy 22 rfl) ?_
      refine r_nm (mk := Value.int) hf fun x7 hf => ?_
      refine r_istore_n [(3, .int x7), (0, .ref (X.1 + v0)), (1, .int v1), (2, .int v2)] hc hr (dc_at dX4_joinBy 23 rfl) (by decide) rfl ?_
      refine r_aload_n hc 1 (dc_at dX4_joinBy 24 rfl) rfl ?_
      refine r_getR hc (dc_at dX4_joinBy 25 rfl) fl_X4_9 hf fun a8 hf => ?_
      refine r_aload_n hc 1 (dc_at dX4_joinBy 26 rfl) rfl ?_
      refine r_getI hc (dc_at dX4_joinBy 27 rfl) fl_X4_24 hf fun x9 hf => ?_
      refine r_laload hc (dc_at dX4_joinBy 28 rfl) hf fun x10 hf => ?_
      refine r_l2i hc (dc_at dX4_joinBy 29 rfl) ?_
      refine r_nm (mk := Value.int) hf fun x11 hf => ?_
      refine r_istore [(4, .int x11), (3, .int x7), (0, .ref (X.1 + v0)), (1, .int v1), (2, .int v2)] hc hr (dc_at dX4_joinBy 30 rfl) (by decide) rfl ?_
      refine r_iload_n hc 3 (dc_at dX4_joinBy 31 rfl) rfl ?_
      rcases sw_cases hf with ⟨i, hi, hx, hf⟩ | ⟨hx, hf⟩
      · rcases (show i = 0 ∨ i = 1 ∨ i = 2 by simp only [List.length_cons, List.length_nil] at hi; omega) with rfl | rfl | rfl
        · have hf := gd_at hf rfl
          refine r_tableIn (tgt := 100) 0 hc (dc_at dX4_joinBy 32 rfl) hx rfl (by decide) (by decide) ?_
          refine r_iload_n hc 1 (dc_at dX4_joinBy 49 rfl) rfl ?_
          refine r_iload hc 0 (dc_at dX4_joinBy 50 rfl) rfl ?_
          refine r_imul hc (dc_at dX4_joinBy 51 rfl) ?_
          refine r_iload_n hc 4 (dc_at dX4_joinBy 52 rfl) rfl ?_
          refine r_irem hc (dc_at dX4_joinBy 53 rfl) hf (fun hf => ?_)
          refine r_nm (mk := Value.int) hf fun x12 hf => ?_
          refine r_istore [(5, .int x12), (4, .int x11), (3, .int x7), (0, .ref (X.1 + v0)), (1, .int v1), (2, .int v2)] hc hr (dc_at dX4_joinBy 54 rfl) (by decide) rfl ?_
          refine r_goto (tgt := 135) hc (dc_at dX4_joinBy 55 rfl) (by decide) ?_
          exact gg_sub [3, 0] rfl (t_X4_joinBy_135 hc hr he hm hs  hf)
        · have hf := gd_at hf rfl
          refine r_tableIn (tgt := 87) 1 hc (dc_at dX4_joinBy 32 rfl) hx rfl (by decide) (by decide) ?_
          refine r_iload_n hc 1 (dc_at dX4_joinBy 40 rfl) rfl ?_
          refine r_iload hc 0 (dc_at dX4_joinBy 41 rfl) rfl ?_
          refine r_isub hc (dc_at dX4_joinBy 42 rfl) ?_
          refine r_iload_n hc 4 (dc_at dX4_joinBy 43 rfl) rfl ?_
          refine r_iadd hc (dc_at dX4_joinBy 44 rfl) ?_
          refine r_iload_n hc 4 (dc_at dX4_joinBy 45 rfl) rfl ?_
          refine r_irem hc (dc_at dX4_joinBy 46 rfl) hf (fun hf => ?_)
          refine r_nm (mk := Value.int) hf fun x13 hf => ?_
          refine r_istore [(5, .int x13), (4, .int x11), (3, .int x7), (0, .ref (X.1 + v0)), (1, .int v1), (2, .int v2)] hc hr (dc_at dX4_joinBy 47 rfl) (by decide) rfl ?_
          refine r_goto (tgt := 135) hc (dc_at dX4_joinBy 48 rfl) (by decide) ?_
          exact gg_sub [3, 0] rfl (t_X4_joinBy_135 hc hr he hm hs  hf)
        · have hf := gd_at hf rfl
          refine r_tableIn (tgt := 76) 2 hc (dc_at dX4_joinBy 32 rfl) hx rfl (by decide) (by decide) ?_
          refine r_iload_n hc 1 (dc_at dX4_joinBy 33 rfl) rfl ?_
          refine r_iload hc 0 (dc_at dX4_joinBy 34 rfl) rfl ?_
          refine r_iadd hc (dc_at dX4_joinBy 35 rfl) ?_
          refine r_iload_n hc 4 (dc_at dX4_joinBy 36 rfl) rfl ?_
          refine r_irem hc (dc_at dX4_joinBy 37 rfl) hf (fun hf => ?_)
          refine r_nm (mk := Value.int) hf fun x14 hf => ?_
          refine r_istore [(5, .int x14), (4, .int x11), (3, .int x7), (0, .ref (X.1 + v0)), (1, .int v1), (2, .int v2)] hc hr (dc_at dX4_joinBy 38 rfl) (by decide) rfl ?_
          refine r_goto (tgt := 135) hc (dc_at dX4_joinBy 39 rfl) (by decide) ?_
          exact gg_sub [3, 0] rfl (t_X4_joinBy_135 hc hr he hm hs  hf)
      · refine r_tableOut (tgt := 111) 3 hc (dc_at dX4_joinBy 32 rfl) hx (by decide) (by decide) ?_
        refine r_iload hc 0 (dc_at dX4_joinBy 56 rfl) rfl ?_
        refine r_iload_n hc 4 (dc_at dX4_joinBy 57 rfl) rfl ?_
        refine ob hf fun x15 ex hf => ?_
        refine r_callSNi (As := [.int x11, .int v2]) 2 (by decide) hc hr (dc_at dX4_joinBy 58 rfl) rfl mv_X9_inverseBy st_X9_inverseBy rfl (mt_X9_inverseBy ex) (by first | exact Nat.le_of_ble_eq_true rfl | omega) (by first | exact Nat.le_of_ble_eq_true rfl | omega) (by first | exact Nat.le_of_ble_eq_true rfl | omega) hm hs ?_
        refine r_istore [(6, .int x15), (4, .int x11), (3, .int x7), (0, .ref (X.1 + v0)), (1, .int v1), (2, .int v2)] hc hr (dc_at dX4_joinBy 59 rfl) (by decide) rfl ?_
        refine r_iload hc 0 (dc_at dX4_joinBy 60 rfl) rfl ?_
        refine r_iconst (-1 : Int32) hc (dc_at dX4_joinBy 61 rfl) (by decide) ?_
        refine r_icmp_ne (tgt := 127) hc (dc_at dX4_joinBy 62 rfl) (by decide) hf (fun hf => ?_) (fun hf => ?_)
        · refine r_iload_n hc 2 (dc_at dX4_joinBy 65 rfl) rfl ?_
          refine r_iload hc 0 (dc_at dX4_joinBy 66 rfl) rfl ?_
          refine r_imul hc (dc_at dX4_joinBy 67 rfl) ?_
          refine r_iload_n hc 5 (dc_at dX4_joinBy 68 rfl) rfl ?_
          refine r_irem hc (dc_at dX4_joinBy 69 rfl) hf (fun hf => ?_)
          refine r_nm (mk := Value.int) hf fun x16 hf => ?_
          refine r_istore [(5, .int x16), (6, .int x15), (4, .int x11), (3, .int x7), (0, .ref (X.1 + v0)), (1, .int v1), (2, .int v2)] hc hr (dc_at dX4_joinBy 70 rfl) (by decide) rfl ?_
          exact gg_sub [4, 0] rfl (t_X4_joinBy_135 hc hr he hm hs  hf)
        · refine r_iconst (0 : Int32) hc (dc_at dX4_joinBy 63 rfl) (by decide) ?_
          exact r_zret hc he (hm) (hs) (dc_at dX4_joinBy 64 rfl) hf
    · refine r_iconst (0 : Int32) hc (dc_at dX4_joinBy 7 rfl) (by decide) ?_
      exact r_zret hc he (hm) (hs) (dc_at dX4_joinBy 8 rfl) hf
def m_X4_joinBy (F : Nat) (h : PH) (p0 : Nat) (p1 : Int32) (p2 : Int32) : Option (Int32 × PH) := b_X4_joinBy_0 F h p0 p1 p2
theorem mt_X4_joinBy {l : Launch} {X : XT} {F : Nat} {h hz : PH} {p0 : Nat} {p1 : Int32} {p2 : Int32} {r : Int32} (ex : m_X4_joinBy F h p0 p1 p2 = some (r, hz)) : MT l X yX4_joinBy cX4_joinBy 7 (some .boolean) 2 118 0 0 [.ref (X.1 + p0), .int p1, .int p2] h (some (.int r)) hz := MT.of (by decide) (Nat.le_of_ble_eq_true rfl) fun M hl hc hr he => by
  subst hl
  exact gg_sub [0, 1, 2] rfl (t_X4_joinBy_0  hc hr he (Nat.zero_le _) (Nat.zero_le _) ex)
/-! FractionLift$Reckoner.remainderLed(LFractionLift$House;III)I -/
def lX4_remainderLedL : List (Nat × Instr × Nat × Nat) := [(0, .iload_n 2, 1, 1), (1, .ifCond .lt 17, 3, 4), (4, .iload_n 2, 1, 5), (5, .aload_n 1, 1, 6), (6, .getfield 18, 3, 9), (9, .if_icmp .ge 9, 3, 12), (12, .iload 4, 2, 14), (14, .iconst 2, 1, 15), (15, .if_icmp .ge 5, 3, 18), (18, .iconst (-1), 1, 19), (19, .ireturn, 1, 20), (20, .aload_n 0, 1, 21), (21, .iconst 0, 1, 22), (22, .putfield 24, 3, 25), (25, .aload_n 1, 1, 26), (26, .getfield 27, 3, 29), (29, .iload_n 2, 1, 30), (30, .iconst 1, 1, 31), (31, .iadd, 1, 32), (32, .iaload, 1, 33), (33, .istore 5, 2, 35), (35, .aload_n 1, 1, 36), (36, .getfield 27, 3, 39), (39, .iload_n 2, 1, 40), (40, .iaload, 1, 41), (41, .istore 6, 2, 43), (43, .iload 6, 2, 45), (45, .iload 5, 2, 47), (47, .if_icmp .ge 89, 3, 50), (50, .aload_n 1, 1, 51), (51, .getfield 31, 3, 54), (54, .iload 6, 2, 56), (56, .iaload, 1, 57), (57, .istore 7, 2, 59), (59, .iload 7, 2, 61), (61, .ifCond .lt 17, 3, 64), (64, .aload_n 0, 1, 65), (65, .iload 7, 2, 67), (67, .iload 4, 2, 69), (69, .irem, 1, 70), (70, .i2l, 1, 71), (71, .lconst 1, 1, 72), (72, .invokevirtual 34, 3, 75), (75, .goto 55, 3, 78), (78, .iload 7, 2, 80), (80, .iconst (-1), 1, 81), (81, .if_icmp .ne 13, 3, 84), (84, .aload_n 0, 1, 85), (85, .iload_n 3, 1, 86), (86, .i2l, 1, 87), (87, .lconst 1, 1, 88), (88, .invokevirtual 34, 3, 91), (91, .goto 39, 3, 94), (94, .iload 7, 2, 96), (96, .bipush (-2), 2, 98), (98, .if_icmp .ne 19, 3, 101), (101, .aload_n 0, 1, 102), (102, .aload_n 1, 1, 103), (103, .getfield 38, 3, 106), (106, .iload 4, 2, 108), (108, .irem, 1, 109), (109, .i2l, 1, 110), (110, .lconst 1, 1, 111), (111, .invokevirtual 34, 3, 114), (114, .goto 16, 3, 117), (117, .aload_n 0, 1, 118), (118, .iload 7, 2, 120), (120, .iload 4, 2, 122), (122, .invokevirtual 71, 3, 125), (125, .ifCond .ne 5, 3, 128), (128, .iconst (-1), 1, 129), (129, .ireturn, 1, 130), (130, .iinc 6 1, 3, 133), (133, .goto (-90), 3, 136), (136, .aload_n 0, 1, 137), (137, .getfield 24, 3, 140), (140, .iconst 1, 1, 141), (141, .if_icmp .ne 13, 3, 144), (144, .aload_n 0, 1, 145), (145, .getfield 9, 3, 148), (148, .iconst 0, 1, 149), (149, .laload, 1, 150), (150, .l2i, 1, 151), (151, .goto 4, 3, 154), (154, .iconst (-1), 1, 155), (155, .ireturn, 1, 156)]
set_option maxRecDepth 20000 in
theorem dX4_remainderLed : dcL cX4_remainderLed lX4_remainderLedL = true := by decide +kernel
def b_X4_remainderLed_130 (F : Nat) (self26 : PH → Nat → Nat → Int32 → Int32 → Int32 → Int32 → Option (Int32 × PH)) (h : PH) (v0 : Nat) (v1 : Nat) (v3 : Int32) (v4 : Int32) (v5 : Int32) (v6 : Int32) : Option (Int32 × PH) := bindv (v6 + (1)) fun x1 => (self26 h v0 v1 v3 v4 v5 x1)
set_option maxRecDepth 20000 in
theorem t_X4_remainderLed_130 {M : MV} {X : XT} {F : Nat} {self26 : PH → Nat → Nat → Int32 → Int32 → Int32 → Int32 → Option (Int32 × PH)} {h hz : PH} {r : Int32} {ce sl mc ms : Nat} {v0 : Nat} {v1 : Nat} {v3 : Int32} {v4 : Int32} {v5 : Int32} {v6 : Int32} (hc : Cx M X RX4 cX4_remainderLed) (hr : Rx M 3 176 mc ms 8) (he : Ex M X (some .int) "remainderLed" (some (.int r)) hz mc ms) (hm : ce ≤ mc) (hs : sl ≤ ms) (ih26 : ∀ (h : PH) (v0 : Nat) (v1 : Nat) (v3 : Int32) (v4 : Int32) (v5 : Int32) (v6 : Int32), self26 h v0 v1 v3 v4 v5 v6 = some (r, hz) → GG M X h ce sl 43 [(0, .ref (X.1 + v0)), (1, .ref (X.1 + v1)), (3, .int v3), (4, .int v4), (5, .int v5), (6, .int v6)] []) (hf : b_X4_remainderLed_130 F self26 h v0 v1 v3 v4 v5 v6 = some (r, hz)) : GG M X h ce sl 130 [(0, .ref (X.1 + v0)), (1, .ref (X.1 + v1)), (3, .int v3), (4, .int v4), (5, .int v5), (6, .int v6)] [] := by
  unfold b_X4_remainderLed_130 at hf
  refine obv hf fun x1 e_x1 hf => ?_
  refine r_iinc 5 [(6, .int x1), (0, .ref (X.1 + v0)), (1, .ref (X.1 + v1)), (3, .int v3), (4, .int v4), (5, .int v5)] hc hr (dc_at dX4_remainderLed 72 rfl) rfl (by rw [e_x1]; rfl) (by decide) rfl ?_
  refine r_goto (tgt := 43) hc (dc_at dX4_remainderLed 73 rfl) (by decide) ?_
  exact gg_sub [1, 2, 3, 4, 5, 0] rfl (ih26 _ _ _ _ _ _ _ hf)
def b_X4_remainderLed_43 (F : Nat) (self26 : PH → Nat → Nat → Int32 → Int32 → Int32 → Int32 → Option (Int32 × PH)) (h : PH) (v0 : Nat) (v1 : Nat) (v3 : Int32) (v4 : Int32) (v5 : Int32) (v6 : Int32) : Option (Int32 × PH) := if v5 ≤ v6 then ((gI 4 4 h v0).bind fun x1 => (if x1 = (1 : Int32) then ((gR 4 2 h v0).bind fun a2 => ((aL h a2 (0 : Int32)).bind fun x3 => (some ((Int64.toInt32 x3), h)))) else (some ((-1 : Int32), h)))) else ((gR 0 8 h v1).bind fun a4 => ((aI 0 h a4 v6).bind fun x5 => (if x5 < 0 then (if x5 = (-1 : Int32) then (cO 4 h v0 (bind2 (m_X4_pile h v0 (Int32.toInt64 v3) (1 : Int64)) fun _ h12 => (b_X4_remainderLed_130 F self26 h12 v0 v1 v3 v4 v5 v6))) else (if x5 = (-2 : Int32) then ((gI 0 0 h v1).bind fun x8 => (if v4 = 0 then none else (cO 4 h v0 (bind2 (m_X4_pile h v0 ((Int32.toInt64 (remI x8 v4))) (1 : Int64)) fun _ h10 => (b_X4_remainderLed_130 F self26 h10 v0 v1 v3 v4 v5 v6))))) else (cO 4 h v0 (bind2 (m_X4_joinBy F h v0 x5 v4) fun x6 h7 => (if x6 = 0 then (some ((-1 : Int32), h7)) else (b_X4_remainderLed_130 F self26 h7 v0 v1 v3 v4 v5 v6)))))) else (if v4 = 0 then none else (cO 4 h v0 (bind2 (m_X4_pile h v0 ((Int32.toInt64 (remI x5 v4))) (1 : Int64)) fun _ h14 => (b_X4_remainderLed_130 F self26 h14 v0 v1 v3 v4 v5 v6)))))))
set_option maxRecDepth 20000 in
theorem tb_X4_remainderLed_43 {M : MV} {X : XT} {F : Nat} {self26 : PH → Nat → Nat → Int32 → Int32 → Int32 → Int32 → Option (Int32 × PH)} {h hz : PH} {r : Int32} {ce sl mc ms : Nat} {v0 : Nat} {v1 : Nat} {v3 : Int32} {v4 : Int32} {v5 : Int32} {v6 : Int32} (hc : Cx M X RX4 cX4_remainderLed) (hr : Rx M 3 176 mc ms 8) (he : Ex M X (some .int) "remainderLed" (some (.int r)) hz mc ms) (hm : ce ≤ mc) (hs : sl ≤ ms) (ih26 : ∀ (h : PH) (v0 : Nat) (v1 : Nat) (v3 : Int32) (v4 : Int32) (v5 : Int32) (v6 : Int32), self26 h v0 v1 v3 v4 v5 v6 = some (r, hz) → GG M X h ce sl 43 [(0, .ref (X.1 + v0)), (1, .ref (X.1 + v1)), (3, .int v3), (4, .int v4), (5, .int v5), (6, .int v6)] []) (hf : b_X4_remainderLed_43 F self26 h v0 v1 v3 v4 v5 v6 = some (r, hz)) : GG M X h ce sl 43 [(0, .ref (X.1 + v0)), (1, .ref (X.1 + v1)), (3, .int v3), (4, .int v4), (5, .int v5), (6, .int v6)] [] := by
  unfold b_X4_remainderLed_43 at hf
  refine r_iload hc 5 (dc_at dX4_remainderLed 26 rfl) rfl ?_
  refine r_iload hc 4 (dc_at dX4_remainderLed 27 rfl) rfl ?_
  refine r_icmp_ge (tgt := 136) hc (dc_at dX4_remainderLed 28 rfl) (by decide) hf (fun hf => ?_) (fun hf => ?_)
  · refine r_aload_n hc 0 (dc_at dX4_remainderLed 74 rfl) rfl ?_
    refine r_getI hc (dc_at dX4_remainderLed 75 rfl) fl_X4_24 hf fun x1 hf => ?_
    refine r_iconst (1 : Int32) hc (dc_at dX4_remainderLed 76 rfl) (by decide) ?_
    refine r_icmp_ne (tgt := 154) hc (dc_at dX4_remainderLed 77 rfl) (by decide) hf (fun hf => ?_) (fun hf => ?_)
    · refine r_iconst (-1 : Int32) hc (dc_at dX4_remainderLed 84 rfl) (by decide) ?_
      exact r_iret hc he (hm) (hs) (dc_at dX4_remainderLed 85 rfl) hf
    · refine r_aload_n hc 0 (dc_at dX4_remainderLed 78 rfl) rfl ?_
      refine r_getR hc (dc_at dX4_remainderLed 79 rfl) fl_X4_9 hf fun a2 hf => ?_
      refine r_iconst (0 : Int32) hc (dc_at dX4_remainderLed 80 rfl) (by decide) ?_
      refine r_laload hc (dc_at dX4_remainderLed 81 rfl) hf fun x3 hf => ?_
      refine r_l2i hc (dc_at dX4_remainderLed 82 rfl) ?_
      refine r_goto (tgt := 155) hc (dc_at dX4_remainderLed 83 rfl) (by decide) ?_
      exact r_iret hc he (hm) (hs) (dc_at dX4_remainderLed 85 rfl) hf
  · refine r_aload_n hc 1 (dc_at dX4_remainderLed 29 rfl) rfl ?_
    refine r_getR hc (dc_at dX4_remainderLed 30 rfl) fl_X4_31 hf fun a4 hf => ?_
    refine r_iload hc 5 (dc_at dX4_remainderLed 31 rfl) rfl ?_
    refine r_iaload hc (dc_at dX4_remainderLed 32 rfl) hf fun x5 hf => ?_
    refine r_istore [(7, .int x5), (0, .ref (X.1 + v0)), (1, .ref (X.1 + v1)), (3, .int v3), (4, .int v4), (5, .int v5), (6, .int v6)] hc hr (dc_at dX4_remainderLed 33 rfl) (by decide) rfl ?_
    refine r_iload hc 0 (dc_at dX4_remainderLed 34 rfl) rfl ?_
    refine r_if_lt (tgt := 78) hc (dc_at dX4_remainderLed 35 rfl) (by decide) hf (fun hf => ?_) (fun hf => ?_)
    · refine r_iload hc 0 (dc_at dX4_remainderLed 44 rfl) rfl ?_
      refine r_iconst (-1 : Int32) hc (dc_at dX4_remainderLed 45 rfl) (by decide) ?_
      refine r_icmp_ne (tgt := 94) hc (dc_at dX4_remainderLed 46 rfl) (by decide) hf (fun hf => ?_) (fun hf => ?_)
      · refine r_iload hc 0 (dc_at dX4_remainderLed 53 rfl) rfl ?_
        refine r_bipush (-2 : Int32) hc (dc_at dX4_remainderLed 54 rfl) (by decide) ?_
        refine r_icmp_ne (tgt := 117) hc (dc_at dX4_remainderLed 55 rfl) (by decide) hf (fun hf => ?_) (fun hf => ?_)
        · refine r_aload_n hc 1 (dc_at dX4_remainderLed 65 rfl) rfl ?_
          refine r_iload hc 0 (dc_at dX4_remainderLed 66 rfl) rfl ?_
          refine r_iload hc 4 (dc_at dX4_remainderLed 67 rfl) rfl ?_
          obtain ⟨ho, hf⟩ := cO_some hf
          refine ob2 hf fun x6 h7 ex hf => ?_
          refine r_callVi (As := [.int x5, .int v4]) (ci := 4) hc hr (dc_at dX4_remainderLed 68 rfl) ml_X4_71 mv_X4_joinBy vi_X4_joinBy rfl ho rfl (mt_X4_joinBy ex) (by first | exact Nat.le_of_ble_eq_true rfl | omega) (by first | exact Nat.le_of_ble_eq_true rfl | omega) (by first | exact Nat.le_of_ble_eq_true rfl | omega) hm hs ?_
          refine r_if_ne (tgt := 130) hc (dc_at dX4_remainderLed 69 rfl) (by decide) hf (fun hf => ?_) (fun hf => ?_)
          · exact gg_sub [1, 2, 3, 4, 5, 6] rfl (t_X4_remainderLed_130 hc hr he hm hs ih26 hf)
          · refine r_iconst (-1 : Int32) hc (dc_at dX4_remainderLed 70 rfl) (by decide) ?_
            exact r_iret hc he (hm) (hs) (dc_at dX4_remainderLed 71 rfl) hf
        · refine r_aload_n hc 1 (dc_at dX4_remainderLed 56 rfl) rfl ?_
          refine r_aload_n hc 2 (dc_at dX4_remainderLed 57 rfl) rfl ?_
          refine r_getI hc (dc_at dX4_remainderLed 58 rfl) fl_X4_38 hf fun x8 hf => ?_
          refine r_iload hc 4 (dc_at dX4_remainderLed 59 rfl) rfl ?_
          refine r_irem hc (dc_at dX4_remainderLed 60 rfl) hf (fun hf => ?_)
          refine r_i2l hc (dc_at dX4_remainderLed 61 rfl) ?_
          refine r_lconst (1 : Int64) hc (dc_at dX4_remainderLed 62 rfl) (by decide) ?_
          obtain ⟨ho, hf⟩ := cO_some hf
          refine ob2 hf fun u h10 ex hf => ?_
          refine r_callVv (As := [.long ((Int32.toInt64 (remI x8 v4))), .long ((1 : Int64))]) (ci := 4) hc hr (dc_at dX4_remainderLed 63 rfl) ml_X4_34 mv_X4_pile vi_X4_pile rfl ho rfl (mt_X4_pile ex) (by first | exact Nat.le_of_ble_eq_true rfl | omega) (by first | exact Nat.le_of_ble_eq_true rfl | omega) (by first | exact Nat.le_of_ble_eq_true rfl | omega) hm hs ?_
          refine r_goto (tgt := 130) hc (dc_at dX4_remainderLed 64 rfl) (by decide) ?_
          exact gg_sub [1, 2, 3, 4, 5, 6] rfl (t_X4_remainderLed_130 hc hr he hm hs ih26 hf)
      · refine r_aload_n hc 1 (dc_at dX4_remainderLed 47 rfl) rfl ?_
        refine r_iload_n hc 3 (dc_at dX4_remainderLed 48 rfl) rfl ?_
        refine r_i2l hc (dc_at dX4_remainderLed 49 rfl) ?_
        refine r_lconst (1 : Int64) hc (dc_at dX4_remainderLed 50 rfl) (by decide) ?_
        obtain ⟨ho, hf⟩ := cO_some hf
        refine ob2 hf fun u h12 ex hf => ?_
        refine r_callVv (As := [.long ((Int32.toInt64 v3)), .long ((1 : Int64))]) (ci := 4) hc hr (dc_at dX4_remainderLed 51 rfl) ml_X4_34 mv_X4_pile vi_X4_pile rfl ho rfl (mt_X4_pile ex) (by first | exact Nat.le_of_ble_eq_true rfl | omega) (by first | exact Nat.le_of_ble_eq_true rfl | omega) (by first | exact Nat.le_of_ble_eq_true rfl | omega) hm hs ?_
        refine r_goto (tgt := 130) hc (dc_at dX4_remainderLed 52 rfl) (by decide) ?_
        exact gg_sub [1, 2, 3, 4, 5, 6] rfl (t_X4_remainderLed_130 hc hr he hm hs ih26 hf)
    · refine r_aload_n hc 1 (dc_at dX4_remainderLed 36 rfl) rfl ?_
      refine r_iload hc 0 (dc_at dX4_remainderLed 37 rfl) rfl ?_
      refine r_iload hc 4 (dc_at dX4_remainderLed 38 rfl) rfl ?_
      refine r_irem hc (dc_at dX4_remainderLed 39 rfl) hf (fun hf => ?_)
      refine r_i2l hc (dc_at dX4_remainderLed 40 rfl) ?_
      refine r_lconst (1 : Int64) hc (dc_at dX4_remainderLed 41 rfl) (by decide) ?_
      obtain ⟨ho, hf⟩ := cO_some hf
      refine ob2 hf fun u h14 ex hf => ?_
      refine r_callVv (As := [.long ((Int32.toInt64 (remI x5 v4))), .long ((1 : Int64))]) (ci := 4) hc hr (dc_at dX4_remainderLed 42 rfl) ml_X4_34 mv_X4_pile vi_X4_pile rfl ho rfl (mt_X4_pile ex) (by first | exact Nat.le_of_ble_eq_true rfl | omega) (by first | exact Nat.le_of_ble_eq_true rfl | omega) (by first | exact Nat.le_of_ble_eq_true rfl | omega) hm hs ?_
      refine r_goto (tgt := 130) hc (dc_at dX4_remainderLed 43 rfl) (by decide) ?_
      exact gg_sub [1, 2, 3, 4, 5, 6] rfl (t_X4_remainderLed_130 hc hr he hm hs ih26 hf)
def l_X4_remainderLed_43 (F : Nat) : Nat → PH → Nat → Nat → Int32 → Int32 → Int32 → Int32 → Option (Int32 × PH)
  | 0 => fun _ _ _ _ _ _ _ => none
  | n + 1 => fun h v0 v1 v3 v4 v5 v6 => b_X4_remainderLed_43 F (l_X4_remainderLed_43 F n) h v0 v1 v3 v4 v5 v6
theorem tl_X4_remainderLed_43 {M : MV} {X : XT} {F : Nat} {hz : PH} {r : Int32} {ce sl mc ms : Nat} (hc : Cx M X RX4 cX4_remainderLed) (hr : Rx M 3 176 mc ms 8) (he : Ex M X (some .int) "remainderLed" (some (.int r)) hz mc ms) (hm : ce ≤ mc) (hs : sl ≤ ms) (n : Nat) : ∀ (h : PH) (v0 : Nat) (v1 : Nat) (v3 : Int32) (v4 : Int32) (v5 : Int32) (v6 : Int32), l_X4_remainderLed_43 F n h v0 v1 v3 v4 v5 v6 = some (r, hz) → GG M X h ce sl 43 [(0, .ref (X.1 + v0)), (1, .ref (X.1 + v1)), (3, .int v3), (4, .int v4), (5, .int v5), (6, .int v6)] [] := by
  induction n with
  | zero => intro h v0 v1 v3 v4 v5 v6 hf; cases hf
  | succ n ih => intro h v0 v1 v3 v4 v5 v6 hf; exact tb_X4_remainderLed_43 (F := F) hc hr he hm hs  ih hf
def b_X4_remainderLed_0 (F : Nat) (h : PH) (v0 : Nat) (v1 : Nat) (v2 : Int32) (v3 : Int32) (v4 : Int32) : Option (Int32 × PH) := if v2 < 0 then (some ((-1 : Int32), h)) else ((gI 0 6 h v1).bind fun x1 => (if x1 ≤ v2 then (some ((-1 : Int32), h)) else (if (2 : Int32) ≤ v4 then ((pV 4 4 (.int (0 : Int32)) h v0).bind fun h2 => ((gR 0 7 h2 v1).bind fun a3 => ((aI 0 h2 a3 ((v2 + (1 : Int32)))).bind fun x4 => ((gR 0 7 h2 v1).bind fun a5 => ((aI 0 h2 a5 v2).bind fun x6 => (l_X4_remainderLed_43 F F h2 v0 v1 v3 v4 x4 x6)))))) else (some ((-1 : Int32), h)))))
set_option maxRecDepth 20000 in
theorem t_X4_remainderLed_0 {M : MV} {X : XT} {F : Nat} {h hz : PH} {r : Int32} {ce sl mc ms : Nat} {v0 : Nat} {v1 : Nat} {v2 : Int32} {v3 : Int32} {v4 : Int32} (hc : Cx M X RX4 cX4_remainderLed) (hr : Rx M 3 176 mc ms 8) (he : Ex M X (some .int) "remainderLed" (some (.int r)) hz mc ms) (hm : ce ≤ mc) (hs : sl ≤ ms) (hf : b_X4_remainderLed_0 F h v0 v1 v2 v3 v4 = some (r, hz)) : GG M X h ce sl 0 [(0, .ref (X.1 + v0)), (1, .ref (X.1 + v1)), (2, .int v2), (3, .int v3), (4, .int v4)] [] := by
  unfold b_X4_remainderLed_0 at hf
  refine r_iload_n hc 2 (dc_at dX4_remainderLed 0 rfl) rfl ?_
  refine r_if_lt (tgt := 18) hc (dc_at dX4_remainderLed 1 rfl) (by decide) hf (fun hf => ?_) (fun hf => ?_)
  · refine r_iconst (-1 : Int32) hc (dc_at dX4_remainderLed 9 rfl) (by decide) ?_
    exact r_iret hc he (hm) (hs) (dc_at dX4_remainderLed 10 rfl) hf
  · refine r_iload_n hc 2 (dc_at dX4_remainderLed 2 rfl) rfl ?_
    refine r_aload_n hc 1 (dc_at dX4_remainderLed 3 rfl) rfl ?_
    refine r_getI hc (dc_at dX4_remainderLed 4 rfl) fl_X4_18 hf fun x1 hf => ?_
    refine r_icmp_ge (tgt := 18) hc (dc_at dX4_remainderLed 5 rfl) (by decide) hf (fun hf => ?_) (fun hf => ?_)
    · refine r_iconst (-1 : Int32) hc (dc_at dX4_remainderLed 9 rfl) (by decide) ?_
      exact r_iret hc he (hm) (hs) (dc_at dX4_remainderLed 10 rfl) hf
    · refine r_iload hc 4 (dc_at dX4_remainderLed 6 rfl) rfl ?_
      refine r_iconst (2 : Int32) hc (dc_at dX4_remainderLed 7 rfl) (by decide) ?_
      refine r_icmp_ge (tgt := 20) hc (dc_at dX4_remainderLed 8 rfl) (by decide) hf (fun hf => ?_) (fun hf => ?_)
      · refine r_aload_n hc 0 (dc_at dX4_remainderLed 11 rfl) rfl ?_
        refine r_iconst (0 : Int32) hc (dc_at dX4_remainderLed 12 rfl) (by decide) ?_
        refine r_putI hc he (dc_at dX4_remainderLed 13 rfl) fp_X4_24 (fun q => by cases q) hf fun h2 hf => ?_
        refine r_aload_n hc 1 (dc_at dX4_remainderLed 14 rfl) rfl ?_
        refine r_getR hc (dc_at dX4_remainderLed 15 rfl) fl_X4_27 hf fun a3 hf => ?_
        refine r_iload_n hc 2 (dc_at dX4_remainderLed 16 rfl) rfl ?_
        refine r_iconst (1 : Int32) hc (dc_at dX4_remainderLed 17 rfl) (by decide) ?_
        refine r_iadd hc (dc_at dX4_remainderLed 18 rfl) ?_
        refine r_iaload hc (dc_at dX4_remainderLed 19 rfl) hf fun x4 hf => ?_
        refine r_istore [(5, .int x4), (0, .ref (X.1 + v0)), (1, .ref (X.1 + v1)), (2, .int v2), (3, .int v3), (4, .int v4)] hc hr (dc_at dX4_remainderLed 20 rfl) (by decide) rfl ?_
        refine r_aload_n hc 2 (dc_at dX4_remainderLed 21 rfl) rfl ?_
        refine r_getR hc (dc_at dX4_remainderLed 22 rfl) fl_X4_27 hf fun a5 hf => ?_
        refine r_iload_n hc 3 (dc_at dX4_remainderLed 23 rfl) rfl ?_
        refine r_iaload hc (dc_at dX4_remainderLed 24 rfl) hf fun x6 hf => ?_
        refine r_istore [(6, .int x6), (5, .int x4), (0, .ref (X.1 + v0)), (1, .ref (X.1 + v1)), (2, .int v2), (3, .int v3), (4, .int v4)] hc hr (dc_at dX4_remainderLed 25 rfl) (by decide) rfl ?_
        exact gg_sub [2, 3, 5, 6, 1, 0] rfl (tl_X4_remainderLed_43 hc hr he hm hs  F _ _ _ _ _ _ _ hf)
      · refine r_iconst (-1 : Int32) hc (dc_at dX4_remainderLed 9 rfl) (by decide) ?_
        exact r_iret hc he (hm) (hs) (dc_at dX4_remainderLed 10 rfl) hf
def m_X4_remainderLed (F : Nat) (h : PH) (p0 : Nat) (p1 : Nat) (p2 : Int32) (p3 : Int32) (p4 : Int32) : Option (Int32 × PH) := b_X4_remainderLed_0 F h p0 p1 p2 p3 p4
theorem mt_X4_remainderLed {l : Launch} {X : XT} {F : Nat} {h hz : PH} {p0 : Nat} {p1 : Nat} {p2 : Int32} {p3 : Int32} {p4 : Int32} {r : Int32} (ex : m_X4_remainderLed F h p0 p1 p2 p3 p4 = some (r, hz)) : MT l X yX4_remainderLed cX4_remainderLed 8 (some .int) 3 176 0 0 [.ref (X.1 + p0), .ref (X.1 + p1), .int p2, .int p3, .int p4] h (some (.int r)) hz := MT.of (by decide) (Nat.le_of_ble_eq_true rfl) fun M hl hc hr he => by
  subst hl
  exact gg_sub [0, 1, 2, 3, 4] rfl (t_X4_remainderLed_0  hc hr he (Nat.zero_le _) (Nat.zero_le _) ex)
/-! FractionLift$Routes.<init>(LFractionLift$Reckoner;)V -/
def lX5_initL : List (Nat × Instr × Nat × Nat) := [(0, .aload_n 0, 1, 1), (1, .invokespecial 3, 3, 4), (4, .aload_n 0, 1, 5), (5, .aload_n 1, 1, 6), (6, .putfield 9, 3, 9), (9, .aload_n 0, 1, 10), (10, .new 15, 3, 13), (13, .dup, 1, 14), (14, .invokespecial 17, 3, 17), (17, .putfield 18, 3, 20), (20, .aload_n 0, 1, 21), (21, .bipush 8, 2, 23), (23, .newarray .int, 2, 25), (25, .putfield 22, 3, 28), (28, .aload_n 0, 1, 29), (29, .bipush 8, 2, 31), (31, .newarray .int, 2, 33), (33, .putfield 26, 3, 36), (36, .return_, 1, 37)]
set_option maxRecDepth 20000 in
theorem dX5_init : dcL cX5_init lX5_initL = true := by decide +kernel
def b_X5_init_0 (h : PH) (v0 : Nat) (v1 : Nat) : Option (Unit × PH) := (pV 5 4 (.ref v1) h v0).bind fun h1 => (bindv h1.length fun a2 => (bindv (h1 ++ [.inr (1, df1)]) fun h3 => (bind2 (m_X1_init h3 a2) fun _ h5 => ((pV 5 0 (.ref a2) h5 v0).bind fun h6 => (bindv h6.length fun a7 => (bindv (h6 ++ [.inl (0, 8, .inl (fun _ => 0))]) fun h8 => ((pV 5 1 (.ref a7) h8 v0).bind fun h9 => (bindv h9.length fun a10 => (bindv (h9 ++ [.inl (0, 8, .inl (fun _ => 0))]) fun h11 => ((pV 5 2 (.ref a10) h11 v0).bind fun h12 => (some ((), h12))))))))))))
set_option maxRecDepth 20000 in
theorem t_X5_init_0 {M : MV} {X : XT} {h hz : PH} {r : Unit} {v0 : Nat} {v1 : Nat} (hc : Cx M X RX5 cX5_init) (hr : Rx M 2 118 9 46050 2) (he : Ex M X none "<init>" none hz 9 46050) (hm : 0 ≤ 9) (hs : 0 ≤ 46050) (hf : b_X5_init_0 h v0 v1 = some (r, hz)) : GG M X h 0 0 0 [(0, .ref (X.1 + v0)), (1, .ref (X.1 + v1))] [] := by
  unfold b_X5_init_0 at hf
  refine r_aload_n hc 0 (dc_at dX5_init 0 rfl) rfl ?_
  refine r_objinit hc hr (dc_at dX5_init 1 rfl) oi_X5_3 oiw (by first | exact Nat.le_of_ble_eq_true rfl | omega) (by first | exact Nat.le_of_ble_eq_true rfl | omega) ?_
  refine r_aload_n hc 0 (dc_at dX5_init 2 rfl) rfl ?_
  refine r_aload_n hc 1 (dc_at dX5_init 3 rfl) rfl ?_
  refine r_putR hc he (dc_at dX5_init 4 rfl) fp_X5_9 (fun _ => rfl) ⟨rfl, fun _ => ⟨rfl, rfl⟩⟩ hf fun h1 hf => ?_
  refine r_aload_n hc 0 (dc_at dX5_init 5 rfl) rfl ?_
  refine r_newN (N := 7) hc hr (dc_at dX5_init 6 rfl) nw_X5_15 (Nat.le_of_ble_eq_true rfl) (Nat.le_of_ble_eq_true rfl) hf fun a2 h3 hf => ?_
  refine r_dup hc (dc_at dX5_init 7 rfl) rfl ?_
  refine ob2 hf fun u h5 ex hf => ?_
  refine r_callIC (As := []) hc hr (dc_at dX5_init 8 rfl) ml_X5_17 mv_X1_init im_X1_init rfl rfl (mt_X1_init ex) (by first | exact Nat.le_of_ble_eq_true rfl | omega) (by first | exact Nat.le_of_ble_eq_true rfl | omega) (by first | exact Nat.le_of_ble_eq_true rfl | omega) (Nat.le_of_ble_eq_true rfl) (Nat.le_of_ble_eq_true rfl) ?_
  refine r_putR hc he (dc_at dX5_init 9 rfl) fp_X5_18 (fun _ => rfl) ⟨rfl, fun _ => ⟨rfl, rfl⟩⟩ hf fun h6 hf => ?_
  refine r_aload_n hc 0 (dc_at dX5_init 10 rfl) rfl ?_
  refine r_bipush (8 : Int32) hc (dc_at dX5_init 11 rfl) (by decide) ?_
  refine r_newarrN (t := 0) (N := 8) (ty := .int) hc hr (dc_at dX5_init 12 rfl) arr_int rfl (fun _ _ z => z) rfl (fun _ => rfl) (by decide) (by decide) (by decide) (Nat.le_of_ble_eq_true rfl) (Nat.le_of_ble_eq_true rfl) hf fun a7 h8 hf => ?_
  refine r_putR hc he (dc_at dX5_init 13 rfl) fp_X5_22 (fun _ => rfl) ⟨rfl, fun _ => ⟨rfl, rfl⟩⟩ hf fun h9 hf => ?_
  refine r_aload_n hc 0 (dc_at dX5_init 14 rfl) rfl ?_
  refine r_bipush (8 : Int32) hc (dc_at dX5_init 15 rfl) (by decide) ?_
  refine r_newarrN (t := 0) (N := 8) (ty := .int) hc hr (dc_at dX5_init 16 rfl) arr_int rfl (fun _ _ z => z) rfl (fun _ => rfl) (by decide) (by decide) (by decide) (Nat.le_of_ble_eq_true rfl) (Nat.le_of_ble_eq_true rfl) hf fun a10 h11 hf => ?_
  refine r_putR hc he (dc_at dX5_init 17 rfl) fp_X5_26 (fun _ => rfl) ⟨rfl, fun _ => ⟨rfl, rfl⟩⟩ hf fun h12 hf => ?_
  exact r_vret hc he (Nat.le_of_ble_eq_true rfl) (Nat.le_of_ble_eq_true rfl) (dc_at dX5_init 18 rfl) hf
def m_X5_init (h : PH) (p0 : Nat) (p1 : Nat) : Option (Unit × PH) := b_X5_init_0 h p0 p1
theorem mt_X5_init {l : Launch} {X : XT} {h hz : PH} {p0 : Nat} {p1 : Nat} {r : Unit} (ex : m_X5_init h p0 p1 = some (r, hz)) : MT l X yX5_init cX5_init 2 none 2 118 9 46050 [.ref (X.1 + p0), .ref (X.1 + p1)] h none hz := MT.of (by decide) (Nat.le_of_ble_eq_true rfl) fun M hl hc hr he => by
  subst hl
  exact gg_sub [0, 1] rfl (t_X5_init_0  hc hr he (Nat.zero_le _) (Nat.zero_le _) ex)
/-! FractionLift$Routes.begin(LFractionLift$House;)V -/
def lX5_beginL : List (Nat × Instr × Nat × Nat) := [(0, .aload_n 0, 1, 1), (1, .aload_n 1, 1, 2), (2, .putfield 29, 3, 5), (5, .aload_n 0, 1, 6), (6, .getfield 18, 3, 9), (9, .invokevirtual 33, 3, 12), (12, .aload_n 0, 1, 13), (13, .getfield 18, 3, 16), (16, .aload_n 1, 1, 17), (17, .getfield 36, 3, 20), (20, .aload_n 1, 1, 21), (21, .getfield 42, 3, 24), (24, .iconst (-1), 1, 25), (25, .invokevirtual 45, 3, 28), (28, .return_, 1, 29)]
set_option maxRecDepth 20000 in
theorem dX5_begin : dcL cX5_begin lX5_beginL = true := by decide +kernel
def b_X5_begin_0 (F : Nat) (h : PH) (v0 : Nat) (v1 : Nat) : Option (Unit × PH) := (pV 5 5 (.ref v1) h v0).bind fun h1 => ((gR 5 0 h1 v0).bind fun a2 => (cO 1 h1 a2 (bind2 (m_X1_clearAll F h1 a2) fun _ h4 => ((gR 5 0 h4 v0).bind fun a5 => ((gI 0 4 h4 v1).bind fun x6 => ((gI 0 5 h4 v1).bind fun x7 => (cO 1 h4 a5 (bind2 (m_X1_put h4 a5 x6 x7 (-1 : Int32)) fun _ h9 => (some ((), h9))))))))))
set_option maxRecDepth 20000 in
theorem t_X5_begin_0 {M : MV} {X : XT} {F : Nat} {h hz : PH} {r : Unit} {ce sl mc ms : Nat} {v0 : Nat} {v1 : Nat} (hc : Cx M X RX5 cX5_begin) (hr : Rx M 3 176 mc ms 2) (he : Ex M X none "begin" none hz mc ms) (hm : ce ≤ mc) (hs : sl ≤ ms) (hf : b_X5_begin_0 F h v0 v1 = some (r, hz)) : GG M X h ce sl 0 [(0, .ref (X.1 + v0)), (1, .ref (X.1 + v1))] [] := by
  unfold b_X5_begin_0 at hf
  refine r_aload_n hc 0 (dc_at dX5_begin 0 rfl) rfl ?_
  refine r_aload_n hc 1 (dc_at dX5_begin 1 rfl) rfl ?_
  refine r_putR hc he (dc_at dX5_begin 2 rfl) fp_X5_29 (fun q => by cases q) ⟨rfl, fun _ => ⟨rfl, rfl⟩⟩ hf fun h1 hf => ?_
  refine r_aload_n hc 0 (dc_at dX5_begin 3 rfl) rfl ?_
  refine r_getR hc (dc_at dX5_begin 4 rfl) fl_X5_18 hf fun a2 hf => ?_
  obtain ⟨ho, hf⟩ := cO_some hf
  refine ob2 hf fun u h4 ex hf => ?_
  refine r_callVv (As := []) (ci := 1) hc hr (dc_at dX5_begin 5 rfl) ml_X5_33 mv_X1_clearAll vi_X1_clearAll rfl ho rfl (mt_X1_clearAll ex) (by first | exact Nat.le_of_ble_eq_true rfl | omega) (by first | exact Nat.le_of_ble_eq_true rfl | omega) (by first | exact Nat.le_of_ble_eq_true rfl | omega) hm hs ?_
  refine r_aload_n hc 0 (dc_at dX5_begin 6 rfl) rfl ?_
  refine r_getR hc (dc_at dX5_begin 7 rfl) fl_X5_18 hf fun a5 hf => ?_
  refine r_aload_n hc 1 (dc_at dX5_begin 8 rfl) rfl ?_
  refine r_getI hc (dc_at dX5_begin 9 rfl) fl_X5_36 hf fun x6 hf => ?_
  refine r_aload_n hc 1 (dc_at dX5_begin 10 rfl) rfl ?_
  refine r_getI hc (dc_at dX5_begin 11 rfl) fl_X5_42 hf fun x7 hf => ?_
  refine r_iconst (-1 : Int32) hc (dc_at dX5_begin 12 rfl) (by decide) ?_
  obtain ⟨ho, hf⟩ := cO_some hf
  refine ob2 hf fun u h9 ex hf => ?_
  refine r_callVv (As := [.int x6, .int x7, .int ((-1 : Int32))]) (ci := 1) hc hr (dc_at dX5_begin 13 rfl) ml_X5_45 mv_X1_put vi_X1_put rfl ho rfl (mt_X1_put ex) (by first | exact Nat.le_of_ble_eq_true rfl | omega) (by first | exact Nat.le_of_ble_eq_true rfl | omega) (by first | exact Nat.le_of_ble_eq_true rfl | omega) hm hs ?_
  exact r_vret hc he (hm) (hs) (dc_at dX5_begin 14 rfl) hf
def m_X5_begin (F : Nat) (h : PH) (p0 : Nat) (p1 : Nat) : Option (Unit × PH) := b_X5_begin_0 F h p0 p1
theorem mt_X5_begin {l : Launch} {X : XT} {F : Nat} {h hz : PH} {p0 : Nat} {p1 : Nat} {r : Unit} (ex : m_X5_begin F h p0 p1 = some (r, hz)) : MT l X yX5_begin cX5_begin 2 none 3 176 0 0 [.ref (X.1 + p0), .ref (X.1 + p1)] h none hz := MT.of (by decide) (Nat.le_of_ble_eq_true rfl) fun M hl hc hr he => by
  subst hl
  exact gg_sub [0, 1] rfl (t_X5_begin_0  hc hr he (Nat.zero_le _) (Nat.zero_le _) ex)
/-! FractionLift$Routes.stepTowards(IIII)Z -/
def lX5_stepTowardsL : List (Nat × Instr × Nat × Nat) := [(0, .iload_n 3, 1, 1), (1, .istore 5, 2, 3), (3, .iload 5, 2, 5), (5, .iload 4, 2, 7), (7, .if_icmp .ge 182, 3, 10), (10, .iconst 0, 1, 11), (11, .istore 6, 2, 13), (13, .iload 6, 2, 15), (15, .aload_n 0, 1, 16), (16, .getfield 29, 3, 19), (19, .getfield 63, 3, 22), (22, .if_icmp .ge 161, 3, 25), (25, .aload_n 0, 1, 26), (26, .getfield 9, 3, 29), (29, .aload_n 0, 1, 30), (30, .getfield 29, 3, 33), (33, .iload 6, 2, 35), (35, .aload_n 0, 1, 36), (36, .getfield 18, 3, 39), (39, .getfield 66, 3, 42), (42, .iload 5, 2, 44), (44, .iaload, 1, 45), (45, .i2l, 1, 46), (46, .aload_n 0, 1, 47), (47, .getfield 18, 3, 50), (50, .getfield 69, 3, 53), (53, .iload 5, 2, 55), (55, .iaload, 1, 56), (56, .i2l, 1, 57), (57, .invokevirtual 72, 3, 60), (60, .ifCond .eq 6, 3, 63), (63, .goto 114, 3, 66), (66, .aload_n 0, 1, 67), (67, .getfield 9, 3, 70), (70, .getfield 78, 3, 73), (73, .iload_n 1, 1, 74), (74, .if_icmp .ne 28, 3, 77), (77, .aload_n 0, 1, 78), (78, .getfield 9, 3, 81), (81, .getfield 80, 3, 84), (84, .iload_n 2, 1, 85), (85, .if_icmp .ne 17, 3, 88), (88, .aload_n 0, 1, 89), (89, .iload 5, 2, 91), (91, .bipush 6, 2, 93), (93, .imul, 1, 94), (94, .iload 6, 2, 96), (96, .iadd, 1, 97), (97, .putfield 56, 3, 100), (100, .iconst 1, 1, 101), (101, .ireturn, 1, 102), (102, .aload_n 0, 1, 103), (103, .getfield 18, 3, 106), (106, .getfield 49, 3, 109), (109, .sipush 2000, 3, 112), (112, .if_icmp .gt 65, 3, 115), (115, .aload_n 0, 1, 116), (116, .getfield 18, 3, 119), (119, .aload_n 0, 1, 120), (120, .getfield 9, 3, 123), (123, .getfield 78, 3, 126), (126, .aload_n 0, 1, 127), (127, .getfield 9, 3, 130), (130, .getfield 80, 3, 133), (133, .iconst 0, 1, 134), (134, .aload_n 0, 1, 135), (135, .getfield 18, 3, 138), (138, .getfield 49, 3, 141), (141, .invokevirtual 82, 3, 144), (144, .iconst (-1), 1, 145), (145, .if_icmp .ne 32, 3, 148), (148, .aload_n 0, 1, 149), (149, .getfield 18, 3, 152), (152, .aload_n 0, 1, 153), (153, .getfield 9, 3, 156), (156, .getfield 78, 3, 159), (159, .aload_n 0, 1, 160), (160, .getfield 9, 3, 163), (163, .getfield 80, 3, 166), (166, .iload 5, 2, 168), (168, .bipush 6, 2, 170), (170, .imul, 1, 171), (171, .iload 6, 2, 173), (173, .iadd, 1, 174), (174, .invokevirtual 45, 3, 177), (177, .iinc 6 1, 3, 180), (180, .goto (-167), 3, 183), (183, .iinc 5 1, 3, 186), (186, .goto (-183), 3, 189), (189, .iconst 0, 1, 190), (190, .ireturn, 1, 191)]
set_option maxRecDepth 20000 in
theorem dX5_stepTowards : dcL cX5_stepTowards lX5_stepTowardsL = true := by decide +kernel
def b_X5_stepTowards_177 (F : Nat) (self2 : PH → Nat → Int32 → Int32 → Int32 → Int32 → Option (Int32 × PH)) (self7 : PH → Nat → Int32 → Int32 → Int32 → Int32 → Int32 → Option (Int32 × PH)) (h : PH) (v0 : Nat) (v1 : Int32) (v2 : Int32) (v4 : Int32) (v5 : Int32) (v6 : Int32) : Option (Int32 × PH) := bindv (v6 + (1)) fun x1 => (self7 h v0 v1 v2 v4 v5 x1)
set_option maxRecDepth 20000 in
theorem t_X5_stepTowards_177 {M : MV} {X : XT} {F : Nat} {self2 : PH → Nat → Int32 → Int32 → Int32 → Int32 → Option (Int32 × PH)} {self7 : PH → Nat → Int32 → Int32 → Int32 → Int32 → Int32 → Option (Int32 × PH)} {h hz : PH} {r : Int32} {ce sl mc ms : Nat} {v0 : Nat} {v1 : Int32} {v2 : Int32} {v4 : Int32} {v5 : Int32} {v6 : Int32} (hc : Cx M X RX5 cX5_stepTowards) (hr : Rx M 5 292 mc ms 7) (he : Ex M X (some .boolean) "stepTowards" (some (.int r)) hz mc ms) (hm : ce ≤ mc) (hs : sl ≤ ms) (ih2 : ∀ (h : PH) (v0 : Nat) (v1 : Int32) (v2 : Int32) (v4 : Int32) (v5 : Int32), self2 h v0 v1 v2 v4 v5 = some (r, hz) → GG M X h ce sl 3 [(0, .ref (X.1 + v0)), (1, .int v1), (2, .int v2), (4, .int v4), (5, .int v5)] []) (ih7 : ∀ (h : PH) (v0 : Nat) (v1 : Int32) (v2 : Int32) (v4 : Int32) (v5 : Int32) (v6 : Int32), self7 h v0 v1 v2 v4 v5 v6 = some (r, hz) → GG M X h ce sl 13 [(0, .ref (X.1 + v0)), (1, .int v1), (2, .int v2), (4, .int v4), (5, .int v5), (6, .int v6)] []) (hf : b_X5_stepTowards_177 F self2 self7 h v0 v1 v2 v4 v5 v6 = some (r, hz)) : GG M X h ce sl 177 [(0, .ref (X.1 + v0)), (1, .int v1), (2, .int v2), (4, .int v4), (5, .int v5), (6, .int v6)] [] := by
  unfold b_X5_stepTowards_177 at hf
  refine obv hf fun x1 e_x1 hf => ?_
  refine r_iinc 5 [(6, .int x1), (0, .ref (X.1 + v0)), (1, .int v1), (2, .int v2), (4, .int v4), (5, .int v5)] hc hr (dc_at dX5_stepTowards 85 rfl) rfl (by rw [e_x1]; rfl) (by decide) rfl ?_
  refine r_goto (tgt := 13) hc (dc_at dX5_stepTowards 86 rfl) (by decide) ?_
  exact gg_sub [1, 2, 3, 4, 5, 0] rfl (ih7 _ _ _ _ _ _ _ hf)
def b_X5_stepTowards_102 (F : Nat) (self2 : PH → Nat → Int32 → Int32 → Int32 → Int32 → Option (Int32 × PH)) (self7 : PH → Nat → Int32 → Int32 → Int32 → Int32 → Int32 → Option (Int32 × PH)) (h : PH) (v0 : Nat) (v1 : Int32) (v2 : Int32) (v4 : Int32) (v5 : Int32) (v6 : Int32) : Option (Int32 × PH) := (gR 5 0 h v0).bind fun a1 => ((gI 1 4 h a1).bind fun x2 => (if (2000 : Int32) < x2 then (b_X5_stepTowards_177 F self2 self7 h v0 v1 v2 v4 v5 v6) else ((gR 5 0 h v0).bind fun a3 => ((gR 5 4 h v0).bind fun a4 => ((gI 4 0 h a4).bind fun x5 => ((gR 5 4 h v0).bind fun a6 => ((gI 4 1 h a6).bind fun x7 => ((gR 5 0 h v0).bind fun a8 => ((gI 1 4 h a8).bind fun x9 => (cO 1 h a3 ((m_X1_find F h a3 x5 x7 (0 : Int32) x9).bind fun x10 => (if x10 = (-1 : Int32) then ((gR 5 0 h v0).bind fun a11 => ((gR 5 4 h v0).bind fun a12 => ((gI 4 0 h a12).bind fun x13 => ((gR 5 4 h v0).bind fun a14 => ((gI 4 1 h a14).bind fun x15 => (cO 1 h a11 (bind2 (m_X1_put h a11 x13 x15 ((((v5 * (6 : Int32))) + v6))) fun _ h17 => (b_X5_stepTowards_177 F self2 self7 h17 v0 v1 v2 v4 v5 v6)))))))) else (b_X5_stepTowards_177 F self2 self7 h v0 v1 v2 v4 v5 v6)))))))))))))
set_option maxRecDepth 20000 in
theorem t_X5_stepTowards_102 {M : MV} {X : XT} {F : Nat} {self2 : PH → Nat → Int32 → Int32 → Int32 → Int32 → Option (Int32 × PH)} {self7 : PH → Nat → Int32 → Int32 → Int32 → Int32 → Int32 → Option (Int32 × PH)} {h hz : PH} {r : Int32} {ce sl mc ms : Nat} {v0 : Nat} {v1 : Int32} {v2 : Int32} {v4 : Int32} {v5 : Int32} {v6 : Int32} (hc : Cx M X RX5 cX5_stepTowards) (hr : Rx M 5 292 mc ms 7) (he : Ex M X (some .boolean) "stepTowards" (some (.int r)) hz mc ms) (hm : ce ≤ mc) (hs : sl ≤ ms) (ih2 : ∀ (h : PH) (v0 : Nat) (v1 : Int32) (v2 : Int32) (v4 : Int32) (v5 : Int32), self2 h v0 v1 v2 v4 v5 = some (r, hz) → GG M X h ce sl 3 [(0, .ref (X.1 + v0)), (1, .int v1), (2, .int v2), (4, .int v4), (5, .int v5)] []) (ih7 : ∀ (h : PH) (v0 : Nat) (v1 : Int32) (v2 : Int32) (v4 : Int32) (v5 : Int32) (v6 : Int32), self7 h v0 v1 v2 v4 v5 v6 = some (r, hz) → GG M X h ce sl 13 [(0, .ref (X.1 + v0)), (1, .int v1), (2, .int v2), (4, .int v4), (5, .int v5), (6, .int v6)] []) (hf : b_X5_stepTowards_102 F self2 self7 h v0 v1 v2 v4 v5 v6 = some (r, hz)) : GG M X h ce sl 102 [(0, .ref (X.1 + v0)), (1, .int v1), (2, .int v2), (4, .int v4), (5, .int v5), (6, .int v6)] [] := by
  unfold b_X5_stepTowards_102 at hf
  refine r_aload_n hc 0 (dc_at dX5_stepTowards 51 rfl) rfl ?_
  refine r_getR hc (dc_at dX5_stepTowards 52 rfl) fl_X5_18 hf fun a1 hf => ?_
  refine r_getI hc (dc_at dX5_stepTowards 53 rfl) fl_X5_49 hf fun x2 hf => ?_
  refine r_sipush (2000 : Int32) hc (dc_at dX5_stepTowards 54 rfl) (by decide) ?_
  refine r_icmp_gt (tgt := 177) hc (dc_at dX5_stepTowards 55 rfl) (by decide) hf (fun hf => ?_) (fun hf => ?_)
  · exact gg_sub [0, 1, 2, 3, 4, 5] rfl (t_X5_stepTowards_177 hc hr he hm hs ih2 ih7 hf)
  · refine r_aload_n hc 0 (dc_at dX5_stepTowards 56 rfl) rfl ?_
    refine r_getR hc (dc_at dX5_stepTowards 57 rfl) fl_X5_18 hf fun a3 hf => ?_
    refine r_aload_n hc 0 (dc_at dX5_stepTowards 58 rfl) rfl ?_
    refine r_getR hc (dc_at dX5_stepTowards 59 rfl) fl_X5_9 hf fun a4 hf => ?_
    refine r_getI hc (dc_at dX5_stepTowards 60 rfl) fl_X5_78 hf fun x5 hf => ?_
    refine r_aload_n hc 0 (dc_at dX5_stepTowards 61 rfl) rfl ?_
    refine r_getR hc (dc_at dX5_stepTowards 62 rfl) fl_X5_9 hf fun a6 hf => ?_
    refine r_getI hc (dc_at dX5_stepTowards 63 rfl) fl_X5_80 hf fun x7 hf => ?_
    refine r_iconst (0 : Int32) hc (dc_at dX5_stepTowards 64 rfl) (by decide) ?_
    refine r_aload_n hc 0 (dc_at dX5_stepTowards 65 rfl) rfl ?_
    refine r_getR hc (dc_at dX5_stepTowards 66 rfl) fl_X5_18 hf fun a8 hf => ?_
    refine r_getI hc (dc_at dX5_stepTowards 67 rfl) fl_X5_49 hf fun x9 hf => ?_
    obtain ⟨ho, hf⟩ := cO_some hf
    refine ob hf fun x10 ex hf => ?_
    refine r_callVi (As := [.int x5, .int x7, .int ((0 : Int32)), .int x9]) (ci := 1) hc hr (dc_at dX5_stepTowards 68 rfl) ml_X5_82 mv_X1_find vi_X1_find rfl ho rfl (mt_X1_find ex) (by first | exact Nat.le_of_ble_eq_true rfl | omega) (by first | exact Nat.le_of_ble_eq_true rfl | omega) (by first | exact Nat.le_of_ble_eq_true rfl | omega) hm hs ?_
    refine r_iconst (-1 : Int32) hc (dc_at dX5_stepTowards 69 rfl) (by decide) ?_
    refine r_icmp_ne (tgt := 177) hc (dc_at dX5_stepTowards 70 rfl) (by decide) hf (fun hf => ?_) (fun hf => ?_)
    · exact gg_sub [0, 1, 2, 3, 4, 5] rfl (t_X5_stepTowards_177 hc hr he hm hs ih2 ih7 hf)
    · refine r_aload_n hc 0 (dc_at dX5_stepTowards 71 rfl) rfl ?_
      refine r_getR hc (dc_at dX5_stepTowards 72 rfl) fl_X5_18 hf fun a11 hf => ?_
      refine r_aload_n hc 0 (dc_at dX5_stepTowards 73 rfl) rfl ?_
      refine r_getR hc (dc_at dX5_stepTowards 74 rfl) fl_X5_9 hf fun a12 hf => ?_
      refine r_getI hc (dc_at dX5_stepTowards 75 rfl) fl_X5_78 hf fun x13 hf => ?_
      refine r_aload_n hc 0 (dc_at dX5_stepTowards 76 rfl) rfl ?_
      refine r_getR hc (dc_at dX5_stepTowards 77 rfl) fl_X5_9 hf fun a14 hf => ?_
      refine r_getI hc (dc_at dX5_stepTowards 78 rfl) fl_X5_80 hf fun x15 hf => ?_
      refine r_iload hc 4 (dc_at dX5_stepTowards 79 rfl) rfl ?_
      refine r_bipush (6 : Int32) hc (dc_at dX5_stepTowards 80 rfl) (by decide) ?_
      refine r_imul hc (dc_at dX5_stepTowards 81 rfl) ?_
      refine r_iload hc 5 (dc_at dX5_stepTowards 82 rfl) rfl ?_
      refine r_iadd hc (dc_at dX5_stepTowards 83 rfl) ?_
      obtain ⟨ho, hf⟩ := cO_some hf
      refine ob2 hf fun u h17 ex hf => ?_
      refine r_callVv (As := [.int x13, .int x15, .int ((((v5 * (6 : Int32))) + v6))]) (ci := 1) hc hr (dc_at dX5_stepTowards 84 rfl) ml_X5_45 mv_X1_put vi_X1_put rfl ho rfl (mt_X1_put ex) (by first | exact Nat.le_of_ble_eq_true rfl | omega) (by first | exact Nat.le_of_ble_eq_true rfl | omega) (by first | exact Nat.le_of_ble_eq_true rfl | omega) hm hs ?_
      exact gg_sub [0, 1, 2, 3, 4, 5] rfl (t_X5_stepTowards_177 hc hr he hm hs ih2 ih7 hf)
def b_X5_stepTowards_13 (F : Nat) (self2 : PH → Nat → Int32 → Int32 → Int32 → Int32 → Option (Int32 × PH)) (self7 : PH → Nat → Int32 → Int32 → Int32 → Int32 → Int32 → Option (Int32 × PH)) (h : PH) (v0 : Nat) (v1 : Int32) (v2 : Int32) (v4 : Int32) (v5 : Int32) (v6 : Int32) : Option (Int32 × PH) := (gR 5 5 h v0).bind fun a1 => ((gI 0 6 h a1).bind fun x2 => (if x2 ≤ v6 then (bindv (v5 + (1)) fun x3 => (self2 h v0 v1 v2 v4 x3)) else ((gR 5 4 h v0).bind fun a4 => ((gR 5 5 h v0).bind fun a5 => ((gR 5 0 h v0).bind fun a6 => ((gR 1 0 h a6).bind fun a7 => ((aI 0 h a7 v5).bind fun x8 => ((gR 5 0 h v0).bind fun a9 => ((gR 1 1 h a9).bind fun a10 => ((aI 0 h a10 v5).bind fun x11 => (cO 4 h a4 (bind2 (m_X4_lead F h a4 a5 v6 (Int32.toInt64 x8) (Int32.toInt64 x11)) fun x12 h13 => (if x12 = 0 then ((gR 5 4 h13 v0).bind fun a14 => ((gI 4 0 h13 a14).bind fun x15 => (if x15 = v1 then ((gR 5 4 h13 v0).bind fun a16 => ((gI 4 1 h13 a16).bind fun x17 => (if x17 = v2 then ((pV 5 6 (.int ((((v5 * (6 : Int32))) + v6))) h13 v0).bind fun h18 => (rZ (1 : Int32) h18)) else (b_X5_stepTowards_102 F self2 self7 h13 v0 v1 v2 v4 v5 v6)))) else (b_X5_stepTowards_102 F self2 self7 h13 v0 v1 v2 v4 v5 v6)))) else (b_X5_stepTowards_177 F self2 self7 h13 v0 v1 v2 v4 v5 v6))))))))))))))
set_option maxRecDepth 20000 in
theorem tb_X5_stepTowards_13 {M : MV} {X : XT} {F : Nat} {self2 : PH → Nat → Int32 → Int32 → Int32 → Int32 → Option (Int32 × PH)} {self7 : PH → Nat → Int32 → Int32 → Int32 → Int32 → Int32 → Option (Int32 × PH)} {h hz : PH} {r : Int32} {ce sl mc ms : Nat} {v0 : Nat} {v1 : Int32} {v2 : Int32} {v4 : Int32} {v5 : Int32} {v6 : Int32} (hc : Cx M X RX5 cX5_stepTowards) (hr : Rx M 5 292 mc ms 7) (he : Ex M X (some .boolean) "stepTowards" (some (.int r)) hz mc ms) (hm : ce ≤ mc) (hs : sl ≤ ms) (ih2 : ∀ (h : PH) (v0 : Nat) (v1 : Int32) (v2 : Int32) (v4 : Int32) (v5 : Int32), self2 h v0 v1 v2 v4 v5 = some (r, hz) → GG M X h ce sl 3 [(0, .ref (X.1 + v0)), (1, .int v1), (2, .int v2), (4, .int v4), (5, .int v5)] []) (ih7 : ∀ (h : PH) (v0 : Nat) (v1 : Int32) (v2 : Int32) (v4 : Int32) (v5 : Int32) (v6 : Int32), self7 h v0 v1 v2 v4 v5 v6 = some (r, hz) → GG M X h ce sl 13 [(0, .ref (X.1 + v0)), (1, .int v1), (2, .int v2), (4, .int v4), (5, .int v5), (6, .int v6)] []) (hf : b_X5_stepTowards_13 F self2 self7 h v0 v1 v2 v4 v5 v6 = some (r, hz)) : GG M X h ce sl 13 [(0, .ref (X.1 + v0)), (1, .int v1), (2, .int v2), (4, .int v4), (5, .int v5), (6, .int v6)] [] := by
  unfold b_X5_stepTowards_13 at hf
  refine r_iload hc 5 (dc_at dX5_stepTowards 7 rfl) rfl ?_
  refine r_aload_n hc 0 (dc_at dX5_stepTowards 8 rfl) rfl ?_
  refine r_getR hc (dc_at dX5_stepTowards 9 rfl) fl_X5_29 hf fun a1 hf => ?_
  refine r_getI hc (dc_at dX5_stepTowards 10 rfl) fl_X5_63 hf fun x2 hf => ?_
  refine r_icmp_ge (tgt := 183) hc (dc_at dX5_stepTowards 11 rfl) (by decide) hf (fun hf => ?_) (fun hf => ?_)
  · refine obv hf fun x3 e_x3 hf => ?_
    refine r_iinc 4 [(5, .int x3), (0, .ref (X.1 + v0)), (1, .int v1), (2, .int v2), (4, .int v4), (6, .int v6)] hc hr (dc_at dX5_stepTowards 87 rfl) rfl (by rw [e_x3]; rfl) (by decide) rfl ?_
    refine r_goto (tgt := 3) hc (dc_at dX5_stepTowards 88 rfl) (by decide) ?_
    exact gg_sub [1, 2, 3, 4, 0] rfl (ih2 _ _ _ _ _ _ hf)
  · refine r_aload_n hc 0 (dc_at dX5_stepTowards 12 rfl) rfl ?_
    refine r_getR hc (dc_at dX5_stepTowards 13 rfl) fl_X5_9 hf fun a4 hf => ?_
    refine r_aload_n hc 0 (dc_at dX5_stepTowards 14 rfl) rfl ?_
    refine r_getR hc (dc_at dX5_stepTowards 15 rfl) fl_X5_29 hf fun a5 hf => ?_
    refine r_iload hc 5 (dc_at dX5_stepTowards 16 rfl) rfl ?_
    refine r_aload_n hc 0 (dc_at dX5_stepTowards 17 rfl) rfl ?_
    refine r_getR hc (dc_at dX5_stepTowards 18 rfl) fl_X5_18 hf fun a6 hf => ?_
    refine r_getR hc (dc_at dX5_stepTowards 19 rfl) fl_X5_66 hf fun a7 hf => ?_
    refine r_iload hc 4 (dc_at dX5_stepTowards 20 rfl) rfl ?_
    refine r_iaload hc (dc_at dX5_stepTowards 21 rfl) hf fun x8 hf => ?_
    refine r_i2l hc (dc_at dX5_stepTowards 22 rfl) ?_
    refine r_aload_n hc 0 (dc_at dX5_stepTowards 23 rfl) rfl ?_
    refine r_getR hc (dc_at dX5_stepTowards 24 rfl) fl_X5_18 hf fun a9 hf => ?_
    refine r_getR hc (dc_at dX5_stepTowards 25 rfl) fl_X5_69 hf fun a10 hf => ?_
    refine r_iload hc 4 (dc_at dX5_stepTowards 26 rfl) rfl ?_
    refine r_iaload hc (dc_at dX5_stepTowards 27 rfl) hf fun x11 hf => ?_
    refine r_i2l hc (dc_at dX5_stepTowards 28 rfl) ?_
    obtain ⟨ho, hf⟩ := cO_some hf
    refine ob2 hf fun x12 h13 ex hf => ?_
    refine r_callVi (As := [.ref (X.1 + a5), .int v6, .long ((Int32.toInt64 x8)), .long ((Int32.toInt64 x11))]) (ci := 4) hc hr (dc_at dX5_stepTowards 29 rfl) ml_X5_72 mv_X4_lead vi_X4_lead rfl ho rfl (mt_X4_lead ex) (by first | exact Nat.le_of_ble_eq_true rfl | omega) (by first | exact Nat.le_of_ble_eq_true rfl | omega) (by first | exact Nat.le_of_ble_eq_true rfl | omega) hm hs ?_
    refine r_if_eq (tgt := 66) hc (dc_at dX5_stepTowards 30 rfl) (by decide) hf (fun hf => ?_) (fun hf => ?_)
    · refine r_aload_n hc 0 (dc_at dX5_stepTowards 32 rfl) rfl ?_
      refine r_getR hc (dc_at dX5_stepTowards 33 rfl) fl_X5_9 hf fun a14 hf => ?_
      refine r_getI hc (dc_at dX5_stepTowards 34 rfl) fl_X5_78 hf fun x15 hf => ?_
      refine r_iload_n hc 1 (dc_at dX5_stepTowards 35 rfl) rfl ?_
      refine r_icmp_ne (tgt := 102) hc (dc_at dX5_stepTowards 36 rfl) (by decide) hf (fun hf => ?_) (fun hf => ?_)
      · exact gg_sub [0, 1, 2, 3, 4, 5] rfl (t_X5_stepTowards_102 hc hr he hm hs ih2 ih7 hf)
      · refine r_aload_n hc 0 (dc_at dX5_stepTowards 37 rfl) rfl ?_
        refine r_getR hc (dc_at dX5_stepTowards 38 rfl) fl_X5_9 hf fun a16 hf => ?_
        refine r_getI hc (dc_at dX5_stepTowards 39 rfl) fl_X5_80 hf fun x17 hf => ?_
        refine r_iload_n hc 2 (dc_at dX5_stepTowards 40 rfl) rfl ?_
        refine r_icmp_ne (tgt := 102) hc (dc_at dX5_stepTowards 41 rfl) (by decide) hf (fun hf => ?_) (fun hf => ?_)
        · exact gg_sub [0, 1, 2, 3, 4, 5] rfl (t_X5_stepTowards_102 hc hr he hm hs ih2 ih7 hf)
        · refine r_aload_n hc 0 (dc_at dX5_stepTowards 42 rfl) rfl ?_
          refine r_iload hc 4 (dc_at dX5_stepTowards 43 rfl) rfl ?_
          refine r_bipush (6 : Int32) hc (dc_at dX5_stepTowards 44 rfl) (by decide) ?_
          refine r_imul hc (dc_at dX5_stepTowards 45 rfl) ?_
          refine r_iload hc 5 (dc_at dX5_stepTowards 46 rfl) rfl ?_
          refine r_iadd hc (dc_at dX5_stepTowards 47 rfl) ?_
          refine r_putI hc he (dc_at dX5_stepTowards 48 rfl) fp_X5_56 (fun q => by cases q) hf fun h18 hf => ?_
          refine r_iconst (1 : Int32) hc (dc_at dX5_stepTowards 49 rfl) (by decide) ?_
          exact r_zret hc he (hm) (hs) (dc_at dX5_stepTowards 50 rfl) hf
    · refine r_goto (tgt := 177) hc (dc_at dX5_stepTowards 31 rfl) (by decide) ?_
      exact gg_sub [0, 1, 2, 3, 4, 5] rfl (t_X5_stepTowards_177 hc hr he hm hs ih2 ih7 hf)
def l_X5_stepTowards_13 (F : Nat) (self2 : PH → Nat → Int32 → Int32 → Int32 → Int32 → Option (Int32 × PH)) : Nat → PH → Nat → Int32 → Int32 → Int32 → Int32 → Int32 → Option (Int32 × PH)
  | 0 => fun _ _ _ _ _ _ _ => none
  | n + 1 => fun h v0 v1 v2 v4 v5 v6 => b_X5_stepTowards_13 F self2 (l_X5_stepTowards_13 F self2 n) h v0 v1 v2 v4 v5 v6
theorem tl_X5_stepTowards_13 {M : MV} {X : XT} {F : Nat} {self2 : PH → Nat → Int32 → Int32 → Int32 → Int32 → Option (Int32 × PH)} {hz : PH} {r : Int32} {ce sl mc ms : Nat} (hc : Cx M X RX5 cX5_stepTowards) (hr : Rx M 5 292 mc ms 7) (he : Ex M X (some .boolean) "stepTowards" (some (.int r)) hz mc ms) (hm : ce ≤ mc) (hs : sl ≤ ms) (ih2 : ∀ (h : PH) (v0 : Nat) (v1 : Int32) (v2 : Int32) (v4 : Int32) (v5 : Int32), self2 h v0 v1 v2 v4 v5 = some (r, hz) → GG M X h ce sl 3 [(0, .ref (X.1 + v0)), (1, .int v1), (2, .int v2), (4, .int v4), (5, .int v5)] []) (n : Nat) : ∀ (h : PH) (v0 : Nat) (v1 : Int32) (v2 : Int32) (v4 : Int32) (v5 : Int32) (v6 : Int32), l_X5_stepTowards_13 F self2 n h v0 v1 v2 v4 v5 v6 = some (r, hz) → GG M X h ce sl 13 [(0, .ref (X.1 + v0)), (1, .int v1), (2, .int v2), (4, .int v4), (5, .int v5), (6, .int v6)] [] := by
  induction n with
  | zero => intro h v0 v1 v2 v4 v5 v6 hf; cases hf
  | succ n ih => intro h v0 v1 v2 v4 v5 v6 hf; exact tb_X5_stepTowards_13 (F := F) hc hr he hm hs ih2 ih hf
def b_X5_stepTowards_3 (F : Nat) (self2 : PH → Nat → Int32 → Int32 → Int32 → Int32 → Option (Int32 × PH)) (h : PH) (v0 : Nat) (v1 : Int32) (v2 : Int32) (v4 : Int32) (v5 : Int32) : Option (Int32 × PH) := if v4 ≤ v5 then (rZ (0 : Int32) h) else (l_X5_stepTowards_13 F self2 F h v0 v1 v2 v4 v5 (0 : Int32))
set_option maxRecDepth 20000 in
theorem tb_X5_stepTowards_3 {M : MV} {X : XT} {F : Nat} {self2 : PH → Nat → Int32 → Int32 → Int32 → Int32 → Option (Int32 × PH)} {h hz : PH} {r : Int32} {ce sl mc ms : Nat} {v0 : Nat} {v1 : Int32} {v2 : Int32} {v4 : Int32} {v5 : Int32} (hc : Cx M X RX5 cX5_stepTowards) (hr : Rx M 5 292 mc ms 7) (he : Ex M X (some .boolean) "stepTowards" (some (.int r)) hz mc ms) (hm : ce ≤ mc) (hs : sl ≤ ms) (ih2 : ∀ (h : PH) (v0 : Nat) (v1 : Int32) (v2 : Int32) (v4 : Int32) (v5 : Int32), self2 h v0 v1 v2 v4 v5 = some (r, hz) → GG M X h ce sl 3 [(0, .ref (X.1 + v0)), (1, .int v1), (2, .int v2), (4, .int v4), (5, .int v5)] []) (hf : b_X5_stepTowards_3 F self2 h v0 v1 v2 v4 v5 = some (r, hz)) : GG M X h ce sl 3 [(0, .ref (X.1 + v0)), (1, .int v1), (2, .int v2), (4, .int v4), (5, .int v5)] [] := by
  unfold b_X5_stepTowards_3 at hf
  refine r_iload hc 4 (dc_at dX5_stepTowards 2 rfl) rfl ?_
  refine r_iload hc 3 (dc_at dX5_stepTowards 3 rfl) rfl ?_
  refine r_icmp_ge (tgt := 189) hc (dc_at dX5_stepTowards 4 rfl) (by decide) hf (fun hf => ?_) (fun hf => ?_)
  · refine r_iconst (0 : Int32) hc (dc_at dX5_stepTowards 89 rfl) (by decide) ?_
    exact r_zret hc he (hm) (hs) (dc_at dX5_stepTowards 90 rfl) hf
  · refine r_iconst (0 : Int32) hc (dc_at dX5_stepTowards 5 rfl) (by decide) ?_
    refine r_istore [(6, .int ((0 : Int32))), (0, .ref (X.1 + v0)), (1, .int v1), (2, .int v2), (4, .int v4), (5, .int v5)] hc hr (dc_at dX5_stepTowards 6 rfl) (by decide) rfl ?_
    exact gg_sub [1, 2, 3, 4, 5, 0] rfl (tl_X5_stepTowards_13 hc hr he hm hs ih2 F _ _ _ _ _ _ _ hf)
def l_X5_stepTowards_3 (F : Nat) : Nat → PH → Nat → Int32 → Int32 → Int32 → Int32 → Option (Int32 × PH)
  | 0 => fun _ _ _ _ _ _ => none
  | n + 1 => fun h v0 v1 v2 v4 v5 => b_X5_stepTowards_3 F (l_X5_stepTowards_3 F n) h v0 v1 v2 v4 v5
theorem tl_X5_stepTowards_3 {M : MV} {X : XT} {F : Nat} {hz : PH} {r : Int32} {ce sl mc ms : Nat} (hc : Cx M X RX5 cX5_stepTowards) (hr : Rx M 5 292 mc ms 7) (he : Ex M X (some .boolean) "stepTowards" (some (.int r)) hz mc ms) (hm : ce ≤ mc) (hs : sl ≤ ms) (n : Nat) : ∀ (h : PH) (v0 : Nat) (v1 : Int32) (v2 : Int32) (v4 : Int32) (v5 : Int32), l_X5_stepTowards_3 F n h v0 v1 v2 v4 v5 = some (r, hz) → GG M X h ce sl 3 [(0, .ref (X.1 + v0)), (1, .int v1), (2, .int v2), (4, .int v4), (5, .int v5)] [] := by
  induction n with
  | zero => intro h v0 v1 v2 v4 v5 hf; cases hf
  | succ n ih => intro h v0 v1 v2 v4 v5 hf; exact tb_X5_stepTowards_3 (F := F) hc hr he hm hs  ih hf
def b_X5_stepTowards_0 (F : Nat) (h : PH) (v0 : Nat) (v1 : Int32) (v2 : Int32) (v3 : Int32) (v4 : Int32) : Option (Int32 × PH) := l_X5_stepTowards_3 F F h v0 v1 v2 v4 v3
set_option maxRecDepth 20000 in
theorem t_X5_stepTowards_0 {M : MV} {X : XT} {F : Nat} {h hz : PH} {r : Int32} {ce sl mc ms : Nat} {v0 : Nat} {v1 : Int32} {v2 : Int32} {v3 : Int32} {v4 : Int32} (hc : Cx M X RX5 cX5_stepTowards) (hr : Rx M 5 292 mc ms 7) (he : Ex M X (some .boolean) "stepTowards" (some (.int r)) hz mc ms) (hm : ce ≤ mc) (hs : sl ≤ ms) (hf : b_X5_stepTowards_0 F h v0 v1 v2 v3 v4 = some (r, hz)) : GG M X h ce sl 0 [(0, .ref (X.1 + v0)), (1, .int v1), (2, .int v2), (3, .int v3), (4, .int v4)] [] := by
  unfold b_X5_stepTowards_0 at hf
  refine r_iload_n hc 3 (dc_at dX5_stepTowards 0 rfl) rfl ?_
  refine r_istore [(5, .int v3), (0, .ref (X.1 + v0)), (1, .int v1), (2, .int v2), (3, .int v3), (4, .int v4)] hc hr (dc_at dX5_stepTowards 1 rfl) (by decide) rfl ?_
  exact gg_sub [1, 2, 3, 5, 0] rfl (tl_X5_stepTowards_3 hc hr he hm hs  F _ _ _ _ _ _ hf)
def m_X5_stepTowards (F : Nat) (h : PH) (p0 : Nat) (p1 : Int32) (p2 : Int32) (p3 : Int32) (p4 : Int32) : Option (Int32 × PH) := b_X5_stepTowards_0 F h p0 p1 p2 p3 p4
theorem mt_X5_stepTowards {l : Launch} {X : XT} {F : Nat} {h hz : PH} {p0 : Nat} {p1 : Int32} {p2 : Int32} {p3 : Int32} {p4 : Int32} {r : Int32} (ex : m_X5_stepTowards F h p0 p1 p2 p3 p4 = some (r, hz)) : MT l X yX5_stepTowards cX5_stepTowards 7 (some .boolean) 5 292 0 0 [.ref (X.1 + p0), .int p1, .int p2, .int p3, .int p4] h (some (.int r)) hz := MT.of (by decide) (Nat.le_of_ble_eq_true rfl) fun M hl hc hr he => by
  subst hl
  exact gg_sub [0, 1, 2, 3, 4] rfl (t_X5_stepTowards_0  hc hr he (Nat.zero_le _) (Nat.zero_le _) ex)
/-! FractionLift$Routes.traceRow(II[I)V -/
def lX5_traceRowL : List (Nat × Instr × Nat × Nat) := [(0, .iload_n 1, 1, 1), (1, .istore 4, 2, 3), (3, .iload_n 2, 1, 4), (4, .iconst 1, 1, 5), (5, .isub, 1, 6), (6, .istore 5, 2, 8), (8, .iload 5, 2, 10), (10, .ifCond .lt 65, 3, 13), (13, .iload 5, 2, 15), (15, .aload_n 3, 1, 16), (16, .arraylength, 1, 17), (17, .if_icmp .ge 58, 3, 20), (20, .iload 4, 2, 22), (22, .ifCond .lt 53, 3, 25), (25, .aload_n 3, 1, 26), (26, .iload 5, 2, 28), (28, .iload 4, 2, 30), (30, .bipush 6, 2, 32), (32, .irem, 1, 33), (33, .iastore, 1, 34), (34, .iload 4, 2, 36), (36, .bipush 6, 2, 38), (38, .idiv, 1, 39), (39, .istore 6, 2, 41), (41, .iload 6, 2, 43), (43, .aload_n 0, 1, 44), (44, .getfield 18, 3, 47), (47, .getfield 49, 3, 50), (50, .if_icmp .ge 16, 3, 53), (53, .aload_n 0, 1, 54), (54, .getfield 18, 3, 57), (57, .getfield 86, 3, 60), (60, .iload 6, 2, 62), (62, .iaload, 1, 63), (63, .goto 4, 3, 66), (66, .iconst (-1), 1, 67), (67, .istore 4, 2, 69), (69, .iinc 5 (-1), 3, 72), (72, .goto (-64), 3, 75), (75, .return_, 1, 76)]
set_option maxRecDepth 20000 in
theorem dX5_traceRow : dcL cX5_traceRow lX5_traceRowL = true := by decide +kernel
def b_X5_traceRow_67 (F : Nat) (self6 : PH → Nat → Nat → Int32 → Int32 → Option (Unit × PH)) (h : PH) (v0 : Nat) (v3 : Nat) (v5 : Int32) (s0 : Int32) : Option (Unit × PH) := bindv (v5 + (-1)) fun x1 => (self6 h v0 v3 s0 x1)
set_option maxRecDepth 20000 in
theorem t_X5_traceRow_67 {M : MV} {X : XT} {F : Nat} {self6 : PH → Nat → Nat → Int32 → Int32 → Option (Unit × PH)} {h hz : PH} {r : Unit} {ce sl mc ms : Nat} {v0 : Nat} {v3 : Nat} {v5 : Int32} {s0 : Int32} (hc : Cx M X RX5 cX5_traceRow) (hr : Rx M 1 60 mc ms 7) (he : Ex M X none "traceRow" none hz mc ms) (hm : ce ≤ mc) (hs : sl ≤ ms) (ih6 : ∀ (h : PH) (v0 : Nat) (v3 : Nat) (v4 : Int32) (v5 : Int32), self6 h v0 v3 v4 v5 = some (r, hz) → GG M X h ce sl 8 [(0, .ref (X.1 + v0)), (3, .ref (X.1 + v3)), (4, .int v4), (5, .int v5)] []) (hf : b_X5_traceRow_67 F self6 h v0 v3 v5 s0 = some (r, hz)) : GG M X h ce sl 67 [(0, .ref (X.1 + v0)), (3, .ref (X.1 + v3)), (5, .int v5)] [.int s0] := by
  unfold b_X5_traceRow_67 at hf
  refine r_istore [(4, .int s0), (0, .ref (X.1 + v0)), (3, .ref (X.1 + v3)), (5, .int v5)] hc hr (dc_at dX5_traceRow 36 rfl) (by decide) rfl ?_
  refine obv hf fun x1 e_x1 hf => ?_
  refine r_iinc 3 [(5, .int x1), (4, .int s0), (0, .ref (X.1 + v0)), (3, .ref (X.1 + v3))] hc hr (dc_at dX5_traceRow 37 rfl) rfl (by rw [e_x1]; rfl) (by decide) rfl ?_
  refine r_goto (tgt := 8) hc (dc_at dX5_traceRow 38 rfl) (by decide) ?_
  exact gg_sub [2, 3, 1, 0] rfl (ih6 _ _ _ _ _ hf)
def b_X5_traceRow_8 (F : Nat) (self6 : PH → Nat → Nat → Int32 → Int32 → Option (Unit × PH)) (h : PH) (v0 : Nat) (v3 : Nat) (v4 : Int32) (v5 : Int32) : Option (Unit × PH) := if v5 < 0 then (some ((), h)) else ((aLen h v3).bind fun x1 => (if x1 ≤ v5 then (some ((), h)) else (if v4 < 0 then (some ((), h)) else (if (6 : Int32) = 0 then none else ((sI 0 h v3 v5 ((remI v4 (6 : Int32)))).bind fun h2 => (if (6 : Int32) = 0 then none else (bindv ((v4 / (6 : Int32))) fun x3 => ((gR 5 0 h2 v0).bind fun a4 => ((gI 1 4 h2 a4).bind fun x5 => (if x5 ≤ x3 then (b_X5_traceRow_67 F self6 h2 v0 v3 v5 (-1 : Int32)) else ((gR 5 0 h2 v0).bind fun a6 => ((gR 1 2 h2 a6).bind fun a7 => ((aI 0 h2 a7 x3).bind fun x8 => (b_X5_traceRow_67 F self6 h2 v0 v3 v5 x8))))))))))))))
set_option maxRecDepth 20000 in
theorem tb_X5_traceRow_8 {M : MV} {X : XT} {F : Nat} {self6 : PH → Nat → Nat → Int32 → Int32 → Option (Unit × PH)} {h hz : PH} {r : Unit} {ce sl mc ms : Nat} {v0 : Nat} {v3 : Nat} {v4 : Int32} {v5 : Int32} (hc : Cx M X RX5 cX5_traceRow) (hr : Rx M 1 60 mc ms 7) (he : Ex M X none "traceRow" none hz mc ms) (hm : ce ≤ mc) (hs : sl ≤ ms) (ih6 : ∀ (h : PH) (v0 : Nat) (v3 : Nat) (v4 : Int32) (v5 : Int32), self6 h v0 v3 v4 v5 = some (r, hz) → GG M X h ce sl 8 [(0, .ref (X.1 + v0)), (3, .ref (X.1 + v3)), (4, .int v4), (5, .int v5)] []) (hf : b_X5_traceRow_8 F self6 h v0 v3 v4 v5 = some (r, hz)) : GG M X h ce sl 8 [(0, .ref (X.1 + v0)), (3, .ref (X.1 + v3)), (4, .int v4), (5, .int v5)] [] := by
  unfold b_X5_traceRow_8 at hf
  refine r_iload hc 3 (dc_at dX5_traceRow 6 rfl) rfl ?_
  refine r_if_lt (tgt := 75) hc (dc_at dX5_traceRow 7 rfl) (by decide) hf (fun hf => ?_) (fun hf => ?_)
  · exact r_vret hc he (hm) (hs) (dc_at dX5_traceRow 39 rfl) hf
  · refine r_iload hc 3 (dc_at dX5_traceRow 8 rfl) rfl ?_
    refine r_aload_n hc 1 (dc_at dX5_traceRow 9 rfl) rfl ?_
    refine r_alen hc (dc_at dX5_traceRow 10 rfl) hf fun x1 hf => ?_
    refine r_icmp_ge (tgt := 75) hc (dc_at dX5_traceRow 11 rfl) (by decide) hf (fun hf => ?_) (fun hf => ?_)
    · exact r_vret hc he (hm) (hs) (dc_at dX5_traceRow 39 rfl) hf
    · refine r_iload hc 2 (dc_at dX5_traceRow 12 rfl) rfl ?_
      refine r_if_lt (tgt := 75) hc (dc_at dX5_traceRow 13 rfl) (by decide) hf (fun hf => ?_) (fun hf => ?_)
      · exact r_vret hc he (hm) (hs) (dc_at dX5_traceRow 39 rfl) hf
      · refine r_aload_n hc 1 (dc_at dX5_traceRow 14 rfl) rfl ?_
        refine r_iload hc 3 (dc_at dX5_traceRow 15 rfl) rfl ?_
        refine r_iload hc 2 (dc_at dX5_traceRow 16 rfl) rfl ?_
        refine r_bipush (6 : Int32) hc (dc_at dX5_traceRow 17 rfl) (by decide) ?_
        refine r_irem hc (dc_at dX5_traceRow 18 rfl) hf (fun hf => ?_)
        refine r_iastore hc (dc_at dX5_traceRow 19 rfl) hf fun h2 hf => ?_
        refine r_iload hc 2 (dc_at dX5_traceRow 20 rfl) rfl ?_
        refine r_bipush (6 : Int32) hc (dc_at dX5_traceRow 21 rfl) (by decide) ?_
        refine r_idiv hc (dc_at dX5_traceRow 22 rfl) hf (fun hf => ?_)
        refine r_nm (mk := Value.int) hf fun x3 hf => ?_
        refine r_istore [(6, .int x3), (0, .ref (X.1 + v0)), (3, .ref (X.1 + v3)), (4, .int v4), (5, .int v5)] hc hr (dc_at dX5_traceRow 23 rfl) (by decide) rfl ?_
        refine r_iload hc 0 (dc_at dX5_traceRow 24 rfl) rfl ?_
        refine r_aload_n hc 1 (dc_at dX5_traceRow 25 rfl) rfl ?_
        refine r_getR hc (dc_at dX5_traceRow 26 rfl) fl_X5_18 hf fun a4 hf => ?_
        refine r_getI hc (dc_at dX5_traceRow 27 rfl) fl_X5_49 hf fun x5 hf => ?_
        refine r_icmp_ge (tgt := 66) hc (dc_at dX5_traceRow 28 rfl) (by decide) hf (fun hf => ?_) (fun hf => ?_)
        · refine r_iconst (-1 : Int32) hc (dc_at dX5_traceRow 35 rfl) (by decide) ?_
          exact gg_sub [1, 2, 4] rfl (t_X5_traceRow_67 hc hr he hm hs ih6 hf)
        · refine r_aload_n hc 1 (dc_at dX5_traceRow 29 rfl) rfl ?_
          refine r_getR hc (dc_at dX5_traceRow 30 rfl) fl_X5_18 hf fun a6 hf => ?_
          refine r_getR hc (dc_at dX5_traceRow 31 rfl) fl_X5_86 hf fun a7 hf => ?_
          refine r_iload hc 0 (dc_at dX5_traceRow 32 rfl) rfl ?_
          refine r_iaload hc (dc_at dX5_traceRow 33 rfl) hf fun x8 hf => ?_
          refine r_goto (tgt := 67) hc (dc_at dX5_traceRow 34 rfl) (by decide) ?_
          exact gg_sub [1, 2, 4] rfl (t_X5_traceRow_67 hc hr he hm hs ih6 hf)
def l_X5_traceRow_8 (F : Nat) : Nat → PH → Nat → Nat → Int32 → Int32 → Option (Unit × PH)
  | 0 => fun _ _ _ _ _ => none
  | n + 1 => fun h v0 v3 v4 v5 => b_X5_traceRow_8 F (l_X5_traceRow_8 F n) h v0 v3 v4 v5
theorem tl_X5_traceRow_8 {M : MV} {X : XT} {F : Nat} {hz : PH} {r : Unit} {ce sl mc ms : Nat} (hc : Cx M X RX5 cX5_traceRow) (hr : Rx M 1 60 mc ms 7) (he : Ex M X none "traceRow" none hz mc ms) (hm : ce ≤ mc) (hs : sl ≤ ms) (n : Nat) : ∀ (h : PH) (v0 : Nat) (v3 : Nat) (v4 : Int32) (v5 : Int32), l_X5_traceRow_8 F n h v0 v3 v4 v5 = some (r, hz) → GG M X h ce sl 8 [(0, .ref (X.1 + v0)), (3, .ref (X.1 + v3)), (4, .int v4), (5, .int v5)] [] := by
  induction n with
  | zero => intro h v0 v3 v4 v5 hf; cases hf
  | succ n ih => intro h v0 v3 v4 v5 hf; exact tb_X5_traceRow_8 (F := F) hc hr he hm hs  ih hf
def b_X5_traceRow_0 (F : Nat) (h : PH) (v0 : Nat) (v1 : Int32) (v2 : Int32) (v3 : Nat) : Option (Unit × PH) := bindv ((v2 - (1 : Int32))) fun x1 => (l_X5_traceRow_8 F F h v0 v3 v1 x1)
set_option maxRecDepth 20000 in
theorem t_X5_traceRow_0 {M : MV} {X : XT} {F : Nat} {h hz : PH} {r : Unit} {ce sl mc ms : Nat} {v0 : Nat} {v1 : Int32} {v2 : Int32} {v3 : Nat} (hc : Cx M X RX5 cX5_traceRow) (hr : Rx M 1 60 mc ms 7) (he : Ex M X none "traceRow" none hz mc ms) (hm : ce ≤ mc) (hs : sl ≤ ms) (hf : b_X5_traceRow_0 F h v0 v1 v2 v3 = some (r, hz)) : GG M X h ce sl 0 [(0, .ref (X.1 + v0)), (1, .int v1), (2, .int v2), (3, .ref (X.1 + v3))] [] := by
  unfold b_X5_traceRow_0 at hf
  refine r_iload_n hc 1 (dc_at dX5_traceRow 0 rfl) rfl ?_
  refine r_istore [(4, .int v1), (0, .ref (X.1 + v0)), (1, .int v1), (2, .int v2), (3, .ref (X.1 + v3))] hc hr (dc_at dX5_traceRow 1 rfl) (by decide) rfl ?_
  refine r_iload_n hc 3 (dc_at dX5_traceRow 2 rfl) rfl ?_
  refine r_iconst (1 : Int32) hc (dc_at dX5_traceRow 3 rfl) (by decide) ?_
  refine r_isub hc (dc_at dX5_traceRow 4 rfl) ?_
  refine r_nm (mk := Value.int) hf fun x1 hf => ?_
  refine r_istore [(5, .int x1), (4, .int v1), (0, .ref (X.1 + v0)), (1, .int v1), (2, .int v2), (3, .ref (X.1 + v3))] hc hr (dc_at dX5_traceRow 5 rfl) (by decide) rfl ?_
  exact gg_sub [2, 5, 1, 0] rfl (tl_X5_traceRow_8 hc hr he hm hs  F _ _ _ _ _ hf)
def m_X5_traceRow (F : Nat) (h : PH) (p0 : Nat) (p1 : Int32) (p2 : Int32) (p3 : Nat) : Option (Unit × PH) := b_X5_traceRow_0 F h p0 p1 p2 p3
theorem mt_X5_traceRow {l : Launch} {X : XT} {F : Nat} {h hz : PH} {p0 : Nat} {p1 : Int32} {p2 : Int32} {p3 : Nat} {r : Unit} (ex : m_X5_traceRow F h p0 p1 p2 p3 = some (r, hz)) : MT l X yX5_traceRow cX5_traceRow 7 none 1 60 0 0 [.ref (X.1 + p0), .int p1, .int p2, .ref (X.1 + p3)] h none hz := MT.of (by decide) (Nat.le_of_ble_eq_true rfl) fun M hl hc hr he => by
  subst hl
  exact gg_sub [0, 1, 2, 3] rfl (t_X5_traceRow_0  hc hr he (Nat.zero_le _) (Nat.zero_le _) ex)
