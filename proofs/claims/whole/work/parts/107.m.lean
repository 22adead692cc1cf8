/-! FractionLift.restore(I)I -/
def lX9_restoreL : List (Nat × Instr × Nat × Nat) := [(0, .iload_n 1, 1, 1), (1, .ifCond .lt 8, 3, 4), (4, .iload_n 1, 1, 5), (5, .iconst 2, 1, 6), (6, .if_icmp .lt 6, 3, 9), (9, .bipush (-2), 2, 11), (11, .ireturn, 1, 12), (12, .aload_n 0, 1, 13), (13, .getfield 30, 3, 16), (16, .iload_n 1, 1, 17), (17, .aaload, 1, 18), (18, .ifnonnull 6, 3, 21), (21, .bipush (-5), 2, 23), (23, .ireturn, 1, 24), (24, .aload_n 0, 1, 25), (25, .getfield 26, 3, 28), (28, .aload_n 0, 1, 29), (29, .getfield 30, 3, 32), (32, .iload_n 1, 1, 33), (33, .aaload, 1, 34), (34, .invokevirtual 355, 3, 37), (37, .aload_n 0, 1, 38), (38, .iconst 0, 1, 39), (39, .putfield 46, 3, 42), (42, .iconst 0, 1, 43), (43, .ireturn, 1, 44)]
set_option maxRecDepth 20000 in
theorem dX9_restore : dcL cX9_restore lX9_restoreL = true := by decide +kernel
def b_X9_restore_0 (h : PH) (v0 : Nat) (v1 : Int32) : Option (Int32 × PH) := if v1 < 0 then (some ((-2 : Int32), h)) else (if v1 < (2 : Int32) then ((gR 9 6 h v0).bind fun a1 => ((aN 3 h a1 v1).bind fun q2 => (if q2 = none then (some ((-5 : Int32), h)) else ((gR 9 4 h v0).bind fun a3 => ((gR 9 6 h v0).bind fun a4 => ((aR 3 h a4 v1).bind fun a5 => (cO 0 h a3 (bind2 (m_X0_takeFrom h a3 a5) fun _ h7 => ((pV 9 10 (.int (0 : Int32)) h7 v0).bind fun h8 => (some ((0 : Int32), h8))))))))))) else (some ((-2 : Int32), h)))
set_option maxRecDepth 20000 in
theorem t_X9_restore_0 {M : MV} {X : XT} {h hz : PH} {r : Int32} {ce sl mc ms : Nat} {v0 : Nat} {v1 : Int32} (hc : Cx M X RX9 cX9_restore) (hr : Rx M 2 118 mc ms 2) (he : Ex M X (some .int) "restore" (some (.int r)) hz mc ms) (hm : ce ≤ mc) (hs : sl ≤ ms) (hf : b_X9_restore_0 h v0 v1 = some (r, hz)) : GG M X h ce sl 0 [(0, .ref (X.1 + v0)), (1, .int v1)] [] := by
  unfold b_X9_restore_0 at hf
  refine r_iload_n hc 1 (dc_at dX9_restore 0 rfl) rfl ?_
  refine r_if_lt (tgt := 9) hc (dc_at dX9_restore 1 rfl) (by decide) hf (fun hf => ?_) (fun hf => ?_)
  · refine r_bipush (-2 : Int32) hc (dc_at dX9_restore 5 rfl) (by decide) ?_
    exact r_iret hc he (hm) (hs) (dc_at dX9_restore 6 rfl) hf
  · refine r_iload_n hc 1 (dc_at dX9_restore 2 rfl) rfl ?_
    refine r_iconst (2 : Int32) hc (dc_at dX9_restore 3 rfl) (by decide) ?_
    refine r_icmp_lt (tgt := 12) hc (dc_at dX9_restore 4 rfl) (by decide) hf (fun hf => ?_) (fun hf => ?_)
    · refine r_aload_n hc 0 (dc_at dX9_restore 7 rfl) rfl ?_
      refine r_getR hc (dc_at dX9_restore 8 rfl) fl_X9_30 hf fun a1 hf => ?_
      refine r_iload_n hc 1 (dc_at dX9_restore 9 rfl) rfl ?_
      refine r_aaloadN (t := 3) hc (dc_at dX9_restore 10 rfl) rfl hf fun q2 e_q2 hf => ?_
      refine r_ifnonnull (tgt := 24) hc (dc_at dX9_restore 11 rfl) (by decide) hf (fun hf => ?_) (fun hf hnull => ?_)
      · refine r_aload_n hc 0 (dc_at dX9_restore 14 rfl) rfl ?_
        refine r_getR hc (dc_at dX9_restore 15 rfl) fl_X9_26 hf fun a3 hf => ?_
        refine r_aload_n hc 0 (dc_at dX9_restore 16 rfl) rfl ?_
        refine r_getR hc (dc_at dX9_restore 17 rfl) fl_X9_30 hf fun a4 hf => ?_
        refine r_iload_n hc 1 (dc_at dX9_restore 18 rfl) rfl ?_
        refine r_aaloadR (t := 3) hc (dc_at dX9_restore 19 rfl) rfl hf fun a5 hf => ?_
        obtain ⟨ho, hf⟩ := cO_some hf
        refine ob2 hf fun u h7 ex hf => ?_
        refine r_callVv (As := [.ref (X.1 + a5)]) (ci := 0) hc hr (dc_at dX9_restore 20 rfl) ml_X9_355 mv_X0_takeFrom vi_X0_takeFrom rfl ho rfl (mt_X0_takeFrom ex) (by first | exact Nat.le_of_ble_eq_true rfl | omega) (by first | exact Nat.le_of_ble_eq_true rfl | omega) (by first | exact Nat.le_of_ble_eq_true rfl | omega) hm hs ?_
        refine r_aload_n hc 0 (dc_at dX9_restore 21 rfl) rfl ?_
        refine r_iconst (0 : Int32) hc (dc_at dX9_restore 22 rfl) (by decide) ?_
        refine r_putI hc he (dc_at dX9_restore 23 rfl) fp_X9_46 (fun q => by cases q) hf fun h8 hf => ?_
        refine r_iconst (0 : Int32) hc (dc_at dX9_restore 24 rfl) (by decide) ?_
        exact r_iret hc he (hm) (hs) (dc_at dX9_restore 25 rfl) hf
      · refine r_bipush (-5 : Int32) hc (dc_at dX9_restore 12 rfl) (by decide) ?_
        exact r_iret hc he (hm) (hs) (dc_at dX9_restore 13 rfl) hf
    · refine r_bipush (-2 : Int32) hc (dc_at dX9_restore 5 rfl) (by decide) ?_
      exact r_iret hc he (hm) (hs) (dc_at dX9_restore 6 rfl) hf
def m_X9_restore (h : PH) (p0 : Nat) (p1 : Int32) : Option (Int32 × PH) := b_X9_restore_0 h p0 p1
theorem mt_X9_restore {l : Launch} {X : XT} {h hz : PH} {p0 : Nat} {p1 : Int32} {r : Int32} (ex : m_X9_restore h p0 p1 = some (r, hz)) : MT l X yX9_restore cX9_restore 2 (some .int) 2 118 0 0 [.ref (X.1 + p0), .int p1] h (some (.int r)) hz := MT.of (by decide) (Nat.le_of_ble_eq_true rfl) fun M hl hc hr he => by
  subst hl
  exact gg_sub [0, 1] rfl (t_X9_restore_0  hc hr he (Nat.zero_le _) (Nat.zero_le _) ex)
/-! FractionLift.count(I)I -/
def lX9_countL : List (Nat × Instr × Nat × Nat) := [(0, .iload_n 1, 1, 1), (1, .tableswitch 117 0 8 #[51, 59, 67, 75, 83, 91, 96, 104, 109], 51, 52), (52, .aload_n 0, 1, 53), (53, .getfield 26, 3, 56), (56, .getfield 283, 3, 59), (59, .ireturn, 1, 60), (60, .aload_n 0, 1, 61), (61, .getfield 26, 3, 64), (64, .getfield 159, 3, 67), (67, .ireturn, 1, 68), (68, .aload_n 0, 1, 69), (69, .getfield 26, 3, 72), (72, .getfield 102, 3, 75), (75, .ireturn, 1, 76), (76, .aload_n 0, 1, 77), (77, .getfield 26, 3, 80), (80, .getfield 119, 3, 83), (83, .ireturn, 1, 84), (84, .aload_n 0, 1, 85), (85, .getfield 26, 3, 88), (88, .getfield 165, 3, 91), (91, .ireturn, 1, 92), (92, .aload_n 0, 1, 93), (93, .getfield 46, 3, 96), (96, .ireturn, 1, 97), (97, .aload_n 0, 1, 98), (98, .getfield 26, 3, 101), (101, .getfield 359, 3, 104), (104, .ireturn, 1, 105), (105, .aload_n 0, 1, 106), (106, .getfield 13, 3, 109), (109, .ireturn, 1, 110), (110, .aload_n 0, 1, 111), (111, .getfield 26, 3, 114), (114, .getfield 93, 3, 117), (117, .ireturn, 1, 118), (118, .iconst (-1), 1, 119), (119, .ireturn, 1, 120)]
set_option maxRecDepth 20000 in
theorem dX9_count : dcL cX9_count lX9_countL = true := by decide +kernel
def b_X9_count_0 (h : PH) (v0 : Nat) (v1 : Int32) : Option Int32 := swN v1 (0) [(gR 9 4 h v0).bind fun a1 => ((gI 0 0 h a1).bind fun x2 => (some x2)), (gR 9 4 h v0).bind fun a3 => ((gI 0 6 h a3).bind fun x4 => (some x4)), (gR 9 4 h v0).bind fun a5 => ((gI 0 9 h a5).bind fun x6 => (some x6)), (gR 9 4 h v0).bind fun a7 => ((gI 0 15 h a7).bind fun x8 => (some x8)), (gR 9 4 h v0).bind fun a9 => ((gI 0 1 h a9).bind fun x10 => (some x10)), (gI 9 10 h v0).bind fun x11 => (some x11), (gR 9 4 h v0).bind fun a12 => ((gI 0 3 h a12).bind fun x13 => (some x13)), (gI 9 1 h v0).bind fun x14 => (some x14), (gR 9 4 h v0).bind fun a15 => ((gI 0 2 h a15).bind fun x16 => (some x16))] (some (-1 : Int32))
set_option maxRecDepth 20000 in
theorem t_X9_count_0 {M : MV} {X : XT} {h : PH} {r : Int32} {ce sl mc ms : Nat} {v0 : Nat} {v1 : Int32} (hc : Cx M X RX9 cX9_count) (hr : Rx M 1 60 mc ms 2) (he : Ex M X (some .int) "count" (some (.int r)) h mc ms) (hm : ce ≤ mc) (hs : sl ≤ ms) (hf : b_X9_count_0 h v0 v1 = some r) : GG M X h ce sl 0 [(0, .ref (X.1 + v0)), (1, .int v1)] [] := by
  unfold b_X9_count_0 at hf
  refine r_iload_n hc 1 (dc_at dX9_count 0 rfl) rfl ?_
  rcases sw_cases hf with ⟨i, hi, hx, hf⟩ | ⟨hx, hf⟩
  · rcases (show i = 0 ∨ i = 1 ∨ i = 2 ∨ i = 3 ∨ i = 4 ∨ i = 5 ∨ i = 6 ∨ i = 7 ∨ i = 8 by simp only [List.length_cons, List.length_nil] at hi; omega) with rfl | rfl | rfl | rfl | rfl | rfl | rfl | rfl | rfl
    · have hf := gd_at hf rfl
      refine r_tableIn (tgt := 52) 0 hc (dc_at dX9_count 1 rfl) hx rfl (by decide) (by decide) ?_
      refine r_aload_n hc 0 (dc_at dX9_count 2 rfl) rfl ?_
      refine r_getR hc (dc_at dX9_count 3 rfl) fl_X9_26 hf fun a1 hf => ?_
      refine r_getI hc (dc_at dX9_count 4 rfl) fl_X9_283 hf fun x2 hf => ?_
      exact r_iretP hc he (hm) (hs) (dc_at dX9_count 5 rfl) hf
    · have hf := gd_at hf rfl
      refine r_tableIn (tgt := 60) 1 hc (dc_at dX9_count 1 rfl) hx rfl (by decide) (by decide) ?_
      refine r_aload_n hc 0 (dc_at dX9_count 6 rfl) rfl ?_
      refine r_getR hc (dc_at dX9_count 7 rfl) fl_X9_26 hf fun a3 hf => ?_
      refine r_getI hc (dc_at dX9_count 8 rfl) fl_X9_159 hf fun x4 hf => ?_
      exact r_iretP hc he (hm) (hs) (dc_at dX9_count 9 rfl) hf
    · have hf := gd_at hf rfl
      refine r_tableIn (tgt := 68) 2 hc (dc_at dX9_count 1 rfl) hx rfl (by decide) (by decide) ?_
      refine r_aload_n hc 0 (dc_at dX9_count 10 rfl) rfl ?_
      refine r_getR hc (dc_at dX9_count 11 rfl) fl_X9_26 hf fun a5 hf => ?_
      refine r_getI hc (dc_at dX9_count 12 rfl) fl_X9_102 hf fun x6 hf => ?_
      exact r_iretP hc he (hm) (hs) (dc_at dX9_count 13 rfl) hf
    · have hf := gd_at hf rfl
      refine r_tableIn (tgt := 76) 3 hc (dc_at dX9_count 1 rfl) hx rfl (by decide) (by decide) ?_
      refine r_aload_n hc 0 (dc_at dX9_count 14 rfl) rfl ?_
      refine r_getR hc (dc_at dX9_count 15 rfl) fl_X9_26 hf fun a7 hf => ?_
      refine r_getI hc (dc_at dX9_count 16 rfl) fl_X9_119 hf fun x8 hf => ?_
      exact r_iretP hc he (hm) (hs) (dc_at dX9_count 17 rfl) hf
    · have hf := gd_at hf rfl
      refine r_tableIn (tgt := 84) 4 hc (dc_at dX9_count 1 rfl) hx rfl (by decide) (by decide) ?_
      refine r_aload_n hc 0 (dc_at dX9_count 18 rfl) rfl ?_
      refine r_getR hc (dc_at dX9_count 19 rfl) fl_X9_26 hf fun a9 hf => ?_
      refine r_getI hc (dc_at dX9_count 20 rfl) fl_X9_165 hf fun x10 hf => ?_
      exact r_iretP hc he (hm) (hs) (dc_at dX9_count 21 rfl) hf
    · have hf := gd_at hf rfl
      refine r_tableIn (tgt := 92) 5 hc (dc_at dX9_count 1 rfl) hx rfl (by decide) (by decide) ?_
      refine r_aload_n hc 0 (dc_at dX9_count 22 rfl) rfl ?_
      refine r_getI hc (dc_at dX9_count 23 rfl) fl_X9_46 hf fun x11 hf => ?_
      exact r_iretP hc he (hm) (hs) (dc_at dX9_count 24 rfl) hf
    · have hf := gd_at hf rfl
      refine r_tableIn (tgt := 97) 6 hc (dc_at dX9_count 1 rfl) hx rfl (by decide) (by decide) ?_
      refine r_aload_n hc 0 (dc_at dX9_count 25 rfl) rfl ?_
      refine r_getR hc (dc_at dX9_count 26 rfl) fl_X9_26 hf fun a12 hf => ?_
      refine r_getI hc (dc_at dX9_count 27 rfl) fl_X9_359 hf fun x13 hf => ?_
      exact r_iretP hc he (hm) (hs) (dc_at dX9_count 28 rfl) hf
    · have hf := gd_at hf rfl
      refine r_tableIn (tgt := 105) 7 hc (dc_at dX9_count 1 rfl) hx rfl (by decide) (by decide) ?_
      refine r_aload_n hc 0 (dc_at dX9_count 29 rfl) rfl ?_
      refine r_getI hc (dc_at dX9_count 30 rfl) fl_X9_13 hf fun x14 hf => ?_
      exact r_iretP hc he (hm) (hs) (dc_at dX9_count 31 rfl) hf
    · have hf := gd_at hf rfl
      refine r_tableIn (tgt := 110) 8 hc (dc_at dX9_count 1 rfl) hx rfl (by decide) (by decide) ?_
      refine r_aload_n hc 0 (dc_at dX9_count 32 rfl) rfl ?_
      refine r_getR hc (dc_at dX9_count 33 rfl) fl_X9_26 hf fun a15 hf => ?_
      refine r_getI hc (dc_at dX9_count 34 rfl) fl_X9_93 hf fun x16 hf => ?_
      exact r_iretP hc he (hm) (hs) (dc_at dX9_count 35 rfl) hf
  · refine r_tableOut (tgt := 118) 9 hc (dc_at dX9_count 1 rfl) hx (by decide) (by decide) ?_
    refine r_iconst (-1 : Int32) hc (dc_at dX9_count 36 rfl) (by decide) ?_
    exact r_iretP hc he (hm) (hs) (dc_at dX9_count 37 rfl) hf
def m_X9_count (h : PH) (p0 : Nat) (p1 : Int32) : Option Int32 := b_X9_count_0 h p0 p1
theorem mt_X9_count {l : Launch} {X : XT} {h : PH} {p0 : Nat} {p1 : Int32} {r : Int32} (ex : m_X9_count h p0 p1 = some r) : MT l X yX9_count cX9_count 2 (some .int) 1 60 0 0 [.ref (X.1 + p0), .int p1] h (some (.int r)) h := MT.of (by decide) (Nat.le_of_ble_eq_true rfl) fun M hl hc hr he => by
  subst hl
  exact gg_sub [0, 1] rfl (t_X9_count_0  hc hr he (Nat.zero_le _) (Nat.zero_le _) ex)
/-! FractionLiftModel.within(JJJ)Z -/
def lX10_withinL : List (Nat × Instr × Nat × Nat) := [(0, .lload_n 0, 1, 1), (1, .lload_n 2, 1, 2), (2, .lcmp, 1, 3), (3, .ifCond .lt 14, 3, 6), (6, .lload_n 0, 1, 7), (7, .lload 4, 2, 9), (9, .lcmp, 1, 10), (10, .ifCond .gt 7, 3, 13), (13, .iconst 1, 1, 14), (14, .goto 4, 3, 17), (17, .iconst 0, 1, 18), (18, .ireturn, 1, 19)]
set_option maxRecDepth 20000 in
theorem dX10_within : dcL cX10_within lX10_withinL = true := by decide +kernel
def b_X10_within_0 (v0 : Int64) (v2 : Int64) (v4 : Int64) : Option Int32 := if v0 < v2 then (rZP (0 : Int32)) else (if v4 < v0 then (rZP (0 : Int32)) else (rZP (1 : Int32)))
set_option maxRecDepth 20000 in
theorem t_X10_within_0 {M : MV} {X : XT} {h : PH} {r : Int32} {ce sl mc ms : Nat} {v0 : Int64} {v2 : Int64} {v4 : Int64} (hc : Cx M X RX10 cX10_within) (hr : Rx M 1 60 mc ms 6) (he : Ex M X (some .boolean) "within" (some (.int r)) h mc ms) (hm : ce ≤ mc) (hs : sl ≤ ms) (hf : b_X10_within_0 v0 v2 v4 = some r) : GG M X h ce sl 0 [(0, .long v0), (2, .long v2), (4, .long v4)] [] := by
  unfold b_X10_within_0 at hf
  refine r_lload_n hc 0 (dc_at dX10_within 0 rfl) rfl ?_
  refine r_lload_n hc 1 (dc_at dX10_within 1 rfl) rfl ?_
  refine r_lcmp_lt (tgt := 17) hc (dc_at dX10_within 2 rfl) (dc_at dX10_within 3 rfl) (by decide) hf (fun hf => ?_) (fun hf => ?_)
  · refine r_iconst (0 : Int32) hc (dc_at dX10_within 10 rfl) (by decide) ?_
    exact r_zretP hc he (hm) (hs) (dc_at dX10_within 11 rfl) hf
  · refine r_lload_n hc 0 (dc_at dX10_within 4 rfl) rfl ?_
    refine r_lload hc 2 (dc_at dX10_within 5 rfl) rfl ?_
    refine r_lcmp_gt (tgt := 17) hc (dc_at dX10_within 6 rfl) (dc_at dX10_within 7 rfl) (by decide) hf (fun hf => ?_) (fun hf => ?_)
    · refine r_iconst (0 : Int32) hc (dc_at dX10_within 10 rfl) (by decide) ?_
      exact r_zretP hc he (hm) (hs) (dc_at dX10_within 11 rfl) hf
    · refine r_iconst (1 : Int32) hc (dc_at dX10_within 8 rfl) (by decide) ?_
      refine r_goto (tgt := 18) hc (dc_at dX10_within 9 rfl) (by decide) ?_
      exact r_zretP hc he (hm) (hs) (dc_at dX10_within 11 rfl) hf
def m_X10_within (p0 : Int64) (p2 : Int64) (p4 : Int64) : Option Int32 := b_X10_within_0 p0 p2 p4
theorem mt_X10_within {l : Launch} {X : XT} {h : PH} {p0 : Int64} {p2 : Int64} {p4 : Int64} {r : Int32} (ex : m_X10_within p0 p2 p4 = some r) : MT l X yX10_within cX10_within 6 (some .boolean) 1 60 0 0 [.long p0, .long p2, .long p4] h (some (.int r)) h := MT.of (by decide) (Nat.le_of_ble_eq_true rfl) fun M hl hc hr he => by
  subst hl
  exact gg_sub [0, 1, 2] rfl (t_X10_within_0  hc hr he (Nat.zero_le _) (Nat.zero_le _) ex)
/-! FractionLiftModel.plain([I)V -/
def lX10_plainL : List (Nat × Instr × Nat × Nat) := [(0, .iconst 0, 1, 1), (1, .istore_n 1, 1, 2), (2, .iload_n 1, 1, 3), (3, .sipush 999, 3, 6), (6, .if_icmp .ge 13, 3, 9), (9, .aload_n 0, 1, 10), (10, .iload_n 1, 1, 11), (11, .iconst 0, 1, 12), (12, .iastore, 1, 13), (13, .iinc 1 1, 3, 16), (16, .goto (-14), 3, 19), (19, .aload_n 0, 1, 20), (20, .iconst 1, 1, 21), (21, .iconst 4, 1, 22), (22, .iastore, 1, 23), (23, .aload_n 0, 1, 24), (24, .bipush 8, 2, 26), (26, .iconst 1, 1, 27), (27, .iastore, 1, 28), (28, .return_, 1, 29)]
set_option maxRecDepth 20000 in
theorem dX10_plain : dcL cX10_plain lX10_plainL = true := by decide +kernel
def b_X10_plain_2 (F : Nat) (self2 : PH → Nat → Int32 → Option (Unit × PH)) (h : PH) (v0 : Nat) (v1 : Int32) : Option (Unit × PH) := if (999 : Int32) ≤ v1 then ((sI 0 h v0 (1 : Int32) (4 : Int32)).bind fun h1 => ((sI 0 h1 v0 (8 : Int32) (1 : Int32)).bind fun h2 => (some ((), h2)))) else ((sI 0 h v0 v1 (0 : Int32)).bind fun h3 => (bindv (v1 + (1)) fun x4 => (self2 h3 v0 x4)))
set_option maxRecDepth 20000 in
theorem tb_X10_plain_2 {M : MV} {X : XT} {F : Nat} {self2 : PH → Nat → Int32 → Option (Unit × PH)} {h hz : PH} {r : Unit} {ce sl mc ms : Nat} {v0 : Nat} {v1 : Int32} (hc : Cx M X RX10 cX10_plain) (hr : Rx M 1 60 mc ms 2) (he : Ex M X none "plain" none hz mc ms) (hm : ce ≤ mc) (hs : sl ≤ ms) (ih2 : ∀ (h : PH) (v0 : Nat) (v1 : Int32), self2 h v0 v1 = some (r, hz) → GG M X h ce sl 2 [(0, .ref (X.1 + v0)), (1, .int v1)] []) (hf : b_X10_plain_2 F self2 h v0 v1 = some (r, hz)) : GG M X h ce sl 2 [(0, .ref (X.1 + v0)), (1, .int v1)] [] := by
  unfold b_X10_plain_2 at hf
  refine r_iload_n hc 1 (dc_at dX10_plain 2 rfl) rfl ?_
  refine r_sipush (999 : Int32) hc (dc_at dX10_plain 3 rfl) (by decide) ?_
  refine r_icmp_ge (tgt := 19) hc (dc_at dX10_plain 4 rfl) (by decide) hf (fun hf => ?_) (fun hf => ?_)
  · refine r_aload_n hc 0 (dc_at dX10_plain 11 rfl) rfl ?_
    refine r_iconst (1 : Int32) hc (dc_at dX10_plain 12 rfl) (by decide) ?_
    refine r_iconst (4 : Int32) hc (dc_at dX10_plain 13 rfl) (by decide) ?_
    refine r_iastore hc (dc_at dX10_plain 14 rfl) hf fun h1 hf => ?_
    refine r_aload_n hc 0 (dc_at dX10_plain 15 rfl) rfl ?_
    refine r_bipush (8 : Int32) hc (dc_at dX10_plain 16 rfl) (by decide) ?_
    refine r_iconst (1 : Int32) hc (dc_at dX10_plain 17 rfl) (by decide) ?_
    refine r_iastore hc (dc_at dX10_plain 18 rfl) hf fun h2 hf => ?_
    exact r_vret hc he (hm) (hs) (dc_at dX10_plain 19 rfl) hf
  · refine r_aload_n hc 0 (dc_at dX10_plain 5 rfl) rfl ?_
    refine r_iload_n hc 1 (dc_at dX10_plain 6 rfl) rfl ?_
    refine r_iconst (0 : Int32) hc (dc_at dX10_plain 7 rfl) (by decide) ?_
    refine r_iastore hc (dc_at dX10_plain 8 rfl) hf fun h3 hf => ?_
    refine obv hf fun x4 e_x4 hf => ?_
    refine r_iinc 1 [(1, .int x4), (0, .ref (X.1 + v0))] hc hr (dc_at dX10_plain 9 rfl) rfl (by rw [e_x4]; rfl) (by decide) rfl ?_
    refine r_goto (tgt := 2) hc (dc_at dX10_plain 10 rfl) (by decide) ?_
    exact gg_sub [1, 0] rfl (ih2 _ _ _ hf)
def l_X10_plain_2 (F : Nat) : Nat → PH → Nat → Int32 → Option (Unit × PH)
  | 0 => fun _ _ _ => none
  | n + 1 => fun h v0 v1 => b_X10_plain_2 F (l_X10_plain_2 F n) h v0 v1
theorem tl_X10_plain_2 {M : MV} {X : XT} {F : Nat} {hz : PH} {r : Unit} {ce sl mc ms : Nat} (hc : Cx M X RX10 cX10_plain) (hr : Rx M 1 60 mc ms 2) (he : Ex M X none "plain" none hz mc ms) (hm : ce ≤ mc) (hs : sl ≤ ms) (n : Nat) : ∀ (h : PH) (v0 : Nat) (v1 : Int32), l_X10_plain_2 F n h v0 v1 = some (r, hz) → GG M X h ce sl 2 [(0, .ref (X.1 + v0)), (1, .int v1)] [] := by
  induction n with
  | zero => intro h v0 v1 hf; cases hf
  | succ n ih => intro h v0 v1 hf; exact tb_X10_plain_2 (F := F) hc hr he hm hs  ih hf
def b_X10_plain_0 (F : Nat) (h : PH) (v0 : Nat) : Option (Unit × PH) := l_X10_plain_2 F F h v0 (0 : Int32)
set_option maxRecDepth 20000 in
theorem t_X10_plain_0 {M : MV} {X : XT} {F : Nat} {h hz : PH} {r : Unit} {ce sl mc ms : Nat} {v0 : Nat} (hc : Cx M X RX10 cX10_plain) (hr : Rx M 1 60 mc ms 2) (he : Ex M X none "plain" none hz mc ms) (hm : ce ≤ mc) (hs : sl ≤ ms) (hf : b_X10_plain_0 F h v0 = some (r, hz)) : GG M X h ce sl 0 [(0, .ref (X.1 + v0))] [] := by
  unfold b_X10_plain_0 at hf
  refine r_iconst (0 : Int32) hc (dc_at dX10_plain 0 rfl) (by decide) ?_
  refine r_istore_n [(1, .int ((0 : Int32))), (0, .ref (X.1 + v0))] hc hr (dc_at dX10_plain 1 rfl) (by decide) rfl ?_
  exact gg_sub [1, 0] rfl (tl_X10_plain_2 hc hr he hm hs  F _ _ _ hf)
def m_X10_plain (F : Nat) (h : PH) (p0 : Nat) : Option (Unit × PH) := b_X10_plain_0 F h p0
theorem mt_X10_plain {l : Launch} {X : XT} {F : Nat} {h hz : PH} {p0 : Nat} {r : Unit} (ex : m_X10_plain F h p0 = some (r, hz)) : MT l X yX10_plain cX10_plain 2 none 1 60 0 0 [.ref (X.1 + p0)] h none hz := MT.of (by decide) (Nat.le_of_ble_eq_true rfl) fun M hl hc hr he => by
  subst hl
  exact gg_sub [0] rfl (t_X10_plain_0  hc hr he (Nat.zero_le _) (Nat.zero_le _) ex)
/-! FractionLiftModel.<init>()V -/
def lX10_initL : List (Nat × Instr × Nat × Nat) := [(0, .aload_n 0, 1, 1), (1, .invokespecial 7, 3, 4), (4, .aload_n 0, 1, 5), (5, .sipush 2997, 3, 8), (8, .newarray .int, 2, 10), (10, .putfield 13, 3, 13), (13, .aload_n 0, 1, 14), (14, .iconst 2, 1, 15), (15, .newarray .boolean, 2, 17), (17, .putfield 17, 3, 20), (20, .aload_n 0, 1, 21), (21, .sipush 900, 3, 24), (24, .newarray .int, 2, 26), (26, .putfield 21, 3, 29), (29, .aload_n 0, 1, 30), (30, .sipush 999, 3, 33), (33, .newarray .int, 2, 35), (35, .putfield 24, 3, 38), (38, .aload_n 0, 1, 39), (39, .iconst (-1), 1, 40), (40, .putfield 27, 3, 43), (43, .aload_n 0, 1, 44), (44, .sipush 900, 3, 47), (47, .newarray .long, 2, 49), (49, .putfield 30, 3, 52), (52, .aload_n 0, 1, 53), (53, .sipush 900, 3, 56), (56, .newarray .long, 2, 58), (58, .putfield 34, 3, 61), (61, .aload_n 0, 1, 62), (62, .bipush 8, 2, 64), (64, .newarray .int, 2, 66), (66, .putfield 37, 3, 69), (69, .aload_n 0, 1, 70), (70, .sipush 8192, 3, 73), (73, .newarray .int, 2, 75), (75, .putfield 40, 3, 78), (78, .aload_n 0, 1, 79), (79, .sipush 8192, 3, 82), (82, .newarray .int, 2, 84), (84, .putfield 43, 3, 87), (87, .aload_n 0, 1, 88), (88, .sipush 8192, 3, 91), (91, .newarray .int, 2, 93), (93, .putfield 46, 3, 96), (96, .aload_n 0, 1, 97), (97, .sipush 8192, 3, 100), (100, .newarray .int, 2, 102), (102, .putfield 49, 3, 105), (105, .aload_n 0, 1, 106), (106, .sipush 16384, 3, 109), (109, .newarray .int, 2, 111), (111, .putfield 52, 3, 114), (114, .aload_n 0, 1, 115), (115, .bipush 8, 2, 117), (117, .newarray .int, 2, 119), (119, .putfield 55, 3, 122), (122, .aload_n 0, 1, 123), (123, .sipush 8192, 3, 126), (126, .newarray .int, 2, 128), (128, .putfield 58, 3, 131), (131, .aload_n 0, 1, 132), (132, .sipush 8192, 3, 135), (135, .newarray .int, 2, 137), (137, .putfield 61, 3, 140), (140, .aload_n 0, 1, 141), (141, .sipush 900, 3, 144), (144, .newarray .int, 2, 146), (146, .putfield 64, 3, 149), (149, .aload_n 0, 1, 150), (150, .sipush 1400, 3, 153), (153, .newarray .int, 2, 155), (155, .putfield 67, 3, 158), (158, .aload_n 0, 1, 159), (159, .sipush 1400, 3, 162), (162, .newarray .int, 2, 164), (164, .putfield 70, 3, 167), (167, .aload_n 0, 1, 168), (168, .bipush 64, 2, 170), (170, .newarray .int, 2, 172), (172, .putfield 73, 3, 175), (175, .aload_n 0, 1, 176), (176, .bipush 64, 2, 178), (178, .newarray .int, 2, 180), (180, .putfield 76, 3, 183), (183, .aload_n 0, 1, 184), (184, .bipush 8, 2, 186), (186, .newarray .int, 2, 188), (188, .putfield 79, 3, 191), (191, .aload_n 0, 1, 192), (192, .bipush 8, 2, 194), (194, .newarray .int, 2, 196), (196, .putfield 82, 3, 199), (199, .aload_n 0, 1, 200), (200, .bipush 48, 2, 202), (202, .newarray .int, 2, 204), (204, .putfield 85, 3, 207), (207, .aload_n 0, 1, 208), (208, .sipush 300, 3, 211), (211, .newarray .int, 2, 213), (213, .putfield 88, 3, 216), (216, .aload_n 0, 1, 217), (217, .sipush 300, 3, 220), (220, .newarray .int, 2, 222), (222, .putfield 91, 3, 225), (225, .aload_n 0, 1, 226), (226, .sipush 300, 3, 229), (229, .newarray .long, 2, 231), (231, .putfield 94, 3, 234), (234, .aload_n 0, 1, 235), (235, .iconst 4, 1, 236), (236, .newarray .int, 2, 238), (238, .dup, 1, 239), (239, .iconst 0, 1, 240), (240, .iconst (-1), 1, 241), (241, .iastore, 1, 242), (242, .dup, 1, 243), (243, .iconst 1, 1, 244), (244, .iconst (-1), 1, 245), (245, .iastore, 1, 246), (246, .dup, 1, 247), (247, .iconst 2, 1, 248), (248, .iconst (-1), 1, 249), (249, .iastore, 1, 250), (250, .dup, 1, 251), (251, .iconst 3, 1, 252), (252, .iconst (-1), 1, 253), (253, .iastore, 1, 254), (254, .putfield 97, 3, 257), (257, .aload_n 0, 1, 258), (258, .iconst 4, 1, 259), (259, .newarray .int, 2, 261), (261, .putfield 100, 3, 264), (264, .aload_n 0, 1, 265), (265, .sipush 160, 3, 268), (268, .newarray .long, 2, 270), (270, .putfield 103, 3, 273), (273, .aload_n 0, 1, 274), (274, .getfield 13, 3, 277), (277, .invokestatic 106, 3, 280), (280, .return_, 1, 281)]
set_option maxRecDepth 20000 in
theorem dX10_init : dcL cX10_init lX10_initL = true := by decide +kernel
def b_X10_init_0 (F : Nat) (h : PH) (v0 : Nat) : Option (Unit × PH) := bindv h.length fun a1 => (bindv (h ++ [.inl (0, 2997, .inl (fun _ => 0))]) fun h2 => ((pV 10 1 (.ref a1) h2 v0).bind fun h3 => (bindv h3.length fun a4 => (bindv (h3 ++ [.inl (2, 2, .inl (fun _ => 0))]) fun h5 => ((pV 10 2 (.ref a4) h5 v0).bind fun h6 => (bindv h6.length fun a7 => (bindv (h6 ++ [.inl (0, 900, .inl (fun _ => 0))]) fun h8 => ((pV 10 3 (.ref a7) h8 v0).bind fun h9 => (bindv h9.length fun a10 => (bindv (h9 ++ [.inl (0, 999, .inl (fun _ => 0))]) fun h11 => ((pV 10 4 (.ref a10) h11 v0).bind fun h12 => ((pV 10 14 (.int (-1 : Int32)) h12 v0).bind fun h13 => (bindv h13.length fun a14 => (bindv (h13 ++ [.inl (1, 900, .inr (.inl (fun _ => 0)))]) fun h15 => ((pV 10 19 (.ref a14) h15 v0).bind fun h16 => (bindv h16.length fun a17 => (bindv (h16 ++ [.inl (1, 900, .inr (.inl (fun _ => 0)))]) fun h18 => ((pV 10 20 (.ref a17) h18 v0).bind fun h19 => (bindv h19.length fun a20 => (bindv (h19 ++ [.inl (0, 8, .inl (fun _ => 0))]) fun h21 => ((pV 10 23 (.ref a20) h21 v0).bind fun h22 => (bindv h22.length fun a23 => (bindv (h22 ++ [.inl (0, 8192, .inl (fun _ => 0))]) fun h24 => ((pV 10 24 (.ref a23) h24 v0).bind fun h25 => (bindv h25.length fun a26 => (bindv (h25 ++ [.inl (0, 8192, .inl (fun _ => 0))]) fun h27 => ((pV 10 25 (.ref a26) h27 v0).bind fun h28 => (bindv h28.length fun a29 => (bindv (h28 ++ [.inl (0, 8192, .inl (fun _ => 0))]) fun h30 => ((pV 10 26 (.ref a29) h30 v0).bind fun h31 => (bindv h31.length fun a32 => (bindv (h31 ++ [.inl (0, 8192, .inl (fun _ => 0))]) fun h33 => ((pV 10 27 (.ref a32) h33 v0).bind fun h34 => (bindv h34.length fun a35 => (bindv (h34 ++ [.inl (0, 16384, .inl (fun _ => 0))]) fun h36 => ((pV 10 28 (.ref a35) h36 v0).bind fun h37 => (bindv h37.length fun a38 => (bindv (h37 ++ [.inl (0, 8, .inl (fun _ => 0))]) fun h39 => ((pV 10 30 (.ref a38) h39 v0).bind fun h40 => (bindv h40.length fun a41 => (bindv (h40 ++ [.inl (0, 8192, .inl (fun _ => 0))]) fun h42 => ((pV 10 31 (.ref a41) h42 v0).bind fun h43 => (bindv h43.length fun a44 => (bindv (h43 ++ [.inl (0, 8192, .inl (fun _ => 0))]) fun h45 => ((pV 10 32 (.ref a44) h45 v0).bind fun h46 => (bindv h46.length fun a47 => (bindv (h46 ++ [.inl (0, 900, .inl (fun _ => 0))]) fun h48 => ((pV 10 36 (.ref a47) h48 v0).bind fun h49 => (bindv h49.length fun a50 => (bindv (h49 ++ [.inl (0, 1400, .inl (fun _ => 0))]) fun h51 => ((pV 10 37 (.ref a50) h51 v0).bind fun h52 => (bindv h52.length fun a53 => (bindv (h52 ++ [.inl (0, 1400, .inl (fun _ => 0))]) fun h54 => ((pV 10 38 (.ref a53) h54 v0).bind fun h55 => (bindv h55.length fun a56 => (bindv (h55 ++ [.inl (0, 64, .inl (fun _ => 0))]) fun h57 => ((pV 10 41 (.ref a56) h57 v0).bind fun h58 => (bindv h58.length fun a59 => (bindv (h58 ++ [.inl (0, 64, .inl (fun _ => 0))]) fun h60 => ((pV 10 42 (.ref a59) h60 v0).bind fun h61 => (bindv h61.length fun a62 => (bindv (h61 ++ [.inl (0, 8, .inl (fun _ => 0))]) fun h63 => ((pV 10 43 (.ref a62) h63 v0).bind fun h64 => (bindv h64.length fun a65 => (bindv (h64 ++ [.inl (0, 8, .inl (fun _ => 0))]) fun h66 => ((pV 10 44 (.ref a65) h66 v0).bind fun h67 => (bindv h67.length fun a68 => (bindv (h67 ++ [.inl (0, 48, .inl (fun _ => 0))]) fun h69 => ((pV 10 45 (.ref a68) h69 v0).bind fun h70 => (bindv h70.length fun a71 => (bindv (h70 ++ [.inl (0, 300, .inl (fun _ => 0))]) fun h72 => ((pV 10 48 (.ref a71) h72 v0).bind fun h73 => (bindv h73.length fun a74 => (bindv (h73 ++ [.inl (0, 300, .inl (fun _ => 0))]) fun h75 => ((pV 10 49 (.ref a74) h75 v0).bind fun h76 => (bindv h76.length fun a77 => (bindv (h76 ++ [.inl (1, 300, .inr (.inl (fun _ => 0)))]) fun h78 => ((pV 10 50 (.ref a77) h78 v0).bind fun h79 => (bindv h79.length fun a80 => (bindv (h79 ++ [.inl (0, 4, .inl (fun _ => 0))]) fun h81 => ((sI 0 h81 a80 (0 : Int32) (-1 : Int32)).bind fun h82 => ((sI 0 h82 a80 (1 : Int32) (-1 : Int32)).bind fun h83 => ((sI 0 h83 a80 (2 : Int32) (-1 : Int32)).bind fun h84 => ((sI 0 h84 a80 (3 : Int32) (-1 : Int32)).bind fun h85 => ((pV 10 52 (.ref a80) h85 v0).bind fun h86 => (bindv h86.length fun a87 => (bindv (h86 ++ [.inl (0, 4, .inl (fun _ => 0))]) fun h88 => ((pV 10 53 (.ref a87) h88 v0).bind fun h89 => (bindv h89.length fun a90 => (bindv (h89 ++ [.inl (1, 160, .inr (.inl (fun _ => 0)))]) fun h91 => ((pV 10 54 (.ref a90) h91 v0).bind fun h92 => ((gR 10 1 h92 v0).bind fun a93 => (bind2 (m_X10_plain F h92 a93) fun _ h95 => (some ((), h95)))))))))))))))))))))))))))))))))))))))))))))))))))))))))))))))))))))))))))))))))))))))))))))))
set_option maxRecDepth 20000 in
theorem t_X10_init_0 {M : MV} {X : XT} {F : Nat} {h hz : PH} {r : Unit} {v0 : Nat} (hc : Cx M X RX10 cX10_init) (hr : Rx M 2 118 29 77210 1) (he : Ex M X none "<init>" none hz 29 77210) (hm : 0 ≤ 29) (hs : 0 ≤ 77210) (hf : b_X10_init_0 F h v0 = some (r, hz)) : GG M X h 0 0 0 [(0, .ref (X.1 + v0))] [] := by
  unfold b_X10_init_0 at hf
  refine r_aload_n hc 0 (dc_at dX10_init 0 rfl) rfl ?_
  refine r_objinit hc hr (dc_at dX10_init 1 rfl) oi_X10_7 oiw (by first | exact Nat.le_of_ble_eq_true rfl | omega) (by first | exact Nat.le_of_ble_eq_true rfl | omega) ?_
  refine r_aload_n hc 0 (dc_at dX10_init 2 rfl) rfl ?_
  refine r_sipush (2997 : Int32) hc (dc_at dX10_init 3 rfl) (by decide) ?_
  refine r_newarrN (t := 0) (N := 2997) (ty := .int) hc hr (dc_at dX10_init 4 rfl) arr_int rfl (fun _ _ z => z) rfl (fun _ => rfl) (by decide) (by decide) (by decide) (Nat.le_of_ble_eq_true rfl) (Nat.le_of_ble_eq_true rfl) hf fun a1 h2 hf => ?_
  refine r_putR hc he (dc_at dX10_init 5 rfl) fp_X10_13 (fun _ => rfl) ⟨rfl, fun _ => ⟨rfl, rfl⟩⟩ hf fun h3 hf => ?_
  refine r_aload_n hc 0 (dc_at dX10_init 6 rfl) rfl ?_
  refine r_iconst (2 : Int32) hc (dc_at dX10_init 7 rfl) (by decide) ?_
  refine r_newarrN (t := 2) (N := 2) (ty := .boolean) hc hr (dc_at dX10_init 8 rfl) arr_boolean rfl (fun _ _ z => z) rfl (fun _ => rfl) (by decide) (by decide) (by decide) (Nat.le_of_ble_eq_true rfl) (Nat.le_of_ble_eq_true rfl) hf fun a4 h5 hf => ?_
  refine r_putR hc he (dc_at dX10_init 9 rfl) fp_X10_17 (fun _ => rfl) ⟨rfl, fun _ => ⟨rfl, rfl⟩⟩ hf fun h6 hf => ?_
  refine r_aload_n hc 0 (dc_at dX10_init 10 rfl) rfl ?_
  refine r_sipush (900 : Int32) hc (dc_at dX10_init 11 rfl) (by decide) ?_
  refine r_newarrN (t := 0) (N := 900) (ty := .int) hc hr (dc_at dX10_init 12 rfl) arr_int rfl (fun _ _ z => z) rfl (fun _ => rfl) (by decide) (by decide) (by decide) (Nat.le_of_ble_eq_true rfl) (Nat.le_of_ble_eq_true rfl) hf fun a7 h8 hf => ?_
  refine r_putR hc he (dc_at dX10_init 13 rfl) fp_X10_21 (fun _ => rfl) ⟨rfl, fun _ => ⟨rfl, rfl⟩⟩ hf fun h9 hf => ?_
  refine r_aload_n hc 0 (dc_at dX10_init 14 rfl) rfl ?_
  refine r_sipush (999 : Int32) hc (dc_at dX10_init 15 rfl) (by decide) ?_
  refine r_newarrN (t := 0) (N := 999) (ty := .int) hc hr (dc_at dX10_init 16 rfl) arr_int rfl (fun _ _ z => z) rfl (fun _ => rfl) (by decide) (by decide) (by decide) (Nat.le_of_ble_eq_true rfl) (Nat.le_of_ble_eq_true rfl) hf fun a10 h11 hf => ?_
  refine r_putR hc he (dc_at dX10_init 17 rfl) fp_X10_24 (fun _ => rfl) ⟨rfl, fun _ => ⟨rfl, rfl⟩⟩ hf fun h12 hf => ?_
  refine r_aload_n hc 0 (dc_at dX10_init 18 rfl) rfl ?_
  refine r_iconst (-1 : Int32) hc (dc_at dX10_init 19 rfl) (by decide) ?_
  refine r_putI hc he (dc_at dX10_init 20 rfl) fp_X10_27 (fun q => by cases q) hf fun h13 hf => ?_
  refine r_aload_n hc 0 (dc_at dX10_init 21 rfl) rfl ?_
  refine r_sipush (900 : Int32) hc (dc_at dX10_init 22 rfl) (by decide) ?_
  refine r_newarrN (t := 1) (N := 900) (ty := .long) hc hr (dc_at dX10_init 23 rfl) arr_long rfl (fun _ _ z => z) rfl (fun _ => rfl) (by decide) (by decide) (by decide) (Nat.le_of_ble_eq_true rfl) (Nat.le_of_ble_eq_true rfl) hf fun a14 h15 hf => ?_
  refine r_putR hc he (dc_at dX10_init 24 rfl) fp_X10_30 (fun _ => rfl) ⟨rfl, fun _ => ⟨rfl, rfl⟩⟩ hf fun h16 hf => ?_
  refine r_aload_n hc 0 (dc_at dX10_init 25 rfl) rfl ?_
  refine r_sipush (900 : Int32) hc (dc_at dX10_init 26 rfl) (by decide) ?_
  refine r_newarrN (t := 1) (N := 900) (ty := .long) hc hr (dc_at dX10_init 27 rfl) arr_long rfl (fun _ _ z => z) rfl (fun _ => rfl) (by decide) (by decide) (by decide) (Nat.le_of_ble_eq_true rfl) (Nat.le_of_ble_eq_true rfl) hf fun a17 h18 hf => ?_
  refine r_putR hc he (dc_at dX10_init 28 rfl) fp_X10_34 (fun _ => rfl) ⟨rfl, fun _ => ⟨rfl, rfl⟩⟩ hf fun h19 hf => ?_
  refine r_aload_n hc 0 (dc_at dX10_init 29 rfl) rfl ?_
  refine r_bipush (8 : Int32) hc (dc_at dX10_init 30 rfl) (by decide) ?_
  refine r_newarrN (t := 0) (N := 8) (ty := .int) hc hr (dc_at dX10_init 31 rfl) arr_int rfl (fun _ _ z => z) rfl (fun _ => rfl) (by decide) (by decide) (by decide) (Nat.le_of_ble_eq_true rfl) (Nat.le_of_ble_eq_true rfl) hf fun a20 h21 hf => ?_
  refine r_putR hc he (dc_at dX10_init 32 rfl) fp_X10_37 (fun _ => rfl) ⟨rfl, fun _ => ⟨rfl, rfl⟩⟩ hf fun h22 hf => ?_
  refine r_aload_n hc 0 (dc_at dX10_init 33 rfl) rfl ?_
  refine r_sipush (8192 : Int32) hc (dc_at dX10_init 34 rfl) (by decide) ?_
  refine r_newarrN (t := 0) (N := 8192) (ty := .int) hc hr (dc_at dX10_init 35 rfl) arr_int rfl (fun _ _ z => z) rfl (fun _ => rfl) (by decide) (by decide) (by decide) (Nat.le_of_ble_eq_true rfl) (Nat.le_of_ble_eq_true rfl) hf fun a23 h24 hf => ?_
  refine r_putR hc he (dc_at dX10_init 36 rfl) fp_X10_40 (fun _ => rfl) ⟨rfl, fun _ => ⟨rfl, rfl⟩⟩ hf fun h25 hf => ?_
  refine r_aload_n hc 0 (dc_at dX10_init 37 rfl) rfl ?_
  refine r_sipush (8192 : Int32) hc (dc_at dX10_init 38 rfl) (by decide) ?_
  refine r_newarrN (t := 0) (N := 8192) (ty := .int) hc hr (dc_at dX10_init 39 rfl) arr_int rfl (fun _ _ z => z) rfl (fun _ => rfl) (by decide) (by decide) (by decide) (Nat.le_of_ble_eq_true rfl) (Nat.le_of_ble_eq_true rfl) hf fun a26 h27 hf => ?_
  refine r_putR hc he (dc_at dX10_init 40 rfl) fp_X10_43 (fun _ => rfl) ⟨rfl, fun _ => ⟨rfl, rfl⟩⟩ hf fun h28 hf => ?_
  refine r_aload_n hc 0 (dc_at dX10_init 41 rfl) rfl ?_
  refine r_sipush (8192 : Int32) hc (dc_at dX10_init 42 rfl) (by decide) ?_
  refine r_newarrN (t := 0) (N := 8192) (ty := .int) hc hr (dc_at dX10_init 43 rfl) arr_int rfl (fun _ _ z => z) rfl (fun _ => rfl) (by decide) (by decide) (by decide) (Nat.le_of_ble_eq_true rfl) (Nat.le_of_ble_eq_true rfl) hf fun a29 h30 hf => ?_
  refine r_putR hc he (dc_at dX10_init 44 rfl) fp_X10_46 (fun _ => rfl) ⟨rfl, fun _ => ⟨rfl, rfl⟩⟩ hf fun h31 hf => ?_
  refine r_aload_n hc 0 (dc_at dX10_init 45 rfl) rfl ?_
  refine r_sipush (8192 : Int32) hc (dc_at dX10_init 46 rfl) (by decide) ?_
  refine r_newarrN (t := 0) (N := 8192) (ty := .int) hc hr (dc_at dX10_init 47 rfl) arr_int rfl (fun _ _ z => z) rfl (fun _ => rfl) (by decide) (by decide) (by decide) (Nat.le_of_ble_eq_true rfl) (Nat.le_of_ble_eq_true rfl) hf fun a32 h33 hf => ?_
  refine r_putR hc he (dc_at dX10_init 48 rfl) fp_X10_49 (fun _ => rfl) ⟨rfl, fun _ => ⟨rfl, rfl⟩⟩ hf fun h34 hf => ?_
  refine r_aload_n hc 0 (dc_at dX10_init 49 rfl) rfl ?_
  refine r_sipush (16384 : Int32) hc (dc_at dX10_init 50 rfl) (by decide) ?_
  refine r_newarrN (t := 0) (N := 16384) (ty := .int) hc hr (dc_at dX10_init 51 rfl) arr_int rfl (fun _ _ z => z) rfl (fun _ => rfl) (by decide) (by decide) (by decide) (Nat.le_of_ble_eq_true rfl) (Nat.le_of_ble_eq_true rfl) hf fun a35 h36 hf => ?_
  refine r_putR hc he (dc_at dX10_init 52 rfl) fp_X10_52 (fun _ => rfl) ⟨rfl, fun _ => ⟨rfl, rfl⟩⟩ hf fun h37 hf => ?_
  refine r_aload_n hc 0 (dc_at dX10_init 53 rfl) rfl ?_
  refine r_bipush (8 : Int32) hc (dc_at dX10_init 54 rfl) (by decide) ?_
  refine r_newarrN (t := 0) (N := 8) (ty := .int) hc hr (dc_at dX10_init 55 rfl) arr_int rfl (fun _ _ z => z) rfl (fun _ => rfl) (by decide) (by decide) (by decide) (Nat.le_of_ble_eq_true rfl) (Nat.le_of_ble_eq_true rfl) hf fun a38 h39 hf => ?_
  refine r_putR hc he (dc_at dX10_init 56 rfl) fp_X10_55 (fun _ => rfl) ⟨rfl, fun _ => ⟨rfl, rfl⟩⟩ hf fun h40 hf => ?_
  refine r_aload_n hc 0 (dc_at dX10_init 57 rfl) rfl ?_
  refine r_sipush (8192 : Int32) hc (dc_at dX10_init 58 rfl) (by decide) ?_
  refine r_newarrN (t := 0) (N := 8192) (ty := .int) hc hr (dc_at dX10_init 59 rfl) arr_int rfl (fun _ _ z => z) rfl (fun _ => rfl) (by decide) (by decide) (by decide) (Nat.le_of_ble_eq_true rfl) (Nat.le_of_ble_eq_true rfl) hf fun a41 h42 hf => ?_
  refine r_putR hc he (dc_at dX10_init 60 rfl) fp_X10_58 (fun _ => rfl) ⟨rfl, fun _ => ⟨rfl, rfl⟩⟩ hf fun h43 hf => ?_
  refine r_aload_n hc 0 (dc_at dX10_init 61 rfl) rfl ?_
  refine r_sipush (8192 : Int32) hc (dc_at dX10_init 62 rfl) (by decide) ?_
  refine r_newarrN (t := 0) (N := 8192) (ty := .int) hc hr (dc_at dX10_init 63 rfl) arr_int rfl (fun _ _ z => z) rfl (fun _ => rfl) (by decide) (by decide) (by decide) (Nat.le_of_ble_eq_true rfl) (Nat.le_of_ble_eq_true rfl) hf fun a44 h45 hf => ?_
  refine r_putR hc he (dc_at dX10_init 64 rfl) fp_X10_61 (fun _ => rfl) ⟨rfl, fun _ => ⟨rfl, rfl⟩⟩ hf fun h46 hf => ?_
  refine r_aload_n hc 0 (dc_at dX10_init 65 rfl) rfl ?_
  refine r_sipush (900 : Int32) hc (dc_at dX10_init 66 rfl) (by decide) ?_
  refine r_newarrN (t := 0) (N := 900) (ty := .int) hc hr (dc_at dX10_init 67 rfl) arr_int rfl (fun _ _ z => z) rfl (fun _ => rfl) (by decide) (by decide) (by decide) (Nat.le_of_ble_eq_true rfl) (Nat.le_of_ble_eq_true rfl) hf fun a47 h48 hf => ?_
  refine r_putR hc he (dc_at dX10_init 68 rfl) fp_X10_64 (fun _ => rfl) ⟨rfl, fun _ => ⟨rfl, rfl⟩⟩ hf fun h49 hf => ?_
  refine r_aload_n hc 0 (dc_at dX10_init 69 rfl) rfl ?_
  refine r_sipush (1400 : Int32) hc (dc_at dX10_init 70 rfl) (by decide) ?_
  refine r_newarrN (t := 0) (N := 1400) (ty := .int) hc hr (dc_at dX10_init 71 rfl) arr_int rfl (fun _ _ z => z) rfl (fun _ => rfl) (by decide) (by decide) (by decide) (Nat.le_of_ble_eq_true rfl) (Nat.le_of_ble_eq_true rfl) hf fun a50 h51 hf => ?_
  refine r_putR hc he (dc_at dX10_init 72 rfl) fp_X10_67 (fun _ => rfl) ⟨rfl, fun _ => ⟨rfl, rfl⟩⟩ hf fun h52 hf => ?_
  refine r_aload_n hc 0 (dc_at dX10_init 73 rfl) rfl ?_
  refine r_sipush (1400 : Int32) hc (dc_at dX10_init 74 rfl) (by decide) ?_
  refine r_newarrN (t := 0) (N := 1400) (ty := .int) hc hr (dc_at dX10_init 75 rfl) arr_int rfl (fun _ _ z => z) rfl (fun _ => rfl) (by decide) (by decide) (by decide) (Nat.le_of_ble_eq_true rfl) (Nat.le_of_ble_eq_true rfl) hf fun a53 h54 hf => ?_
  refine r_putR hc he (dc_at dX10_init 76 rfl) fp_X10_70 (fun _ => rfl) ⟨rfl, fun _ => ⟨rfl, rfl⟩⟩ hf fun h55 hf => ?_
  refine r_aload_n hc 0 (dc_at dX10_init 77 rfl) rfl ?_
  refine r_bipush (64 : Int32) hc (dc_at dX10_init 78 rfl) (by decide) ?_
  refine r_newarrN (t := 0) (N := 64) (ty := .int) hc hr (dc_at dX10_init 79 rfl) arr_int rfl (fun _ _ z => z) rfl (fun _ => rfl) (by decide) (by decide) (by decide) (Nat.le_of_ble_eq_true rfl) (Nat.le_of_ble_eq_true rfl) hf fun a56 h57 hf => ?_
  refine r_putR hc he (dc_at dX10_init 80 rfl) fp_X10_73 (fun _ => rfl) ⟨rfl, fun _ => ⟨rfl, rfl⟩⟩ hf fun h58 hf => ?_
  refine r_aload_n hc 0 (dc_at dX10_init 81 rfl) rfl ?_
  refine r_bipush (64 : Int32) hc (dc_at dX10_init 82 rfl) (by decide) ?_
  refine r_newarrN (t := 0) (N := 64) (ty := .int) hc hr (dc_at dX10_init 83 rfl) arr_int rfl (fun _ _ z => z) rfl (fun _ => rfl) (by decide) (by decide) (by decide) (Nat.le_of_ble_eq_true rfl) (Nat.le_of_ble_eq_true rfl) hf fun a59 h60 hf => ?_
  refine r_putR hc he (dc_at dX10_init 84 rfl) fp_X10_76 (fun _ => rfl) ⟨rfl, fun _ => ⟨rfl, rfl⟩⟩ hf fun h61 hf => ?_
  refine r_aload_n hc 0 (dc_at dX10_init 85 rfl) rfl ?_
  refine r_bipush (8 : Int32) hc (dc_at dX10_init 86 rfl) (by decide) ?_
  refine r_newarrN (t := 0) (N := 8) (ty := .int) hc hr (dc_at dX10_init 87 rfl) arr_int rfl (fun _ _ z => z) rfl (fun _ => rfl) (by decide) (by decide) (by decide) (Nat.le_of_ble_eq_true rfl) (Nat.le_of_ble_eq_true rfl) hf fun a62 h63 hf => ?_
  refine r_putR hc he (dc_at dX10_init 88 rfl) fp_X10_79 (fun _ => rfl) ⟨rfl, fun _ => ⟨rfl, rfl⟩⟩ hf fun h64 hf => ?_
  refine r_aload_n hc 0 (dc_at dX10_init 89 rfl) rfl ?_
  refine r_bipush (8 : Int32) hc (dc_at dX10_init 90 rfl) (by decide) ?_
  refine r_newarrN (t := 0) (N := 8) (ty := .int) hc hr (dc_at dX10_init 91 rfl) arr_int rfl (fun _ _ z => z) rfl (fun _ => rfl) (by decide) (by decide) (by decide) (Nat.le_of_ble_eq_true rfl) (Nat.le_of_ble_eq_true rfl) hf fun a65 h66 hf => ?_
  refine r_putR hc he (dc_at dX10_init 92 rfl) fp_X10_82 (fun _ => rfl) ⟨rfl, fun _ => ⟨rfl, rfl⟩⟩ hf fun h67 hf => ?_
  refine r_aload_n hc 0 (dc_at dX10_init 93 rfl) rfl ?_
  refine r_bipush (48 : Int32) hc (dc_at dX10_init 94 rfl) (by decide) ?_
  refine r_newarrN (t := 0) (N := 48) (ty := .int) hc hr (dc_at dX10_init 95 rfl) arr_int rfl (fun _ _ z => z) rfl (fun _ => rfl) (by decide) (by decide) (by decide) (Nat.le_of_ble_eq_true rfl) (Nat.le_of_ble_eq_true rfl) hf fun a68 h69 hf => ?_
  refine r_putR hc he (dc_at dX10_init 96 rfl) fp_X10_85 (fun _ => rfl) ⟨rfl, fun _ => ⟨rfl, rfl⟩⟩ hf fun h70 hf => ?_
  refine r_aload_n hc 0 (dc_at dX10_init 97 rfl) rfl ?_
  refine r_sipush (300 : Int32) hc (dc_at dX10_init 98 rfl) (by decide) ?_
  refine r_newarrN (t := 0) (N := 300) (ty := .int) hc hr (dc_at dX10_init 99 rfl) arr_int rfl (fun _ _ z => z) rfl (fun _ => rfl) (by decide) (by decide) (by decide) (Nat.le_of_ble_eq_true rfl) (Nat.le_of_ble_eq_true rfl) hf fun a71 h72 hf => ?_
  refine r_putR hc he (dc_at dX10_init 100 rfl) fp_X10_88 (fun _ => rfl) ⟨rfl, fun _ => ⟨rfl, rfl⟩⟩ hf fun h73 hf => ?_
  refine r_aload_n hc 0 (dc_at dX10_init 101 rfl) rfl ?_
  refine r_sipush (300 : Int32) hc (dc_at dX10_init 102 rfl) (by decide) ?_
  refine r_newarrN (t := 0) (N := 300) (ty := .int) hc hr (dc_at dX10_init 103 rfl) arr_int rfl (fun _ _ z => z) rfl (fun _ => rfl) (by decide) (by decide) (by decide) (Nat.le_of_ble_eq_true rfl) (Nat.le_of_ble_eq_true rfl) hf fun a74 h75 hf => ?_
  refine r_putR hc he (dc_at dX10_init 104 rfl) fp_X10_91 (fun _ => rfl) ⟨rfl, fun _ => ⟨rfl, rfl⟩⟩ hf fun h76 hf => ?_
  refine r_aload_n hc 0 (dc_at dX10_init 105 rfl) rfl ?_
  refine r_sipush (300 : Int32) hc (dc_at dX10_init 106 rfl) (by decide) ?_
  refine r_newarrN (t := 1) (N := 300) (ty := .long) hc hr (dc_at dX10_init 107 rfl) arr_long rfl (fun _ _ z => z) rfl (fun _ => rfl) (by decide) (by decide) (by decide) (Nat.le_of_ble_eq_true rfl) (Nat.le_of_ble_eq_true rfl) hf fun a77 h78 hf => ?_
  refine r_putR hc he (dc_at dX10_init 108 rfl) fp_X10_94 (fun _ => rfl) ⟨rfl, fun _ => ⟨rfl, rfl⟩⟩ hf fun h79 hf => ?_
  refine r_aload_n hc 0 (dc_at dX10_init 109 rfl) rfl ?_
  refine r_iconst (4 : Int32) hc (dc_at dX10_init 110 rfl) (by decide) ?_
  refine r_newarrN (t := 0) (N := 4) (ty := .int) hc hr (dc_at dX10_init 111 rfl) arr_int rfl (fun _ _ z => z) rfl (fun _ => rfl) (by decide) (by decide) (by decide) (Nat.le_of_ble_eq_true rfl) (Nat.le_of_ble_eq_true rfl) hf fun a80 h81 hf => ?_
  refine r_dup hc (dc_at dX10_init 112 rfl) rfl ?_
  refine r_iconst (0 : Int32) hc (dc_at dX10_init 113 rfl) (by decide) ?_
  refine r_iconst (-1 : Int32) hc (dc_at dX10_init 114 rfl) (by decide) ?_
  refine r_iastore hc (dc_at dX10_init 115 rfl) hf fun h82 hf => ?_
  refine r_dup hc (dc_at dX10_init 116 rfl) rfl ?_
  refine r_iconst (1 : Int32) hc (dc_at dX10_init 117 rfl) (by decide) ?_
  refine r_iconst (-1 : Int32) hc (dc_at dX10_init 118 rfl) (by decide) ?_
  refine r_iastore hc (dc_at dX10_init 119 rfl) hf fun h83 hf => ?_
  refine r_dup hc (dc_at dX10_init 120 rfl) rfl ?_
  refine r_iconst (2 : Int32) hc (dc_at dX10_init 121 rfl) (by decide) ?_
  refine r_iconst (-1 : Int32) hc (dc_at dX10_init 122 rfl) (by decide) ?_
  refine r_iastore hc (dc_at dX10_init 123 rfl) hf fun h84 hf => ?_
  refine r_dup hc (dc_at dX10_init 124 rfl) rfl ?_
  refine r_iconst (3 : Int32) hc (dc_at dX10_init 125 rfl) (by decide) ?_
  refine r_iconst (-1 : Int32) hc (dc_at dX10_init 126 rfl) (by decide) ?_
  refine r_iastore hc (dc_at dX10_init 127 rfl) hf fun h85 hf => ?_
  refine r_putR hc he (dc_at dX10_init 128 rfl) fp_X10_97 (fun _ => rfl) ⟨rfl, fun _ => ⟨rfl, rfl⟩⟩ hf fun h86 hf => ?_
  refine r_aload_n hc 0 (dc_at dX10_init 129 rfl) rfl ?_
  refine r_iconst (4 : Int32) hc (dc_at dX10_init 130 rfl) (by decide) ?_
  refine r_newarrN (t := 0) (N := 4) (ty := .int) hc hr (dc_at dX10_init 131 rfl) arr_int rfl (fun _ _ z => z) rfl (fun _ => rfl) (by decide) (by decide) (by decide) (Nat.le_of_ble_eq_true rfl) (Nat.le_of_ble_eq_true rfl) hf fun a87 h88 hf => ?_
  refine r_putR hc he (dc_at dX10_init 132 rfl) fp_X10_100 (fun _ => rfl) ⟨rfl, fun _ => ⟨rfl, rfl⟩⟩ hf fun h89 hf => ?_
  refine r_aload_n hc 0 (dc_at dX10_init 133 rfl) rfl ?_
  refine r_sipush (160 : Int32) hc (dc_at dX10_init 134 rfl) (by decide) ?_
  refine r_newarrN (t := 1) (N := 160) (ty := .long) hc hr (dc_at dX10_init 135 rfl) arr_long rfl (fun _ _ z => z) rfl (fun _ => rfl) (by decide) (by decide) (by decide) (Nat.le_of_ble_eq_true rfl) (Nat.le_of_ble_eq_true rfl) hf fun a90 h91 hf => ?_
  refine r_putR hc he (dc_at dX10_init 136 rfl) fp_X10_103 (fun _ => rfl) ⟨rfl, fun _ => ⟨rfl, rfl⟩⟩ hf fun h92 hf => ?_
  refine r_aload_n hc 0 (dc_at dX10_init 137 rfl) rfl ?_
  refine r_getR hc (dc_at dX10_init 138 rfl) fl_X10_13 hf fun a93 hf => ?_
  refine ob2 hf fun u h95 ex hf => ?_
  refine r_callSv (As := [.ref (X.1 + a93)]) hc hr (dc_at dX10_init 139 rfl) ml_X10_106 mv_X10_plain st_X10_plain rfl (mt_X10_plain ex) (by first | exact Nat.le_of_ble_eq_true rfl | omega) (by first | exact Nat.le_of_ble_eq_true rfl | omega) (by first | exact Nat.le_of_ble_eq_true rfl | omega) (Nat.le_of_ble_eq_true rfl) (Nat.le_of_ble_eq_true rfl) ?_
  exact r_vret hc he (Nat.le_of_ble_eq_true rfl) (Nat.le_of_ble_eq_true rfl) (dc_at dX10_init 140 rfl) hf
def m_X10_init (F : Nat) (h : PH) (p0 : Nat) : Option (Unit × PH) := b_X10_init_0 F h p0
theorem mt_X10_init {l : Launch} {X : XT} {F : Nat} {h hz : PH} {p0 : Nat} {r : Unit} (ex : m_X10_init F h p0 = some (r, hz)) : MT l X yX10_init cX10_init 1 none 2 118 29 77210 [.ref (X.1 + p0)] h none hz := MT.of (by decide) (Nat.le_of_ble_eq_true rfl) fun M hl hc hr he => by
  subst hl
  exact gg_sub [0] rfl (t_X10_init_0  hc hr he (Nat.zero_le _) (Nat.zero_le _) ex)
/-! FractionLiftModel.feed(IIIII)I -/
def lX10_feedL : List (Nat × Instr × Nat × Nat) := [(0, .aload_n 0, 1, 1), (1, .iconst 0, 1, 2), (2, .putfield 1, 3, 5), (5, .aload_n 0, 1, 6), (6, .getfield 110, 3, 9), (9, .bipush 20, 2, 11), (11, .iadd, 1, 12), (12, .sipush 900, 3, 15), (15, .if_icmp .le 6, 3, 18), (18, .bipush (-5), 2, 20), (20, .ireturn, 1, 21), (21, .iconst 0, 1, 22), (22, .istore 6, 2, 24), (24, .iload 6, 2, 26), (26, .bipush 20, 2, 28), (28, .if_icmp .ge 93, 3, 31), (31, .iload 6, 2, 33), (33, .iconst 4, 1, 34), (34, .if_icmp .ge 7, 3, 37), (37, .iload_n 1, 1, 38), (38, .goto 39, 3, 41), (41, .iload 6, 2, 43), (43, .bipush 8, 2, 45), (45, .if_icmp .ge 7, 3, 48), (48, .iload_n 2, 1, 49), (49, .goto 28, 3, 52), (52, .iload 6, 2, 54), (54, .bipush 12, 2, 56), (56, .if_icmp .ge 7, 3, 59), (59, .iload_n 3, 1, 60), (60, .goto 17, 3, 63), (63, .iload 6, 2, 65), (65, .bipush 16, 2, 67), (67, .if_icmp .ge 8, 3, 70), (70, .iload 4, 2, 72), (72, .goto 5, 3, 75), (75, .iload 5, 2, 77), (77, .istore 7, 2, 79), (79, .aload_n 0, 1, 80), (80, .getfield 21, 3, 83), (83, .aload_n 0, 1, 84), (84, .getfield 110, 3, 87), (87, .iload 7, 2, 89), (89, .bipush 24, 2, 91), (91, .bipush 8, 2, 93), (93, .iload 6, 2, 95), (95, .iconst 4, 1, 96), (96, .irem, 1, 97), (97, .imul, 1, 98), (98, .isub, 1, 99), (99, .ishr, 1, 100), (100, .sipush 255, 3, 103), (103, .iand, 1, 104), (104, .iastore, 1, 105), (105, .aload_n 0, 1, 106), (106, .dup, 1, 107), (107, .getfield 110, 3, 110), (110, .iconst 1, 1, 111), (111, .iadd, 1, 112), (112, .putfield 110, 3, 115), (115, .iinc 6 1, 3, 118), (118, .goto (-94), 3, 121), (121, .aload_n 0, 1, 122), (122, .getfield 110, 3, 125), (125, .ireturn, 1, 126)]
set_option maxRecDepth 20000 in
theorem dX10_feed : dcL cX10_feed lX10_feedL = true := by decide +kernel
def b_X10_feed_77 (F : Nat) (self13 : PH → Nat → Int32 → Int32 → Int32 → Int32 → Int32 → Int32 → Option (Int32 × PH)) (h : PH) (v0 : Nat) (v1 : Int32) (v2 : Int32) (v3 : Int32) (v4 : Int32) (v5 : Int32) (v6 : Int32) (s0 : Int32) : Option (Int32 × PH) := (gR 10 3 h v0).bind fun a1 => ((gI 10 5 h v0).bind fun x2 => (if (4 : Int32) = 0 then none else ((sI 0 h a1 x2 ((((s0 >>> ((((24 : Int32) - (((8 : Int32) * ((remI v6 (4 : Int32))))))) &&& 31))) &&& (255 : Int32)))).bind fun h3 => ((gI 10 5 h3 v0).bind fun x4 => ((pV 10 5 (.int ((x4 + (1 : Int32)))) h3 v0).bind fun h5 => (bindv (v6 + (1)) fun x6 => (self13 h5 v0 v1 v2 v3 v4 v5 x6)))))))
set_option maxRecDepth 20000 in
theorem t_X10_feed_77 {M : MV} {X : XT} {F : Nat} {self13 : PH → Nat → Int32 → Int32 → Int32 → Int32 → Int32 → Int32 → Option (Int32 × PH)} {h hz : PH} {r : Int32} {ce sl mc ms : Nat} {v0 : Nat} {v1 : Int32} {v2 : Int32} {v3 : Int32} {v4 : Int32} {v5 : Int32} {v6 : Int32} {s0 : Int32} (hc : Cx M X RX10 cX10_feed) (hr : Rx M 1 60 mc ms 8) (he : Ex M X (some .int) "feed" (some (.int r)) hz mc ms) (hm : ce ≤ mc) (hs : sl ≤ ms) (ih13 : ∀ (h : PH) (v0 : Nat) (v1 : Int32) (v2 : Int32) (v3 : Int32) (v4 : Int32) (v5 : Int32) (v6 : Int32), self13 h v0 v1 v2 v3 v4 v5 v6 = some (r, hz) → GG M X h ce sl 24 [(0, .ref (X.1 + v0)), (1, .int v1), (2, .int v2), (3, .int v3), (4, .int v4), (5, .int v5), (6, .int v6)] []) (hf : b_X10_feed_77 F self13 h v0 v1 v2 v3 v4 v5 v6 s0 = some (r, hz)) : GG M X h ce sl 77 [(0, .ref (X.1 + v0)), (1, .int v1), (2, .int v2), (3, .int v3), (4, .int v4), (5, .int v5), (6, .int v6)] [.int s0] := by
  unfold b_X10_feed_77 at hf
  refine r_istore [(7, .int s0), (0, .ref (X.1 + v0)), (1, .int v1), (2, .int v2), (3, .int v3), (4, .int v4), (5, .int v5), (6, .int v6)] hc hr (dc_at dX10_feed 37 rfl) (by decide) rfl ?_
  refine r_aload_n hc 1 (dc_at dX10_feed 38 rfl) rfl ?_
  refine r_getR hc (dc_at dX10_feed 39 rfl) fl_X10_21 hf fun a1 hf => ?_
  refine r_aload_n hc 1 (dc_at dX10_feed 40 rfl) rfl ?_
  refine r_getI hc (dc_at dX10_feed 41 rfl) fl_X10_110 hf fun x2 hf => ?_
  refine r_iload hc 0 (dc_at dX10_feed 42 rfl) rfl ?_
  refine r_bipush (24 : Int32) hc (dc_at dX10_feed 43 rfl) (by decide) ?_
  refine r_bipush (8 : Int32) hc (dc_at dX10_feed 44 rfl) (by decide) ?_
  refine r_iload hc 7 (dc_at dX10_feed 45 rfl) rfl ?_
  refine r_iconst (4 : Int32) hc (dc_at dX10_feed 46 rfl) (by decide) ?_
  refine r_irem hc (dc_at dX10_feed 47 rfl) hf (fun hf => ?_)
  refine r_imul hc (dc_at dX10_feed 48 rfl) ?_
  refine r_isub hc (dc_at dX10_feed 49 rfl) ?_
  refine r_ishr hc (dc_at dX10_feed 50 rfl) ?_
  refine r_sipush (255 : Int32) hc (dc_at dX10_feed 51 rfl) (by decide) ?_
  refine r_iand hc (dc_at dX10_feed 52 rfl) ?_
  refine r_iastore hc (dc_at dX10_feed 53 rfl) hf fun h3 hf => ?_
  refine r_aload_n hc 1 (dc_at dX10_feed 54 rfl) rfl ?_
  refine r_dup hc (dc_at dX10_feed 55 rfl) rfl ?_
  refine r_getI hc (dc_at dX10_feed 56 rfl) fl_X10_110 hf fun x4 hf => ?_
  refine r_iconst (1 : Int32) hc (dc_at dX10_feed 57 rfl) (by decide) ?_
  refine r_iadd hc (dc_at dX10_feed 58 rfl) ?_
  refine r_putI hc he (dc_at dX10_feed 59 rfl) fp_X10_110 (fun q => by cases q) hf fun h5 hf => ?_
  refine obv hf fun x6 e_x6 hf => ?_
  refine r_iinc 7 [(6, .int x6), (7, .int s0), (0, .ref (X.1 + v0)), (1, .int v1), (2, .int v2), (3, .int v3), (4, .int v4), (5, .int v5)] hc hr (dc_at dX10_feed 60 rfl) rfl (by rw [e_x6]; rfl) (by decide) rfl ?_
  refine r_goto (tgt := 24) hc (dc_at dX10_feed 61 rfl) (by decide) ?_
  exact gg_sub [2, 3, 4, 5, 6, 7, 0] rfl (ih13 _ _ _ _ _ _ _ _ hf)
def b_X10_feed_24 (F : Nat) (self13 : PH → Nat → Int32 → Int32 → Int32 → Int32 → Int32 → Int32 → Option (Int32 × PH)) (h : PH) (v0 : Nat) (v1 : Int32) (v2 : Int32) (v3 : Int32) (v4 : Int32) (v5 : Int32) (v6 : Int32) : Option (Int32 × PH) := if (20 : Int32) ≤ v6 then ((gI 10 5 h v0).bind fun x1 => (some (x1, h))) else (if (4 : Int32) ≤ v6 then (if (8 : Int32) ≤ v6 then (if (12 : Int32) ≤ v6 then (if (16 : Int32) ≤ v6 then (b_X10_feed_77 F self13 h v0 v1 v2 v3 v4 v5 v6 v5) else (b_X10_feed_77 F self13 h v0 v1 v2 v3 v4 v5 v6 v4)) else (b_X10_feed_77 F self13 h v0 v1 v2 v3 v4 v5 v6 v3)) else (b_X10_feed_77 F self13 h v0 v1 v2 v3 v4 v5 v6 v2)) else (b_X10_feed_77 F self13 h v0 v1 v2 v3 v4 v5 v6 v1))
set_option maxRecDepth 20000 in
theorem tb_X10_feed_24 {M : MV} {X : XT} {F : Nat} {self13 : PH → Nat → Int32 → Int32 → Int32 → Int32 → Int32 → Int32 → Option (Int32 × PH)} {h hz : PH} {r : Int32} {ce sl mc ms : Nat} {v0 : Nat} {v1 : Int32} {v2 : Int32} {v3 : Int32} {v4 : Int32} {v5 : Int32} {v6 : Int32} (hc : Cx M X RX10 cX10_feed) (hr : Rx M 1 60 mc ms 8) (he : Ex M X (some .int) "feed" (some (.int r)) hz mc ms) (hm : ce ≤ mc) (hs : sl ≤ ms) (ih13 : ∀ (h : PH) (v0 : Nat) (v1 : Int32) (v2 : Int32) (v3 : Int32) (v4 : Int32) (v5 : Int32) (v6 : Int32), self13 h v0 v1 v2 v3 v4 v5 v6 = some (r, hz) → GG M X h ce sl 24 [(0, .ref (X.1 + v0)), (1, .int v1), (2, .int v2), (3, .int v3), (4, .int v4), (5, .int v5), (6, .int v6)] []) (hf : b_X10_feed_24 F self13 h v0 v1 v2 v3 v4 v5 v6 = some (r, hz)) : GG M X h ce sl 24 [(0, .ref (X.1 + v0)), (1, .int v1), (2, .int v2), (3, .int v3), (4, .int v4), (5, .int v5), (6, .int v6)] [] := by
  unfold b_X10_feed_24 at hf
  refine r_iload hc 6 (dc_at dX10_feed 13 rfl) rfl ?_
  refine r_bipush (20 : Int32) hc (dc_at dX10_feed 14 rfl) (by decide) ?_
  refine r_icmp_ge (tgt := 121) hc (dc_at dX10_feed 15 rfl) (by decide) hf (fun hf => ?_) (fun hf => ?_)
  · refine r_aload_n hc 0 (dc_at dX10_feed 62 rfl) rfl ?_
    refine r_getI hc (dc_at dX10_feed 63 rfl) fl_X10_110 hf fun x1 hf => ?_
    exact r_iret hc he (hm) (hs) (dc_at dX10_feed 64 rfl) hf
  · refine r_iload hc 6 (dc_at dX10_feed 16 rfl) rfl ?_
    refine r_iconst (4 : Int32) hc (dc_at dX10_feed 17 rfl) (by decide) ?_
    refine r_icmp_ge (tgt := 41) hc (dc_at dX10_feed 18 rfl) (by decide) hf (fun hf => ?_) (fun hf => ?_)
    · refine r_iload hc 6 (dc_at dX10_feed 21 rfl) rfl ?_
      refine r_bipush (8 : Int32) hc (dc_at dX10_feed 22 rfl) (by decide) ?_
      refine r_icmp_ge (tgt := 52) hc (dc_at dX10_feed 23 rfl) (by decide) hf (fun hf => ?_) (fun hf => ?_)
      · refine r_iload hc 6 (dc_at dX10_feed 26 rfl) rfl ?_
        refine r_bipush (12 : Int32) hc (dc_at dX10_feed 27 rfl) (by decide) ?_
        refine r_icmp_ge (tgt := 63) hc (dc_at dX10_feed 28 rfl) (by decide) hf (fun hf => ?_) (fun hf => ?_)
        · refine r_iload hc 6 (dc_at dX10_feed 31 rfl) rfl ?_
          refine r_bipush (16 : Int32) hc (dc_at dX10_feed 32 rfl) (by decide) ?_
          refine r_icmp_ge (tgt := 75) hc (dc_at dX10_feed 33 rfl) (by decide) hf (fun hf => ?_) (fun hf => ?_)
          · refine r_iload hc 5 (dc_at dX10_feed 36 rfl) rfl ?_
            exact gg_sub [0, 1, 2, 3, 4, 5, 6] rfl (t_X10_feed_77 hc hr he hm hs ih13 hf)
          · refine r_iload hc 4 (dc_at dX10_feed 34 rfl) rfl ?_
            refine r_goto (tgt := 77) hc (dc_at dX10_feed 35 rfl) (by decide) ?_
            exact gg_sub [0, 1, 2, 3, 4, 5, 6] rfl (t_X10_feed_77 hc hr he hm hs ih13 hf)
        · refine r_iload_n hc 3 (dc_at dX10_feed 29 rfl) rfl ?_
          refine r_goto (tgt := 77) hc (dc_at dX10_feed 30 rfl) (by decide) ?_
          exact gg_sub [0, 1, 2, 3, 4, 5, 6] rfl (t_X10_feed_77 hc hr he hm hs ih13 hf)
      · refine r_iload_n hc 2 (dc_at dX10_feed 24 rfl) rfl ?_
        refine r_goto (tgt := 77) hc (dc_at dX10_feed 25 rfl) (by decide) ?_
        exact gg_sub [0, 1, 2, 3, 4, 5, 6] rfl (t_X10_feed_77 hc hr he hm hs ih13 hf)
    · refine r_iload_n hc 1 (dc_at dX10_feed 19 rfl) rfl ?_
      refine r_goto (tgt := 77) hc (dc_at dX10_feed 20 rfl) (by decide) ?_
      exact gg_sub [0, 1, 2, 3, 4, 5, 6] rfl (t_X10_feed_77 hc hr he hm hs ih13 hf)
def l_X10_feed_24 (F : Nat) : Nat → PH → Nat → Int32 → Int32 → Int32 → Int32 → Int32 → Int32 → Option (Int32 × PH)
  | 0 => fun _ _ _ _ _ _ _ _ => none
  | n + 1 => fun h v0 v1 v2 v3 v4 v5 v6 => b_X10_feed_24 F (l_X10_feed_24 F n) h v0 v1 v2 v3 v4 v5 v6
theorem tl_X10_feed_24 {M : MV} {X : XT} {F : Nat} {hz : PH} {r : Int32} {ce sl mc ms : Nat} (hc : Cx M X RX10 cX10_feed) (hr : Rx M 1 60 mc ms 8) (he : Ex M X (some .int) "feed" (some (.int r)) hz mc ms) (hm : ce ≤ mc) (hs : sl ≤ ms) (n : Nat) : ∀ (h : PH) (v0 : Nat) (v1 : Int32) (v2 : Int32) (v3 : Int32) (v4 : Int32) (v5 : Int32) (v6 : Int32), l_X10_feed_24 F n h v0 v1 v2 v3 v4 v5 v6 = some (r, hz) → GG M X h ce sl 24 [(0, .ref (X.1 + v0)), (1, .int v1), (2, .int v2), (3, .int v3), (4, .int v4), (5, .int v5), (6, .int v6)] [] := by
  induction n with
  | zero => intro h v0 v1 v2 v3 v4 v5 v6 hf; cases hf
  | succ n ih => intro h v0 v1 v2 v3 v4 v5 v6 hf; exact tb_X10_feed_24 (F := F) hc hr he hm hs  ih hf
def b_X10_feed_0 (F : Nat) (h : PH) (v0 : Nat) (v1 : Int32) (v2 : Int32) (v3 : Int32) (v4 : Int32) (v5 : Int32) : Option (Int32 × PH) := (pV 10 0 (.int (0 : Int32)) h v0).bind fun h1 => ((gI 10 5 h1 v0).bind fun x2 => (if ((x2 + (20 : Int32))) ≤ (900 : Int32) then (l_X10_feed_24 F F h1 v0 v1 v2 v3 v4 v5 (0 : Int32)) else (some ((-5 : Int32), h1))))
set_option maxRecDepth 20000 in
theorem t_X10_feed_0 {M : MV} {X : XT} {F : Nat} {h hz : PH} {r : Int32} {ce sl mc ms : Nat} {v0 : Nat} {v1 : Int32} {v2 : Int32} {v3 : Int32} {v4 : Int32} {v5 : Int32} (hc : Cx M X RX10 cX10_feed) (hr : Rx M 1 60 mc ms 8) (he : Ex M X (some .int) "feed" (some (.int r)) hz mc ms) (hm : ce ≤ mc) (hs : sl ≤ ms) (hf : b_X10_feed_0 F h v0 v1 v2 v3 v4 v5 = some (r, hz)) : GG M X h ce sl 0 [(0, .ref (X.1 + v0)), (1, .int v1), (2, .int v2), (3, .int v3), (4, .int v4), (5, .int v5)] [] := by
  unfold b_X10_feed_0 at hf
  refine r_aload_n hc 0 (dc_at dX10_feed 0 rfl) rfl ?_
  refine r_iconst (0 : Int32) hc (dc_at dX10_feed 1 rfl) (by decide) ?_
  refine r_putI hc he (dc_at dX10_feed 2 rfl) fp_X10_1 (fun q => by cases q) hf fun h1 hf => ?_
  refine r_aload_n hc 0 (dc_at dX10_feed 3 rfl) rfl ?_
  refine r_getI hc (dc_at dX10_feed 4 rfl) fl_X10_110 hf fun x2 hf => ?_
  refine r_bipush (20 : Int32) hc (dc_at dX10_feed 5 rfl) (by decide) ?_
  refine r_iadd hc (dc_at dX10_feed 6 rfl) ?_
  refine r_sipush (900 : Int32) hc (dc_at dX10_feed 7 rfl) (by decide) ?_
  refine r_icmp_le (tgt := 21) hc (dc_at dX10_feed 8 rfl) (by decide) hf (fun hf => ?_) (fun hf => ?_)
  · refine r_iconst (0 : Int32) hc (dc_at dX10_feed 11 rfl) (by decide) ?_
    refine r_istore [(6, .int ((0 : Int32))), (0, .ref (X.1 + v0)), (1, .int v1), (2, .int v2), (3, .int v3), (4, .int v4), (5, .int v5)] hc hr (dc_at dX10_feed 12 rfl) (by decide) rfl ?_
    exact gg_sub [1, 2, 3, 4, 5, 6, 0] rfl (tl_X10_feed_24 hc hr he hm hs  F _ _ _ _ _ _ _ _ hf)
  · refine r_bipush (-5 : Int32) hc (dc_at dX10_feed 9 rfl) (by decide) ?_
    exact r_iret hc he (hm) (hs) (dc_at dX10_feed 10 rfl) hf
def m_X10_feed (F : Nat) (h : PH) (p0 : Nat) (p1 : Int32) (p2 : Int32) (p3 : Int32) (p4 : Int32) (p5 : Int32) : Option (Int32 × PH) := b_X10_feed_0 F h p0 p1 p2 p3 p4 p5
theorem mt_X10_feed {l : Launch} {X : XT} {F : Nat} {h hz : PH} {p0 : Nat} {p1 : Int32} {p2 : Int32} {p3 : Int32} {p4 : Int32} {p5 : Int32} {r : Int32} (ex : m_X10_feed F h p0 p1 p2 p3 p4 p5 = some (r, hz)) : MT l X yX10_feed cX10_feed 8 (some .int) 1 60 0 0 [.ref (X.1 + p0), .int p1, .int p2, .int p3, .int p4, .int p5] h (some (.int r)) hz := MT.of (by decide) (Nat.le_of_ble_eq_true rfl) fun M hl hc hr he => by
  subst hl
  exact gg_sub [0, 1, 2, 3, 4, 5] rfl (t_X10_feed_0  hc hr he (Nat.zero_le _) (Nat.zero_le _) ex)
/-! FractionLiftModel.see(I)I -/
def lX10_seeL : List (Nat × Instr × Nat × Nat) := [(0, .iload_n 1, 1, 1), (1, .aload_n 0, 1, 2), (2, .getfield 113, 3, 5), (5, .if_icmp .ge 12, 3, 8), (8, .aload_n 0, 1, 9), (9, .getfield 21, 3, 12), (12, .iload_n 1, 1, 13), (13, .iaload, 1, 14), (14, .goto 4, 3, 17), (17, .iconst (-1), 1, 18), (18, .ireturn, 1, 19)]
set_option maxRecDepth 20000 in
theorem dX10_see : dcL cX10_see lX10_seeL = true := by decide +kernel
def b_X10_see_0 (h : PH) (v0 : Nat) (v1 : Int32) : Option Int32 := (gI 10 8 h v0).bind fun x1 => (if x1 ≤ v1 then (some (-1 : Int32)) else ((gR 10 3 h v0).bind fun a2 => ((aI 0 h a2 v1).bind fun x3 => (some x3))))
set_option maxRecDepth 20000 in
theorem t_X10_see_0 {M : MV} {X : XT} {h : PH} {r : Int32} {ce sl mc ms : Nat} {v0 : Nat} {v1 : Int32} (hc : Cx M X RX10 cX10_see) (hr : Rx M 1 60 mc ms 2) (he : Ex M X (some .int) "see" (some (.int r)) h mc ms) (hm : ce ≤ mc) (hs : sl ≤ ms) (hf : b_X10_see_0 h v0 v1 = some r) : GG M X h ce sl 0 [(0, .ref (X.1 + v0)), (1, .int v1)] [] := by
  unfold b_X10_see_0 at hf
  refine r_iload_n hc 1 (dc_at dX10_see 0 rfl) rfl ?_
  refine r_aload_n hc 0 (dc_at dX10_see 1 rfl) rfl ?_
  refine r_getI hc (dc_at dX10_see 2 rfl) fl_X10_113 hf fun x1 hf => ?_
  refine r_icmp_ge (tgt := 17) hc (dc_at dX10_see 3 rfl) (by decide) hf (fun hf => ?_) (fun hf => ?_)
  · refine r_iconst (-1 : Int32) hc (dc_at dX10_see 9 rfl) (by decide) ?_
    exact r_iretP hc he (hm) (hs) (dc_at dX10_see 10 rfl) hf
  · refine r_aload_n hc 0 (dc_at dX10_see 4 rfl) rfl ?_
    refine r_getR hc (dc_at dX10_see 5 rfl) fl_X10_21 hf fun a2 hf => ?_
    refine r_iload_n hc 1 (dc_at dX10_see 6 rfl) rfl ?_
    refine r_iaload hc (dc_at dX10_see 7 rfl) hf fun x3 hf => ?_
    refine r_goto (tgt := 18) hc (dc_at dX10_see 8 rfl) (by decide) ?_
    exact r_iretP hc he (hm) (hs) (dc_at dX10_see 10 rfl) hf
def m_X10_see (h : PH) (p0 : Nat) (p1 : Int32) : Option Int32 := b_X10_see_0 h p0 p1
theorem mt_X10_see {l : Launch} {X : XT} {h : PH} {p0 : Nat} {p1 : Int32} {r : Int32} (ex : m_X10_see h p0 p1 = some r) : MT l X yX10_see cX10_see 2 (some .int) 1 60 0 0 [.ref (X.1 + p0), .int p1] h (some (.int r)) h := MT.of (by decide) (Nat.le_of_ble_eq_true rfl) fun M hl hc hr he => by
  subst hl
  exact gg_sub [0, 1] rfl (t_X10_see_0  hc hr he (Nat.zero_le _) (Nat.zero_le _) ex)
/-! FractionLiftModel.isSmall(I)Z -/
def lX10_isSmallL : List (Nat × Instr × Nat × Nat) := [(0, .iload_n 0, 1, 1), (1, .bipush 97, 2, 3), (3, .if_icmp .lt 13, 3, 6), (6, .iload_n 0, 1, 7), (7, .bipush 122, 2, 9), (9, .if_icmp .gt 7, 3, 12), (12, .iconst 1, 1, 13), (13, .goto 4, 3, 16), (16, .iconst 0, 1, 17), (17, .ireturn, 1, 18)]
set_option maxRecDepth 20000 in
theorem dX10_isSmall : dcL cX10_isSmall lX10_isSmallL = true := by decide +kernel
def b_X10_isSmall_0 (v0 : Int32) : Option Int32 := if v0 < (97 : Int32) then (rZP (0 : Int32)) else (if (122 : Int32) < v0 then (rZP (0 : Int32)) else (rZP (1 : Int32)))
set_option maxRecDepth 20000 in
theorem t_X10_isSmall_0 {M : MV} {X : XT} {h : PH} {r : Int32} {ce sl mc ms : Nat} {v0 : Int32} (hc : Cx M X RX10 cX10_isSmall) (hr : Rx M 1 60 mc ms 1) (he : Ex M X (some .boolean) "isSmall" (some (.int r)) h mc ms) (hm : ce ≤ mc) (hs : sl ≤ ms) (hf : b_X10_isSmall_0 v0 = some r) : GG M X h ce sl 0 [(0, .int v0)] [] := by
  unfold b_X10_isSmall_0 at hf
  refine r_iload_n hc 0 (dc_at dX10_isSmall 0 rfl) rfl ?_
  refine r_bipush (97 : Int32) hc (dc_at dX10_isSmall 1 rfl) (by decide) ?_
  refine r_icmp_lt (tgt := 16) hc (dc_at dX10_isSmall 2 rfl) (by decide) hf (fun hf => ?_) (fun hf => ?_)
  · refine r_iconst (0 : Int32) hc (dc_at dX10_isSmall 8 rfl) (by decide) ?_
    exact r_zretP hc he (hm) (hs) (dc_at dX10_isSmall 9 rfl) hf
  · refine r_iload_n hc 0 (dc_at dX10_isSmall 3 rfl) rfl ?_
    refine r_bipush (122 : Int32) hc (dc_at dX10_isSmall 4 rfl) (by decide) ?_
    refine r_icmp_gt (tgt := 16) hc (dc_at dX10_isSmall 5 rfl) (by decide) hf (fun hf => ?_) (fun hf => ?_)
    · refine r_iconst (0 : Int32) hc (dc_at dX10_isSmall 8 rfl) (by decide) ?_
      exact r_zretP hc he (hm) (hs) (dc_at dX10_isSmall 9 rfl) hf
    · refine r_iconst (1 : Int32) hc (dc_at dX10_isSmall 6 rfl) (by decide) ?_
      refine r_goto (tgt := 17) hc (dc_at dX10_isSmall 7 rfl) (by decide) ?_
      exact r_zretP hc he (hm) (hs) (dc_at dX10_isSmall 9 rfl) hf
def m_X10_isSmall (p0 : Int32) : Option Int32 := b_X10_isSmall_0 p0
theorem mt_X10_isSmall {l : Launch} {X : XT} {h : PH} {p0 : Int32} {r : Int32} (ex : m_X10_isSmall p0 = some r) : MT l X yX10_isSmall cX10_isSmall 1 (some .boolean) 1 60 0 0 [.int p0] h (some (.int r)) h := MT.of (by decide) (Nat.le_of_ble_eq_true rfl) fun M hl hc hr he => by
  subst hl
  exact gg_sub [0] rfl (t_X10_isSmall_0  hc hr he (Nat.zero_le _) (Nat.zero_le _) ex)
/-! FractionLiftModel.isDigit(I)Z -/
def lX10_isDigitL : List (Nat × Instr × Nat × Nat) := [(0, .iload_n 0, 1, 1), (1, .bipush 48, 2, 3), (3, .if_icmp .lt 13, 3, 6), (6, .iload_n 0, 1, 7), (7, .bipush 57, 2, 9), (9, .if_icmp .gt 7, 3, 12), (12, .iconst 1, 1, 13), (13, .goto 4, 3, 16), (16, .iconst 0, 1, 17), (17, .ireturn, 1, 18)]
set_option maxRecDepth 20000 in
theorem dX10_isDigit : dcL cX10_isDigit lX10_isDigitL = true := by decide +kernel
def b_X10_isDigit_0 (v0 : Int32) : Option Int32 := if v0 < (48 : Int32) then (rZP (0 : Int32)) else (if (57 : Int32) < v0 then (rZP (0 : Int32)) else (rZP (1 : Int32)))
set_option maxRecDepth 20000 in
theorem t_X10_isDigit_0 {M : MV} {X : XT} {h : PH} {r : Int32} {ce sl mc ms : Nat} {v0 : Int32} (hc : Cx M X RX10 cX10_isDigit) (hr : Rx M 1 60 mc ms 1) (he : Ex M X (some .boolean) "isDigit" (some (.int r)) h mc ms) (hm : ce ≤ mc) (hs : sl ≤ ms) (hf : b_X10_isDigit_0 v0 = some r) : GG M X h ce sl 0 [(0, .int v0)] [] := by
  unfold b_X10_isDigit_0 at hf
  refine r_iload_n hc 0 (dc_at dX10_isDigit 0 rfl) rfl ?_
  refine r_bipush (48 : Int32) hc (dc_at dX10_isDigit 1 rfl) (by decide) ?_
  refine r_icmp_lt (tgt := 16) hc (dc_at dX10_isDigit 2 rfl) (by decide) hf (fun hf => ?_) (fun hf => ?_)
  · refine r_iconst (0 : Int32) hc (dc_at dX10_isDigit 8 rfl) (by decide) ?_
    exact r_zretP hc he (hm) (hs) (dc_at dX10_isDigit 9 rfl) hf
  · refine r_iload_n hc 0 (dc_at dX10_isDigit 3 rfl) rfl ?_
    refine r_bipush (57 : Int32) hc (dc_at dX10_isDigit 4 rfl) (by decide) ?_
    refine r_icmp_gt (tgt := 16) hc (dc_at dX10_isDigit 5 rfl) (by decide) hf (fun hf => ?_) (fun hf => ?_)
    · refine r_iconst (0 : Int32) hc (dc_at dX10_isDigit 8 rfl) (by decide) ?_
      exact r_zretP hc he (hm) (hs) (dc_at dX10_isDigit 9 rfl) hf
    · refine r_iconst (1 : Int32) hc (dc_at dX10_isDigit 6 rfl) (by decide) ?_
      refine r_goto (tgt := 17) hc (dc_at dX10_isDigit 7 rfl) (by decide) ?_
      exact r_zretP hc he (hm) (hs) (dc_at dX10_isDigit 9 rfl) hf
def m_X10_isDigit (p0 : Int32) : Option Int32 := b_X10_isDigit_0 p0
theorem mt_X10_isDigit {l : Launch} {X : XT} {h : PH} {p0 : Int32} {r : Int32} (ex : m_X10_isDigit p0 = some r) : MT l X yX10_isDigit cX10_isDigit 1 (some .boolean) 1 60 0 0 [.int p0] h (some (.int r)) h := MT.of (by decide) (Nat.le_of_ble_eq_true rfl) fun M hl hc hr he => by
  subst hl
  exact gg_sub [0] rfl (t_X10_isDigit_0  hc hr he (Nat.zero_le _) (Nat.zero_le _) ex)
/-! FractionLiftModel.keyAt()I -/
def lX10_keyAtL : List (Nat × Instr × Nat × Nat) := [(0, .iconst 0, 1, 1), (1, .istore_n 1, 1, 2), (2, .iconst 1, 1, 3), (3, .istore_n 2, 1, 4), (4, .iload_n 2, 1, 5), (5, .ldc 116, 2, 7), (7, .invokevirtual 118, 3, 10), (10, .if_icmp .ge 113, 3, 13), (13, .iconst 0, 1, 14), (14, .istore_n 3, 1, 15), (15, .ldc 116, 2, 17), (17, .iload_n 2, 1, 18), (18, .iload_n 3, 1, 19), (19, .iadd, 1, 20), (20, .invokevirtual 124, 3, 23), (23, .bipush 32, 2, 25), (25, .if_icmp .eq 44, 3, 28), (28, .aload_n 0, 1, 29), (29, .getfield 128, 3, 32), (32, .iload_n 3, 1, 33), (33, .iadd, 1, 34), (34, .aload_n 0, 1, 35), (35, .getfield 131, 3, 38), (38, .if_icmp .ge 31, 3, 41), (41, .aload_n 0, 1, 42), (42, .getfield 21, 3, 45), (45, .aload_n 0, 1, 46), (46, .getfield 128, 3, 49), (49, .iload_n 3, 1, 50), (50, .iadd, 1, 51), (51, .iaload, 1, 52), (52, .ldc 116, 2, 54), (54, .iload_n 2, 1, 55), (55, .iload_n 3, 1, 56), (56, .iadd, 1, 57), (57, .invokevirtual 124, 3, 60), (60, .if_icmp .ne 9, 3, 63), (63, .iinc 3 1, 3, 66), (66, .goto (-51), 3, 69), (69, .ldc 116, 2, 71), (71, .iload_n 2, 1, 72), (72, .iload_n 3, 1, 73), (73, .iadd, 1, 74), (74, .invokevirtual 124, 3, 77), (77, .bipush 32, 2, 79), (79, .if_icmp .ne 18, 3, 82), (82, .aload_n 0, 1, 83), (83, .getfield 128, 3, 86), (86, .iload_n 3, 1, 87), (87, .iadd, 1, 88), (88, .aload_n 0, 1, 89), (89, .getfield 131, 3, 92), (92, .if_icmp .ne 5, 3, 95), (95, .iload_n 1, 1, 96), (96, .ireturn, 1, 97), (97, .ldc 116, 2, 99), (99, .iload_n 2, 1, 100), (100, .invokevirtual 124, 3, 103), (103, .bipush 32, 2, 105), (105, .if_icmp .eq 9, 3, 108), (108, .iinc 2 1, 3, 111), (111, .goto (-14), 3, 114), (114, .iinc 2 1, 3, 117), (117, .iinc 1 1, 3, 120), (120, .goto (-116), 3, 123), (123, .bipush 15, 2, 125), (125, .ireturn, 1, 126)]
set_option maxRecDepth 20000 in
theorem dX10_keyAt : dcL cX10_keyAt lX10_keyAtL = true := by decide +kernel
def b_X10_keyAt_97 (F : Nat) (self4 : Nat → Int32 → Int32 → Option Int32) (self55 : Nat → Int32 → Int32 → Option Int32) (h : PH) (v0 : Nat) (v1 : Int32) (v2 : Int32) : Option Int32 := (sChrF 8 v2).bind fun x1 => (if x1 = (32 : Int32) then (bindv (v2 + (1)) fun x2 => (bindv (v1 + (1)) fun x3 => (self4 v0 x3 x2))) else (bindv (v2 + (1)) fun x4 => (self55 v0 v1 x4)))
set_option maxRecDepth 20000 in
theorem tb_X10_keyAt_97 {M : MV} {X : XT} {F : Nat} {self4 : Nat → Int32 → Int32 → Option Int32} {self55 : Nat → Int32 → Int32 → Option Int32} {h : PH} {r : Int32} {ce sl mc ms : Nat} {v0 : Nat} {v1 : Int32} {v2 : Int32} (hc : Cx M X RX10 cX10_keyAt) (hr : Rx M 9 522 mc ms 4) (he : Ex M X (some .int) "keyAt" (some (.int r)) h mc ms) (hm : ce ≤ mc) (hs : sl ≤ ms) (ih4 : ∀ (v0 : Nat) (v1 : Int32) (v2 : Int32), self4 v0 v1 v2 = some r → GG M X h ce sl 4 [(0, .ref (X.1 + v0)), (1, .int v1), (2, .int v2)] []) (ih55 : ∀ (v0 : Nat) (v1 : Int32) (v2 : Int32), self55 v0 v1 v2 = some r → GG M X h ce sl 97 [(0, .ref (X.1 + v0)), (1, .int v1), (2, .int v2)] []) (hf : b_X10_keyAt_97 F self4 self55 h v0 v1 v2 = some r) : GG M X h ce sl 97 [(0, .ref (X.1 + v0)), (1, .int v1), (2, .int v2)] [] := by
  unfold b_X10_keyAt_97 at hf
  refine r_ldcS 8 hc (dc_at dX10_keyAt 55 rfl) (by decide) (by decide) (by decide) ?_
  refine r_iload_n hc 2 (dc_at dX10_keyAt 56 rfl) rfl ?_
  refine ob hf fun x1 ex hf => ?_
  refine r_callStr (As := [.int v2]) (sfl_J0_charAt_5068e ex) hc hr (dc_at dX10_keyAt 57 rfl) ml_X10_124 mv_J0_charAt_5068e vi_J0_charAt_5068e rfl (mt_J0_charAt_5068e ex) (by first | exact Nat.le_of_ble_eq_true rfl | omega) (by first | exact Nat.le_of_ble_eq_true rfl | omega) (by first | exact Nat.le_of_ble_eq_true rfl | omega) hm hs ?_
  refine r_bipush (32 : Int32) hc (dc_at dX10_keyAt 58 rfl) (by decide) ?_
  refine r_icmp_eq (tgt := 114) hc (dc_at dX10_keyAt 59 rfl) (by decide) hf (fun hf => ?_) (fun hf => ?_)
  · refine obv hf fun x2 e_x2 hf => ?_
    refine r_iinc 2 [(2, .int x2), (0, .ref (X.1 + v0)), (1, .int v1)] hc hr (dc_at dX10_keyAt 62 rfl) rfl (by rw [e_x2]; rfl) (by decide) rfl ?_
    refine obv hf fun x3 e_x3 hf => ?_
    refine r_iinc 2 [(1, .int x3), (2, .int x2), (0, .ref (X.1 + v0))] hc hr (dc_at dX10_keyAt 63 rfl) rfl (by rw [e_x3]; rfl) (by decide) rfl ?_
    refine r_goto (tgt := 4) hc (dc_at dX10_keyAt 64 rfl) (by decide) ?_
    exact gg_sub [2, 0, 1] rfl (ih4 _ _ _ hf)
  · refine obv hf fun x4 e_x4 hf => ?_
    refine r_iinc 2 [(2, .int x4), (0, .ref (X.1 + v0)), (1, .int v1)] hc hr (dc_at dX10_keyAt 60 rfl) rfl (by rw [e_x4]; rfl) (by decide) rfl ?_
    refine r_goto (tgt := 97) hc (dc_at dX10_keyAt 61 rfl) (by decide) ?_
    exact gg_sub [1, 2, 0] rfl (ih55 _ _ _ hf)
def l_X10_keyAt_97 (F : Nat) (self4 : Nat → Int32 → Int32 → Option Int32) (h : PH) : Nat → Nat → Int32 → Int32 → Option Int32
  | 0 => fun _ _ _ => none
  | n + 1 => fun v0 v1 v2 => b_X10_keyAt_97 F self4 (l_X10_keyAt_97 F self4 h n) h v0 v1 v2
theorem tl_X10_keyAt_97 {M : MV} {X : XT} {F : Nat} {self4 : Nat → Int32 → Int32 → Option Int32} {h : PH} {r : Int32} {ce sl mc ms : Nat} (hc : Cx M X RX10 cX10_keyAt) (hr : Rx M 9 522 mc ms 4) (he : Ex M X (some .int) "keyAt" (some (.int r)) h mc ms) (hm : ce ≤ mc) (hs : sl ≤ ms) (ih4 : ∀ (v0 : Nat) (v1 : Int32) (v2 : Int32), self4 v0 v1 v2 = some r → GG M X h ce sl 4 [(0, .ref (X.1 + v0)), (1, .int v1), (2, .int v2)] []) (n : Nat) : ∀ (v0 : Nat) (v1 : Int32) (v2 : Int32), l_X10_keyAt_97 F self4 h n v0 v1 v2 = some r → GG M X h ce sl 97 [(0, .ref (X.1 + v0)), (1, .int v1), (2, .int v2)] [] := by
  induction n with
  | zero => intro v0 v1 v2 hf; cases hf
  | succ n ih => intro v0 v1 v2 hf; exact tb_X10_keyAt_97 (F := F) hc hr he hm hs ih4 ih hf
def b_X10_keyAt_69 (F : Nat) (self4 : Nat → Int32 → Int32 → Option Int32) (h : PH) (v0 : Nat) (v1 : Int32) (v2 : Int32) (v3 : Int32) : Option Int32 := (sChrF 8 (v2 + v3)).bind fun x1 => (if x1 = (32 : Int32) then ((gI 10 6 h v0).bind fun x2 => ((gI 10 7 h v0).bind fun x3 => (if (x2 + v3) = x3 then (some v1) else (l_X10_keyAt_97 F self4 h F v0 v1 v2)))) else (l_X10_keyAt_97 F self4 h F v0 v1 v2))
set_option maxRecDepth 20000 in
theorem t_X10_keyAt_69 {M : MV} {X : XT} {F : Nat} {self4 : Nat → Int32 → Int32 → Option Int32} {h : PH} {r : Int32} {ce sl mc ms : Nat} {v0 : Nat} {v1 : Int32} {v2 : Int32} {v3 : Int32} (hc : Cx M X RX10 cX10_keyAt) (hr : Rx M 9 522 mc ms 4) (he : Ex M X (some .int) "keyAt" (some (.int r)) h mc ms) (hm : ce ≤ mc) (hs : sl ≤ ms) (ih4 : ∀ (v0 : Nat) (v1 : Int32) (v2 : Int32), self4 v0 v1 v2 = some r → GG M X h ce sl 4 [(0, .ref (X.1 + v0)), (1, .int v1), (2, .int v2)] []) (hf : b_X10_keyAt_69 F self4 h v0 v1 v2 v3 = some r) : GG M X h ce sl 69 [(0, .ref (X.1 + v0)), (1, .int v1), (2, .int v2), (3, .int v3)] [] := by
  unfold b_X10_keyAt_69 at hf
  refine r_ldcS 8 hc (dc_at dX10_keyAt 39 rfl) (by decide) (by decide) (by decide) ?_
  refine r_iload_n hc 2 (dc_at dX10_keyAt 40 rfl) rfl ?_
  refine r_iload_n hc 3 (dc_at dX10_keyAt 41 rfl) rfl ?_
  refine r_iadd hc (dc_at dX10_keyAt 42 rfl) ?_
  refine ob hf fun x1 ex hf => ?_
  refine r_callStr (As := [.int ((v2 + v3))]) (sfl_J0_charAt_5068e ex) hc hr (dc_at dX10_keyAt 43 rfl) ml_X10_124 mv_J0_charAt_5068e vi_J0_charAt_5068e rfl (mt_J0_charAt_5068e ex) (by first | exact Nat.le_of_ble_eq_true rfl | omega) (by first | exact Nat.le_of_ble_eq_true rfl | omega) (by first | exact Nat.le_of_ble_eq_true rfl | omega) hm hs ?_
  refine r_bipush (32 : Int32) hc (dc_at dX10_keyAt 44 rfl) (by decide) ?_
  refine r_icmp_ne (tgt := 97) hc (dc_at dX10_keyAt 45 rfl) (by decide) hf (fun hf => ?_) (fun hf => ?_)
  · exact gg_sub [0, 1, 2] rfl (tl_X10_keyAt_97 hc hr he hm hs ih4 F _ _ _ hf)
  · refine r_aload_n hc 0 (dc_at dX10_keyAt 46 rfl) rfl ?_
    refine r_getI hc (dc_at dX10_keyAt 47 rfl) fl_X10_128 hf fun x2 hf => ?_
    refine r_iload_n hc 3 (dc_at dX10_keyAt 48 rfl) rfl ?_
    refine r_iadd hc (dc_at dX10_keyAt 49 rfl) ?_
    refine r_aload_n hc 0 (dc_at dX10_keyAt 50 rfl) rfl ?_
    refine r_getI hc (dc_at dX10_keyAt 51 rfl) fl_X10_131 hf fun x3 hf => ?_
    refine r_icmp_ne (tgt := 97) hc (dc_at dX10_keyAt 52 rfl) (by decide) hf (fun hf => ?_) (fun hf => ?_)
    · exact gg_sub [0, 1, 2] rfl (tl_X10_keyAt_97 hc hr he hm hs ih4 F _ _ _ hf)
    · refine r_iload_n hc 1 (dc_at dX10_keyAt 53 rfl) rfl ?_
      exact r_iretP hc he (hm) (hs) (dc_at dX10_keyAt 54 rfl) hf
def b_X10_keyAt_15 (F : Nat) (self4 : Nat → Int32 → Int32 → Option Int32) (self10 : Nat → Int32 → Int32 → Int32 → Option Int32) (h : PH) (v0 : Nat) (v1 : Int32) (v2 : Int32) (v3 : Int32) : Option Int32 := (sChrF 8 (v2 + v3)).bind fun x1 => (if x1 = (32 : Int32) then (b_X10_keyAt_69 F self4 h v0 v1 v2 v3) else ((gI 10 6 h v0).bind fun x2 => ((gI 10 7 h v0).bind fun x3 => (if x3 ≤ (x2 + v3) then (b_X10_keyAt_69 F self4 h v0 v1 v2 v3) else ((gR 10 3 h v0).bind fun a4 => ((gI 10 6 h v0).bind fun x5 => ((aI 0 h a4 (x5 + v3)).bind fun x6 => ((sChrF 8 (v2 + v3)).bind fun x7 => (if x6 = x7 then (bindv (v3 + (1)) fun x8 => (self10 v0 v1 v2 x8)) else (b_X10_keyAt_69 F self4 h v0 v1 v2 v3))))))))))
set_option maxRecDepth 20000 in
theorem tb_X10_keyAt_15 {M : MV} {X : XT} {F : Nat} {self4 : Nat → Int32 → Int32 → Option Int32} {self10 : Nat → Int32 → Int32 → Int32 → Option Int32} {h : PH} {r : Int32} {ce sl mc ms : Nat} {v0 : Nat} {v1 : Int32} {v2 : Int32} {v3 : Int32} (hc : Cx M X RX10 cX10_keyAt) (hr : Rx M 9 522 mc ms 4) (he : Ex M X (some .int) "keyAt" (some (.int r)) h mc ms) (hm : ce ≤ mc) (hs : sl ≤ ms) (ih4 : ∀ (v0 : Nat) (v1 : Int32) (v2 : Int32), self4 v0 v1 v2 = some r → GG M X h ce sl 4 [(0, .ref (X.1 + v0)), (1, .int v1), (2, .int v2)] []) (ih10 : ∀ (v0 : Nat) (v1 : Int32) (v2 : Int32) (v3 : Int32), self10 v0 v1 v2 v3 = some r → GG M X h ce sl 15 [(0, .ref (X.1 + v0)), (1, .int v1), (2, .int v2), (3, .int v3)] []) (hf : b_X10_keyAt_15 F self4 self10 h v0 v1 v2 v3 = some r) : GG M X h ce sl 15 [(0, .ref (X.1 + v0)), (1, .int v1), (2, .int v2), (3, .int v3)] [] := by
  unfold b_X10_keyAt_15 at hf
  refine r_ldcS 8 hc (dc_at dX10_keyAt 10 rfl) (by decide) (by decide) (by decide) ?_
  refine r_iload_n hc 2 (dc_at dX10_keyAt 11 rfl) rfl ?_
  refine r_iload_n hc 3 (dc_at dX10_keyAt 12 rfl) rfl ?_
  refine r_iadd hc (dc_at dX10_keyAt 13 rfl) ?_
  refine ob hf fun x1 ex hf => ?_
  refine r_callStr (As := [.int ((v2 + v3))]) (sfl_J0_charAt_5068e ex) hc hr (dc_at dX10_keyAt 14 rfl) ml_X10_124 mv_J0_charAt_5068e vi_J0_charAt_5068e rfl (mt_J0_charAt_5068e ex) (by first | exact Nat.le_of_ble_eq_true rfl | omega) (by first | exact Nat.le_of_ble_eq_true rfl | omega) (by first | exact Nat.le_of_ble_eq_true rfl | omega) hm hs ?_
  refine r_bipush (32 : Int32) hc (dc_at dX10_keyAt 15 rfl) (by decide) ?_
  refine r_icmp_eq (tgt := 69) hc (dc_at dX10_keyAt 16 rfl) (by decide) hf (fun hf => ?_) (fun hf => ?_)
  · exact gg_sub [0, 1, 2, 3] rfl (t_X10_keyAt_69 hc hr he hm hs ih4 hf)
  · refine r_aload_n hc 0 (dc_at dX10_keyAt 17 rfl) rfl ?_
    refine r_getI hc (dc_at dX10_keyAt 18 rfl) fl_X10_128 hf fun x2 hf => ?_
    refine r_iload_n hc 3 (dc_at dX10_keyAt 19 rfl) rfl ?_
    refine r_iadd hc (dc_at dX10_keyAt 20 rfl) ?_
    refine r_aload_n hc 0 (dc_at dX10_keyAt 21 rfl) rfl ?_
    refine r_getI hc (dc_at dX10_keyAt 22 rfl) fl_X10_131 hf fun x3 hf => ?_
    refine r_icmp_ge (tgt := 69) hc (dc_at dX10_keyAt 23 rfl) (by decide) hf (fun hf => ?_) (fun hf => ?_)
    · exact gg_sub [0, 1, 2, 3] rfl (t_X10_keyAt_69 hc hr he hm hs ih4 hf)
    · refine r_aload_n hc 0 (dc_at dX10_keyAt 24 rfl) rfl ?_
      refine r_getR hc (dc_at dX10_keyAt 25 rfl) fl_X10_21 hf fun a4 hf => ?_
      refine r_aload_n hc 0 (dc_at dX10_keyAt 26 rfl) rfl ?_
      refine r_getI hc (dc_at dX10_keyAt 27 rfl) fl_X10_128 hf fun x5 hf => ?_
      refine r_iload_n hc 3 (dc_at dX10_keyAt 28 rfl) rfl ?_
      refine r_iadd hc (dc_at dX10_keyAt 29 rfl) ?_
      refine r_iaload hc (dc_at dX10_keyAt 30 rfl) hf fun x6 hf => ?_
      refine r_ldcS 8 hc (dc_at dX10_keyAt 31 rfl) (by decide) (by decide) (by decide) ?_
      refine r_iload_n hc 2 (dc_at dX10_keyAt 32 rfl) rfl ?_
      refine r_iload_n hc 3 (dc_at dX10_keyAt 33 rfl) rfl ?_
      refine r_iadd hc (dc_at dX10_keyAt 34 rfl) ?_
      refine ob hf fun x7 ex hf => ?_
      refine r_callStr (As := [.int ((v2 + v3))]) (sfl_J0_charAt_5068e ex) hc hr (dc_at dX10_keyAt 35 rfl) ml_X10_124 mv_J0_charAt_5068e vi_J0_charAt_5068e rfl (mt_J0_charAt_5068e ex) (by first | exact Nat.le_of_ble_eq_true rfl | omega) (by first | exact Nat.le_of_ble_eq_true rfl | omega) (by first | exact Nat.le_of_ble_eq_true rfl | omega) hm hs ?_
      refine r_icmp_ne (tgt := 69) hc (dc_at dX10_keyAt 36 rfl) (by decide) hf (fun hf => ?_) (fun hf => ?_)
      · exact gg_sub [0, 1, 2, 3] rfl (t_X10_keyAt_69 hc hr he hm hs ih4 hf)
      · refine obv hf fun x8 e_x8 hf => ?_
        refine r_iinc 3 [(3, .int x8), (0, .ref (X.1 + v0)), (1, .int v1), (2, .int v2)] hc hr (dc_at dX10_keyAt 37 rfl) rfl (by rw [e_x8]; rfl) (by decide) rfl ?_
        refine r_goto (tgt := 15) hc (dc_at dX10_keyAt 38 rfl) (by decide) ?_
        exact gg_sub [1, 2, 3, 0] rfl (ih10 _ _ _ _ hf)
def l_X10_keyAt_15 (F : Nat) (self4 : Nat → Int32 → Int32 → Option Int32) (h : PH) : Nat → Nat → Int32 → Int32 → Int32 → Option Int32
  | 0 => fun _ _ _ _ => none
  | n + 1 => fun v0 v1 v2 v3 => b_X10_keyAt_15 F self4 (l_X10_keyAt_15 F self4 h n) h v0 v1 v2 v3
theorem tl_X10_keyAt_15 {M : MV} {X : XT} {F : Nat} {self4 : Nat → Int32 → Int32 → Option Int32} {h : PH} {r : Int32} {ce sl mc ms : Nat} (hc : Cx M X RX10 cX10_keyAt) (hr : Rx M 9 522 mc ms 4) (he : Ex M X (some .int) "keyAt" (some (.int r)) h mc ms) (hm : ce ≤ mc) (hs : sl ≤ ms) (ih4 : ∀ (v0 : Nat) (v1 : Int32) (v2 : Int32), self4 v0 v1 v2 = some r → GG M X h ce sl 4 [(0, .ref (X.1 + v0)), (1, .int v1), (2, .int v2)] []) (n : Nat) : ∀ (v0 : Nat) (v1 : Int32) (v2 : Int32) (v3 : Int32), l_X10_keyAt_15 F self4 h n v0 v1 v2 v3 = some r → GG M X h ce sl 15 [(0, .ref (X.1 + v0)), (1, .int v1), (2, .int v2), (3, .int v3)] [] := by
  induction n with
  | zero => intro v0 v1 v2 v3 hf; cases hf
  | succ n ih => intro v0 v1 v2 v3 hf; exact tb_X10_keyAt_15 (F := F) hc hr he hm hs ih4 ih hf
def b_X10_keyAt_4 (F : Nat) (self4 : Nat → Int32 → Int32 → Option Int32) (h : PH) (v0 : Nat) (v1 : Int32) (v2 : Int32) : Option Int32 := (sLenF 8).bind fun x1 => (if x1 ≤ v2 then (some (15 : Int32)) else (l_X10_keyAt_15 F self4 h F v0 v1 v2 (0 : Int32)))
set_option maxRecDepth 20000 in
theorem tb_X10_keyAt_4 {M : MV} {X : XT} {F : Nat} {self4 : Nat → Int32 → Int32 → Option Int32} {h : PH} {r : Int32} {ce sl mc ms : Nat} {v0 : Nat} {v1 : Int32} {v2 : Int32} (hc : Cx M X RX10 cX10_keyAt) (hr : Rx M 9 522 mc ms 4) (he : Ex M X (some .int) "keyAt" (some (.int r)) h mc ms) (hm : ce ≤ mc) (hs : sl ≤ ms) (ih4 : ∀ (v0 : Nat) (v1 : Int32) (v2 : Int32), self4 v0 v1 v2 = some r → GG M X h ce sl 4 [(0, .ref (X.1 + v0)), (1, .int v1), (2, .int v2)] []) (hf : b_X10_keyAt_4 F self4 h v0 v1 v2 = some r) : GG M X h ce sl 4 [(0, .ref (X.1 + v0)), (1, .int v1), (2, .int v2)] [] := by
  unfold b_X10_keyAt_4 at hf
  refine r_iload_n hc 2 (dc_at dX10_keyAt 4 rfl) rfl ?_
  refine r_ldcS 8 hc (dc_at dX10_keyAt 5 rfl) (by decide) (by decide) (by decide) ?_
  refine ob hf fun x1 ex hf => ?_
  refine r_callStr (As := []) (sfl_J0_length_8abf5 ex) hc hr (dc_at dX10_keyAt 6 rfl) ml_X10_118 mv_J0_length_8abf5 vi_J0_length_8abf5 rfl (mt_J0_length_8abf5 ex) (by first | exact Nat.le_of_ble_eq_true rfl | omega) (by first | exact Nat.le_of_ble_eq_true rfl | omega) (by first | exact Nat.le_of_ble_eq_true rfl | omega) hm hs ?_
  refine r_icmp_ge (tgt := 123) hc (dc_at dX10_keyAt 7 rfl) (by decide) hf (fun hf => ?_) (fun hf => ?_)
  · refine r_bipush (15 : Int32) hc (dc_at dX10_keyAt 65 rfl) (by decide) ?_
    exact r_iretP hc he (hm) (hs) (dc_at dX10_keyAt 66 rfl) hf
  · refine r_iconst (0 : Int32) hc (dc_at dX10_keyAt 8 rfl) (by decide) ?_
    refine r_istore_n [(3, .int ((0 : Int32))), (0, .ref (X.1 + v0)), (1, .int v1), (2, .int v2)] hc hr (dc_at dX10_keyAt 9 rfl) (by decide) rfl ?_
    exact gg_sub [1, 2, 3, 0] rfl (tl_X10_keyAt_15 hc hr he hm hs ih4 F _ _ _ _ hf)
def l_X10_keyAt_4 (F : Nat) (h : PH) : Nat → Nat → Int32 → Int32 → Option Int32
  | 0 => fun _ _ _ => none
  | n + 1 => fun v0 v1 v2 => b_X10_keyAt_4 F (l_X10_keyAt_4 F h n) h v0 v1 v2
theorem tl_X10_keyAt_4 {M : MV} {X : XT} {F : Nat} {h : PH} {r : Int32} {ce sl mc ms : Nat} (hc : Cx M X RX10 cX10_keyAt) (hr : Rx M 9 522 mc ms 4) (he : Ex M X (some .int) "keyAt" (some (.int r)) h mc ms) (hm : ce ≤ mc) (hs : sl ≤ ms) (n : Nat) : ∀ (v0 : Nat) (v1 : Int32) (v2 : Int32), l_X10_keyAt_4 F h n v0 v1 v2 = some r → GG M X h ce sl 4 [(0, .ref (X.1 + v0)), (1, .int v1), (2, .int v2)] [] := by
  induction n with
  | zero => intro v0 v1 v2 hf; cases hf
  | succ n ih => intro v0 v1 v2 hf; exact tb_X10_keyAt_4 (F := F) hc hr he hm hs  ih hf
def b_X10_keyAt_0 (F : Nat) (h : PH) (v0 : Nat) : Option Int32 := l_X10_keyAt_4 F h F v0 (0 : Int32) (1 : Int32)
set_option maxRecDepth 20000 in
theorem t_X10_keyAt_0 {M : MV} {X : XT} {F : Nat} {h : PH} {r : Int32} {ce sl mc ms : Nat} {v0 : Nat} (hc : Cx M X RX10 cX10_keyAt) (hr : Rx M 9 522 mc ms 4) (he : Ex M X (some .int) "keyAt" (some (.int r)) h mc ms) (hm : ce ≤ mc) (hs : sl ≤ ms) (hf : b_X10_keyAt_0 F h v0 = some r) : GG M X h ce sl 0 [(0, .ref (X.1 + v0))] [] := by
  unfold b_X10_keyAt_0 at hf
  refine r_iconst (0 : Int32) hc (dc_at dX10_keyAt 0 rfl) (by decide) ?_
  refine r_istore_n [(1, .int ((0 : Int32))), (0, .ref (X.1 + v0))] hc hr (dc_at dX10_keyAt 1 rfl) (by decide) rfl ?_
  refine r_iconst (1 : Int32) hc (dc_at dX10_keyAt 2 rfl) (by decide) ?_
  refine r_istore_n [(2, .int ((1 : Int32))), (1, .int ((0 : Int32))), (0, .ref (X.1 + v0))] hc hr (dc_at dX10_keyAt 3 rfl) (by decide) rfl ?_
  exact gg_sub [2, 1, 0] rfl (tl_X10_keyAt_4 hc hr he hm hs  F _ _ _ hf)
def m_X10_keyAt (F : Nat) (h : PH) (p0 : Nat) : Option Int32 := b_X10_keyAt_0 F h p0
theorem mt_X10_keyAt {l : Launch} {X : XT} {F : Nat} {h : PH} {p0 : Nat} {r : Int32} (ex : m_X10_keyAt F h p0 = some r) : MT l X yX10_keyAt cX10_keyAt 4 (some .int) 9 522 0 0 [.ref (X.1 + p0)] h (some (.int r)) h := MT.of (by decide) (Nat.le_of_ble_eq_true rfl) fun M hl hc hr he => by
  subst hl
  exact gg_sub [0] rfl (t_X10_keyAt_0  hc hr he (Nat.zero_le _) (Nat.zero_le _) ex)
/-! FractionLiftModel.next()V -/
def lX10_nextL : List (Nat × Instr × Nat × Nat) := [(0, .aload_n 0, 1, 1), (1, .aload_n 0, 1, 2), (2, .getfield 131, 3, 5), (5, .putfield 128, 3, 8), (8, .aload_n 0, 1, 9), (9, .aload_n 0, 1, 10), (10, .getfield 128, 3, 13), (13, .invokevirtual 134, 3, 16), (16, .bipush 10, 2, 18), (18, .if_icmp .eq 16, 3, 21), (21, .aload_n 0, 1, 22), (22, .aload_n 0, 1, 23), (23, .getfield 128, 3, 26), (26, .invokevirtual 134, 3, 29), (29, .bipush 32, 2, 31), (31, .if_icmp .ne 16, 3, 34), (34, .aload_n 0, 1, 35), (35, .dup, 1, 36), (36, .getfield 128, 3, 39), (39, .iconst 1, 1, 40), (40, .iadd, 1, 41), (41, .putfield 128, 3, 44), (44, .goto (-36), 3, 47), (47, .aload_n 0, 1, 48), (48, .aload_n 0, 1, 49), (49, .getfield 128, 3, 52), (52, .putfield 131, 3, 55), (55, .aload_n 0, 1, 56), (56, .getfield 128, 3, 59), (59, .aload_n 0, 1, 60), (60, .getfield 113, 3, 63), (63, .if_icmp .lt 12, 3, 66), (66, .aload_n 0, 1, 67), (67, .bipush 17, 2, 69), (69, .putfield 138, 3, 72), (72, .goto 222, 3, 75), (75, .aload_n 0, 1, 76), (76, .aload_n 0, 1, 77), (77, .getfield 128, 3, 80), (80, .invokevirtual 134, 3, 83), (83, .invokestatic 141, 3, 86), (86, .ifCond .eq 41, 3, 89), (89, .aload_n 0, 1, 90), (90, .aload_n 0, 1, 91), (91, .getfield 131, 3, 94), (94, .invokevirtual 134, 3, 97), (97, .invokestatic 141, 3, 100), (100, .ifCond .eq 16, 3, 103), (103, .aload_n 0, 1, 104), (104, .dup, 1, 105), (105, .getfield 131, 3, 108), (108, .iconst 1, 1, 109), (109, .iadd, 1, 110), (110, .putfield 131, 3, 113), (113, .goto (-24), 3, 116), (116, .aload_n 0, 1, 117), (117, .aload_n 0, 1, 118), (118, .invokevirtual 145, 3, 121), (121, .putfield 138, 3, 124), (124, .goto 170, 3, 127), (127, .aload_n 0, 1, 128), (128, .aload_n 0, 1, 129), (129, .getfield 128, 3, 132), (132, .invokevirtual 134, 3, 135), (135, .invokestatic 148, 3, 138), (138, .ifCond .eq 98, 3, 141), (141, .aload_n 0, 1, 142), (142, .iconst 0, 1, 143), (143, .putfield 151, 3, 146), (146, .aload_n 0, 1, 147), (147, .aload_n 0, 1, 148), (148, .getfield 131, 3, 151), (151, .invokevirtual 134, 3, 154), (154, .invokestatic 148, 3, 157), (157, .ifCond .eq 52, 3, 160), (160, .aload_n 0, 1, 161), (161, .getfield 131, 3, 164), (164, .aload_n 0, 1, 165), (165, .getfield 128, 3, 168), (168, .isub, 1, 169), (169, .iconst 3, 1, 170), (170, .if_icmp .ge 26, 3, 173), (173, .aload_n 0, 1, 174), (174, .bipush 10, 2, 176), (176, .aload_n 0, 1, 177), (177, .getfield 151, 3, 180), (180, .imul, 1, 181), (181, .aload_n 0, 1, 182), (182, .aload_n 0, 1, 183), (183, .getfield 131, 3, 186), (186, .invokevirtual 134, 3, 189), (189, .iadd, 1, 190), (190, .bipush 48, 2, 192), (192, .isub, 1, 193), (193, .putfield 151, 3, 196), (196, .aload_n 0, 1, 197), (197, .dup, 1, 198), (198, .getfield 131, 3, 201), (201, .iconst 1, 1, 202), (202, .iadd, 1, 203), (203, .putfield 131, 3, 206), (206, .goto (-60), 3, 209), (209, .aload_n 0, 1, 210), (210, .aload_n 0, 1, 211), (211, .getfield 131, 3, 214), (214, .aload_n 0, 1, 215), (215, .getfield 128, 3, 218), (218, .isub, 1, 219), (219, .iconst 3, 1, 220), (220, .if_icmp .le 8, 3, 223), (223, .bipush 18, 2, 225), (225, .goto 5, 3, 228), (228, .bipush 16, 2, 230), (230, .putfield 138, 3, 233), (233, .goto 61, 3, 236), (236, .aload_n 0, 1, 237), (237, .dup, 1, 238), (238, .getfield 131, 3, 241), (241, .iconst 1, 1, 242), (242, .iadd, 1, 243), (243, .putfield 131, 3, 246), (246, .aload_n 0, 1, 247), (247, .bipush 18, 2, 249), (249, .putfield 138, 3, 252), (252, .iconst 0, 1, 253), (253, .istore_n 1, 1, 254), (254, .iload_n 1, 1, 255), (255, .ldc 154, 2, 257), (257, .invokevirtual 118, 3, 260), (260, .if_icmp .ge 34, 3, 263), (263, .aload_n 0, 1, 264), (264, .aload_n 0, 1, 265), (265, .getfield 128, 3, 268), (268, .invokevirtual 134, 3, 271), (271, .ldc 154, 2, 273), (273, .iload_n 1, 1, 274), (274, .invokevirtual 124, 3, 277), (277, .if_icmp .ne 11, 3, 280), (280, .aload_n 0, 1, 281), (281, .bipush 20, 2, 283), (283, .iload_n 1, 1, 284), (284, .iadd, 1, 285), (285, .putfield 138, 3, 288), (288, .iinc 1 1, 3, 291), (291, .goto (-37), 3, 294), (294, .return_, 1, 295)]
set_option maxRecDepth 20000 in
theorem dX10_next : dcL cX10_next lX10_nextL = true := by decide +kernel
def b_X10_next_34 (F : Nat) (self4 : PH → Nat → Option (Unit × PH)) (h : PH) (v0 : Nat) : Option (Unit × PH) := (gI 10 6 h v0).bind fun x1 => ((pV 10 6 (.int ((x1 + (1 : Int32)))) h v0).bind fun h2 => (self4 h2 v0))
set_option maxRecDepth 20000 in
theorem t_X10_next_34 {M : MV} {X : XT} {F : Nat} {self4 : PH → Nat → Option (Unit × PH)} {h hz : PH} {r : Unit} {ce sl mc ms : Nat} {v0 : Nat} (hc : Cx M X RX10 cX10_next) (hr : Rx M 10 580 mc ms 2) (he : Ex M X none "next" none hz mc ms) (hm : ce ≤ mc) (hs : sl ≤ ms) (ih4 : ∀ (h : PH) (v0 : Nat), self4 h v0 = some (r, hz) → GG M X h ce sl 8 [(0, .ref (X.1 + v0))] []) (hf : b_X10_next_34 F self4 h v0 = some (r, hz)) : GG M X h ce sl 34 [(0, .ref (X.1 + v0))] [] := by
  unfold b_X10_next_34 at hf
  refine r_aload_n hc 0 (dc_at dX10_next 16 rfl) rfl ?_
  refine r_dup hc (dc_at dX10_next 17 rfl) rfl ?_
  refine r_getI hc (dc_at dX10_next 18 rfl) fl_X10_128 hf fun x1 hf => ?_
  refine r_iconst (1 : Int32) hc (dc_at dX10_next 19 rfl) (by decide) ?_
  refine r_iadd hc (dc_at dX10_next 20 rfl) ?_
  refine r_putI hc he (dc_at dX10_next 21 rfl) fp_X10_128 (fun q => by cases q) hf fun h2 hf => ?_
  refine r_goto (tgt := 8) hc (dc_at dX10_next 22 rfl) (by decide) ?_
  exact gg_sub [0] rfl (ih4 _ _ hf)
def b_X10_next_89 (F : Nat) (self42 : PH → Nat → Option (Unit × PH)) (h : PH) (v0 : Nat) : Option (Unit × PH) := (gI 10 7 h v0).bind fun x1 => (cO 10 h v0 ((m_X10_see h v0 x1).bind fun x2 => ((m_X10_isSmall x2).bind fun x3 => (if x3 = 0 then (cO 10 h v0 ((m_X10_keyAt F h v0).bind fun x4 => ((pV 10 9 (.int x4) h v0).bind fun h5 => (some ((), h5))))) else ((gI 10 7 h v0).bind fun x6 => ((pV 10 7 (.int ((x6 + (1 : Int32)))) h v0).bind fun h7 => (self42 h7 v0)))))))
set_option maxRecDepth 20000 in
theorem tb_X10_next_89 {M : MV} {X : XT} {F : Nat} {self42 : PH → Nat → Option (Unit × PH)} {h hz : PH} {r : Unit} {ce sl mc ms : Nat} {v0 : Nat} (hc : Cx M X RX10 cX10_next) (hr : Rx M 10 580 mc ms 2) (he : Ex M X none "next" none hz mc ms) (hm : ce ≤ mc) (hs : sl ≤ ms) (ih42 : ∀ (h : PH) (v0 : Nat), self42 h v0 = some (r, hz) → GG M X h ce sl 89 [(0, .ref (X.1 + v0))] []) (hf : b_X10_next_89 F self42 h v0 = some (r, hz)) : GG M X h ce sl 89 [(0, .ref (X.1 + v0))] [] := by
  unfold b_X10_next_89 at hf
  refine r_aload_n hc 0 (dc_at dX10_next 42 rfl) rfl ?_
  refine r_aload_n hc 0 (dc_at dX10_next 43 rfl) rfl ?_
  refine r_getI hc (dc_at dX10_next 44 rfl) fl_X10_131 hf fun x1 hf => ?_
  obtain ⟨ho, hf⟩ := cO_some hf
  refine ob hf fun x2 ex hf => ?_
  refine r_callVi (As := [.int x1]) (ci := 10) hc hr (dc_at dX10_next 45 rfl) ml_X10_134 mv_X10_see vi_X10_see rfl ho rfl (mt_X10_see ex) (by first | exact Nat.le_of_ble_eq_true rfl | omega) (by first | exact Nat.le_of_ble_eq_true rfl | omega) (by first | exact Nat.le_of_ble_eq_true rfl | omega) hm hs ?_
  refine ob hf fun x3 ex hf => ?_
  refine r_callSi (As := [.int x2]) hc hr (dc_at dX10_next 46 rfl) ml_X10_141 mv_X10_isSmall st_X10_isSmall rfl (mt_X10_isSmall ex) (by first | exact Nat.le_of_ble_eq_true rfl | omega) (by first | exact Nat.le_of_ble_eq_true rfl | omega) (by first | exact Nat.le_of_ble_eq_true rfl | omega) hm hs ?_
  refine r_if_eq (tgt := 116) hc (dc_at dX10_next 47 rfl) (by decide) hf (fun hf => ?_) (fun hf => ?_)
  · refine r_aload_n hc 0 (dc_at dX10_next 55 rfl) rfl ?_
    refine r_aload_n hc 0 (dc_at dX10_next 56 rfl) rfl ?_
    obtain ⟨ho, hf⟩ := cO_some hf
    refine ob hf fun x4 ex hf => ?_
    refine r_callVi (As := []) (ci := 10) hc hr (dc_at dX10_next 57 rfl) ml_X10_145 mv_X10_keyAt vi_X10_keyAt rfl ho rfl (mt_X10_keyAt ex) (by first | exact Nat.le_of_ble_eq_true rfl | omega) (by first | exact Nat.le_of_ble_eq_true rfl | omega) (by first | exact Nat.le_of_ble_eq_true rfl | omega) hm hs ?_
    refine r_putI hc he (dc_at dX10_next 58 rfl) fp_X10_138 (fun q => by cases q) hf fun h5 hf => ?_
    refine r_goto (tgt := 294) hc (dc_at dX10_next 59 rfl) (by decide) ?_
    exact r_vret hc he (hm) (hs) (dc_at dX10_next 145 rfl) hf
  · refine r_aload_n hc 0 (dc_at dX10_next 48 rfl) rfl ?_
    refine r_dup hc (dc_at dX10_next 49 rfl) rfl ?_
    refine r_getI hc (dc_at dX10_next 50 rfl) fl_X10_131 hf fun x6 hf => ?_
    refine r_iconst (1 : Int32) hc (dc_at dX10_next 51 rfl) (by decide) ?_
    refine r_iadd hc (dc_at dX10_next 52 rfl) ?_
    refine r_putI hc he (dc_at dX10_next 53 rfl) fp_X10_131 (fun q => by cases q) hf fun h7 hf => ?_
    refine r_goto (tgt := 89) hc (dc_at dX10_next 54 rfl) (by decide) ?_
    exact gg_sub [0] rfl (ih42 _ _ hf)
def l_X10_next_89 (F : Nat) : Nat → PH → Nat → Option (Unit × PH)
  | 0 => fun _ _ => none
  | n + 1 => fun h v0 => b_X10_next_89 F (l_X10_next_89 F n) h v0
theorem tl_X10_next_89 {M : MV} {X : XT} {F : Nat} {hz : PH} {r : Unit} {ce sl mc ms : Nat} (hc : Cx M X RX10 cX10_next) (hr : Rx M 10 580 mc ms 2) (he : Ex M X none "next" none hz mc ms) (hm : ce ≤ mc) (hs : sl ≤ ms) (n : Nat) : ∀ (h : PH) (v0 : Nat), l_X10_next_89 F n h v0 = some (r, hz) → GG M X h ce sl 89 [(0, .ref (X.1 + v0))] [] := by
  induction n with
  | zero => intro h v0 hf; cases hf
  | succ n ih => intro h v0 hf; exact tb_X10_next_89 (F := F) hc hr he hm hs  ih hf
def b_X10_next_230 (F : Nat) (h : PH) (s0 : Nat) (s1 : Int32) : Option (Unit × PH) := (pV 10 9 (.int s1) h s0).bind fun h1 => (some ((), h1))
set_option maxRecDepth 20000 in
theorem t_X10_next_230 {M : MV} {X : XT} {F : Nat} {h hz : PH} {r : Unit} {ce sl mc ms : Nat} {s0 : Nat} {s1 : Int32} (hc : Cx M X RX10 cX10_next) (hr : Rx M 10 580 mc ms 2) (he : Ex M X none "next" none hz mc ms) (hm : ce ≤ mc) (hs : sl ≤ ms) (hf : b_X10_next_230 F h s0 s1 = some (r, hz)) : GG M X h ce sl 230 [] [.int s1, .ref (X.1 + s0)] := by
  unfold b_X10_next_230 at hf
  refine r_putI hc he (dc_at dX10_next 113 rfl) fp_X10_138 (fun q => by cases q) hf fun h1 hf => ?_
  refine r_goto (tgt := 294) hc (dc_at dX10_next 114 rfl) (by decide) ?_
  exact r_vret hc he (hm) (hs) (dc_at dX10_next 145 rfl) hf
def b_X10_next_196 (F : Nat) (self69 : PH → Nat → Option (Unit × PH)) (h : PH) (v0 : Nat) : Option (Unit × PH) := (gI 10 7 h v0).bind fun x1 => ((pV 10 7 (.int ((x1 + (1 : Int32)))) h v0).bind fun h2 => (self69 h2 v0))
set_option maxRecDepth 20000 in
theorem t_X10_next_196 {M : MV} {X : XT} {F : Nat} {self69 : PH → Nat → Option (Unit × PH)} {h hz : PH} {r : Unit} {ce sl mc ms : Nat} {v0 : Nat} (hc : Cx M X RX10 cX10_next) (hr : Rx M 10 580 mc ms 2) (he : Ex M X none "next" none hz mc ms) (hm : ce ≤ mc) (hs : sl ≤ ms) (ih69 : ∀ (h : PH) (v0 : Nat), self69 h v0 = some (r, hz) → GG M X h ce sl 146 [(0, .ref (X.1 + v0))] []) (hf : b_X10_next_196 F self69 h v0 = some (r, hz)) : GG M X h ce sl 196 [(0, .ref (X.1 + v0))] [] := by
  unfold b_X10_next_196 at hf
  refine r_aload_n hc 0 (dc_at dX10_next 95 rfl) rfl ?_
  refine r_dup hc (dc_at dX10_next 96 rfl) rfl ?_
  refine r_getI hc (dc_at dX10_next 97 rfl) fl_X10_131 hf fun x1 hf => ?_
  refine r_iconst (1 : Int32) hc (dc_at dX10_next 98 rfl) (by decide) ?_
  refine r_iadd hc (dc_at dX10_next 99 rfl) ?_
  refine r_putI hc he (dc_at dX10_next 100 rfl) fp_X10_131 (fun q => by cases q) hf fun h2 hf => ?_
  refine r_goto (tgt := 146) hc (dc_at dX10_next 101 rfl) (by decide) ?_
  exact gg_sub [0] rfl (ih69 _ _ hf)
def b_X10_next_146 (F : Nat) (self69 : PH → Nat → Option (Unit × PH)) (h : PH) (v0 : Nat) : Option (Unit × PH) := (gI 10 7 h v0).bind fun x1 => (cO 10 h v0 ((m_X10_see h v0 x1).bind fun x2 => ((m_X10_isDigit x2).bind fun x3 => (if x3 = 0 then ((gI 10 7 h v0).bind fun x4 => ((gI 10 6 h v0).bind fun x5 => (if (x4 - x5) ≤ (3 : Int32) then (b_X10_next_230 F h v0 (16 : Int32)) else (b_X10_next_230 F h v0 (18 : Int32))))) else ((gI 10 7 h v0).bind fun x6 => ((gI 10 6 h v0).bind fun x7 => (if (3 : Int32) ≤ (x6 - x7) then (b_X10_next_196 F self69 h v0) else ((gI 10 10 h v0).bind fun x8 => ((gI 10 7 h v0).bind fun x9 => (cO 10 h v0 ((m_X10_see h v0 x9).bind fun x10 => ((pV 10 10 (.int (((((((10 : Int32) * x8)) + x10)) - (48 : Int32)))) h v0).bind fun h11 => (b_X10_next_196 F self69 h11 v0)))))))))))))
set_option maxRecDepth 20000 in
theorem tb_X10_next_146 {M : MV} {X : XT} {F : Nat} {self69 : PH → Nat → Option (Unit × PH)} {h hz : PH} {r : Unit} {ce sl mc ms : Nat} {v0 : Nat} (hc : Cx M X RX10 cX10_next) (hr : Rx M 10 580 mc ms 2) (he : Ex M X none "next" none hz mc ms) (hm : ce ≤ mc) (hs : sl ≤ ms) (ih69 : ∀ (h : PH) (v0 : Nat), self69 h v0 = some (r, hz) → GG M X h ce sl 146 [(0, .ref (X.1 + v0))] []) (hf : b_X10_next_146 F self69 h v0 = some (r, hz)) : GG M X h ce sl 146 [(0, .ref (X.1 + v0))] [] := by
  unfold b_X10_next_146 at hf
  refine r_aload_n hc 0 (dc_at dX10_next 69 rfl) rfl ?_
  refine r_aload_n hc 0 (dc_at dX10_next 70 rfl) rfl ?_
  refine r_getI hc (dc_at dX10_next 71 rfl) fl_X10_131 hf fun x1 hf => ?_
  obtain ⟨ho, hf⟩ := cO_some hf
  refine ob hf fun x2 ex hf => ?_
  refine r_callVi (As := [.int x1]) (ci := 10) hc hr (dc_at dX10_next 72 rfl) ml_X10_134 mv_X10_see vi_X10_see rfl ho rfl (mt_X10_see ex) (by first | exact Nat.le_of_ble_eq_true rfl | omega) (by first | exact Nat.le_of_ble_eq_true rfl | omega) (by first | exact Nat.le_of_ble_eq_true rfl | omega) hm hs ?_
  refine ob hf fun x3 ex hf => ?_
  refine r_callSi (As := [.int x2]) hc hr (dc_at dX10_next 73 rfl) ml_X10_148 mv_X10_isDigit st_X10_isDigit rfl (mt_X10_isDigit ex) (by first | exact Nat.le_of_ble_eq_true rfl | omega) (by first | exact Nat.le_of_ble_eq_true rfl | omega) (by first | exact Nat.le_of_ble_eq_true rfl | omega) hm hs ?_
  refine r_if_eq (tgt := 209) hc (dc_at dX10_next 74 rfl) (by decide) hf (fun hf => ?_) (fun hf => ?_)
  · refine r_aload_n hc 0 (dc_at dX10_next 102 rfl) rfl ?_
    refine r_aload_n hc 0 (dc_at dX10_next 103 rfl) rfl ?_
    refine r_getI hc (dc_at dX10_next 104 rfl) fl_X10_131 hf fun x4 hf => ?_
    refine r_aload_n hc 0 (dc_at dX10_next 105 rfl) rfl ?_
    refine r_getI hc (dc_at dX10_next 106 rfl) fl_X10_128 hf fun x5 hf => ?_
    refine r_isub hc (dc_at dX10_next 107 rfl) ?_
    refine r_iconst (3 : Int32) hc (dc_at dX10_next 108 rfl) (by decide) ?_
    refine r_icmp_le (tgt := 228) hc (dc_at dX10_next 109 rfl) (by decide) hf (fun hf => ?_) (fun hf => ?_)
    · refine r_bipush (16 : Int32) hc (dc_at dX10_next 112 rfl) (by decide) ?_
      exact gg_sub [] rfl (t_X10_next_230 hc hr he hm hs  hf)
    · refine r_bipush (18 : Int32) hc (dc_at dX10_next 110 rfl) (by decide) ?_
      refine r_goto (tgt := 230) hc (dc_at dX10_next 111 rfl) (by decide) ?_
      exact gg_sub [] rfl (t_X10_next_230 hc hr he hm hs  hf)
  · refine r_aload_n hc 0 (dc_at dX10_next 75 rfl) rfl ?_
    refine r_getI hc (dc_at dX10_next 76 rfl) fl_X10_131 hf fun x6 hf => ?_
    refine r_aload_n hc 0 (dc_at dX10_next 77 rfl) rfl ?_
    refine r_getI hc (dc_at dX10_next 78 rfl) fl_X10_128 hf fun x7 hf => ?_
    refine r_isub hc (dc_at dX10_next 79 rfl) ?_
    refine r_iconst (3 : Int32) hc (dc_at dX10_next 80 rfl) (by decide) ?_
    refine r_icmp_ge (tgt := 196) hc (dc_at dX10_next 81 rfl) (by decide) hf (fun hf => ?_) (fun hf => ?_)
    · exact gg_sub [0] rfl (t_X10_next_196 hc hr he hm hs ih69 hf)
    · refine r_aload_n hc 0 (dc_at dX10_next 82 rfl) rfl ?_
      refine r_bipush (10 : Int32) hc (dc_at dX10_next 83 rfl) (by decide) ?_
      refine r_aload_n hc 0 (dc_at dX10_next 84 rfl) rfl ?_
      refine r_getI hc (dc_at dX10_next 85 rfl) fl_X10_151 hf fun x8 hf => ?_
      refine r_imul hc (dc_at dX10_next 86 rfl) ?_
      refine r_aload_n hc 0 (dc_at dX10_next 87 rfl) rfl ?_
      refine r_aload_n hc 0 (dc_at dX10_next 88 rfl) rfl ?_
      refine r_getI hc (dc_at dX10_next 89 rfl) fl_X10_131 hf fun x9 hf => ?_
      obtain ⟨ho, hf⟩ := cO_some hf
      refine ob hf fun x10 ex hf => ?_
      refine r_callVi (As := [.int x9]) (ci := 10) hc hr (dc_at dX10_next 90 rfl) ml_X10_134 mv_X10_see vi_X10_see rfl ho rfl (mt_X10_see ex) (by first | exact Nat.le_of_ble_eq_true rfl | omega) (by first | exact Nat.le_of_ble_eq_true rfl | omega) (by first | exact Nat.le_of_ble_eq_true rfl | omega) hm hs ?_
      refine r_iadd hc (dc_at dX10_next 91 rfl) ?_
      refine r_bipush (48 : Int32) hc (dc_at dX10_next 92 rfl) (by decide) ?_
      refine r_isub hc (dc_at dX10_next 93 rfl) ?_
      refine r_putI hc he (dc_at dX10_next 94 rfl) fp_X10_151 (fun q => by cases q) hf fun h11 hf => ?_
      exact gg_sub [0] rfl (t_X10_next_196 hc hr he hm hs ih69 hf)
def l_X10_next_146 (F : Nat) : Nat → PH → Nat → Option (Unit × PH)
  | 0 => fun _ _ => none
  | n + 1 => fun h v0 => b_X10_next_146 F (l_X10_next_146 F n) h v0
theorem tl_X10_next_146 {M : MV} {X : XT} {F : Nat} {hz : PH} {r : Unit} {ce sl mc ms : Nat} (hc : Cx M X RX10 cX10_next) (hr : Rx M 10 580 mc ms 2) (he : Ex M X none "next" none hz mc ms) (hm : ce ≤ mc) (hs : sl ≤ ms) (n : Nat) : ∀ (h : PH) (v0 : Nat), l_X10_next_146 F n h v0 = some (r, hz) → GG M X h ce sl 146 [(0, .ref (X.1 + v0))] [] := by
  induction n with
  | zero => intro h v0 hf; cases hf
  | succ n ih => intro h v0 hf; exact tb_X10_next_146 (F := F) hc hr he hm hs  ih hf
def b_X10_next_288 (F : Nat) (self126 : PH → Nat → Int32 → Option (Unit × PH)) (h : PH) (v0 : Nat) (v1 : Int32) : Option (Unit × PH) := bindv (v1 + (1)) fun x1 => (self126 h v0 x1)
set_option maxRecDepth 20000 in
theorem t_X10_next_288 {M : MV} {X : XT} {F : Nat} {self126 : PH → Nat → Int32 → Option (Unit × PH)} {h hz : PH} {r : Unit} {ce sl mc ms : Nat} {v0 : Nat} {v1 : Int32} (hc : Cx M X RX10 cX10_next) (hr : Rx M 10 580 mc ms 2) (he : Ex M X none "next" none hz mc ms) (hm : ce ≤ mc) (hs : sl ≤ ms) (ih126 : ∀ (h : PH) (v0 : Nat) (v1 : Int32), self126 h v0 v1 = some (r, hz) → GG M X h ce sl 254 [(0, .ref (X.1 + v0)), (1, .int v1)] []) (hf : b_X10_next_288 F self126 h v0 v1 = some (r, hz)) : GG M X h ce sl 288 [(0, .ref (X.1 + v0)), (1, .int v1)] [] := by
  unfold b_X10_next_288 at hf
  refine obv hf fun x1 e_x1 hf => ?_
  refine r_iinc 1 [(1, .int x1), (0, .ref (X.1 + v0))] hc hr (dc_at dX10_next 143 rfl) rfl (by rw [e_x1]; rfl) (by decide) rfl ?_
  refine r_goto (tgt := 254) hc (dc_at dX10_next 144 rfl) (by decide) ?_
  exact gg_sub [1, 0] rfl (ih126 _ _ _ hf)
def b_X10_next_254 (F : Nat) (self126 : PH → Nat → Int32 → Option (Unit × PH)) (h : PH) (v0 : Nat) (v1 : Int32) : Option (Unit × PH) := (sLenF 9).bind fun x1 => (if x1 ≤ v1 then (some ((), h)) else ((gI 10 6 h v0).bind fun x2 => (cO 10 h v0 ((m_X10_see h v0 x2).bind fun x3 => ((sChrF 9 v1).bind fun x4 => (if x3 = x4 then ((pV 10 9 (.int (((20 : Int32) + v1))) h v0).bind fun h5 => (b_X10_next_288 F self126 h5 v0 v1)) else (b_X10_next_288 F self126 h v0 v1)))))))
set_option maxRecDepth 20000 in
theorem tb_X10_next_254 {M : MV} {X : XT} {F : Nat} {self126 : PH → Nat → Int32 → Option (Unit × PH)} {h hz : PH} {r : Unit} {ce sl mc ms : Nat} {v0 : Nat} {v1 : Int32} (hc : Cx M X RX10 cX10_next) (hr : Rx M 10 580 mc ms 2) (he : Ex M X none "next" none hz mc ms) (hm : ce ≤ mc) (hs : sl ≤ ms) (ih126 : ∀ (h : PH) (v0 : Nat) (v1 : Int32), self126 h v0 v1 = some (r, hz) → GG M X h ce sl 254 [(0, .ref (X.1 + v0)), (1, .int v1)] []) (hf : b_X10_next_254 F self126 h v0 v1 = some (r, hz)) : GG M X h ce sl 254 [(0, .ref (X.1 + v0)), (1, .int v1)] [] := by
  unfold b_X10_next_254 at hf
  refine r_iload_n hc 1 (dc_at dX10_next 126 rfl) rfl ?_
  refine r_ldcS 9 hc (dc_at dX10_next 127 rfl) (by decide) (by decide) (by decide) ?_
  refine ob hf fun x1 ex hf => ?_
  refine r_callStr (As := []) (sfl_J0_length_8abf5 ex) hc hr (dc_at dX10_next 128 rfl) ml_X10_118 mv_J0_length_8abf5 vi_J0_length_8abf5 rfl (mt_J0_length_8abf5 ex) (by first | exact Nat.le_of_ble_eq_true rfl | omega) (by first | exact Nat.le_of_ble_eq_true rfl | omega) (by first | exact Nat.le_of_ble_eq_true rfl | omega) hm hs ?_
  refine r_icmp_ge (tgt := 294) hc (dc_at dX10_next 129 rfl) (by decide) hf (fun hf => ?_) (fun hf => ?_)
  · exact r_vret hc he (hm) (hs) (dc_at dX10_next 145 rfl) hf
  · refine r_aload_n hc 0 (dc_at dX10_next 130 rfl) rfl ?_
    refine r_aload_n hc 0 (dc_at dX10_next 131 rfl) rfl ?_
    refine r_getI hc (dc_at dX10_next 132 rfl) fl_X10_128 hf fun x2 hf => ?_
    obtain ⟨ho, hf⟩ := cO_some hf
    refine ob hf fun x3 ex hf => ?_
    refine r_callVi (As := [.int x2]) (ci := 10) hc hr (dc_at dX10_next 133 rfl) ml_X10_134 mv_X10_see vi_X10_see rfl ho rfl (mt_X10_see ex) (by first | exact Nat.le_of_ble_eq_true rfl | omega) (by first | exact Nat.le_of_ble_eq_true rfl | omega) (by first | exact Nat.le_of_ble_eq_true rfl | omega) hm hs ?_
    refine r_ldcS 9 hc (dc_at dX10_next 134 rfl) (by decide) (by decide) (by decide) ?_
    refine r_iload_n hc 1 (dc_at dX10_next 135 rfl) rfl ?_
    refine ob hf fun x4 ex hf => ?_
    refine r_callStr (As := [.int v1]) (sfl_J0_charAt_5068e ex) hc hr (dc_at dX10_next 136 rfl) ml_X10_124 mv_J0_charAt_5068e vi_J0_charAt_5068e rfl (mt_J0_charAt_5068e ex) (by first | exact Nat.le_of_ble_eq_true rfl | omega) (by first | exact Nat.le_of_ble_eq_true rfl | omega) (by first | exact Nat.le_of_ble_eq_true rfl | omega) hm hs ?_
    refine r_icmp_ne (tgt := 288) hc (dc_at dX10_next 137 rfl) (by decide) hf (fun hf => ?_) (fun hf => ?_)
    · exact gg_sub [0, 1] rfl (t_X10_next_288 hc hr he hm hs ih126 hf)
    · refine r_aload_n hc 0 (dc_at dX10_next 138 rfl) rfl ?_
      refine r_bipush (20 : Int32) hc (dc_at dX10_next 139 rfl) (by decide) ?_
      refine r_iload_n hc 1 (dc_at dX10_next 140 rfl) rfl ?_
      refine r_iadd hc (dc_at dX10_next 141 rfl) ?_
      refine r_putI hc he (dc_at dX10_next 142 rfl) fp_X10_138 (fun q => by cases q) hf fun h5 hf => ?_
      exact gg_sub [0, 1] rfl (t_X10_next_288 hc hr he hm hs ih126 hf)
def l_X10_next_254 (F : Nat) : Nat → PH → Nat → Int32 → Option (Unit × PH)
  | 0 => fun _ _ _ => none
  | n + 1 => fun h v0 v1 => b_X10_next_254 F (l_X10_next_254 F n) h v0 v1
theorem tl_X10_next_254 {M : MV} {X : XT} {F : Nat} {hz : PH} {r : Unit} {ce sl mc ms : Nat} (hc : Cx M X RX10 cX10_next) (hr : Rx M 10 580 mc ms 2) (he : Ex M X none "next" none hz mc ms) (hm : ce ≤ mc) (hs : sl ≤ ms) (n : Nat) : ∀ (h : PH) (v0 : Nat) (v1 : Int32), l_X10_next_254 F n h v0 v1 = some (r, hz) → GG M X h ce sl 254 [(0, .ref (X.1 + v0)), (1, .int v1)] [] := by
  induction n with
  | zero => intro h v0 v1 hf; cases hf
  | succ n ih => intro h v0 v1 hf; exact tb_X10_next_254 (F := F) hc hr he hm hs  ih hf
def b_X10_next_8 (F : Nat) (self4 : PH → Nat → Option (Unit × PH)) (h : PH) (v0 : Nat) : Option (Unit × PH) := (gI 10 6 h v0).bind fun x1 => (cO 10 h v0 ((m_X10_see h v0 x1).bind fun x2 => (if x2 = (10 : Int32) then (b_X10_next_34 F self4 h v0) else ((gI 10 6 h v0).bind fun x3 => (cO 10 h v0 ((m_X10_see h v0 x3).bind fun x4 => (if x4 = (32 : Int32) then (b_X10_next_34 F self4 h v0) else ((gI 10 6 h v0).bind fun x5 => ((pV 10 7 (.int x5) h v0).bind fun h6 => ((gI 10 6 h6 v0).bind fun x7 => ((gI 10 8 h6 v0).bind fun x8 => (if x7 < x8 then ((gI 10 6 h6 v0).bind fun x9 => (cO 10 h6 v0 ((m_X10_see h6 v0 x9).bind fun x10 => ((m_X10_isSmall x10).bind fun x11 => (if x11 = 0 then ((gI 10 6 h6 v0).bind fun x12 => (cO 10 h6 v0 ((m_X10_see h6 v0 x12).bind fun x13 => ((m_X10_isDigit x13).bind fun x14 => (if x14 = 0 then ((gI 10 7 h6 v0).bind fun x15 => ((pV 10 7 (.int ((x15 + (1 : Int32)))) h6 v0).bind fun h16 => ((pV 10 9 (.int (18 : Int32)) h16 v0).bind fun h17 => (l_X10_next_254 F F h17 v0 (0 : Int32))))) else ((pV 10 10 (.int (0 : Int32)) h6 v0).bind fun h18 => (l_X10_next_146 F F h18 v0))))))) else (l_X10_next_89 F F h6 v0)))))) else ((pV 10 9 (.int (17 : Int32)) h6 v0).bind fun h19 => (some ((), h19)))))))))))))))
set_option maxRecDepth 20000 in
theorem tb_X10_next_8 {M : MV} {X : XT} {F : Nat} {self4 : PH → Nat → Option (Unit × PH)} {h hz : PH} {r : Unit} {ce sl mc ms : Nat} {v0 : Nat} (hc : Cx M X RX10 cX10_next) (hr : Rx M 10 580 mc ms 2) (he : Ex M X none "next" none hz mc ms) (hm : ce ≤ mc) (hs : sl ≤ ms) (ih4 : ∀ (h : PH) (v0 : Nat), self4 h v0 = some (r, hz) → GG M X h ce sl 8 [(0, .ref (X.1 + v0))] []) (hf : b_X10_next_8 F self4 h v0 = some (r, hz)) : GG M X h ce sl 8 [(0, .ref (X.1 + v0))] [] := by
  unfold b_X10_next_8 at hf
  refine r_aload_n hc 0 (dc_at dX10_next 4 rfl) rfl ?_
  refine r_aload_n hc 0 (dc_at dX10_next 5 rfl) rfl ?_
  refine r_getI hc (dc_at dX10_next 6 rfl) fl_X10_128 hf fun x1 hf => ?_
  obtain ⟨ho, hf⟩ := cO_some hf
  refine ob hf fun x2 ex hf => ?_
  refine r_callVi (As := [.int x1]) (ci := 10) hc hr (dc_at dX10_next 7 rfl) ml_X10_134 mv_X10_see vi_X10_see rfl ho rfl (mt_X10_see ex) (by first | exact Nat.le_of_ble_eq_true rfl | omega) (by first | exact Nat.le_of_ble_eq_true rfl | omega) (by first | exact Nat.le_of_ble_eq_true rfl | omega) hm hs ?_
  refine r_bipush (10 : Int32) hc (dc_at dX10_next 8 rfl) (by decide) ?_
  refine r_icmp_eq (tgt := 34) hc (dc_at dX10_next 9 rfl) (by decide) hf (fun hf => ?_) (fun hf => ?_)
  · exact gg_sub [0] rfl (t_X10_next_34 hc hr he hm hs ih4 hf)
  · refine r_aload_n hc 0 (dc_at dX10_next 10 rfl) rfl ?_
    refine r_aload_n hc 0 (dc_at dX10_next 11 rfl) rfl ?_
    refine r_getI hc (dc_at dX10_next 12 rfl) fl_X10_128 hf fun x3 hf => ?_
    obtain ⟨ho, hf⟩ := cO_some hf
    refine ob hf fun x4 ex hf => ?_
    refine r_callVi (As := [.int x3]) (ci := 10) hc hr (dc_at dX10_next 13 rfl) ml_X10_134 mv_X10_see vi_X10_see rfl ho rfl (mt_X10_see ex) (by first | exact Nat.le_of_ble_eq_true rfl | omega) (by first | exact Nat.le_of_ble_eq_true rfl | omega) (by first | exact Nat.le_of_ble_eq_true rfl | omega) hm hs ?_
    refine r_bipush (32 : Int32) hc (dc_at dX10_next 14 rfl) (by decide) ?_
    refine r_icmp_ne (tgt := 47) hc (dc_at dX10_next 15 rfl) (by decide) hf (fun hf => ?_) (fun hf => ?_)
    · refine r_aload_n hc 0 (dc_at dX10_next 23 rfl) rfl ?_
      refine r_aload_n hc 0 (dc_at dX10_next 24 rfl) rfl ?_
      refine r_getI hc (dc_at dX10_next 25 rfl) fl_X10_128 hf fun x5 hf => ?_
      refine r_putI hc he (dc_at dX10_next 26 rfl) fp_X10_131 (fun q => by cases q) hf fun h6 hf => ?_
      refine r_aload_n hc 0 (dc_at dX10_next 27 rfl) rfl ?_
      refine r_getI hc (dc_at dX10_next 28 rfl) fl_X10_128 hf fun x7 hf => ?_
      refine r_aload_n hc 0 (dc_at dX10_next 29 rfl) rfl ?_
      refine r_getI hc (dc_at dX10_next 30 rfl) fl_X10_113 hf fun x8 hf => ?_
      refine r_icmp_lt (tgt := 75) hc (dc_at dX10_next 31 rfl) (by decide) hf (fun hf => ?_) (fun hf => ?_)
      · refine r_aload_n hc 0 (dc_at dX10_next 36 rfl) rfl ?_
        refine r_aload_n hc 0 (dc_at dX10_next 37 rfl) rfl ?_
        refine r_getI hc (dc_at dX10_next 38 rfl) fl_X10_128 hf fun x9 hf => ?_
        obtain ⟨ho, hf⟩ := cO_some hf
        refine ob hf fun x10 ex hf => ?_
        refine r_callVi (As := [.int x9]) (ci := 10) hc hr (dc_at dX10_next 39 rfl) ml_X10_134 mv_X10_see vi_X10_see rfl ho rfl (mt_X10_see ex) (by first | exact Nat.le_of_ble_eq_true rfl | omega) (by first | exact Nat.le_of_ble_eq_true rfl | omega) (by first | exact Nat.le_of_ble_eq_true rfl | omega) hm hs ?_
        refine ob hf fun x11 ex hf => ?_
        refine r_callSi (As := [.int x10]) hc hr (dc_at dX10_next 40 rfl) ml_X10_141 mv_X10_isSmall st_X10_isSmall rfl (mt_X10_isSmall ex) (by first | exact Nat.le_of_ble_eq_true rfl | omega) (by first | exact Nat.le_of_ble_eq_true rfl | omega) (by first | exact Nat.le_of_ble_eq_true rfl | omega) hm hs ?_
        refine r_if_eq (tgt := 127) hc (dc_at dX10_next 41 rfl) (by decide) hf (fun hf => ?_) (fun hf => ?_)
        · refine r_aload_n hc 0 (dc_at dX10_next 60 rfl) rfl ?_
          refine r_aload_n hc 0 (dc_at dX10_next 61 rfl) rfl ?_
          refine r_getI hc (dc_at dX10_next 62 rfl) fl_X10_128 hf fun x12 hf => ?_
          obtain ⟨ho, hf⟩ := cO_some hf
          refine ob hf fun x13 ex hf => ?_
          refine r_callVi (As := [.int x12]) (ci := 10) hc hr (dc_at dX10_next 63 rfl) ml_X10_134 mv_X10_see vi_X10_see rfl ho rfl (mt_X10_see ex) (by first | exact Nat.le_of_ble_eq_true rfl | omega) (by first | exact Nat.le_of_ble_eq_true rfl | omega) (by first | exact Nat.le_of_ble_eq_true rfl | omega) hm hs ?_
          refine ob hf fun x14 ex hf => ?_
          refine r_callSi (As := [.int x13]) hc hr (dc_at dX10_next 64 rfl) ml_X10_148 mv_X10_isDigit st_X10_isDigit rfl (mt_X10_isDigit ex) (by first | exact Nat.le_of_ble_eq_true rfl | omega) (by first | exact Nat.le_of_ble_eq_true rfl | omega) (by first | exact Nat.le_of_ble_eq_true rfl | omega) hm hs ?_
          refine r_if_eq (tgt := 236) hc (dc_at dX10_next 65 rfl) (by decide) hf (fun hf => ?_) (fun hf => ?_)
          · refine r_aload_n hc 0 (dc_at dX10_next 115 rfl) rfl ?_
            refine r_dup hc (dc_at dX10_next 116 rfl) rfl ?_
            refine r_getI hc (dc_at dX10_next 117 rfl) fl_X10_131 hf fun x15 hf => ?_
            refine r_iconst (1 : Int32) hc (dc_at dX10_next 118 rfl) (by decide) ?_
            refine r_iadd hc (dc_at dX10_next 119 rfl) ?_
            refine r_putI hc he (dc_at dX10_next 120 rfl) fp_X10_131 (fun q => by cases q) hf fun h16 hf => ?_
            refine r_aload_n hc 0 (dc_at dX10_next 121 rfl) rfl ?_
            refine r_bipush (18 : Int32) hc (dc_at dX10_next 122 rfl) (by decide) ?_
            refine r_putI hc he (dc_at dX10_next 123 rfl) fp_X10_138 (fun q => by cases q) hf fun h17 hf => ?_
            refine r_iconst (0 : Int32) hc (dc_at dX10_next 124 rfl) (by decide) ?_
            refine r_istore_n [(1, .int ((0 : Int32))), (0, .ref (X.1 + v0))] hc hr (dc_at dX10_next 125 rfl) (by decide) rfl ?_
            exact gg_sub [1, 0] rfl (tl_X10_next_254 hc hr he hm hs  F _ _ _ hf)
          · refine r_aload_n hc 0 (dc_at dX10_next 66 rfl) rfl ?_
            refine r_iconst (0 : Int32) hc (dc_at dX10_next 67 rfl) (by decide) ?_
            refine r_putI hc he (dc_at dX10_next 68 rfl) fp_X10_151 (fun q => by cases q) hf fun h18 hf => ?_
            exact gg_sub [0] rfl (tl_X10_next_146 hc hr he hm hs  F _ _ hf)
        · exact gg_sub [0] rfl (tl_X10_next_89 hc hr he hm hs  F _ _ hf)
      · refine r_aload_n hc 0 (dc_at dX10_next 32 rfl) rfl ?_
        refine r_bipush (17 : Int32) hc (dc_at dX10_next 33 rfl) (by decide) ?_
        refine r_putI hc he (dc_at dX10_next 34 rfl) fp_X10_138 (fun q => by cases q) hf fun h19 hf => ?_
        refine r_goto (tgt := 294) hc (dc_at dX10_next 35 rfl) (by decide) ?_
        exact r_vret hc he (hm) (hs) (dc_at dX10_next 145 rfl) hf
    · exact gg_sub [0] rfl (t_X10_next_34 hc hr he hm hs ih4 hf)
def l_X10_next_8 (F : Nat) : Nat → PH → Nat → Option (Unit × PH)
  | 0 => fun _ _ => none
  | n + 1 => fun h v0 => b_X10_next_8 F (l_X10_next_8 F n) h v0
theorem tl_X10_next_8 {M : MV} {X : XT} {F : Nat} {hz : PH} {r : Unit} {ce sl mc ms : Nat} (hc : Cx M X RX10 cX10_next) (hr : Rx M 10 580 mc ms 2) (he : Ex M X none "next" none hz mc ms) (hm : ce ≤ mc) (hs : sl ≤ ms) (n : Nat) : ∀ (h : PH) (v0 : Nat), l_X10_next_8 F n h v0 = some (r, hz) → GG M X h ce sl 8 [(0, .ref (X.1 + v0))] [] := by
  induction n with
  | zero => intro h v0 hf; cases hf
  | succ n ih => intro h v0 hf; exact tb_X10_next_8 (F := F) hc hr he hm hs  ih hf
def b_X10_next_0 (F : Nat) (h : PH) (v0 : Nat) : Option (Unit × PH) := (gI 10 7 h v0).bind fun x1 => ((pV 10 6 (.int x1) h v0).bind fun h2 => (l_X10_next_8 F F h2 v0))
set_option maxRecDepth 20000 in
theorem t_X10_next_0 {M : MV} {X : XT} {F : Nat} {h hz : PH} {r : Unit} {ce sl mc ms : Nat} {v0 : Nat} (hc : Cx M X RX10 cX10_next) (hr : Rx M 10 580 mc ms 2) (he : Ex M X none "next" none hz mc ms) (hm : ce ≤ mc) (hs : sl ≤ ms) (hf : b_X10_next_0 F h v0 = some (r, hz)) : GG M X h ce sl 0 [(0, .ref (X.1 + v0))] [] := by
  unfold b_X10_next_0 at hf
  refine r_aload_n hc 0 (dc_at dX10_next 0 rfl) rfl ?_
  refine r_aload_n hc 0 (dc_at dX10_next 1 rfl) rfl ?_
  refine r_getI hc (dc_at dX10_next 2 rfl) fl_X10_131 hf fun x1 hf => ?_
  refine r_putI hc he (dc_at dX10_next 3 rfl) fp_X10_128 (fun q => by cases q) hf fun h2 hf => ?_
  exact gg_sub [0] rfl (tl_X10_next_8 hc hr he hm hs  F _ _ hf)
def m_X10_next (F : Nat) (h : PH) (p0 : Nat) : Option (Unit × PH) := b_X10_next_0 F h p0
theorem mt_X10_next {l : Launch} {X : XT} {F : Nat} {h hz : PH} {p0 : Nat} {r : Unit} (ex : m_X10_next F h p0 = some (r, hz)) : MT l X yX10_next cX10_next 2 none 10 580 0 0 [.ref (X.1 + p0)] h none hz := MT.of (by decide) (Nat.le_of_ble_eq_true rfl) fun M hl hc hr he => by
  subst hl
  exact gg_sub [0] rfl (t_X10_next_0  hc hr he (Nat.zero_le _) (Nat.zero_le _) ex)
/-! FractionLiftModel.fails(I)V -/
def lX10_failsL : List (Nat × Instr × Nat × Nat) := [(0, .aload_n 0, 1, 1), (1, .getfield 156, 3, 4), (4, .ifCond .eq 4, 3, 7), (7, .return_, 1, 8), (8, .aload_n 0, 1, 9), (9, .aload_n 0, 1, 10), (10, .getfield 138, 3, 13), (13, .bipush 18, 2, 15), (15, .if_icmp .ne 7, 3, 18), (18, .iconst 1, 1, 19), (19, .goto 4, 3, 22), (22, .iload_n 1, 1, 23), (23, .putfield 156, 3, 26), (26, .aload_n 0, 1, 27), (27, .aload_n 0, 1, 28), (28, .getfield 128, 3, 31), (31, .putfield 159, 3, 34), (34, .return_, 1, 35)]
set_option maxRecDepth 20000 in
theorem dX10_fails : dcL cX10_fails lX10_failsL = true := by decide +kernel
def b_X10_fails_23 (h : PH) (v0 : Nat) (s0 : Nat) (s1 : Int32) : Option (Unit × PH) := (pV 10 11 (.int s1) h s0).bind fun h1 => ((gI 10 6 h1 v0).bind fun x2 => ((pV 10 12 (.int x2) h1 v0).bind fun h3 => (some ((), h3))))
set_option maxRecDepth 20000 in
theorem t_X10_fails_23 {M : MV} {X : XT} {h hz : PH} {r : Unit} {ce sl mc ms : Nat} {v0 : Nat} {s0 : Nat} {s1 : Int32} (hc : Cx M X RX10 cX10_fails) (hr : Rx M 1 60 mc ms 2) (he : Ex M X none "fails" none hz mc ms) (hm : ce ≤ mc) (hs : sl ≤ ms) (hf : b_X10_fails_23 h v0 s0 s1 = some (r, hz)) : GG M X h ce sl 23 [(0, .ref (X.1 + v0))] [.int s1, .ref (X.1 + s0)] := by
  unfold b_X10_fails_23 at hf
  refine r_putI hc he (dc_at dX10_fails 12 rfl) fp_X10_156 (fun q => by cases q) hf fun h1 hf => ?_
  refine r_aload_n hc 0 (dc_at dX10_fails 13 rfl) rfl ?_
  refine r_aload_n hc 0 (dc_at dX10_fails 14 rfl) rfl ?_
  refine r_getI hc (dc_at dX10_fails 15 rfl) fl_X10_128 hf fun x2 hf => ?_
  refine r_putI hc he (dc_at dX10_fails 16 rfl) fp_X10_159 (fun q => by cases q) hf fun h3 hf => ?_
  exact r_vret hc he (hm) (hs) (dc_at dX10_fails 17 rfl) hf
def b_X10_fails_0 (h : PH) (v0 : Nat) (v1 : Int32) : Option (Unit × PH) := (gI 10 11 h v0).bind fun x1 => (if x1 = 0 then ((gI 10 9 h v0).bind fun x2 => (if x2 = (18 : Int32) then (b_X10_fails_23 h v0 v0 (1 : Int32)) else (b_X10_fails_23 h v0 v0 v1))) else (some ((), h)))
set_option maxRecDepth 20000 in
theorem t_X10_fails_0 {M : MV} {X : XT} {h hz : PH} {r : Unit} {ce sl mc ms : Nat} {v0 : Nat} {v1 : Int32} (hc : Cx M X RX10 cX10_fails) (hr : Rx M 1 60 mc ms 2) (he : Ex M X none "fails" none hz mc ms) (hm : ce ≤ mc) (hs : sl ≤ ms) (hf : b_X10_fails_0 h v0 v1 = some (r, hz)) : GG M X h ce sl 0 [(0, .ref (X.1 + v0)), (1, .int v1)] [] := by
  unfold b_X10_fails_0 at hf
  refine r_aload_n hc 0 (dc_at dX10_fails 0 rfl) rfl ?_
  refine r_getI hc (dc_at dX10_fails 1 rfl) fl_X10_156 hf fun x1 hf => ?_
  refine r_if_eq (tgt := 8) hc (dc_at dX10_fails 2 rfl) (by decide) hf (fun hf => ?_) (fun hf => ?_)
  · refine r_aload_n hc 0 (dc_at dX10_fails 4 rfl) rfl ?_
    refine r_aload_n hc 0 (dc_at dX10_fails 5 rfl) rfl ?_
    refine r_getI hc (dc_at dX10_fails 6 rfl) fl_X10_138 hf fun x2 hf => ?_
    refine r_bipush (18 : Int32) hc (dc_at dX10_fails 7 rfl) (by decide) ?_
    refine r_icmp_ne (tgt := 22) hc (dc_at dX10_fails 8 rfl) (by decide) hf (fun hf => ?_) (fun hf => ?_)
    · refine r_iload_n hc 1 (dc_at dX10_fails 11 rfl) rfl ?_
      exact gg_sub [0] rfl (t_X10_fails_23 hc hr he hm hs  hf)
    · refine r_iconst (1 : Int32) hc (dc_at dX10_fails 9 rfl) (by decide) ?_
      refine r_goto (tgt := 23) hc (dc_at dX10_fails 10 rfl) (by decide) ?_
      exact gg_sub [0] rfl (t_X10_fails_23 hc hr he hm hs  hf)
  · exact r_vret hc he (hm) (hs) (dc_at dX10_fails 3 rfl) hf
def m_X10_fails (h : PH) (p0 : Nat) (p1 : Int32) : Option (Unit × PH) := b_X10_fails_0 h p0 p1
theorem mt_X10_fails {l : Launch} {X : XT} {h hz : PH} {p0 : Nat} {p1 : Int32} {r : Unit} (ex : m_X10_fails h p0 p1 = some (r, hz)) : MT l X yX10_fails cX10_fails 2 none 1 60 0 0 [.ref (X.1 + p0), .int p1] h none hz := MT.of (by decide) (Nat.le_of_ble_eq_true rfl) fun M hl hc hr he => by
  subst hl
  exact gg_sub [0, 1] rfl (t_X10_fails_0  hc hr he (Nat.zero_le _) (Nat.zero_le _) ex)
/-! FractionLiftModel.is(I)Z -/
def lX10_isL : List (Nat × Instr × Nat × Nat) := [(0, .aload_n 0, 1, 1), (1, .getfield 156, 3, 4), (4, .ifCond .ne 15, 3, 7), (7, .aload_n 0, 1, 8), (8, .getfield 138, 3, 11), (11, .iload_n 1, 1, 12), (12, .if_icmp .ne 7, 3, 15), (15, .iconst 1, 1, 16), (16, .goto 4, 3, 19), (19, .iconst 0, 1, 20), (20, .ireturn, 1, 21)]
set_option maxRecDepth 20000 in
theorem dX10_is : dcL cX10_is lX10_isL = true := by decide +kernel
def b_X10_is_0 (h : PH) (v0 : Nat) (v1 : Int32) : Option Int32 := (gI 10 11 h v0).bind fun x1 => (if x1 = 0 then ((gI 10 9 h v0).bind fun x2 => (if x2 = v1 then (rZP (1 : Int32)) else (rZP (0 : Int32)))) else (rZP (0 : Int32)))
set_option maxRecDepth 20000 in
theorem t_X10_is_0 {M : MV} {X : XT} {h : PH} {r : Int32} {ce sl mc ms : Nat} {v0 : Nat} {v1 : Int32} (hc : Cx M X RX10 cX10_is) (hr : Rx M 1 60 mc ms 2) (he : Ex M X (some .boolean) "is" (some (.int r)) h mc ms) (hm : ce ≤ mc) (hs : sl ≤ ms) (hf : b_X10_is_0 h v0 v1 = some r) : GG M X h ce sl 0 [(0, .ref (X.1 + v0)), (1, .int v1)] [] := by
  unfold b_X10_is_0 at hf
  refine r_aload_n hc 0 (dc_at dX10_is 0 rfl) rfl ?_
  refine r_getI hc (dc_at dX10_is 1 rfl) fl_X10_156 hf fun x1 hf => ?_
  refine r_if_ne (tgt := 19) hc (dc_at dX10_is 2 rfl) (by decide) hf (fun hf => ?_) (fun hf => ?_)
  · refine r_iconst (0 : Int32) hc (dc_at dX10_is 9 rfl) (by decide) ?_
    exact r_zretP hc he (hm) (hs) (dc_at dX10_is 10 rfl) hf
  · refine r_aload_n hc 0 (dc_at dX10_is 3 rfl) rfl ?_
    refine r_getI hc (dc_at dX10_is 4 rfl) fl_X10_138 hf fun x2 hf => ?_
    refine r_iload_n hc 1 (dc_at dX10_is 5 rfl) rfl ?_
    refine r_icmp_ne (tgt := 19) hc (dc_at dX10_is 6 rfl) (by decide) hf (fun hf => ?_) (fun hf => ?_)
    · refine r_iconst (0 : Int32) hc (dc_at dX10_is 9 rfl) (by decide) ?_
      exact r_zretP hc he (hm) (hs) (dc_at dX10_is 10 rfl) hf
    · refine r_iconst (1 : Int32) hc (dc_at dX10_is 7 rfl) (by decide) ?_
      refine r_goto (tgt := 20) hc (dc_at dX10_is 8 rfl) (by decide) ?_
      exact r_zretP hc he (hm) (hs) (dc_at dX10_is 10 rfl) hf
def m_X10_is (h : PH) (p0 : Nat) (p1 : Int32) : Option Int32 := b_X10_is_0 h p0 p1
theorem mt_X10_is {l : Launch} {X : XT} {h : PH} {p0 : Nat} {p1 : Int32} {r : Int32} (ex : m_X10_is h p0 p1 = some r) : MT l X yX10_is cX10_is 2 (some .boolean) 1 60 0 0 [.ref (X.1 + p0), .int p1] h (some (.int r)) h := MT.of (by decide) (Nat.le_of_ble_eq_true rfl) fun M hl hc hr he => by
  subst hl
  exact gg_sub [0, 1] rfl (t_X10_is_0  hc hr he (Nat.zero_le _) (Nat.zero_le _) ex)
/-! FractionLiftModel.eats(I)Z -/
def lX10_eatsL : List (Nat × Instr × Nat × Nat) := [(0, .aload_n 0, 1, 1), (1, .iload_n 1, 1, 2), (2, .invokevirtual 162, 3, 5), (5, .ifCond .ne 5, 3, 8), (8, .iconst 0, 1, 9), (9, .ireturn, 1, 10), (10, .aload_n 0, 1, 11), (11, .invokevirtual 165, 3, 14), (14, .iconst 1, 1, 15), (15, .ireturn, 1, 16)]
set_option maxRecDepth 20000 in
theorem dX10_eats : dcL cX10_eats lX10_eatsL = true := by decide +kernel
def b_X10_eats_0 (F : Nat) (h : PH) (v0 : Nat) (v1 : Int32) : Option (Int32 × PH) := cO 10 h v0 ((m_X10_is h v0 v1).bind fun x1 => (if x1 = 0 then (rZ (0 : Int32) h) else (cO 10 h v0 (bind2 (m_X10_next F h v0) fun _ h3 => (rZ (1 : Int32) h3)))))
set_option maxRecDepth 20000 in
theorem t_X10_eats_0 {M : MV} {X : XT} {F : Nat} {h hz : PH} {r : Int32} {ce sl mc ms : Nat} {v0 : Nat} {v1 : Int32} (hc : Cx M X RX10 cX10_eats) (hr : Rx M 11 638 mc ms 2) (he : Ex M X (some .boolean) "eats" (some (.int r)) hz mc ms) (hm : ce ≤ mc) (hs : sl ≤ ms) (hf : b_X10_eats_0 F h v0 v1 = some (r, hz)) : GG M X h ce sl 0 [(0, .ref (X.1 + v0)), (1, .int v1)] [] := by
  unfold b_X10_eats_0 at hf
  refine r_aload_n hc 0 (dc_at dX10_eats 0 rfl) rfl ?_
  refine r_iload_n hc 1 (dc_at dX10_eats 1 rfl) rfl ?_
  obtain ⟨ho, hf⟩ := cO_some hf
  refine ob hf fun x1 ex hf => ?_
  refine r_callVi (As := [.int v1]) (ci := 10) hc hr (dc_at dX10_eats 2 rfl) ml_X10_162 mv_X10_is vi_X10_is rfl ho rfl (mt_X10_is ex) (by first | exact Nat.le_of_ble_eq_true rfl | omega) (by first | exact Nat.le_of_ble_eq_true rfl | omega) (by first | exact Nat.le_of_ble_eq_true rfl | omega) hm hs ?_
  refine r_if_ne (tgt := 10) hc (dc_at dX10_eats 3 rfl) (by decide) hf (fun hf => ?_) (fun hf => ?_)
  · refine r_aload_n hc 0 (dc_at dX10_eats 6 rfl) rfl ?_
    obtain ⟨ho, hf⟩ := cO_some hf
    refine ob2 hf fun u h3 ex hf => ?_
    refine r_callVv (As := []) (ci := 10) hc hr (dc_at dX10_eats 7 rfl) ml_X10_165 mv_X10_next vi_X10_next rfl ho rfl (mt_X10_next ex) (by first | exact Nat.le_of_ble_eq_true rfl | omega) (by first | exact Nat.le_of_ble_eq_true rfl | omega) (by first | exact Nat.le_of_ble_eq_true rfl | omega) hm hs ?_
    refine r_iconst (1 : Int32) hc (dc_at dX10_eats 8 rfl) (by decide) ?_
    exact r_zret hc he (hm) (hs) (dc_at dX10_eats 9 rfl) hf
  · refine r_iconst (0 : Int32) hc (dc_at dX10_eats 4 rfl) (by decide) ?_
    exact r_zret hc he (hm) (hs) (dc_at dX10_eats 5 rfl) hf
def m_X10_eats (F : Nat) (h : PH) (p0 : Nat) (p1 : Int32) : Option (Int32 × PH) := b_X10_eats_0 F h p0 p1
theorem mt_X10_eats {l : Launch} {X : XT} {F : Nat} {h hz : PH} {p0 : Nat} {p1 : Int32} {r : Int32} (ex : m_X10_eats F h p0 p1 = some (r, hz)) : MT l X yX10_eats cX10_eats 2 (some .boolean) 11 638 0 0 [.ref (X.1 + p0), .int p1] h (some (.int r)) hz := MT.of (by decide) (Nat.le_of_ble_eq_true rfl) fun M hl hc hr he => by
  subst hl
  exact gg_sub [0, 1] rfl (t_X10_eats_0  hc hr he (Nat.zero_le _) (Nat.zero_le _) ex)
/-! FractionLiftModel.takes(II)I -/
def lX10_takesL : List (Nat × Instr × Nat × Nat) := [(0, .aload_n 0, 1, 1), (1, .bipush 16, 2, 3), (3, .invokevirtual 162, 3, 6), (6, .ifCond .ne 11, 3, 9), (9, .aload_n 0, 1, 10), (10, .iconst 2, 1, 11), (11, .invokevirtual 168, 3, 14), (14, .goto 23, 3, 17), (17, .aload_n 0, 1, 18), (18, .getfield 151, 3, 21), (21, .i2l, 1, 22), (22, .iload_n 1, 1, 23), (23, .i2l, 1, 24), (24, .iload_n 2, 1, 25), (25, .i2l, 1, 26), (26, .invokestatic 172, 3, 29), (29, .ifCond .ne 8, 3, 32), (32, .aload_n 0, 1, 33), (33, .iconst 3, 1, 34), (34, .invokevirtual 168, 3, 37), (37, .aload_n 0, 1, 38), (38, .getfield 151, 3, 41), (41, .istore_n 3, 1, 42), (42, .aload_n 0, 1, 43), (43, .getfield 156, 3, 46), (46, .ifCond .ne 7, 3, 49), (49, .aload_n 0, 1, 50), (50, .invokevirtual 165, 3, 53), (53, .iload_n 3, 1, 54), (54, .ireturn, 1, 55)]
set_option maxRecDepth 20000 in
theorem dX10_takes : dcL cX10_takes lX10_takesL = true := by decide +kernel
def b_X10_takes_37 (F : Nat) (h : PH) (v0 : Nat) : Option (Int32 × PH) := (gI 10 10 h v0).bind fun x1 => ((gI 10 11 h v0).bind fun x2 => (if x2 = 0 then (cO 10 h v0 (bind2 (m_X10_next F h v0) fun _ h4 => (some (x1, h4)))) else (some (x1, h))))
set_option maxRecDepth 20000 in
theorem t_X10_takes_37 {M : MV} {X : XT} {F : Nat} {h hz : PH} {r : Int32} {ce sl mc ms : Nat} {v0 : Nat} (hc : Cx M X RX10 cX10_takes) (hr : Rx M 11 638 mc ms 4) (he : Ex M X (some .int) "takes" (some (.int r)) hz mc ms) (hm : ce ≤ mc) (hs : sl ≤ ms) (hf : b_X10_takes_37 F h v0 = some (r, hz)) : GG M X h ce sl 37 [(0, .ref (X.1 + v0))] [] := by
  unfold b_X10_takes_37 at hf
  refine r_aload_n hc 0 (dc_at dX10_takes 20 rfl) rfl ?_
  refine r_getI hc (dc_at dX10_takes 21 rfl) fl_X10_151 hf fun x1 hf => ?_
  refine r_istore_n [(3, .int x1), (0, .ref (X.1 + v0))] hc hr (dc_at dX10_takes 22 rfl) (by decide) rfl ?_
  refine r_aload_n hc 1 (dc_at dX10_takes 23 rfl) rfl ?_
  refine r_getI hc (dc_at dX10_takes 24 rfl) fl_X10_156 hf fun x2 hf => ?_
  refine r_if_ne (tgt := 53) hc (dc_at dX10_takes 25 rfl) (by decide) hf (fun hf => ?_) (fun hf => ?_)
  · refine r_iload_n hc 0 (dc_at dX10_takes 28 rfl) rfl ?_
    exact r_iret hc he (hm) (hs) (dc_at dX10_takes 29 rfl) hf
  · refine r_aload_n hc 1 (dc_at dX10_takes 26 rfl) rfl ?_
    obtain ⟨ho, hf⟩ := cO_some hf
    refine ob2 hf fun u h4 ex hf => ?_
    refine r_callVv (As := []) (ci := 10) hc hr (dc_at dX10_takes 27 rfl) ml_X10_165 mv_X10_next vi_X10_next rfl ho rfl (mt_X10_next ex) (by first | exact Nat.le_of_ble_eq_true rfl | omega) (by first | exact Nat.le_of_ble_eq_true rfl | omega) (by first | exact Nat.le_of_ble_eq_true rfl | omega) hm hs ?_
    refine r_iload_n hc 0 (dc_at dX10_takes 28 rfl) rfl ?_
    exact r_iret hc he (hm) (hs) (dc_at dX10_takes 29 rfl) hf
def b_X10_takes_0 (F : Nat) (h : PH) (v0 : Nat) (v1 : Int32) (v2 : Int32) : Option (Int32 × PH) := cO 10 h v0 ((m_X10_is h v0 (16 : Int32)).bind fun x1 => (if x1 = 0 then (cO 10 h v0 (bind2 (m_X10_fails h v0 (2 : Int32)) fun _ h7 => (b_X10_takes_37 F h7 v0))) else ((gI 10 10 h v0).bind fun x2 => ((m_X10_within (Int32.toInt64 x2) (Int32.toInt64 v1) (Int32.toInt64 v2)).bind fun x3 => (if x3 = 0 then (cO 10 h v0 (bind2 (m_X10_fails h v0 (3 : Int32)) fun _ h5 => (b_X10_takes_37 F h5 v0))) else (b_X10_takes_37 F h v0))))))
set_option maxRecDepth 20000 in
theorem t_X10_takes_0 {M : MV} {X : XT} {F : Nat} {h hz : PH} {r : Int32} {ce sl mc ms : Nat} {v0 : Nat} {v1 : Int32} {v2 : Int32} (hc : Cx M X RX10 cX10_takes) (hr : Rx M 11 638 mc ms 4) (he : Ex M X (some .int) "takes" (some (.int r)) hz mc ms) (hm : ce ≤ mc) (hs : sl ≤ ms) (hf : b_X10_takes_0 F h v0 v1 v2 = some (r, hz)) : GG M X h ce sl 0 [(0, .ref (X.1 + v0)), (1, .int v1), (2, .int v2)] [] := by
  unfold b_X10_takes_0 at hf
  refine r_aload_n hc 0 (dc_at dX10_takes 0 rfl) rfl ?_
  refine r_bipush (16 : Int32) hc (dc_at dX10_takes 1 rfl) (by decide) ?_
  obtain ⟨ho, hf⟩ := cO_some hf
  refine ob hf fun x1 ex hf => ?_
  refine r_callVi (As := [.int ((16 : Int32))]) (ci := 10) hc hr (dc_at dX10_takes 2 rfl) ml_X10_162 mv_X10_is vi_X10_is rfl ho rfl (mt_X10_is ex) (by first | exact Nat.le_of_ble_eq_true rfl | omega) (by first | exact Nat.le_of_ble_eq_true rfl | omega) (by first | exact Nat.le_of_ble_eq_true rfl | omega) hm hs ?_
  refine r_if_ne (tgt := 17) hc (dc_at dX10_takes 3 rfl) (by decide) hf (fun hf => ?_) (fun hf => ?_)
  · refine r_aload_n hc 0 (dc_at dX10_takes 8 rfl) rfl ?_
    refine r_getI hc (dc_at dX10_takes 9 rfl) fl_X10_151 hf fun x2 hf => ?_
    refine r_i2l hc (dc_at dX10_takes 10 rfl) ?_
    refine r_iload_n hc 1 (dc_at dX10_takes 11 rfl) rfl ?_
    refine r_i2l hc (dc_at dX10_takes 12 rfl) ?_
    refine r_iload_n hc 2 (dc_at dX10_takes 13 rfl) rfl ?_
    refine r_i2l hc (dc_at dX10_takes 14 rfl) ?_
    refine ob hf fun x3 ex hf => ?_
    refine r_callSi (As := [.long ((Int32.toInt64 x2)), .long ((Int32.toInt64 v1)), .long ((Int32.toInt64 v2))]) hc hr (dc_at dX10_takes 15 rfl) ml_X10_172 mv_X10_within st_X10_within rfl (mt_X10_within ex) (by first | exact Nat.le_of_ble_eq_true rfl | omega) (by first | exact Nat.le_of_ble_eq_true rfl | omega) (by first | exact Nat.le_of_ble_eq_true rfl | omega) hm hs ?_
    refine r_if_ne (tgt := 37) hc (dc_at dX10_takes 16 rfl) (by decide) hf (fun hf => ?_) (fun hf => ?_)
    · exact gg_sub [0] rfl (t_X10_takes_37 hc hr he hm hs  hf)
    · refine r_aload_n hc 0 (dc_at dX10_takes 17 rfl) rfl ?_
      refine r_iconst (3 : Int32) hc (dc_at dX10_takes 18 rfl) (by decide) ?_
      obtain ⟨ho, hf⟩ := cO_some hf
      refine ob2 hf fun u h5 ex hf => ?_
      refine r_callVv (As := [.int ((3 : Int32))]) (ci := 10) hc hr (dc_at dX10_takes 19 rfl) ml_X10_168 mv_X10_fails vi_X10_fails rfl ho rfl (mt_X10_fails ex) (by first | exact Nat.le_of_ble_eq_true rfl | omega) (by first | exact Nat.le_of_ble_eq_true rfl | omega) (by first | exact Nat.le_of_ble_eq_true rfl | omega) hm hs ?_
      exact gg_sub [0] rfl (t_X10_takes_37 hc hr he hm hs  hf)
  · refine r_aload_n hc 0 (dc_at dX10_takes 4 rfl) rfl ?_
    refine r_iconst (2 : Int32) hc (dc_at dX10_takes 5 rfl) (by decide) ?_
    obtain ⟨ho, hf⟩ := cO_some hf
    refine ob2 hf fun u h7 ex hf => ?_
    refine r_callVv (As := [.int ((2 : Int32))]) (ci := 10) hc hr (dc_at dX10_takes 6 rfl) ml_X10_168 mv_X10_fails vi_X10_fails rfl ho rfl (mt_X10_fails ex) (by first | exact Nat.le_of_ble_eq_true rfl | omega) (by first | exact Nat.le_of_ble_eq_true rfl | omega) (by first | exact Nat.le_of_ble_eq_true rfl | omega) hm hs ?_
    refine r_goto (tgt := 37) hc (dc_at dX10_takes 7 rfl) (by decide) ?_
    exact gg_sub [0] rfl (t_X10_takes_37 hc hr he hm hs  hf)
def m_X10_takes (F : Nat) (h : PH) (p0 : Nat) (p1 : Int32) (p2 : Int32) : Option (Int32 × PH) := b_X10_takes_0 F h p0 p1 p2
theorem mt_X10_takes {l : Launch} {X : XT} {F : Nat} {h hz : PH} {p0 : Nat} {p1 : Int32} {p2 : Int32} {r : Int32} (ex : m_X10_takes F h p0 p1 p2 = some (r, hz)) : MT l X yX10_takes cX10_takes 4 (some .int) 11 638 0 0 [.ref (X.1 + p0), .int p1, .int p2] h (some (.int r)) hz := MT.of (by decide) (Nat.le_of_ble_eq_true rfl) fun M hl hc hr he => by
  subst hl
  exact gg_sub [0, 1, 2] rfl (t_X10_takes_0  hc hr he (Nat.zero_le _) (Nat.zero_le _) ex)
/-! FractionLiftModel.common(JJ)J -/
def lX10_commonL : List (Nat × Instr × Nat × Nat) := [(0, .lload_n 2, 1, 1), (1, .lconst 0, 1, 2), (2, .lcmp, 1, 3), (3, .ifCond .ne 18, 3, 6), (6, .lload_n 0, 1, 7), (7, .lconst 0, 1, 8), (8, .lcmp, 1, 9), (9, .ifCond .ge 8, 3, 12), (12, .lload_n 0, 1, 13), (13, .lneg, 1, 14), (14, .goto 14, 3, 17), (17, .lload_n 0, 1, 18), (18, .goto 10, 3, 21), (21, .lload_n 2, 1, 22), (22, .lload_n 0, 1, 23), (23, .lload_n 2, 1, 24), (24, .lrem, 1, 25), (25, .invokestatic 176, 3, 28), (28, .lreturn, 1, 29)]
set_option maxRecDepth 20000 in
theorem dX10_common : dcL cX10_common lX10_commonL = true := by decide +kernel
def b_X10_common_0 (rc : Int64 → Int64 → Option Int64) (v0 : Int64) (v2 : Int64) : Option Int64 := if v2 = (0 : Int64) then (if (0 : Int64) ≤ v0 then (some v0) else (some (-v0))) else (if v2 = 0 then none else ((rc v2 (remL v0 v2)).bind fun x1 => (some x1)))
set_option maxRecDepth 20000 in
theorem t_X10_common_0 {M : MV} {X : XT} {rc : Int64 → Int64 → Option Int64} {d : Nat} {h : PH} {r : Int64} {ce sl mc ms : Nat} {v0 : Int64} {v2 : Int64} (hrc : ∀ {h : PH} {p0 : Int64} {p2 : Int64} {r : Int64}, rc p0 p2 = some r → MT M.2.1 X yX10_common cX10_common 4 (some .long) (1 * d + 1) (58 * d + 60) 0 0 [.long p0, .long p2] h (some (.long r)) h) (hc : Cx M X RX10 cX10_common) (hr : Rx M (1 * d + 2) (58 * d + 118) mc ms 4) (he : Ex M X (some .long) "common" (some (.long r)) h mc ms) (hm : ce ≤ mc) (hs : sl ≤ ms) (hf : b_X10_common_0 rc v0 v2 = some r) : GG M X h ce sl 0 [(0, .long v0), (2, .long v2)] [] := by
  unfold b_X10_common_0 at hf
  refine r_lload_n hc 1 (dc_at dX10_common 0 rfl) rfl ?_
  refine r_lconst (0 : Int64) hc (dc_at dX10_common 1 rfl) (by decide) ?_
  refine r_lcmp_ne (tgt := 21) hc (dc_at dX10_common 2 rfl) (dc_at dX10_common 3 rfl) (by decide) hf (fun hf => ?_) (fun hf => ?_)
  · refine r_lload_n hc 1 (dc_at dX10_common 13 rfl) rfl ?_
    refine r_lload_n hc 0 (dc_at dX10_common 14 rfl) rfl ?_
    refine r_lload_n hc 1 (dc_at dX10_common 15 rfl) rfl ?_
    refine r_lrem hc (dc_at dX10_common 16 rfl) hf (fun hf => ?_)
    refine ob hf fun x1 ex hf => ?_
    refine r_callSl (As := [.long v2, .long ((remL v0 v2))]) hc hr (dc_at dX10_common 17 rfl) ml_X10_176 mv_X10_common st_X10_common rfl (hrc  ex) (by first | exact Nat.le_of_ble_eq_true rfl | omega) (by first | exact Nat.le_of_ble_eq_true rfl | omega) (by first | exact Nat.le_of_ble_eq_true rfl | omega) hm hs ?_
    exact r_lretP hc he (hm) (hs) (dc_at dX10_common 18 rfl) hf
  · refine r_lload_n hc 0 (dc_at dX10_common 4 rfl) rfl ?_
    refine r_lconst (0 : Int64) hc (dc_at dX10_common 5 rfl) (by decide) ?_
    refine r_lcmp_ge (tgt := 17) hc (dc_at dX10_common 6 rfl) (dc_at dX10_common 7 rfl) (by decide) hf (fun hf => ?_) (fun hf => ?_)
    · refine r_lload_n hc 0 (dc_at dX10_common 11 rfl) rfl ?_
      refine r_goto (tgt := 28) hc (dc_at dX10_common 12 rfl) (by decide) ?_
      exact r_lretP hc he (hm) (hs) (dc_at dX10_common 18 rfl) hf
    · refine r_lload_n hc 0 (dc_at dX10_common 8 rfl) rfl ?_
      refine r_lneg hc (dc_at dX10_common 9 rfl) ?_
      refine r_goto (tgt := 28) hc (dc_at dX10_common 10 rfl) (by decide) ?_
      exact r_lretP hc he (hm) (hs) (dc_at dX10_common 18 rfl) hf
def g_X10_common (rc : Int64 → Int64 → Option Int64) (p0 : Int64) (p2 : Int64) : Option Int64 := b_X10_common_0 rc p0 p2
theorem mg_X10_common {l : Launch} {X : XT} {rc : Int64 → Int64 → Option Int64} {d : Nat} {h : PH} {p0 : Int64} {p2 : Int64} {r : Int64} (hrc : ∀ {h : PH} {p0 : Int64} {p2 : Int64} {r : Int64}, rc p0 p2 = some r → MT l X yX10_common cX10_common 4 (some .long) (1 * d + 1) (58 * d + 60) 0 0 [.long p0, .long p2] h (some (.long r)) h) (ex : g_X10_common rc p0 p2 = some r) : MT l X yX10_common cX10_common 4 (some .long) (1 * d + 2) (58 * d + 118) 0 0 [.long p0, .long p2] h (some (.long r)) h := MT.of (by decide) (Nat.le_of_ble_eq_true rfl) fun M hl hc hr he => by
  subst hl
  exact gg_sub [0, 1] rfl (t_X10_common_0 hrc hc hr he (Nat.zero_le _) (Nat.zero_le _) ex)
def m_X10_common : Nat → Int64 → Int64 → Option Int64
  | 0 => fun _ _ => none
  | d + 1 => fun p0 p2 => g_X10_common (m_X10_common  d) p0 p2
theorem mr_X10_common {l : Launch} {X : XT} (d : Nat) : ∀ {h : PH} {p0 : Int64} {p2 : Int64} {r : Int64}, m_X10_common d p0 p2 = some r → MT l X yX10_common cX10_common 4 (some .long) (1 * d + 1) (58 * d + 60) 0 0 [.long p0, .long p2] h (some (.long r)) h := by
  induction d with
  | zero => intro _ _ _ _ hf; cases hf
  | succ d ih => intro _ _ _ _ hf; exact (show 1 * (d + 1) + 1 = 1 * d + 2 by omega) ▸ (show 58 * (d + 1) + 60 = 58 * d + 118 by omega) ▸ mg_X10_common ih hf
theorem mt_X10_common {l : Launch} {X : XT} {h : PH} {p0 : Int64} {p2 : Int64} {r : Int64} (ex : m_X10_common 130 p0 p2 = some r) : MT l X yX10_common cX10_common 4 (some .long) 131 7600 0 0 [.long p0, .long p2] h (some (.long r)) h := mr_X10_common 130 ex
/-! FractionLiftModel.lays(JJ)V -/
def lX10_laysL : List (Nat × Instr × Nat × Nat) := [(0, .lload_n 1, 1, 1), (1, .lload_n 3, 1, 2), (2, .invokestatic 176, 3, 5), (5, .lstore 5, 2, 7), (7, .aload_n 0, 1, 8), (8, .lload_n 1, 1, 9), (9, .lload 5, 2, 11), (11, .ldiv, 1, 12), (12, .putfield 180, 3, 15), (15, .aload_n 0, 1, 16), (16, .lload_n 3, 1, 17), (17, .lload 5, 2, 19), (19, .ldiv, 1, 20), (20, .putfield 184, 3, 23), (23, .aload_n 0, 1, 24), (24, .getfield 184, 3, 27), (27, .lconst 0, 1, 28), (28, .lcmp, 1, 29), (29, .ifCond .lt 4, 3, 32), (32, .return_, 1, 33), (33, .aload_n 0, 1, 34), (34, .aload_n 0, 1, 35), (35, .getfield 180, 3, 38), (38, .lneg, 1, 39), (39, .putfield 180, 3, 42), (42, .aload_n 0, 1, 43), (43, .aload_n 0, 1, 44), (44, .getfield 184, 3, 47), (47, .lneg, 1, 48), (48, .putfield 184, 3, 51), (51, .return_, 1, 52)]
set_option maxRecDepth 20000 in
theorem dX10_lays : dcL cX10_lays lX10_laysL = true := by decide +kernel
def b_X10_lays_0 (h : PH) (v0 : Nat) (v1 : Int64) (v3 : Int64) : Option (Unit × PH) := (m_X10_common 130 v1 v3).bind fun x1 => (if x1 = 0 then none else ((pV 10 15 (.long (v1 / x1)) h v0).bind fun h2 => (if x1 = 0 then none else ((pV 10 16 (.long (v3 / x1)) h2 v0).bind fun h3 => ((gL 10 16 h3 v0).bind fun x4 => (if x4 < (0 : Int64) then ((gL 10 15 h3 v0).bind fun x5 => ((pV 10 15 (.long (-x5)) h3 v0).bind fun h6 => ((gL 10 16 h6 v0).bind fun x7 => ((pV 10 16 (.long (-x7)) h6 v0).bind fun h8 => (some ((), h8)))))) else (some ((), h3))))))))
set_option maxRecDepth 20000 in
theorem t_X10_lays_0 {M : MV} {X : XT} {h hz : PH} {r : Unit} {ce sl mc ms : Nat} {v0 : Nat} {v1 : Int64} {v3 : Int64} (hc : Cx M X RX10 cX10_lays) (hr : Rx M 132 7658 mc ms 7) (he : Ex M X none "lays" none hz mc ms) (hm : ce ≤ mc) (hs : sl ≤ ms) (hf : b_X10_lays_0 h v0 v1 v3 = some (r, hz)) : GG M X h ce sl 0 [(0, .ref (X.1 + v0)), (1, .long v1), (3, .long v3)] [] := by
  unfold b_X10_lays_0 at hf
  refine r_lload_n hc 1 (dc_at dX10_lays 0 rfl) rfl ?_
  refine r_lload_n hc 2 (dc_at dX10_lays 1 rfl) rfl ?_
  refine ob hf fun x1 ex hf => ?_
  refine r_callSl (As := [.long v1, .long v3]) hc hr (dc_at dX10_lays 2 rfl) ml_X10_176 mv_X10_common st_X10_common rfl (mt_X10_common ex) (by first | exact Nat.le_of_ble_eq_true rfl | omega) (by first | exact Nat.le_of_ble_eq_true rfl | omega) (by first | exact Nat.le_of_ble_eq_true rfl | omega) hm hs ?_
  refine r_lstore [(5, .long x1), (0, .ref (X.1 + v0)), (1, .long v1), (3, .long v3)] hc hr (dc_at dX10_lays 3 rfl) (by decide) rfl ?_
  refine r_aload_n hc 1 (dc_at dX10_lays 4 rfl) rfl ?_
  refine r_lload_n hc 2 (dc_at dX10_lays 5 rfl) rfl ?_
  refine r_lload hc 0 (dc_at dX10_lays 6 rfl) rfl ?_
  refine r_ldiv hc (dc_at dX10_lays 7 rfl) hf (fun hf => ?_)
  refine r_putL hc he (dc_at dX10_lays 8 rfl) fp_X10_180 (fun q => by cases q) hf fun h2 hf => ?_
  refine r_aload_n hc 1 (dc_at dX10_lays 9 rfl) rfl ?_
  refine r_lload_n hc 3 (dc_at dX10_lays 10 rfl) rfl ?_
  refine r_lload hc 0 (dc_at dX10_lays 11 rfl) rfl ?_
  refine r_ldiv hc (dc_at dX10_lays 12 rfl) hf (fun hf => ?_)
  refine r_putL hc he (dc_at dX10_lays 13 rfl) fp_X10_184 (fun q => by cases q) hf fun h3 hf => ?_
  refine r_aload_n hc 1 (dc_at dX10_lays 14 rfl) rfl ?_
  refine r_getL hc (dc_at dX10_lays 15 rfl) fl_X10_184 hf fun x4 hf => ?_
  refine r_lconst (0 : Int64) hc (dc_at dX10_lays 16 rfl) (by decide) ?_
  refine r_lcmp_lt (tgt := 33) hc (dc_at dX10_lays 17 rfl) (dc_at dX10_lays 18 rfl) (by decide) hf (fun hf => ?_) (fun hf => ?_)
  · refine r_aload_n hc 1 (dc_at dX10_lays 20 rfl) rfl ?_
    refine r_aload_n hc 1 (dc_at dX10_lays 21 rfl) rfl ?_
    refine r_getL hc (dc_at dX10_lays 22 rfl) fl_X10_180 hf fun x5 hf => ?_
    refine r_lneg hc (dc_at dX10_lays 23 rfl) ?_
    refine r_putL hc he (dc_at dX10_lays 24 rfl) fp_X10_180 (fun q => by cases q) hf fun h6 hf => ?_
    refine r_aload_n hc 1 (dc_at dX10_lays 25 rfl) rfl ?_
    refine r_aload_n hc 1 (dc_at dX10_lays 26 rfl) rfl ?_
    refine r_getL hc (dc_at dX10_lays 27 rfl) fl_X10_184 hf fun x7 hf => ?_
    refine r_lneg hc (dc_at dX10_lays 28 rfl) ?_
    refine r_putL hc he (dc_at dX10_lays 29 rfl) fp_X10_184 (fun q => by cases q) hf fun h8 hf => ?_
    exact r_vret hc he (hm) (hs) (dc_at dX10_lays 30 rfl) hf
  · exact r_vret hc he (hm) (hs) (dc_at dX10_lays 19 rfl) hf
def m_X10_lays (h : PH) (p0 : Nat) (p1 : Int64) (p3 : Int64) : Option (Unit × PH) := b_X10_lays_0 h p0 p1 p3
theorem mt_X10_lays {l : Launch} {X : XT} {h hz : PH} {p0 : Nat} {p1 : Int64} {p3 : Int64} {r : Unit} (ex : m_X10_lays h p0 p1 p3 = some (r, hz)) : MT l X yX10_lays cX10_lays 7 none 132 7658 0 0 [.ref (X.1 + p0), .long p1, .long p3] h none hz := MT.of (by decide) (Nat.le_of_ble_eq_true rfl) fun M hl hc hr he => by
  subst hl
  exact gg_sub [0, 1, 2] rfl (t_X10_lays_0  hc hr he (Nat.zero_le _) (Nat.zero_le _) ex)
/-! FractionLiftModel.takesFraction()V -/
def lX10_takesFractionL : List (Nat × Instr × Nat × Nat) := [(0, .aload_n 0, 1, 1), (1, .iconst 0, 1, 2), (2, .sipush 999, 3, 5), (5, .invokevirtual 187, 3, 8), (8, .istore_n 1, 1, 9), (9, .aload_n 0, 1, 10), (10, .bipush 25, 2, 12), (12, .invokevirtual 191, 3, 15), (15, .ifCond .eq 13, 3, 18), (18, .aload_n 0, 1, 19), (19, .iconst 1, 1, 20), (20, .bipush 99, 2, 22), (22, .invokevirtual 187, 3, 25), (25, .goto 4, 3, 28), (28, .iconst 1, 1, 29), (29, .istore_n 2, 1, 30), (30, .aload_n 0, 1, 31), (31, .getfield 156, 3, 34), (34, .ifCond .eq 4, 3, 37), (37, .return_, 1, 38), (38, .aload_n 0, 1, 39), (39, .iload_n 1, 1, 40), (40, .i2l, 1, 41), (41, .iload_n 2, 1, 42), (42, .i2l, 1, 43), (43, .invokevirtual 194, 3, 46), (46, .aload_n 0, 1, 47), (47, .aload_n 0, 1, 48), (48, .getfield 180, 3, 51), (51, .aload_n 0, 1, 52), (52, .getfield 24, 3, 55), (55, .iconst 1, 1, 56), (56, .iaload, 1, 57), (57, .i2l, 1, 58), (58, .aload_n 0, 1, 59), (59, .getfield 184, 3, 62), (62, .lmul, 1, 63), (63, .lcmp, 1, 64), (64, .ifCond .le 7, 3, 67), (67, .iconst 1, 1, 68), (68, .goto 4, 3, 71), (71, .iconst 0, 1, 72), (72, .putfield 198, 3, 75), (75, .return_, 1, 76)]
set_option maxRecDepth 20000 in
theorem dX10_takesFraction : dcL cX10_takesFraction lX10_takesFractionL = true := by decide +kernel
def b_X10_takesFraction_72 (F : Nat) (h : PH) (s0 : Nat) (s1 : Int32) : Option (Unit × PH) := (pZ 10 17 s1 h s0).bind fun h1 => (some ((), h1))
set_option maxRecDepth 20000 in
theorem t_X10_takesFraction_72 {M : MV} {X : XT} {F : Nat} {h hz : PH} {r : Unit} {ce sl mc ms : Nat} {s0 : Nat} {s1 : Int32} (hc : Cx M X RX10 cX10_takesFraction) (hr : Rx M 133 7716 mc ms 3) (he : Ex M X none "takesFraction" none hz mc ms) (hm : ce ≤ mc) (hs : sl ≤ ms) (hf : b_X10_takesFraction_72 F h s0 s1 = some (r, hz)) : GG M X h ce sl 72 [] [.int s1, .ref (X.1 + s0)] := by
  unfold b_X10_takesFraction_72 at hf
  refine r_putZ hc he (dc_at dX10_takesFraction 42 rfl) fp_X10_198 (fun q => by cases q) hf fun h1 hf => ?_
  exact r_vret hc he (hm) (hs) (dc_at dX10_takesFraction 43 rfl) hf
def b_X10_takesFraction_29 (F : Nat) (h : PH) (v0 : Nat) (v1 : Int32) (s0 : Int32) : Option (Unit × PH) := (gI 10 11 h v0).bind fun x1 => (if x1 = 0 then (cO 10 h v0 (bind2 (m_X10_lays h v0 (Int32.toInt64 v1) (Int32.toInt64 s0)) fun _ h3 => ((gL 10 15 h3 v0).bind fun x4 => ((gR 10 4 h3 v0).bind fun a5 => ((aI 0 h3 a5 (1 : Int32)).bind fun x6 => ((gL 10 16 h3 v0).bind fun x7 => (if x4 ≤ (((Int32.toInt64 x6) * x7)) then (b_X10_takesFraction_72 F h3 v0 (0 : Int32)) else (b_X10_takesFraction_72 F h3 v0 (1 : Int32))))))))) else (some ((), h)))
set_option maxRecDepth 20000 in
theorem t_X10_takesFraction_29 {M : MV} {X : XT} {F : Nat} {h hz : PH} {r : Unit} {ce sl mc ms : Nat} {v0 : Nat} {v1 : Int32} {s0 : Int32} (hc : Cx M X RX10 cX10_takesFraction) (hr : Rx M 133 7716 mc ms 3) (he : Ex M X none "takesFraction" none hz mc ms) (hm : ce ≤ mc) (hs : sl ≤ ms) (hf : b_X10_takesFraction_29 F h v0 v1 s0 = some (r, hz)) : GG M X h ce sl 29 [(0, .ref (X.1 + v0)), (1, .int v1)] [.int s0] := by
  unfold b_X10_takesFraction_29 at hf
  refine r_istore_n [(2, .int s0), (0, .ref (X.1 + v0)), (1, .int v1)] hc hr (dc_at dX10_takesFraction 15 rfl) (by decide) rfl ?_
  refine r_aload_n hc 1 (dc_at dX10_takesFraction 16 rfl) rfl ?_
  refine r_getI hc (dc_at dX10_takesFraction 17 rfl) fl_X10_156 hf fun x1 hf => ?_
  refine r_if_eq (tgt := 38) hc (dc_at dX10_takesFraction 18 rfl) (by decide) hf (fun hf => ?_) (fun hf => ?_)
  · refine r_aload_n hc 1 (dc_at dX10_takesFraction 20 rfl) rfl ?_
    refine r_iload_n hc 2 (dc_at dX10_takesFraction 21 rfl) rfl ?_
    refine r_i2l hc (dc_at dX10_takesFraction 22 rfl) ?_
    refine r_iload_n hc 0 (dc_at dX10_takesFraction 23 rfl) rfl ?_
    refine r_i2l hc (dc_at dX10_takesFraction 24 rfl) ?_
    obtain ⟨ho, hf⟩ := cO_some hf
    refine ob2 hf fun u h3 ex hf => ?_
    refine r_callVv (As := [.long ((Int32.toInt64 v1)), .long ((Int32.toInt64 s0))]) (ci := 10) hc hr (dc_at dX10_takesFraction 25 rfl) ml_X10_194 mv_X10_lays vi_X10_lays rfl ho rfl (mt_X10_lays ex) (by first | exact Nat.le_of_ble_eq_true rfl | omega) (by first | exact Nat.le_of_ble_eq_true rfl | omega) (by first | exact Nat.le_of_ble_eq_true rfl | omega) hm hs ?_
    refine r_aload_n hc 1 (dc_at dX10_takesFraction 26 rfl) rfl ?_
    refine r_aload_n hc 1 (dc_at dX10_takesFraction 27 rfl) rfl ?_
    refine r_getL hc (dc_at dX10_takesFraction 28 rfl) fl_X10_180 hf fun x4 hf => ?_
    refine r_aload_n hc 1 (dc_at dX10_takesFraction 29 rfl) rfl ?_
    refine r_getR hc (dc_at dX10_takesFraction 30 rfl) fl_X10_24 hf fun a5 hf => ?_
    refine r_iconst (1 : Int32) hc (dc_at dX10_takesFraction 31 rfl) (by decide) ?_
    refine r_iaload hc (dc_at dX10_takesFraction 32 rfl) hf fun x6 hf => ?_
    refine r_i2l hc (dc_at dX10_takesFraction 33 rfl) ?_
    refine r_aload_n hc 1 (dc_at dX10_takesFraction 34 rfl) rfl ?_
    refine r_getL hc (dc_at dX10_takesFraction 35 rfl) fl_X10_184 hf fun x7 hf => ?_
    refine r_lmul hc (dc_at dX10_takesFraction 36 rfl) ?_
    refine r_lcmp_le (tgt := 71) hc (dc_at dX10_takesFraction 37 rfl) (dc_at dX10_takesFraction 38 rfl) (by decide) hf (fun hf => ?_) (fun hf => ?_)
    · refine r_iconst (0 : Int32) hc (dc_at dX10_takesFraction 41 rfl) (by decide) ?_
      exact gg_sub [] rfl (t_X10_takesFraction_72 hc hr he hm hs  hf)
    · refine r_iconst (1 : Int32) hc (dc_at dX10_takesFraction 39 rfl) (by decide) ?_
      refine r_goto (tgt := 72) hc (dc_at dX10_takesFraction 40 rfl) (by decide) ?_
      exact gg_sub [] rfl (t_X10_takesFraction_72 hc hr he hm hs  hf)
  · exact r_vret hc he (hm) (hs) (dc_at dX10_takesFraction 19 rfl) hf
def b_X10_takesFraction_0 (F : Nat) (h : PH) (v0 : Nat) : Option (Unit × PH) := cO 10 h v0 (bind2 (m_X10_takes F h v0 (0 : Int32) (999 : Int32)) fun x1 h2 => (cO 10 h2 v0 (bind2 (m_X10_eats F h2 v0 (25 : Int32)) fun x3 h4 => (if x3 = 0 then (b_X10_takesFraction_29 F h4 v0 x1 (1 : Int32)) else (cO 10 h4 v0 (bind2 (m_X10_takes F h4 v0 (1 : Int32) (99 : Int32)) fun x5 h6 => (b_X10_takesFraction_29 F h6 v0 x1 x5)))))))
set_option maxRecDepth 20000 in
theorem t_X10_takesFraction_0 {M : MV} {X : XT} {F : Nat} {h hz : PH} {r : Unit} {ce sl mc ms : Nat} {v0 : Nat} (hc : Cx M X RX10 cX10_takesFraction) (hr : Rx M 133 7716 mc ms 3) (he : Ex M X none "takesFraction" none hz mc ms) (hm : ce ≤ mc) (hs : sl ≤ ms) (hf : b_X10_takesFraction_0 F h v0 = some (r, hz)) : GG M X h ce sl 0 [(0, .ref (X.1 + v0))] [] := by
  unfold b_X10_takesFraction_0 at hf
  refine r_aload_n hc 0 (dc_at dX10_takesFraction 0 rfl) rfl ?_
  refine r_iconst (0 : Int32) hc (dc_at dX10_takesFraction 1 rfl) (by decide) ?_
  refine r_sipush (999 : Int32) hc (dc_at dX10_takesFraction 2 rfl) (by decide) ?_
  obtain ⟨ho, hf⟩ := cO_some hf
  refine ob2 hf fun x1 h2 ex hf => ?_
  refine r_callVi (As := [.int ((0 : Int32)), .int ((999 : Int32))]) (ci := 10) hc hr (dc_at dX10_takesFraction 3 rfl) ml_X10_187 mv_X10_takes vi_X10_takes rfl ho rfl (mt_X10_takes ex) (by first | exact Nat.le_of_ble_eq_true rfl | omega) (by first | exact Nat.le_of_ble_eq_true rfl | omega) (by first | exact Nat.le_of_ble_eq_true rfl | omega) hm hs ?_
  refine r_istore_n [(1, .int x1), (0, .ref (X.1 + v0))] hc hr (dc_at dX10_takesFraction 4 rfl) (by decide) rfl ?_
  refine r_aload_n hc 1 (dc_at dX10_takesFraction 5 rfl) rfl ?_
  refine r_bipush (25 : Int32) hc (dc_at dX10_takesFraction 6 rfl) (by decide) ?_
  obtain ⟨ho, hf⟩ := cO_some hf
  refine ob2 hf fun x3 h4 ex hf => ?_
  refine r_callVi (As := [.int ((25 : Int32))]) (ci := 10) hc hr (dc_at dX10_takesFraction 7 rfl) ml_X10_191 mv_X10_eats vi_X10_eats rfl ho rfl (mt_X10_eats ex) (by first | exact Nat.le_of_ble_eq_true rfl | omega) (by first | exact Nat.le_of_ble_eq_true rfl | omega) (by first | exact Nat.le_of_ble_eq_true rfl | omega) hm hs ?_
  refine r_if_eq (tgt := 28) hc (dc_at dX10_takesFraction 8 rfl) (by decide) hf (fun hf => ?_) (fun hf => ?_)
  · refine r_iconst (1 : Int32) hc (dc_at dX10_takesFraction 14 rfl) (by decide) ?_
    exact gg_sub [1, 0] rfl (t_X10_takesFraction_29 hc hr he hm hs  hf)
  · refine r_aload_n hc 1 (dc_at dX10_takesFraction 9 rfl) rfl ?_
    refine r_iconst (1 : Int32) hc (dc_at dX10_takesFraction 10 rfl) (by decide) ?_
    refine r_bipush (99 : Int32) hc (dc_at dX10_takesFraction 11 rfl) (by decide) ?_
    obtain ⟨ho, hf⟩ := cO_some hf
    refine ob2 hf fun x5 h6 ex hf => ?_
    refine r_callVi (As := [.int ((1 : Int32)), .int ((99 : Int32))]) (ci := 10) hc hr (dc_at dX10_takesFraction 12 rfl) ml_X10_187 mv_X10_takes vi_X10_takes rfl ho rfl (mt_X10_takes ex) (by first | exact Nat.le_of_ble_eq_true rfl | omega) (by first | exact Nat.le_of_ble_eq_true rfl | omega) (by first | exact Nat.le_of_ble_eq_true rfl | omega) hm hs ?_
    refine r_goto (tgt := 29) hc (dc_at dX10_takesFraction 13 rfl) (by decide) ?_
    exact gg_sub [1, 0] rfl (t_X10_takesFraction_29 hc hr he hm hs  hf)
def m_X10_takesFraction (F : Nat) (h : PH) (p0 : Nat) : Option (Unit × PH) := b_X10_takesFraction_0 F h p0
theorem mt_X10_takesFraction {l : Launch} {X : XT} {F : Nat} {h hz : PH} {p0 : Nat} {r : Unit} (ex : m_X10_takesFraction F h p0 = some (r, hz)) : MT l X yX10_takesFraction cX10_takesFraction 3 none 133 7716 0 0 [.ref (X.1 + p0)] h none hz := MT.of (by decide) (Nat.le_of_ble_eq_true rfl) fun M hl hc hr he => by
  subst hl
  exact gg_sub [0] rfl (t_X10_takesFraction_0  hc hr he (Nat.zero_le _) (Nat.zero_le _) ex)
/-! FractionLiftModel.goesOn(IZ)V -/
def lX10_goesOnL : List (Nat × Instr × Nat × Nat) := [(0, .aload_n 0, 1, 1), (1, .iload_n 1, 1, 2), (2, .invokevirtual 162, 3, 5), (5, .ifCond .eq 12, 3, 8), (8, .iload_n 2, 1, 9), (9, .ifCond .eq 8, 3, 12), (12, .aload_n 0, 1, 13), (13, .iconst 3, 1, 14), (14, .invokevirtual 168, 3, 17), (17, .aload_n 0, 1, 18), (18, .iload_n 1, 1, 19), (19, .invokevirtual 191, 3, 22), (22, .ifCond .ne 8, 3, 25), (25, .aload_n 0, 1, 26), (26, .iconst 2, 1, 27), (27, .invokevirtual 168, 3, 30), (30, .return_, 1, 31)]
set_option maxRecDepth 20000 in
theorem dX10_goesOn : dcL cX10_goesOn lX10_goesOnL = true := by decide +kernel
def b_X10_goesOn_17 (F : Nat) (h : PH) (v0 : Nat) (v1 : Int32) : Option (Unit × PH) := cO 10 h v0 (bind2 (m_X10_eats F h v0 v1) fun x1 h2 => (if x1 = 0 then (cO 10 h2 v0 (bind2 (m_X10_fails h2 v0 (2 : Int32)) fun _ h4 => (some ((), h4)))) else (some ((), h2))))
set_option maxRecDepth 20000 in
theorem t_X10_goesOn_17 {M : MV} {X : XT} {F : Nat} {h hz : PH} {r : Unit} {ce sl mc ms : Nat} {v0 : Nat} {v1 : Int32} (hc : Cx M X RX10 cX10_goesOn) (hr : Rx M 12 696 mc ms 3) (he : Ex M X none "goesOn" none hz mc ms) (hm : ce ≤ mc) (hs : sl ≤ ms) (hf : b_X10_goesOn_17 F h v0 v1 = some (r, hz)) : GG M X h ce sl 17 [(0, .ref (X.1 + v0)), (1, .int v1)] [] := by
  unfold b_X10_goesOn_17 at hf
  refine r_aload_n hc 0 (dc_at dX10_goesOn 9 rfl) rfl ?_
  refine r_iload_n hc 1 (dc_at dX10_goesOn 10 rfl) rfl ?_
  obtain ⟨ho, hf⟩ := cO_some hf
  refine ob2 hf fun x1 h2 ex hf => ?_
  refine r_callVi (As := [.int v1]) (ci := 10) hc hr (dc_at dX10_goesOn 11 rfl) ml_X10_191 mv_X10_eats vi_X10_eats rfl ho rfl (mt_X10_eats ex) (by first | exact Nat.le_of_ble_eq_true rfl | omega) (by first | exact Nat.le_of_ble_eq_true rfl | omega) (by first | exact Nat.le_of_ble_eq_true rfl | omega) hm hs ?_
  refine r_if_ne (tgt := 30) hc (dc_at dX10_goesOn 12 rfl) (by decide) hf (fun hf => ?_) (fun hf => ?_)
  · exact r_vret hc he (hm) (hs) (dc_at dX10_goesOn 16 rfl) hf
  · refine r_aload_n hc 0 (dc_at dX10_goesOn 13 rfl) rfl ?_
    refine r_iconst (2 : Int32) hc (dc_at dX10_goesOn 14 rfl) (by decide) ?_
    obtain ⟨ho, hf⟩ := cO_some hf
    refine ob2 hf fun u h4 ex hf => ?_
    refine r_callVv (As := [.int ((2 : Int32))]) (ci := 10) hc hr (dc_at dX10_goesOn 15 rfl) ml_X10_168 mv_X10_fails vi_X10_fails rfl ho rfl (mt_X10_fails ex) (by first | exact Nat.le_of_ble_eq_true rfl | omega) (by first | exact Nat.le_of_ble_eq_true rfl | omega) (by first | exact Nat.le_of_ble_eq_true rfl | omega) hm hs ?_
    exact r_vret hc he (hm) (hs) (dc_at dX10_goesOn 16 rfl) hf
def b_X10_goesOn_0 (F : Nat) (h : PH) (v0 : Nat) (v1 : Int32) (v2 : Int32) : Option (Unit × PH) := cO 10 h v0 ((m_X10_is h v0 v1).bind fun x1 => (if x1 = 0 then (b_X10_goesOn_17 F h v0 v1) else (if v2 = 0 then (b_X10_goesOn_17 F h v0 v1) else (cO 10 h v0 (bind2 (m_X10_fails h v0 (3 : Int32)) fun _ h3 => (b_X10_goesOn_17 F h3 v0 v1))))))
set_option maxRecDepth 20000 in
theorem t_X10_goesOn_0 {M : MV} {X : XT} {F : Nat} {h hz : PH} {r : Unit} {ce sl mc ms : Nat} {v0 : Nat} {v1 : Int32} {v2 : Int32} (hc : Cx M X RX10 cX10_goesOn) (hr : Rx M 12 696 mc ms 3) (he : Ex M X none "goesOn" none hz mc ms) (hm : ce ≤ mc) (hs : sl ≤ ms) (hf : b_X10_goesOn_0 F h v0 v1 v2 = some (r, hz)) : GG M X h ce sl 0 [(0, .ref (X.1 + v0)), (1, .int v1), (2, .int v2)] [] := by
  unfold b_X10_goesOn_0 at hf
  refine r_aload_n hc 0 (dc_at dX10_goesOn 0 rfl) rfl ?_
  refine r_iload_n hc 1 (dc_at dX10_goesOn 1 rfl) rfl ?_
  obtain ⟨ho, hf⟩ := cO_some hf
  refine ob hf fun x1 ex hf => ?_
  refine r_callVi (As := [.int v1]) (ci := 10) hc hr (dc_at dX10_goesOn 2 rfl) ml_X10_162 mv_X10_is vi_X10_is rfl ho rfl (mt_X10_is ex) (by first | exact Nat.le_of_ble_eq_true rfl | omega) (by first | exact Nat.le_of_ble_eq_true rfl | omega) (by first | exact Nat.le_of_ble_eq_true rfl | omega) hm hs ?_
  refine r_if_eq (tgt := 17) hc (dc_at dX10_goesOn 3 rfl) (by decide) hf (fun hf => ?_) (fun hf => ?_)
  · exact gg_sub [0, 1] rfl (t_X10_goesOn_17 hc hr he hm hs  hf)
  · refine r_iload_n hc 2 (dc_at dX10_goesOn 4 rfl) rfl ?_
    refine r_if_eq (tgt := 17) hc (dc_at dX10_goesOn 5 rfl) (by decide) hf (fun hf => ?_) (fun hf => ?_)
    · exact gg_sub [0, 1] rfl (t_X10_goesOn_17 hc hr he hm hs  hf)
    · refine r_aload_n hc 0 (dc_at dX10_goesOn 6 rfl) rfl ?_
      refine r_iconst (3 : Int32) hc (dc_at dX10_goesOn 7 rfl) (by decide) ?_
      obtain ⟨ho, hf⟩ := cO_some hf
      refine ob2 hf fun u h3 ex hf => ?_
      refine r_callVv (As := [.int ((3 : Int32))]) (ci := 10) hc hr (dc_at dX10_goesOn 8 rfl) ml_X10_168 mv_X10_fails vi_X10_fails rfl ho rfl (mt_X10_fails ex) (by first | exact Nat.le_of_ble_eq_true rfl | omega) (by first | exact Nat.le_of_ble_eq_true rfl | omega) (by first | exact Nat.le_of_ble_eq_true rfl | omega) hm hs ?_
      exact gg_sub [0, 1] rfl (t_X10_goesOn_17 hc hr he hm hs  hf)
def m_X10_goesOn (F : Nat) (h : PH) (p0 : Nat) (p1 : Int32) (p2 : Int32) : Option (Unit × PH) := b_X10_goesOn_0 F h p0 p1 p2
theorem mt_X10_goesOn {l : Launch} {X : XT} {F : Nat} {h hz : PH} {p0 : Nat} {p1 : Int32} {p2 : Int32} {r : Unit} (ex : m_X10_goesOn F h p0 p1 p2 = some (r, hz)) : MT l X yX10_goesOn cX10_goesOn 3 none 12 696 0 0 [.ref (X.1 + p0), .int p1, .int p2] h none hz := MT.of (by decide) (Nat.le_of_ble_eq_true rfl) fun M hl hc hr he => by
  subst hl
  exact gg_sub [0, 1, 2] rfl (t_X10_goesOn_0  hc hr he (Nat.zero_le _) (Nat.zero_le _) ex)
/-! FractionLiftModel.readFloor()V -/
def lX10_readFloorL : List (Nat × Instr × Nat × Nat) := [(0, .aload_n 0, 1, 1), (1, .getfield 24, 3, 4), (4, .iconst 3, 1, 5), (5, .iaload, 1, 6), (6, .istore_n 1, 1, 7), (7, .iload_n 1, 1, 8), (8, .bipush 8, 2, 10), (10, .if_icmp .ne 8, 3, 13), (13, .aload_n 0, 1, 14), (14, .iconst 4, 1, 15), (15, .invokevirtual 168, 3, 18), (18, .aload_n 0, 1, 19), (19, .getfield 156, 3, 22), (22, .ifCond .eq 4, 3, 25), (25, .return_, 1, 26), (26, .aload_n 0, 1, 27), (27, .invokevirtual 165, 3, 30), (30, .aload_n 0, 1, 31), (31, .invokevirtual 202, 3, 34), (34, .aload_n 0, 1, 35), (35, .getfield 198, 3, 38), (38, .istore_n 2, 1, 39), (39, .iconst 0, 1, 40), (40, .istore_n 3, 1, 41), (41, .iload_n 3, 1, 42), (42, .iload_n 1, 1, 43), (43, .if_icmp .ge 53, 3, 46), (46, .iload_n 2, 1, 47), (47, .aload_n 0, 1, 48), (48, .getfield 24, 3, 51), (51, .bipush 9, 2, 53), (53, .iload_n 3, 1, 54), (54, .iadd, 1, 55), (55, .iaload, 1, 56), (56, .i2l, 1, 57), (57, .aload_n 0, 1, 58), (58, .getfield 180, 3, 61), (61, .lcmp, 1, 62), (62, .ifCond .ne 25, 3, 65), (65, .aload_n 0, 1, 66), (66, .getfield 24, 3, 69), (69, .bipush 17, 2, 71), (71, .iload_n 3, 1, 72), (72, .iadd, 1, 73), (73, .iaload, 1, 74), (74, .i2l, 1, 75), (75, .aload_n 0, 1, 76), (76, .getfield 184, 3, 79), (79, .lcmp, 1, 80), (80, .ifCond .ne 7, 3, 83), (83, .iconst 1, 1, 84), (84, .goto 4, 3, 87), (87, .iconst 0, 1, 88), (88, .ior, 1, 89), (89, .istore_n 2, 1, 90), (90, .iinc 3 1, 3, 93), (93, .goto (-52), 3, 96), (96, .aload_n 0, 1, 97), (97, .getfield 180, 3, 100), (100, .l2i, 1, 101), (101, .istore_n 3, 1, 102), (102, .aload_n 0, 1, 103), (103, .getfield 184, 3, 106), (106, .l2i, 1, 107), (107, .istore 4, 2, 109), (109, .aload_n 0, 1, 110), (110, .iconst 3, 1, 111), (111, .iload_n 2, 1, 112), (112, .invokevirtual 205, 3, 115), (115, .iconst 0, 1, 116), (116, .istore 5, 2, 118), (118, .iload 5, 2, 120), (120, .iconst 3, 1, 121), (121, .if_icmp .ge 42, 3, 124), (124, .aload_n 0, 1, 125), (125, .iconst 0, 1, 126), (126, .bipush 99, 2, 128), (128, .invokevirtual 187, 3, 131), (131, .istore 6, 2, 133), (133, .aload_n 0, 1, 134), (134, .getfield 156, 3, 137), (137, .ifCond .ne 20, 3, 140), (140, .aload_n 0, 1, 141), (141, .getfield 24, 3, 144), (144, .bipush 25, 2, 146), (146, .bipush 8, 2, 148), (148, .iload 5, 2, 150), (150, .imul, 1, 151), (151, .iadd, 1, 152), (152, .iload_n 1, 1, 153), (153, .iadd, 1, 154), (154, .iload 6, 2, 156), (156, .iastore, 1, 157), (157, .iinc 5 1, 3, 160), (160, .goto (-42), 3, 163), (163, .aload_n 0, 1, 164), (164, .getfield 156, 3, 167), (167, .ifCond .eq 4, 3, 170), (170, .return_, 1, 171), (171, .aload_n 0, 1, 172), (172, .getfield 24, 3, 175), (175, .bipush 9, 2, 177), (177, .iload_n 1, 1, 178), (178, .iadd, 1, 179), (179, .iload_n 3, 1, 180), (180, .iastore, 1, 181), (181, .aload_n 0, 1, 182), (182, .getfield 24, 3, 185), (185, .bipush 17, 2, 187), (187, .iload_n 1, 1, 188), (188, .iadd, 1, 189), (189, .iload 4, 2, 191), (191, .iastore, 1, 192), (192, .aload_n 0, 1, 193), (193, .getfield 24, 3, 196), (196, .iconst 3, 1, 197), (197, .dup2, 1, 198), (198, .iaload, 1, 199), (199, .iconst 1, 1, 200), (200, .iadd, 1, 201), (201, .iastore, 1, 202), (202, .return_, 1, 203)]
set_option maxRecDepth 20000 in
theorem dX10_readFloor : dcL cX10_readFloor lX10_readFloorL = true := by decide +kernel
def b_X10_readFloor_88 (F : Nat) (self24 : PH → Nat → Int32 → Int32 → Int32 → Option (Unit × PH)) (h : PH) (v0 : Nat) (v1 : Int32) (v3 : Int32) (s0 : Int32) (s1 : Int32) : Option (Unit × PH) := bindv (s0 ||| s1) fun x1 => (bindv (v3 + (1)) fun x2 => (self24 h v0 v1 x1 x2))
set_option maxRecDepth 20000 in
theorem t_X10_readFloor_88 {M : MV} {X : XT} {F : Nat} {self24 : PH → Nat → Int32 → Int32 → Int32 → Option (Unit × PH)} {h hz : PH} {r : Unit} {ce sl mc ms : Nat} {v0 : Nat} {v1 : Int32} {v3 : Int32} {s0 : Int32} {s1 : Int32} (hc : Cx M X RX10 cX10_readFloor) (hr : Rx M 134 7774 mc ms 7) (he : Ex M X none "readFloor" none hz mc ms) (hm : ce ≤ mc) (hs : sl ≤ ms) (ih24 : ∀ (h : PH) (v0 : Nat) (v1 : Int32) (v2 : Int32) (v3 : Int32), self24 h v0 v1 v2 v3 = some (r, hz) → GG M X h ce sl 41 [(0, .ref (X.1 + v0)), (1, .int v1), (2, .int v2), (3, .int v3)] []) (hf : b_X10_readFloor_88 F self24 h v0 v1 v3 s0 s1 = some (r, hz)) : GG M X h ce sl 88 [(0, .ref (X.1 + v0)), (1, .int v1), (3, .int v3)] [.int s1, .int s0] := by
  unfold b_X10_readFloor_88 at hf
  refine r_ior hc (dc_at dX10_readFloor 53 rfl) ?_
  refine r_nm (mk := Value.int) hf fun x1 hf => ?_
  refine r_istore_n [(2, .int x1), (0, .ref (X.1 + v0)), (1, .int v1), (3, .int v3)] hc hr (dc_at dX10_readFloor 54 rfl) (by decide) rfl ?_
  refine obv hf fun x2 e_x2 hf => ?_
  refine r_iinc 3 [(3, .int x2), (2, .int x1), (0, .ref (X.1 + v0)), (1, .int v1)] hc hr (dc_at dX10_readFloor 55 rfl) rfl (by rw [e_x2]; rfl) (by decide) rfl ?_
  refine r_goto (tgt := 41) hc (dc_at dX10_readFloor 56 rfl) (by decide) ?_
  exact gg_sub [2, 3, 1, 0] rfl (ih24 _ _ _ _ _ hf)
def b_X10_readFloor_87 (F : Nat) (self24 : PH → Nat → Int32 → Int32 → Int32 → Option (Unit × PH)) (h : PH) (v0 : Nat) (v1 : Int32) (v3 : Int32) (s0 : Int32) : Option (Unit × PH) := b_X10_readFloor_88 F self24 h v0 v1 v3 s0 (0 : Int32)
set_option maxRecDepth 20000 in
theorem t_X10_readFloor_87 {M : MV} {X : XT} {F : Nat} {self24 : PH → Nat → Int32 → Int32 → Int32 → Option (Unit × PH)} {h hz : PH} {r : Unit} {ce sl mc ms : Nat} {v0 : Nat} {v1 : Int32} {v3 : Int32} {s0 : Int32} (hc : Cx M X RX10 cX10_readFloor) (hr : Rx M 134 7774 mc ms 7) (he : Ex M X none "readFloor" none hz mc ms) (hm : ce ≤ mc) (hs : sl ≤ ms) (ih24 : ∀ (h : PH) (v0 : Nat) (v1 : Int32) (v2 : Int32) (v3 : Int32), self24 h v0 v1 v2 v3 = some (r, hz) → GG M X h ce sl 41 [(0, .ref (X.1 + v0)), (1, .int v1), (2, .int v2), (3, .int v3)] []) (hf : b_X10_readFloor_87 F self24 h v0 v1 v3 s0 = some (r, hz)) : GG M X h ce sl 87 [(0, .ref (X.1 + v0)), (1, .int v1), (3, .int v3)] [.int s0] := by
  unfold b_X10_readFloor_87 at hf
  refine r_iconst (0 : Int32) hc (dc_at dX10_readFloor 52 rfl) (by decide) ?_
  exact gg_sub [0, 1, 2] rfl (t_X10_readFloor_88 hc hr he hm hs ih24 hf)
def b_X10_readFloor_157 (F : Nat) (self71 : PH → Nat → Int32 → Int32 → Int32 → Int32 → Option (Unit × PH)) (h : PH) (v0 : Nat) (v1 : Int32) (v3 : Int32) (v4 : Int32) (v5 : Int32) : Option (Unit × PH) := bindv (v5 + (1)) fun x1 => (self71 h v0 v1 v3 v4 x1)
set_option maxRecDepth 20000 in
theorem t_X10_readFloor_157 {M : MV} {X : XT} {F : Nat} {self71 : PH → Nat → Int32 → Int32 → Int32 → Int32 → Option (Unit × PH)} {h hz : PH} {r : Unit} {ce sl mc ms : Nat} {v0 : Nat} {v1 : Int32} {v3 : Int32} {v4 : Int32} {v5 : Int32} (hc : Cx M X RX10 cX10_readFloor) (hr : Rx M 134 7774 mc ms 7) (he : Ex M X none "readFloor" none hz mc ms) (hm : ce ≤ mc) (hs : sl ≤ ms) (ih71 : ∀ (h : PH) (v0 : Nat) (v1 : Int32) (v3 : Int32) (v4 : Int32) (v5 : Int32), self71 h v0 v1 v3 v4 v5 = some (r, hz) → GG M X h ce sl 118 [(0, .ref (X.1 + v0)), (1, .int v1), (3, .int v3), (4, .int v4), (5, .int v5)] []) (hf : b_X10_readFloor_157 F self71 h v0 v1 v3 v4 v5 = some (r, hz)) : GG M X h ce sl 157 [(0, .ref (X.1 + v0)), (1, .int v1), (3, .int v3), (4, .int v4), (5, .int v5)] [] := by
  unfold b_X10_readFloor_157 at hf
  refine obv hf fun x1 e_x1 hf => ?_
  refine r_iinc 4 [(5, .int x1), (0, .ref (X.1 + v0)), (1, .int v1), (3, .int v3), (4, .int v4)] hc hr (dc_at dX10_readFloor 93 rfl) rfl (by rw [e_x1]; rfl) (by decide) rfl ?_
  refine r_goto (tgt := 118) hc (dc_at dX10_readFloor 94 rfl) (by decide) ?_
  exact gg_sub [1, 2, 3, 4, 0] rfl (ih71 _ _ _ _ _ _ hf)
def b_X10_readFloor_118 (F : Nat) (self71 : PH → Nat → Int32 → Int32 → Int32 → Int32 → Option (Unit × PH)) (h : PH) (v0 : Nat) (v1 : Int32) (v3 : Int32) (v4 : Int32) (v5 : Int32) : Option (Unit × PH) := if (3 : Int32) ≤ v5 then ((gI 10 11 h v0).bind fun x1 => (if x1 = 0 then ((gR 10 4 h v0).bind fun a2 => ((sI 0 h a2 (((9 : Int32) + v1)) v3).bind fun h3 => ((gR 10 4 h3 v0).bind fun a4 => ((sI 0 h3 a4 (((17 : Int32) + v1)) v4).bind fun h5 => ((gR 10 4 h5 v0).bind fun a6 => ((aI 0 h5 a6 (3 : Int32)).bind fun x7 => ((sI 0 h5 a6 (3 : Int32) ((x7 + (1 : Int32)))).bind fun h8 => (some ((), h8))))))))) else (some ((), h)))) else (cO 10 h v0 (bind2 (m_X10_takes F h v0 (0 : Int32) (99 : Int32)) fun x9 h10 => ((gI 10 11 h10 v0).bind fun x11 => (if x11 = 0 then ((gR 10 4 h10 v0).bind fun a12 => ((sI 0 h10 a12 (((((25 : Int32) + (((8 : Int32) * v5)))) + v1)) x9).bind fun h13 => (b_X10_readFloor_157 F self71 h13 v0 v1 v3 v4 v5))) else (b_X10_readFloor_157 F self71 h10 v0 v1 v3 v4 v5)))))
set_option maxRecDepth 20000 in
theorem tb_X10_readFloor_118 {M : MV} {X : XT} {F : Nat} {self71 : PH → Nat → Int32 → Int32 → Int32 → Int32 → Option (Unit × PH)} {h hz : PH} {r : Unit} {ce sl mc ms : Nat} {v0 : Nat} {v1 : Int32} {v3 : Int32} {v4 : Int32} {v5 : Int32} (hc : Cx M X RX10 cX10_readFloor) (hr : Rx M 134 7774 mc ms 7) (he : Ex M X none "readFloor" none hz mc ms) (hm : ce ≤ mc) (hs : sl ≤ ms) (ih71 : ∀ (h : PH) (v0 : Nat) (v1 : Int32) (v3 : Int32) (v4 : Int32) (v5 : Int32), self71 h v0 v1 v3 v4 v5 = some (r, hz) → GG M X h ce sl 118 [(0, .ref (X.1 + v0)), (1, .int v1), (3, .int v3), (4, .int v4), (5, .int v5)] []) (hf : b_X10_readFloor_118 F self71 h v0 v1 v3 v4 v5 = some (r, hz)) : GG M X h ce sl 118 [(0, .ref (X.1 + v0)), (1, .int v1), (3, .int v3), (4, .int v4), (5, .int v5)] [] := by
  unfold b_X10_readFloor_118 at hf
  refine r_iload hc 4 (dc_at dX10_readFloor 71 rfl) rfl ?_
  refine r_iconst (3 : Int32) hc (dc_at dX10_readFloor 72 rfl) (by decide) ?_
  refine r_icmp_ge (tgt := 163) hc (dc_at dX10_readFloor 73 rfl) (by decide) hf (fun hf => ?_) (fun hf => ?_)
  · refine r_aload_n hc 0 (dc_at dX10_readFloor 95 rfl) rfl ?_
    refine r_getI hc (dc_at dX10_readFloor 96 rfl) fl_X10_156 hf fun x1 hf => ?_
    refine r_if_eq (tgt := 171) hc (dc_at dX10_readFloor 97 rfl) (by decide) hf (fun hf => ?_) (fun hf => ?_)
    · refine r_aload_n hc 0 (dc_at dX10_readFloor 99 rfl) rfl ?_
      refine r_getR hc (dc_at dX10_readFloor 100 rfl) fl_X10_24 hf fun a2 hf => ?_
      refine r_bipush (9 : Int32) hc (dc_at dX10_readFloor 101 rfl) (by decide) ?_
      refine r_iload_n hc 1 (dc_at dX10_readFloor 102 rfl) rfl ?_
      refine r_iadd hc (dc_at dX10_readFloor 103 rfl) ?_
      refine r_iload_n hc 2 (dc_at dX10_readFloor 104 rfl) rfl ?_
      refine r_iastore hc (dc_at dX10_readFloor 105 rfl) hf fun h3 hf => ?_
      refine r_aload_n hc 0 (dc_at dX10_readFloor 106 rfl) rfl ?_
      refine r_getR hc (dc_at dX10_readFloor 107 rfl) fl_X10_24 hf fun a4 hf => ?_
      refine r_bipush (17 : Int32) hc (dc_at dX10_readFloor 108 rfl) (by decide) ?_
      refine r_iload_n hc 1 (dc_at dX10_readFloor 109 rfl) rfl ?_
      refine r_iadd hc (dc_at dX10_readFloor 110 rfl) ?_
      refine r_iload hc 3 (dc_at dX10_readFloor 111 rfl) rfl ?_
      refine r_iastore hc (dc_at dX10_readFloor 112 rfl) hf fun h5 hf => ?_
      refine r_aload_n hc 0 (dc_at dX10_readFloor 113 rfl) rfl ?_
      refine r_getR hc (dc_at dX10_readFloor 114 rfl) fl_X10_24 hf fun a6 hf => ?_
      refine r_iconst (3 : Int32) hc (dc_at dX10_readFloor 115 rfl) (by decide) ?_
      refine r_dup2 hc (dc_at dX10_readFloor 116 rfl) rfl rfl ?_
      refine r_iaload hc (dc_at dX10_readFloor 117 rfl) hf fun x7 hf => ?_
      refine r_iconst (1 : Int32) hc (dc_at dX10_readFloor 118 rfl) (by decide) ?_
      refine r_iadd hc (dc_at dX10_readFloor 119 rfl) ?_
      refine r_iastore hc (dc_at dX10_readFloor 120 rfl) hf fun h8 hf => ?_
      exact r_vret hc he (hm) (hs) (dc_at dX10_readFloor 121 rfl) hf
    · exact r_vret hc he (hm) (hs) (dc_at dX10_readFloor 98 rfl) hf
  · refine r_aload_n hc 0 (dc_at dX10_readFloor 74 rfl) rfl ?_
    refine r_iconst (0 : Int32) hc (dc_at dX10_readFloor 75 rfl) (by decide) ?_
    refine r_bipush (99 : Int32) hc (dc_at dX10_readFloor 76 rfl) (by decide) ?_
    obtain ⟨ho, hf⟩ := cO_some hf
    refine ob2 hf fun x9 h10 ex hf => ?_
    refine r_callVi (As := [.int ((0 : Int32)), .int ((99 : Int32))]) (ci := 10) hc hr (dc_at dX10_readFloor 77 rfl) ml_X10_187 mv_X10_takes vi_X10_takes rfl ho rfl (mt_X10_takes ex) (by first | exact Nat.le_of_ble_eq_true rfl | omega) (by first | exact Nat.le_of_ble_eq_true rfl | omega) (by first | exact Nat.le_of_ble_eq_true rfl | omega) hm hs ?_
    refine r_istore [(6, .int x9), (0, .ref (X.1 + v0)), (1, .int v1), (3, .int v3), (4, .int v4), (5, .int v5)] hc hr (dc_at dX10_readFloor 78 rfl) (by decide) rfl ?_
    refine r_aload_n hc 1 (dc_at dX10_readFloor 79 rfl) rfl ?_
    refine r_getI hc (dc_at dX10_readFloor 80 rfl) fl_X10_156 hf fun x11 hf => ?_
    refine r_if_ne (tgt := 157) hc (dc_at dX10_readFloor 81 rfl) (by decide) hf (fun hf => ?_) (fun hf => ?_)
    · exact gg_sub [1, 2, 3, 4, 5] rfl (t_X10_readFloor_157 hc hr he hm hs ih71 hf)
    · refine r_aload_n hc 1 (dc_at dX10_readFloor 82 rfl) rfl ?_
      refine r_getR hc (dc_at dX10_readFloor 83 rfl) fl_X10_24 hf fun a12 hf => ?_
      refine r_bipush (25 : Int32) hc (dc_at dX10_readFloor 84 rfl) (by decide) ?_
      refine r_bipush (8 : Int32) hc (dc_at dX10_readFloor 85 rfl) (by decide) ?_
      refine r_iload hc 5 (dc_at dX10_readFloor 86 rfl) rfl ?_
      refine r_imul hc (dc_at dX10_readFloor 87 rfl) ?_
      refine r_iadd hc (dc_at dX10_readFloor 88 rfl) ?_
      refine r_iload_n hc 2 (dc_at dX10_readFloor 89 rfl) rfl ?_
      refine r_iadd hc (dc_at dX10_readFloor 90 rfl) ?_
      refine r_iload hc 0 (dc_at dX10_readFloor 91 rfl) rfl ?_
      refine r_iastore hc (dc_at dX10_readFloor 92 rfl) hf fun h13 hf => ?_
      exact gg_sub [1, 2, 3, 4, 5] rfl (t_X10_readFloor_157 hc hr he hm hs ih71 hf)
def l_X10_readFloor_118 (F : Nat) : Nat → PH → Nat → Int32 → Int32 → Int32 → Int32 → Option (Unit × PH)
  | 0 => fun _ _ _ _ _ _ => none
  | n + 1 => fun h v0 v1 v3 v4 v5 => b_X10_readFloor_118 F (l_X10_readFloor_118 F n) h v0 v1 v3 v4 v5
theorem tl_X10_readFloor_118 {M : MV} {X : XT} {F : Nat} {hz : PH} {r : Unit} {ce sl mc ms : Nat} (hc : Cx M X RX10 cX10_readFloor) (hr : Rx M 134 7774 mc ms 7) (he : Ex M X none "readFloor" none hz mc ms) (hm : ce ≤ mc) (hs : sl ≤ ms) (n : Nat) : ∀ (h : PH) (v0 : Nat) (v1 : Int32) (v3 : Int32) (v4 : Int32) (v5 : Int32), l_X10_readFloor_118 F n h v0 v1 v3 v4 v5 = some (r, hz) → GG M X h ce sl 118 [(0, .ref (X.1 + v0)), (1, .int v1), (3, .int v3), (4, .int v4), (5, .int v5)] [] := by
  induction n with
  | zero => intro h v0 v1 v3 v4 v5 hf; cases hf
  | succ n ih => intro h v0 v1 v3 v4 v5 hf; exact tb_X10_readFloor_118 (F := F) hc hr he hm hs  ih hf
def b_X10_readFloor_41 (F : Nat) (self24 : PH → Nat → Int32 → Int32 → Int32 → Option (Unit × PH)) (h : PH) (v0 : Nat) (v1 : Int32) (v2 : Int32) (v3 : Int32) : Option (Unit × PH) := if v1 ≤ v3 then ((gL 10 15 h v0).bind fun x1 => (bindv (Int64.toInt32 x1) fun x2 => ((gL 10 16 h v0).bind fun x3 => (bindv (Int64.toInt32 x3) fun x4 => (cO 10 h v0 (bind2 (m_X10_goesOn F h v0 (3 : Int32) v2) fun _ h6 => (l_X10_readFloor_118 F F h6 v0 v1 x2 x4 (0 : Int32)))))))) else ((gR 10 4 h v0).bind fun a7 => ((aI 0 h a7 (((9 : Int32) + v3))).bind fun x8 => ((gL 10 15 h v0).bind fun x9 => (if (Int32.toInt64 x8) = x9 then ((gR 10 4 h v0).bind fun a10 => ((aI 0 h a10 (((17 : Int32) + v3))).bind fun x11 => ((gL 10 16 h v0).bind fun x12 => (if (Int32.toInt64 x11) = x12 then (b_X10_readFloor_88 F self24 h v0 v1 v3 v2 (1 : Int32)) else (b_X10_readFloor_87 F self24 h v0 v1 v3 v2))))) else (b_X10_readFloor_87 F self24 h v0 v1 v3 v2)))))
set_option maxRecDepth 20000 in
theorem tb_X10_readFloor_41 {M : MV} {X : XT} {F : Nat} {self24 : PH → Nat → Int32 → Int32 → Int32 → Option (Unit × PH)} {h hz : PH} {r : Unit} {ce sl mc ms : Nat} {v0 : Nat} {v1 : Int32} {v2 : Int32} {v3 : Int32} (hc : Cx M X RX10 cX10_readFloor) (hr : Rx M 134 7774 mc ms 7) (he : Ex M X none "readFloor" none hz mc ms) (hm : ce ≤ mc) (hs : sl ≤ ms) (ih24 : ∀ (h : PH) (v0 : Nat) (v1 : Int32) (v2 : Int32) (v3 : Int32), self24 h v0 v1 v2 v3 = some (r, hz) → GG M X h ce sl 41 [(0, .ref (X.1 + v0)), (1, .int v1), (2, .int v2), (3, .int v3)] []) (hf : b_X10_readFloor_41 F self24 h v0 v1 v2 v3 = some (r, hz)) : GG M X h ce sl 41 [(0, .ref (X.1 + v0)), (1, .int v1), (2, .int v2), (3, .int v3)] [] := by
  unfold b_X10_readFloor_41 at hf
  refine r_iload_n hc 3 (dc_at dX10_readFloor 24 rfl) rfl ?_
  refine r_iload_n hc 1 (dc_at dX10_readFloor 25 rfl) rfl ?_
  refine r_icmp_ge (tgt := 96) hc (dc_at dX10_readFloor 26 rfl) (by decide) hf (fun hf => ?_) (fun hf => ?_)
  · refine r_aload_n hc 0 (dc_at dX10_readFloor 57 rfl) rfl ?_
    refine r_getL hc (dc_at dX10_readFloor 58 rfl) fl_X10_180 hf fun x1 hf => ?_
    refine r_l2i hc (dc_at dX10_readFloor 59 rfl) ?_
    refine r_nm (mk := Value.int) hf fun x2 hf => ?_
    refine r_istore_n [(3, .int x2), (0, .ref (X.1 + v0)), (1, .int v1), (2, .int v2)] hc hr (dc_at dX10_readFloor 60 rfl) (by decide) rfl ?_
    refine r_aload_n hc 1 (dc_at dX10_readFloor 61 rfl) rfl ?_
    refine r_getL hc (dc_at dX10_readFloor 62 rfl) fl_X10_184 hf fun x3 hf => ?_
    refine r_l2i hc (dc_at dX10_readFloor 63 rfl) ?_
    refine r_nm (mk := Value.int) hf fun x4 hf => ?_
    refine r_istore [(4, .int x4), (3, .int x2), (0, .ref (X.1 + v0)), (1, .int v1), (2, .int v2)] hc hr (dc_at dX10_readFloor 64 rfl) (by decide) rfl ?_
    refine r_aload_n hc 2 (dc_at dX10_readFloor 65 rfl) rfl ?_
    refine r_iconst (3 : Int32) hc (dc_at dX10_readFloor 66 rfl) (by decide) ?_
    refine r_iload_n hc 4 (dc_at dX10_readFloor 67 rfl) rfl ?_
    obtain ⟨ho, hf⟩ := cO_some hf
    refine ob2 hf fun u h6 ex hf => ?_
    refine r_callVv (As := [.int ((3 : Int32)), .int v2]) (ci := 10) hc hr (dc_at dX10_readFloor 68 rfl) ml_X10_205 mv_X10_goesOn vi_X10_goesOn rfl ho rfl (mt_X10_goesOn ex) (by first | exact Nat.le_of_ble_eq_true rfl | omega) (by first | exact Nat.le_of_ble_eq_true rfl | omega) (by first | exact Nat.le_of_ble_eq_true rfl | omega) hm hs ?_
    refine r_iconst (0 : Int32) hc (dc_at dX10_readFloor 69 rfl) (by decide) ?_
    refine r_istore [(5, .int ((0 : Int32))), (4, .int x4), (3, .int x2), (0, .ref (X.1 + v0)), (1, .int v1), (2, .int v2)] hc hr (dc_at dX10_readFloor 70 rfl) (by decide) rfl ?_
    exact gg_sub [3, 4, 2, 1, 0] rfl (tl_X10_readFloor_118 hc hr he hm hs  F _ _ _ _ _ _ hf)
  · refine r_iload_n hc 2 (dc_at dX10_readFloor 27 rfl) rfl ?_
    refine r_aload_n hc 0 (dc_at dX10_readFloor 28 rfl) rfl ?_
    refine r_getR hc (dc_at dX10_readFloor 29 rfl) fl_X10_24 hf fun a7 hf => ?_
    refine r_bipush (9 : Int32) hc (dc_at dX10_readFloor 30 rfl) (by decide) ?_
    refine r_iload_n hc 3 (dc_at dX10_readFloor 31 rfl) rfl ?_
    refine r_iadd hc (dc_at dX10_readFloor 32 rfl) ?_
    refine r_iaload hc (dc_at dX10_readFloor 33 rfl) hf fun x8 hf => ?_
    refine r_i2l hc (dc_at dX10_readFloor 34 rfl) ?_
    refine r_aload_n hc 0 (dc_at dX10_readFloor 35 rfl) rfl ?_
    refine r_getL hc (dc_at dX10_readFloor 36 rfl) fl_X10_180 hf fun x9 hf => ?_
    refine r_lcmp_ne (tgt := 87) hc (dc_at dX10_readFloor 37 rfl) (dc_at dX10_readFloor 38 rfl) (by decide) hf (fun hf => ?_) (fun hf => ?_)
    · exact gg_sub [0, 1, 3] rfl (t_X10_readFloor_87 hc hr he hm hs ih24 hf)
    · refine r_aload_n hc 0 (dc_at dX10_readFloor 39 rfl) rfl ?_
      refine r_getR hc (dc_at dX10_readFloor 40 rfl) fl_X10_24 hf fun a10 hf => ?_
      refine r_bipush (17 : Int32) hc (dc_at dX10_readFloor 41 rfl) (by decide) ?_
      refine r_iload_n hc 3 (dc_at dX10_readFloor 42 rfl) rfl ?_
      refine r_iadd hc (dc_at dX10_readFloor 43 rfl) ?_
      refine r_iaload hc (dc_at dX10_readFloor 44 rfl) hf fun x11 hf => ?_
      refine r_i2l hc (dc_at dX10_readFloor 45 rfl) ?_
      refine r_aload_n hc 0 (dc_at dX10_readFloor 46 rfl) rfl ?_
      refine r_getL hc (dc_at dX10_readFloor 47 rfl) fl_X10_184 hf fun x12 hf => ?_
      refine r_lcmp_ne (tgt := 87) hc (dc_at dX10_readFloor 48 rfl) (dc_at dX10_readFloor 49 rfl) (by decide) hf (fun hf => ?_) (fun hf => ?_)
      · exact gg_sub [0, 1, 3] rfl (t_X10_readFloor_87 hc hr he hm hs ih24 hf)
      · refine r_iconst (1 : Int32) hc (dc_at dX10_readFloor 50 rfl) (by decide) ?_
        refine r_goto (tgt := 88) hc (dc_at dX10_readFloor 51 rfl) (by decide) ?_
        exact gg_sub [0, 1, 3] rfl (t_X10_readFloor_88 hc hr he hm hs ih24 hf)
def l_X10_readFloor_41 (F : Nat) : Nat → PH → Nat → Int32 → Int32 → Int32 → Option (Unit × PH)
  | 0 => fun _ _ _ _ _ => none
  | n + 1 => fun h v0 v1 v2 v3 => b_X10_readFloor_41 F (l_X10_readFloor_41 F n) h v0 v1 v2 v3
theorem tl_X10_readFloor_41 {M : MV} {X : XT} {F : Nat} {hz : PH} {r : Unit} {ce sl mc ms : Nat} (hc : Cx M X RX10 cX10_readFloor) (hr : Rx M 134 7774 mc ms 7) (he : Ex M X none "readFloor" none hz mc ms) (hm : ce ≤ mc) (hs : sl ≤ ms) (n : Nat) : ∀ (h : PH) (v0 : Nat) (v1 : Int32) (v2 : Int32) (v3 : Int32), l_X10_readFloor_41 F n h v0 v1 v2 v3 = some (r, hz) → GG M X h ce sl 41 [(0, .ref (X.1 + v0)), (1, .int v1), (2, .int v2), (3, .int v3)] [] := by
  induction n with
  | zero => intro h v0 v1 v2 v3 hf; cases hf
  | succ n ih => intro h v0 v1 v2 v3 hf; exact tb_X10_readFloor_41 (F := F) hc hr he hm hs  ih hf
def b_X10_readFloor_18 (F : Nat) (h : PH) (v0 : Nat) (v1 : Int32) : Option (Unit × PH) := (gI 10 11 h v0).bind fun x1 => (if x1 = 0 then (cO 10 h v0 (bind2 (m_X10_next F h v0) fun _ h3 => (cO 10 h3 v0 (bind2 (m_X10_takesFraction F h3 v0) fun _ h5 => ((gI 10 17 h5 v0).bind fun x6 => (l_X10_readFloor_41 F F h5 v0 v1 x6 (0 : Int32))))))) else (some ((), h)))
set_option maxRecDepth 20000 in
theorem t_X10_readFloor_18 {M : MV} {X : XT} {F : Nat} {h hz : PH} {r : Unit} {ce sl mc ms : Nat} {v0 : Nat} {v1 : Int32} (hc : Cx M X RX10 cX10_readFloor) (hr : Rx M 134 7774 mc ms 7) (he : Ex M X none "readFloor" none hz mc ms) (hm : ce ≤ mc) (hs : sl ≤ ms) (hf : b_X10_readFloor_18 F h v0 v1 = some (r, hz)) : GG M X h ce sl 18 [(0, .ref (X.1 + v0)), (1, .int v1)] [] := by
  unfold b_X10_readFloor_18 at hf
  refine r_aload_n hc 0 (dc_at dX10_readFloor 11 rfl) rfl ?_
  refine r_getI hc (dc_at dX10_readFloor 12 rfl) fl_X10_156 hf fun x1 hf => ?_
  refine r_if_eq (tgt := 26) hc (dc_at dX10_readFloor 13 rfl) (by decide) hf (fun hf => ?_) (fun hf => ?_)
  · refine r_aload_n hc 0 (dc_at dX10_readFloor 15 rfl) rfl ?_
    obtain ⟨ho, hf⟩ := cO_some hf
    refine ob2 hf fun u h3 ex hf => ?_
    refine r_callVv (As := []) (ci := 10) hc hr (dc_at dX10_readFloor 16 rfl) ml_X10_165 mv_X10_next vi_X10_next rfl ho rfl (mt_X10_next ex) (by first | exact Nat.le_of_ble_eq_true rfl | omega) (by first | exact Nat.le_of_ble_eq_true rfl | omega) (by first | exact Nat.le_of_ble_eq_true rfl | omega) hm hs ?_
    refine r_aload_n hc 0 (dc_at dX10_readFloor 17 rfl) rfl ?_
    obtain ⟨ho, hf⟩ := cO_some hf
    refine ob2 hf fun u h5 ex hf => ?_
    refine r_callVv (As := []) (ci := 10) hc hr (dc_at dX10_readFloor 18 rfl) ml_X10_202 mv_X10_takesFraction vi_X10_takesFraction rfl ho rfl (mt_X10_takesFraction ex) (by first | exact Nat.le_of_ble_eq_true rfl | omega) (by first | exact Nat.le_of_ble_eq_true rfl | omega) (by first | exact Nat.le_of_ble_eq_true rfl | omega) hm hs ?_
    refine r_aload_n hc 0 (dc_at dX10_readFloor 19 rfl) rfl ?_
    refine r_getI hc (dc_at dX10_readFloor 20 rfl) fl_X10_198 hf fun x6 hf => ?_
    refine r_istore_n [(2, .int x6), (0, .ref (X.1 + v0)), (1, .int v1)] hc hr (dc_at dX10_readFloor 21 rfl) (by decide) rfl ?_
    refine r_iconst (0 : Int32) hc (dc_at dX10_readFloor 22 rfl) (by decide) ?_
    refine r_istore_n [(3, .int ((0 : Int32))), (2, .int x6), (0, .ref (X.1 + v0)), (1, .int v1)] hc hr (dc_at dX10_readFloor 23 rfl) (by decide) rfl ?_
    exact gg_sub [2, 3, 1, 0] rfl (tl_X10_readFloor_41 hc hr he hm hs  F _ _ _ _ _ hf)
  · exact r_vret hc he (hm) (hs) (dc_at dX10_readFloor 14 rfl) hf
def b_X10_readFloor_0 (F : Nat) (h : PH) (v0 : Nat) : Option (Unit × PH) := (gR 10 4 h v0).bind fun a1 => ((aI 0 h a1 (3 : Int32)).bind fun x2 => (if x2 = (8 : Int32) then (cO 10 h v0 (bind2 (m_X10_fails h v0 (4 : Int32)) fun _ h4 => (b_X10_readFloor_18 F h4 v0 x2))) else (b_X10_readFloor_18 F h v0 x2)))
set_option maxRecDepth 20000 in
theorem t_X10_readFloor_0 {M : MV} {X : XT} {F : Nat} {h hz : PH} {r : Unit} {ce sl mc ms : Nat} {v0 : Nat} (hc : Cx M X RX10 cX10_readFloor) (hr : Rx M 134 7774 mc ms 7) (he : Ex M X none "readFloor" none hz mc ms) (hm : ce ≤ mc) (hs : sl ≤ ms) (hf : b_X10_readFloor_0 F h v0 = some (r, hz)) : GG M X h ce sl 0 [(0, .ref (X.1 + v0))] [] := by
  unfold b_X10_readFloor_0 at hf
  refine r_aload_n hc 0 (dc_at dX10_readFloor 0 rfl) rfl ?_
  refine r_getR hc (dc_at dX10_readFloor 1 rfl) fl_X10_24 hf fun a1 hf => ?_
  refine r_iconst (3 : Int32) hc (dc_at dX10_readFloor 2 rfl) (by decide) ?_
  refine r_iaload hc (dc_at dX10_readFloor 3 rfl) hf fun x2 hf => ?_
  refine r_istore_n [(1, .int x2), (0, .ref (X.1 + v0))] hc hr (dc_at dX10_readFloor 4 rfl) (by decide) rfl ?_
  refine r_iload_n hc 0 (dc_at dX10_readFloor 5 rfl) rfl ?_
  refine r_bipush (8 : Int32) hc (dc_at dX10_readFloor 6 rfl) (by decide) ?_
  refine r_icmp_ne (tgt := 18) hc (dc_at dX10_readFloor 7 rfl) (by decide) hf (fun hf => ?_) (fun hf => ?_)
  · exact gg_sub [1, 0] rfl (t_X10_readFloor_18 hc hr he hm hs  hf)
  · refine r_aload_n hc 1 (dc_at dX10_readFloor 8 rfl) rfl ?_
    refine r_iconst (4 : Int32) hc (dc_at dX10_readFloor 9 rfl) (by decide) ?_
    obtain ⟨ho, hf⟩ := cO_some hf
    refine ob2 hf fun u h4 ex hf => ?_
    refine r_callVv (As := [.int ((4 : Int32))]) (ci := 10) hc hr (dc_at dX10_readFloor 10 rfl) ml_X10_168 mv_X10_fails vi_X10_fails rfl ho rfl (mt_X10_fails ex) (by first | exact Nat.le_of_ble_eq_true rfl | omega) (by first | exact Nat.le_of_ble_eq_true rfl | omega) (by first | exact Nat.le_of_ble_eq_true rfl | omega) hm hs ?_
    exact gg_sub [1, 0] rfl (t_X10_readFloor_18 hc hr he hm hs  hf)
def m_X10_readFloor (F : Nat) (h : PH) (p0 : Nat) : Option (Unit × PH) := b_X10_readFloor_0 F h p0
theorem mt_X10_readFloor {l : Launch} {X : XT} {F : Nat} {h hz : PH} {p0 : Nat} {r : Unit} (ex : m_X10_readFloor F h p0 = some (r, hz)) : MT l X yX10_readFloor cX10_readFloor 7 none 134 7774 0 0 [.ref (X.1 + p0)] h none hz := MT.of (by decide) (Nat.le_of_ble_eq_true rfl) fun M hl hc hr he => by
  subst hl
  exact gg_sub [0] rfl (t_X10_readFloor_0  hc hr he (Nat.zero_le _) (Nat.zero_le _) ex)
/-! FractionLiftModel.readAt(II)V -/
def lX10_readAtL : List (Nat × Instr × Nat × Nat) := [(0, .aload_n 0, 1, 1), (1, .invokevirtual 202, 3, 4), (4, .aload_n 0, 1, 5), (5, .bipush 20, 2, 7), (7, .invokevirtual 162, 3, 10), (10, .ifCond .eq 15, 3, 13), (13, .aload_n 0, 1, 14), (14, .getfield 198, 3, 17), (17, .ifCond .eq 8, 3, 20), (20, .aload_n 0, 1, 21), (21, .iconst 3, 1, 22), (22, .invokevirtual 168, 3, 25), (25, .aload_n 0, 1, 26), (26, .getfield 156, 3, 29), (29, .ifCond .eq 4, 3, 32), (32, .return_, 1, 33), (33, .aload_n 0, 1, 34), (34, .getfield 24, 3, 37), (37, .iload_n 1, 1, 38), (38, .aload_n 0, 1, 39), (39, .getfield 180, 3, 42), (42, .l2i, 1, 43), (43, .iastore, 1, 44), (44, .aload_n 0, 1, 45), (45, .getfield 24, 3, 48), (48, .iload_n 2, 1, 49), (49, .aload_n 0, 1, 50), (50, .getfield 184, 3, 53), (53, .l2i, 1, 54), (54, .iastore, 1, 55), (55, .return_, 1, 56)]
set_option maxRecDepth 20000 in
theorem dX10_readAt : dcL cX10_readAt lX10_readAtL = true := by decide +kernel
def b_X10_readAt_25 (F : Nat) (h : PH) (v0 : Nat) (v1 : Int32) (v2 : Int32) : Option (Unit × PH) := (gI 10 11 h v0).bind fun x1 => (if x1 = 0 then ((gR 10 4 h v0).bind fun a2 => ((gL 10 15 h v0).bind fun x3 => ((sI 0 h a2 v1 (Int64.toInt32 x3)).bind fun h4 => ((gR 10 4 h4 v0).bind fun a5 => ((gL 10 16 h4 v0).bind fun x6 => ((sI 0 h4 a5 v2 (Int64.toInt32 x6)).bind fun h7 => (some ((), h7)))))))) else (some ((), h)))
set_option maxRecDepth 20000 in
theorem t_X10_readAt_25 {M : MV} {X : XT} {F : Nat} {h hz : PH} {r : Unit} {ce sl mc ms : Nat} {v0 : Nat} {v1 : Int32} {v2 : Int32} (hc : Cx M X RX10 cX10_readAt) (hr : Rx M 134 7774 mc ms 3) (he : Ex M X none "readAt" none hz mc ms) (hm : ce ≤ mc) (hs : sl ≤ ms) (hf : b_X10_readAt_25 F h v0 v1 v2 = some (r, hz)) : GG M X h ce sl 25 [(0, .ref (X.1 + v0)), (1, .int v1), (2, .int v2)] [] := by
  unfold b_X10_readAt_25 at hf
  refine r_aload_n hc 0 (dc_at dX10_readAt 12 rfl) rfl ?_
  refine r_getI hc (dc_at dX10_readAt 13 rfl) fl_X10_156 hf fun x1 hf => ?_
  refine r_if_eq (tgt := 33) hc (dc_at dX10_readAt 14 rfl) (by decide) hf (fun hf => ?_) (fun hf => ?_)
  · refine r_aload_n hc 0 (dc_at dX10_readAt 16 rfl) rfl ?_
    refine r_getR hc (dc_at dX10_readAt 17 rfl) fl_X10_24 hf fun a2 hf => ?_
    refine r_iload_n hc 1 (dc_at dX10_readAt 18 rfl) rfl ?_
    refine r_aload_n hc 0 (dc_at dX10_readAt 19 rfl) rfl ?_
    refine r_getL hc (dc_at dX10_readAt 20 rfl) fl_X10_180 hf fun x3 hf => ?_
    refine r_l2i hc (dc_at dX10_readAt 21 rfl) ?_
    refine r_iastore hc (dc_at dX10_readAt 22 rfl) hf fun h4 hf => ?_
    refine r_aload_n hc 0 (dc_at dX10_readAt 23 rfl) rfl ?_
    refine r_getR hc (dc_at dX10_readAt 24 rfl) fl_X10_24 hf fun a5 hf => ?_
    refine r_iload_n hc 2 (dc_at dX10_readAt 25 rfl) rfl ?_
    refine r_aload_n hc 0 (dc_at dX10_readAt 26 rfl) rfl ?_
    refine r_getL hc (dc_at dX10_readAt 27 rfl) fl_X10_184 hf fun x6 hf => ?_
    refine r_l2i hc (dc_at dX10_readAt 28 rfl) ?_
    refine r_iastore hc (dc_at dX10_readAt 29 rfl) hf fun h7 hf => ?_
    exact r_vret hc he (hm) (hs) (dc_at dX10_readAt 30 rfl) hf
  · exact r_vret hc he (hm) (hs) (dc_at dX10_readAt 15 rfl) hf
def b_X10_readAt_0 (F : Nat) (h : PH) (v0 : Nat) (v1 : Int32) (v2 : Int32) : Option (Unit × PH) := cO 10 h v0 (bind2 (m_X10_takesFraction F h v0) fun _ h2 => (cO 10 h2 v0 ((m_X10_is h2 v0 (20 : Int32)).bind fun x3 => (if x3 = 0 then (b_X10_readAt_25 F h2 v0 v1 v2) else ((gI 10 17 h2 v0).bind fun x4 => (if x4 = 0 then (b_X10_readAt_25 F h2 v0 v1 v2) else (cO 10 h2 v0 (bind2 (m_X10_fails h2 v0 (3 : Int32)) fun _ h6 => (b_X10_readAt_25 F h6 v0 v1 v2)))))))))
set_option maxRecDepth 20000 in
theorem t_X10_readAt_0 {M : MV} {X : XT} {F : Nat} {h hz : PH} {r : Unit} {ce sl mc ms : Nat} {v0 : Nat} {v1 : Int32} {v2 : Int32} (hc : Cx M X RX10 cX10_readAt) (hr : Rx M 134 7774 mc ms 3) (he : Ex M X none "readAt" none hz mc ms) (hm : ce ≤ mc) (hs : sl ≤ ms) (hf : b_X10_readAt_0 F h v0 v1 v2 = some (r, hz)) : GG M X h ce sl 0 [(0, .ref (X.1 + v0)), (1, .int v1), (2, .int v2)] [] := by
  unfold b_X10_readAt_0 at hf
  refine r_aload_n hc 0 (dc_at dX10_readAt 0 rfl) rfl ?_
  obtain ⟨ho, hf⟩ := cO_some hf
  refine ob2 hf fun u h2 ex hf => ?_
  refine r_callVv (As := []) (ci := 10) hc hr (dc_at dX10_readAt 1 rfl) ml_X10_202 mv_X10_takesFraction vi_X10_takesFraction rfl ho rfl (mt_X10_takesFraction ex) (by first | exact Nat.le_of_ble_eq_true rfl | omega) (by first | exact Nat.le_of_ble_eq_true rfl | omega) (by first | exact Nat.le_of_ble_eq_true rfl | omega) hm hs ?_
  refine r_aload_n hc 0 (dc_at dX10_readAt 2 rfl) rfl ?_
  refine r_bipush (20 : Int32) hc (dc_at dX10_readAt 3 rfl) (by decide) ?_
  obtain ⟨ho, hf⟩ := cO_some hf
  refine ob hf fun x3 ex hf => ?_
  refine r_callVi (As := [.int ((20 : Int32))]) (ci := 10) hc hr (dc_at dX10_readAt 4 rfl) ml_X10_162 mv_X10_is vi_X10_is rfl ho rfl (mt_X10_is ex) (by first | exact Nat.le_of_ble_eq_true rfl | omega) (by first | exact Nat.le_of_ble_eq_true rfl | omega) (by first | exact Nat.le_of_ble_eq_true rfl | omega) hm hs ?_
  refine r_if_eq (tgt := 25) hc (dc_at dX10_readAt 5 rfl) (by decide) hf (fun hf => ?_) (fun hf => ?_)
  · exact gg_sub [0, 1, 2] rfl (t_X10_readAt_25 hc hr he hm hs  hf)
  · refine r_aload_n hc 0 (dc_at dX10_readAt 6 rfl) rfl ?_
    refine r_getI hc (dc_at dX10_readAt 7 rfl) fl_X10_198 hf fun x4 hf => ?_
    refine r_if_eq (tgt := 25) hc (dc_at dX10_readAt 8 rfl) (by decide) hf (fun hf => ?_) (fun hf => ?_)
    · exact gg_sub [0, 1, 2] rfl (t_X10_readAt_25 hc hr he hm hs  hf)
    · refine r_aload_n hc 0 (dc_at dX10_readAt 9 rfl) rfl ?_
      refine r_iconst (3 : Int32) hc (dc_at dX10_readAt 10 rfl) (by decide) ?_
      obtain ⟨ho, hf⟩ := cO_some hf
      refine ob2 hf fun u h6 ex hf => ?_
      refine r_callVv (As := [.int ((3 : Int32))]) (ci := 10) hc hr (dc_at dX10_readAt 11 rfl) ml_X10_168 mv_X10_fails vi_X10_fails rfl ho rfl (mt_X10_fails ex) (by first | exact Nat.le_of_ble_eq_true rfl | omega) (by first | exact Nat.le_of_ble_eq_true rfl | omega) (by first | exact Nat.le_of_ble_eq_true rfl | omega) hm hs ?_
      exact gg_sub [0, 1, 2] rfl (t_X10_readAt_25 hc hr he hm hs  hf)
def m_X10_readAt (F : Nat) (h : PH) (p0 : Nat) (p1 : Int32) (p2 : Int32) : Option (Unit × PH) := b_X10_readAt_0 F h p0 p1 p2
theorem mt_X10_readAt {l : Launch} {X : XT} {F : Nat} {h hz : PH} {p0 : Nat} {p1 : Int32} {p2 : Int32} {r : Unit} (ex : m_X10_readAt F h p0 p1 p2 = some (r, hz)) : MT l X yX10_readAt cX10_readAt 3 none 134 7774 0 0 [.ref (X.1 + p0), .int p1, .int p2] h none hz := MT.of (by decide) (Nat.le_of_ble_eq_true rfl) fun M hl hc hr he => by
  subst hl
  exact gg_sub [0, 1, 2] rfl (t_X10_readAt_0  hc hr he (Nat.zero_le _) (Nat.zero_le _) ex)
/-! FractionLiftModel.readTenant()V -/
def lX10_readTenantL : List (Nat × Instr × Nat × Nat) := [(0, .aload_n 0, 1, 1), (1, .getfield 24, 3, 4), (4, .iconst 4, 1, 5), (5, .iaload, 1, 6), (6, .istore_n 1, 1, 7), (7, .iload_n 1, 1, 8), (8, .bipush 6, 2, 10), (10, .if_icmp .ne 8, 3, 13), (13, .aload_n 0, 1, 14), (14, .iconst 4, 1, 15), (15, .invokevirtual 168, 3, 18), (18, .aload_n 0, 1, 19), (19, .getfield 156, 3, 22), (22, .ifCond .eq 4, 3, 25), (25, .return_, 1, 26), (26, .aload_n 0, 1, 27), (27, .invokevirtual 165, 3, 30), (30, .aload_n 0, 1, 31), (31, .bipush 49, 2, 33), (33, .iload_n 1, 1, 34), (34, .iadd, 1, 35), (35, .bipush 55, 2, 37), (37, .iload_n 1, 1, 38), (38, .iadd, 1, 39), (39, .invokevirtual 209, 3, 42), (42, .aload_n 0, 1, 43), (43, .getfield 24, 3, 46), (46, .iconst 4, 1, 47), (47, .dup2, 1, 48), (48, .iaload, 1, 49), (49, .iconst 1, 1, 50), (50, .iadd, 1, 51), (51, .iastore, 1, 52), (52, .aload_n 0, 1, 53), (53, .iconst 1, 1, 54), (54, .putfield 213, 3, 57), (57, .return_, 1, 58)]
set_option maxRecDepth 20000 in
theorem dX10_readTenant : dcL cX10_readTenant lX10_readTenantL = true := by decide +kernel
def b_X10_readTenant_18 (F : Nat) (h : PH) (v0 : Nat) (v1 : Int32) : Option (Unit × PH) := (gI 10 11 h v0).bind fun x1 => (if x1 = 0 then (cO 10 h v0 (bind2 (m_X10_next F h v0) fun _ h3 => (cO 10 h3 v0 (bind2 (m_X10_readAt F h3 v0 (((49 : Int32) + v1)) (((55 : Int32) + v1))) fun _ h5 => ((gR 10 4 h5 v0).bind fun a6 => ((aI 0 h5 a6 (4 : Int32)).bind fun x7 => ((sI 0 h5 a6 (4 : Int32) ((x7 + (1 : Int32)))).bind fun h8 => ((pZ 10 18 (1 : Int32) h8 v0).bind fun h9 => (some ((), h9)))))))))) else (some ((), h)))
set_option maxRecDepth 20000 in
theorem t_X10_readTenant_18 {M : MV} {X : XT} {F : Nat} {h hz : PH} {r : Unit} {ce sl mc ms : Nat} {v0 : Nat} {v1 : Int32} (hc : Cx M X RX10 cX10_readTenant) (hr : Rx M 135 7832 mc ms 2) (he : Ex M X none "readTenant" none hz mc ms) (hm : ce ≤ mc) (hs : sl ≤ ms) (hf : b_X10_readTenant_18 F h v0 v1 = some (r, hz)) : GG M X h ce sl 18 [(0, .ref (X.1 + v0)), (1, .int v1)] [] := by
  unfold b_X10_readTenant_18 at hf
  refine r_aload_n hc 0 (dc_at dX10_readTenant 11 rfl) rfl ?_
  refine r_getI hc (dc_at dX10_readTenant 12 rfl) fl_X10_156 hf fun x1 hf => ?_
  refine r_if_eq (tgt := 26) hc (dc_at dX10_readTenant 13 rfl) (by decide) hf (fun hf => ?_) (fun hf => ?_)
  · refine r_aload_n hc 0 (dc_at dX10_readTenant 15 rfl) rfl ?_
    obtain ⟨ho, hf⟩ := cO_some hf
    refine ob2 hf fun u h3 ex hf => ?_
    refine r_callVv (As := []) (ci := 10) hc hr (dc_at dX10_readTenant 16 rfl) ml_X10_165 mv_X10_next vi_X10_next rfl ho rfl (mt_X10_next ex) (by first | exact Nat.le_of_ble_eq_true rfl | omega) (by first | exact Nat.le_of_ble_eq_true rfl | omega) (by first | exact Nat.le_of_ble_eq_true rfl | omega) hm hs ?_
    refine r_aload_n hc 0 (dc_at dX10_readTenant 17 rfl) rfl ?_
    refine r_bipush (49 : Int32) hc (dc_at dX10_readTenant 18 rfl) (by decide) ?_
    refine r_iload_n hc 1 (dc_at dX10_readTenant 19 rfl) rfl ?_
    refine r_iadd hc (dc_at dX10_readTenant 20 rfl) ?_
    refine r_bipush (55 : Int32) hc (dc_at dX10_readTenant 21 rfl) (by decide) ?_
    refine r_iload_n hc 1 (dc_at dX10_readTenant 22 rfl) rfl ?_
    refine r_iadd hc (dc_at dX10_readTenant 23 rfl) ?_
    obtain ⟨ho, hf⟩ := cO_some hf
    refine ob2 hf fun u h5 ex hf => ?_
    refine r_callVv (As := [.int (((49 : Int32) + v1)), .int (((55 : Int32) + v1))]) (ci := 10) hc hr (dc_at dX10_readTenant 24 rfl) ml_X10_209 mv_X10_readAt vi_X10_readAt rfl ho rfl (mt_X10_readAt ex) (by first | exact Nat.le_of_ble_eq_true rfl | omega) (by first | exact Nat.le_of_ble_eq_true rfl | omega) (by first | exact Nat.le_of_ble_eq_true rfl | omega) hm hs ?_
    refine r_aload_n hc 0 (dc_at dX10_readTenant 25 rfl) rfl ?_
    refine r_getR hc (dc_at dX10_readTenant 26 rfl) fl_X10_24 hf fun a6 hf => ?_
    refine r_iconst (4 : Int32) hc (dc_at dX10_readTenant 27 rfl) (by decide) ?_
    refine r_dup2 hc (dc_at dX10_readTenant 28 rfl) rfl rfl ?_
    refine r_iaload hc (dc_at dX10_readTenant 29 rfl) hf fun x7 hf => ?_
    refine r_iconst (1 : Int32) hc (dc_at dX10_readTenant 30 rfl) (by decide) ?_
    refine r_iadd hc (dc_at dX10_readTenant 31 rfl) ?_
    refine r_iastore hc (dc_at dX10_readTenant 32 rfl) hf fun h8 hf => ?_
    refine r_aload_n hc 0 (dc_at dX10_readTenant 33 rfl) rfl ?_
    refine r_iconst (1 : Int32) hc (dc_at dX10_readTenant 34 rfl) (by decide) ?_
    refine r_putZ hc he (dc_at dX10_readTenant 35 rfl) fp_X10_213 (fun q => by cases q) hf fun h9 hf => ?_
    exact r_vret hc he (hm) (hs) (dc_at dX10_readTenant 36 rfl) hf
  · exact r_vret hc he (hm) (hs) (dc_at dX10_readTenant 14 rfl) hf
def b_X10_readTenant_0 (F : Nat) (h : PH) (v0 : Nat) : Option (Unit × PH) := (gR 10 4 h v0).bind fun a1 => ((aI 0 h a1 (4 : Int32)).bind fun x2 => (if x2 = (6 : Int32) then (cO 10 h v0 (bind2 (m_X10_fails h v0 (4 : Int32)) fun _ h4 => (b_X10_readTenant_18 F h4 v0 x2))) else (b_X10_readTenant_18 F h v0 x2)))
set_option maxRecDepth 20000 in
theorem t_X10_readTenant_0 {M : MV} {X : XT} {F : Nat} {h hz : PH} {r : Unit} {ce sl mc ms : Nat} {v0 : Nat} (hc : Cx M X RX10 cX10_readTenant) (hr : Rx M 135 7832 mc ms 2) (he : Ex M X none "readTenant" none hz mc ms) (hm : ce ≤ mc) (hs : sl ≤ ms) (hf : b_X10_readTenant_0 F h v0 = some (r, hz)) : GG M X h ce sl 0 [(0, .ref (X.1 + v0))] [] := by
  unfold b_X10_readTenant_0 at hf
  refine r_aload_n hc 0 (dc_at dX10_readTenant 0 rfl) rfl ?_
  refine r_getR hc (dc_at dX10_readTenant 1 rfl) fl_X10_24 hf fun a1 hf => ?_
  refine r_iconst (4 : Int32) hc (dc_at dX10_readTenant 2 rfl) (by decide) ?_
  refine r_iaload hc (dc_at dX10_readTenant 3 rfl) hf fun x2 hf => ?_
  refine r_istore_n [(1, .int x2), (0, .ref (X.1 + v0))] hc hr (dc_at dX10_readTenant 4 rfl) (by decide) rfl ?_
  refine r_iload_n hc 0 (dc_at dX10_readTenant 5 rfl) rfl ?_
  refine r_bipush (6 : Int32) hc (dc_at dX10_readTenant 6 rfl) (by decide) ?_
  refine r_icmp_ne (tgt := 18) hc (dc_at dX10_readTenant 7 rfl) (by decide) hf (fun hf => ?_) (fun hf => ?_)
  · exact gg_sub [1, 0] rfl (t_X10_readTenant_18 hc hr he hm hs  hf)
  · refine r_aload_n hc 1 (dc_at dX10_readTenant 8 rfl) rfl ?_
    refine r_iconst (4 : Int32) hc (dc_at dX10_readTenant 9 rfl) (by decide) ?_
    obtain ⟨ho, hf⟩ := cO_some hf
    refine ob2 hf fun u h4 ex hf => ?_
    refine r_callVv (As := [.int ((4 : Int32))]) (ci := 10) hc hr (dc_at dX10_readTenant 10 rfl) ml_X10_168 mv_X10_fails vi_X10_fails rfl ho rfl (mt_X10_fails ex) (by first | exact Nat.le_of_ble_eq_true rfl | omega) (by first | exact Nat.le_of_ble_eq_true rfl | omega) (by first | exact Nat.le_of_ble_eq_true rfl | omega) hm hs ?_
    exact gg_sub [1, 0] rfl (t_X10_readTenant_18 hc hr he hm hs  hf)
def m_X10_readTenant (F : Nat) (h : PH) (p0 : Nat) : Option (Unit × PH) := b_X10_readTenant_0 F h p0
theorem mt_X10_readTenant {l : Launch} {X : XT} {F : Nat} {h hz : PH} {p0 : Nat} {r : Unit} (ex : m_X10_readTenant F h p0 = some (r, hz)) : MT l X yX10_readTenant cX10_readTenant 2 none 135 7832 0 0 [.ref (X.1 + p0)] h none hz := MT.of (by decide) (Nat.le_of_ble_eq_true rfl) fun M hl hc hr he => by
  subst hl
  exact gg_sub [0] rfl (t_X10_readTenant_0  hc hr he (Nat.zero_le _) (Nat.zero_le _) ex)
