/-! FractionLift$Routes.seekFewest(II)I -/
def lX5_seekFewestL : List (Nat × Instr × Nat × Nat) := [(0, .aload_n 0, 1, 1), (1, .getfield 29, 3, 4), (4, .getfield 36, 3, 7), (7, .iload_n 1, 1, 8), (8, .if_icmp .ne 16, 3, 11), (11, .aload_n 0, 1, 12), (12, .getfield 29, 3, 15), (15, .getfield 42, 3, 18), (18, .iload_n 2, 1, 19), (19, .if_icmp .ne 5, 3, 22), (22, .iconst 0, 1, 23), (23, .ireturn, 1, 24), (24, .iconst 0, 1, 25), (25, .istore_n 3, 1, 26), (26, .iconst 1, 1, 27), (27, .istore 4, 2, 29), (29, .iload 4, 2, 31), (31, .bipush 8, 2, 33), (33, .if_icmp .gt 81, 3, 36), (36, .aload_n 0, 1, 37), (37, .getfield 18, 3, 40), (40, .getfield 49, 3, 43), (43, .istore 5, 2, 45), (45, .aload_n 0, 1, 46), (46, .iload_n 1, 1, 47), (47, .iload_n 2, 1, 48), (48, .iload_n 3, 1, 49), (49, .iload 5, 2, 51), (51, .invokevirtual 52, 3, 54), (54, .ifCond .eq 20, 3, 57), (57, .aload_n 0, 1, 58), (58, .aload_n 0, 1, 59), (59, .getfield 56, 3, 62), (62, .iload 4, 2, 64), (64, .aload_n 0, 1, 65), (65, .getfield 22, 3, 68), (68, .invokevirtual 59, 3, 71), (71, .iload 4, 2, 73), (73, .ireturn, 1, 74), (74, .aload_n 0, 1, 75), (75, .getfield 18, 3, 78), (78, .getfield 49, 3, 81), (81, .sipush 2000, 3, 84), (84, .if_icmp .le 7, 3, 87), (87, .sipush (-1000), 3, 90), (90, .ireturn, 1, 91), (91, .aload_n 0, 1, 92), (92, .getfield 18, 3, 95), (95, .getfield 49, 3, 98), (98, .iload 5, 2, 100), (100, .if_icmp .ne 5, 3, 103), (103, .iconst (-1), 1, 104), (104, .ireturn, 1, 105), (105, .iload 5, 2, 107), (107, .istore_n 3, 1, 108), (108, .iinc 4 1, 3, 111), (111, .goto (-82), 3, 114), (114, .iconst (-1), 1, 115), (115, .ireturn, 1, 116)]
set_option maxRecDepth 20000 in
theorem dX5_seekFewest : dcL cX5_seekFewest lX5_seekFewestL = true := by decide +kernel
def b_X5_seekFewest_29 (F : Nat) (self16 : PH → Nat → Int32 → Int32 → Int32 → Int32 → Option (Int32 × PH)) (h : PH) (v0 : Nat) (v1 : Int32) (v2 : Int32) (v3 : Int32) (v4 : Int32) : Option (Int32 × PH) := if (8 : Int32) < v4 then (some ((-1 : Int32), h)) else ((gR 5 0 h v0).bind fun a1 => ((gI 1 4 h a1).bind fun x2 => (cO 5 h v0 (bind2 (m_X5_stepTowards F h v0 v1 v2 v3 x2) fun x3 h4 => (if x3 = 0 then ((gR 5 0 h4 v0).bind fun a5 => ((gI 1 4 h4 a5).bind fun x6 => (if x6 ≤ (2000 : Int32) then ((gR 5 0 h4 v0).bind fun a7 => ((gI 1 4 h4 a7).bind fun x8 => (if x8 = x2 then (some ((-1 : Int32), h4)) else (bindv (v4 + (1)) fun x9 => (self16 h4 v0 v1 v2 x2 x9))))) else (some ((-1000 : Int32), h4))))) else ((gI 5 6 h4 v0).bind fun x10 => ((gR 5 1 h4 v0).bind fun a11 => (cO 5 h4 v0 (bind2 (m_X5_traceRow F h4 v0 x10 v4 a11) fun _ h13 => (some (v4, h13)))))))))))
set_option maxRecDepth 20000 in
theorem tb_X5_seekFewest_29 {M : MV} {X : XT} {F : Nat} {self16 : PH → Nat → Int32 → Int32 → Int32 → Int32 → Option (Int32 × PH)} {h hz : PH} {r : Int32} {ce sl mc ms : Nat} {v0 : Nat} {v1 : Int32} {v2 : Int32} {v3 : Int32} {v4 : Int32} (hc : Cx M X RX5 cX5_seekFewest) (hr : Rx M 6 350 mc ms 6) (he : Ex M X (some .int) "seekFewest" (some (.int r)) hz mc ms) (hm : ce ≤ mc) (hs : sl ≤ ms) (ih16 : ∀ (h : PH) (v0 : Nat) (v1 : Int32) (v2 : Int32) (v3 : Int32) (v4 : Int32), self16 h v0 v1 v2 v3 v4 = some (r, hz) → GG M X h ce sl 29 [(0, .ref (X.1 + v0)), (1, .int v1), (2, .int v2), (3, .int v3), (4, .int v4)] []) (hf : b_X5_seekFewest_29 F self16 h v0 v1 v2 v3 v4 = some (r, hz)) : GG M X h ce sl 29 [(0, .ref (X.1 + v0)), (1, .int v1), (2, .int v2), (3, .int v3), (4, .int v4)] [] := by
  unfold b_X5_seekFewest_29 at hf
  refine r_iload hc 4 (dc_at dX5_seekFewest 16 rfl) rfl ?_
  refine r_bipush (8 : Int32) hc (dc_at dX5_seekFewest 17 rfl) (by decide) ?_
  refine r_icmp_gt (tgt := 114) hc (dc_at dX5_seekFewest 18 rfl) (by decide) hf (fun hf => ?_) (fun hf => ?_)
  · refine r_iconst (-1 : Int32) hc (dc_at dX5_seekFewest 57 rfl) (by decide) ?_
    exact r_iret hc he (hm) (hs) (dc_at dX5_seekFewest 58 rfl) hf
  · refine r_aload_n hc 0 (dc_at dX5_seekFewest 19 rfl) rfl ?_
    refine r_getR hc (dc_at dX5_seekFewest 20 rfl) fl_X5_18 hf fun a1 hf => ?_
    refine r_getI hc (dc_at dX5_seekFewest 21 rfl) fl_X5_49 hf fun x2 hf => ?_
    refine r_istore [(5, .int x2), (0, .ref (X.1 + v0)), (1, .int v1), (2, .int v2), (3, .int v3), (4, .int v4)] hc hr (dc_at dX5_seekFewest 22 rfl) (by decide) rfl ?_
    refine r_aload_n hc 1 (dc_at dX5_seekFewest 23 rfl) rfl ?_
    refine r_iload_n hc 2 (dc_at dX5_seekFewest 24 rfl) rfl ?_
    refine r_iload_n hc 3 (dc_at dX5_seekFewest 25 rfl) rfl ?_
    refine r_iload_n hc 4 (dc_at dX5_seekFewest 26 rfl) rfl ?_
    refine r_iload hc 0 (dc_at dX5_seekFewest 27 rfl) rfl ?_
    obtain ⟨ho, hf⟩ := cO_some hf
    refine ob2 hf fun x3 h4 ex hf => ?_
    refine r_callVi (As := [.int v1, .int v2, .int v3, .int x2]) (ci := 5) hc hr (dc_at dX5_seekFewest 28 rfl) ml_X5_52 mv_X5_stepTowards vi_X5_stepTowards rfl ho rfl (mt_X5_stepTowards ex) (by first | exact Nat.le_of_ble_eq_true rfl | omega) (by first | exact Nat.le_of_ble_eq_true rfl | omega) (by first | exact Nat.le_of_ble_eq_true rfl | omega) hm hs ?_
    refine r_if_eq (tgt := 74) hc (dc_at dX5_seekFewest 29 rfl) (by decide) hf (fun hf => ?_) (fun hf => ?_)
    · refine r_aload_n hc 1 (dc_at dX5_seekFewest 39 rfl) rfl ?_
      refine r_getR hc (dc_at dX5_seekFewest 40 rfl) fl_X5_18 hf fun a5 hf => ?_
      refine r_getI hc (dc_at dX5_seekFewest 41 rfl) fl_X5_49 hf fun x6 hf => ?_
      refine r_sipush (2000 : Int32) hc (dc_at dX5_seekFewest 42 rfl) (by decide) ?_
      refine r_icmp_le (tgt := 91) hc (dc_at dX5_seekFewest 43 rfl) (by decide) hf (fun hf => ?_) (fun hf => ?_)
      · refine r_aload_n hc 1 (dc_at dX5_seekFewest 46 rfl) rfl ?_
        refine r_getR hc (dc_at dX5_seekFewest 47 rfl) fl_X5_18 hf fun a7 hf => ?_
        refine r_getI hc (dc_at dX5_seekFewest 48 rfl) fl_X5_49 hf fun x8 hf => ?_
        refine r_iload hc 0 (dc_at dX5_seekFewest 49 rfl) rfl ?_
        refine r_icmp_ne (tgt := 105) hc (dc_at dX5_seekFewest 50 rfl) (by decide) hf (fun hf => ?_) (fun hf => ?_)
        · refine r_iload hc 0 (dc_at dX5_seekFewest 53 rfl) rfl ?_
          refine r_istore_n [(3, .int x2), (5, .int x2), (0, .ref (X.1 + v0)), (1, .int v1), (2, .int v2), (4, .int v4)] hc hr (dc_at dX5_seekFewest 54 rfl) (by decide) rfl ?_
          refine obv hf fun x9 e_x9 hf => ?_
          refine r_iinc 5 [(4, .int x9), (3, .int x2), (5, .int x2), (0, .ref (X.1 + v0)), (1, .int v1), (2, .int v2)] hc hr (dc_at dX5_seekFewest 55 rfl) rfl (by rw [e_x9]; rfl) (by decide) rfl ?_
          refine r_goto (tgt := 29) hc (dc_at dX5_seekFewest 56 rfl) (by decide) ?_
          exact gg_sub [3, 4, 5, 1, 0] rfl (ih16 _ _ _ _ _ _ hf)
        · refine r_iconst (-1 : Int32) hc (dc_at dX5_seekFewest 51 rfl) (by decide) ?_
          exact r_iret hc he (hm) (hs) (dc_at dX5_seekFewest 52 rfl) hf
      · refine r_sipush (-1000 : Int32) hc (dc_at dX5_seekFewest 44 rfl) (by decide) ?_
        exact r_iret hc he (hm) (hs) (dc_at dX5_seekFewest 45 rfl) hf
    · refine r_aload_n hc 1 (dc_at dX5_seekFewest 30 rfl) rfl ?_
      refine r_aload_n hc 1 (dc_at dX5_seekFewest 31 rfl) rfl ?_
      refine r_getI hc (dc_at dX5_seekFewest 32 rfl) fl_X5_56 hf fun x10 hf => ?_
      refine r_iload hc 5 (dc_at dX5_seekFewest 33 rfl) rfl ?_
      refine r_aload_n hc 1 (dc_at dX5_seekFewest 34 rfl) rfl ?_
      refine r_getR hc (dc_at dX5_seekFewest 35 rfl) fl_X5_22 hf fun a11 hf => ?_
      obtain ⟨ho, hf⟩ := cO_some hf
      refine ob2 hf fun u h13 ex hf => ?_
      refine r_callVv (As := [.int x10, .int v4, .ref (X.1 + a11)]) (ci := 5) hc hr (dc_at dX5_seekFewest 36 rfl) ml_X5_59 mv_X5_traceRow vi_X5_traceRow rfl ho rfl (mt_X5_traceRow ex) (by first | exact Nat.le_of_ble_eq_true rfl | omega) (by first | exact Nat.le_of_ble_eq_true rfl | omega) (by first | exact Nat.le_of_ble_eq_true rfl | omega) hm hs ?_
      refine r_iload hc 5 (dc_at dX5_seekFewest 37 rfl) rfl ?_
      exact r_iret hc he (hm) (hs) (dc_at dX5_seekFewest 38 rfl) hf
def l_X5_seekFewest_29 (F : Nat) : Nat → PH → Nat → Int32 → Int32 → Int32 → Int32 → Option (Int32 × PH)
  | 0 => fun _ _ _ _ _ _ => none
  | n + 1 => fun h v0 v1 v2 v3 v4 => b_X5_seekFewest_29 F (l_X5_seekFewest_29 F n) h v0 v1 v2 v3 v4
theorem tl_X5_seekFewest_29 {M : MV} {X : XT} {F : Nat} {hz : PH} {r : Int32} {ce sl mc ms : Nat} (hc : Cx M X RX5 cX5_seekFewest) (hr : Rx M 6 350 mc ms 6) (he : Ex M X (some .int) "seekFewest" (some (.int r)) hz mc ms) (hm : ce ≤ mc) (hs : sl ≤ ms) (n : Nat) : ∀ (h : PH) (v0 : Nat) (v1 : Int32) (v2 : Int32) (v3 : Int32) (v4 : Int32), l_X5_seekFewest_29 F n h v0 v1 v2 v3 v4 = some (r, hz) → GG M X h ce sl 29 [(0, .ref (X.1 + v0)), (1, .int v1), (2, .int v2), (3, .int v3), (4, .int v4)] [] := by
  induction n with
  | zero => intro h v0 v1 v2 v3 v4 hf; cases hf
  | succ n ih => intro h v0 v1 v2 v3 v4 hf; exact tb_X5_seekFewest_29 (F := F) hc hr he hm hs  ih hf
def b_X5_seekFewest_24 (F : Nat) (h : PH) (v0 : Nat) (v1 : Int32) (v2 : Int32) : Option (Int32 × PH) := l_X5_seekFewest_29 F F h v0 v1 v2 (0 : Int32) (1 : Int32)
set_option maxRecDepth 20000 in
theorem t_X5_seekFewest_24 {M : MV} {X : XT} {F : Nat} {h hz : PH} {r : Int32} {ce sl mc ms : Nat} {v0 : Nat} {v1 : Int32} {v2 : Int32} (hc : Cx M X RX5 cX5_seekFewest) (hr : Rx M 6 350 mc ms 6) (he : Ex M X (some .int) "seekFewest" (some (.int r)) hz mc ms) (hm : ce ≤ mc) (hs : sl ≤ ms) (hf : b_X5_seekFewest_24 F h v0 v1 v2 = some (r, hz)) : GG M X h ce sl 24 [(0, .ref (X.1 + v0)), (1, .int v1), (2, .int v2)] [] := by
  unfold b_X5_seekFewest_24 at hf
  refine r_iconst (0 : Int32) hc (dc_at dX5_seekFewest 12 rfl) (by decide) ?_
  refine r_istore_n [(3, .int ((0 : Int32))), (0, .ref (X.1 + v0)), (1, .int v1), (2, .int v2)] hc hr (dc_at dX5_seekFewest 13 rfl) (by decide) rfl ?_
  refine r_iconst (1 : Int32) hc (dc_at dX5_seekFewest 14 rfl) (by decide) ?_
  refine r_istore [(4, .int ((1 : Int32))), (3, .int ((0 : Int32))), (0, .ref (X.1 + v0)), (1, .int v1), (2, .int v2)] hc hr (dc_at dX5_seekFewest 15 rfl) (by decide) rfl ?_
  exact gg_sub [2, 3, 4, 1, 0] rfl (tl_X5_seekFewest_29 hc hr he hm hs  F _ _ _ _ _ _ hf)
def b_X5_seekFewest_0 (F : Nat) (h : PH) (v0 : Nat) (v1 : Int32) (v2 : Int32) : Option (Int32 × PH) := (gR 5 5 h v0).bind fun a1 => ((gI 0 4 h a1).bind fun x2 => (if x2 = v1 then ((gR 5 5 h v0).bind fun a3 => ((gI 0 5 h a3).bind fun x4 => (if x4 = v2 then (some ((0 : Int32), h)) else (b_X5_seekFewest_24 F h v0 v1 v2)))) else (b_X5_seekFewest_24 F h v0 v1 v2)))
set_option maxRecDepth 20000 in
theorem t_X5_seekFewest_0 {M : MV} {X : XT} {F : Nat} {h hz : PH} {r : Int32} {ce sl mc ms : Nat} {v0 : Nat} {v1 : Int32} {v2 : Int32} (hc : Cx M X RX5 cX5_seekFewest) (hr : Rx M 6 350 mc ms 6) (he : Ex M X (some .int) "seekFewest" (some (.int r)) hz mc ms) (hm : ce ≤ mc) (hs : sl ≤ ms) (hf : b_X5_seekFewest_0 F h v0 v1 v2 = some (r, hz)) : GG M X h ce sl 0 [(0, .ref (X.1 + v0)), (1, .int v1), (2, .int v2)] [] := by
  unfold b_X5_seekFewest_0 at hf
  refine r_aload_n hc 0 (dc_at dX5_seekFewest 0 rfl) rfl ?_
  refine r_getR hc (dc_at dX5_seekFewest 1 rfl) fl_X5_29 hf fun a1 hf => ?_
  refine r_getI hc (dc_at dX5_seekFewest 2 rfl) fl_X5_36 hf fun x2 hf => ?_
  refine r_iload_n hc 1 (dc_at dX5_seekFewest 3 rfl) rfl ?_
  refine r_icmp_ne (tgt := 24) hc (dc_at dX5_seekFewest 4 rfl) (by decide) hf (fun hf => ?_) (fun hf => ?_)
  · exact gg_sub [0, 1, 2] rfl (t_X5_seekFewest_24 hc hr he hm hs  hf)
  · refine r_aload_n hc 0 (dc_at dX5_seekFewest 5 rfl) rfl ?_
    refine r_getR hc (dc_at dX5_seekFewest 6 rfl) fl_X5_29 hf fun a3 hf => ?_
    refine r_getI hc (dc_at dX5_seekFewest 7 rfl) fl_X5_42 hf fun x4 hf => ?_
    refine r_iload_n hc 2 (dc_at dX5_seekFewest 8 rfl) rfl ?_
    refine r_icmp_ne (tgt := 24) hc (dc_at dX5_seekFewest 9 rfl) (by decide) hf (fun hf => ?_) (fun hf => ?_)
    · exact gg_sub [0, 1, 2] rfl (t_X5_seekFewest_24 hc hr he hm hs  hf)
    · refine r_iconst (0 : Int32) hc (dc_at dX5_seekFewest 10 rfl) (by decide) ?_
      exact r_iret hc he (hm) (hs) (dc_at dX5_seekFewest 11 rfl) hf
def m_X5_seekFewest (F : Nat) (h : PH) (p0 : Nat) (p1 : Int32) (p2 : Int32) : Option (Int32 × PH) := b_X5_seekFewest_0 F h p0 p1 p2
theorem mt_X5_seekFewest {l : Launch} {X : XT} {F : Nat} {h hz : PH} {p0 : Nat} {p1 : Int32} {p2 : Int32} {r : Int32} (ex : m_X5_seekFewest F h p0 p1 p2 = some (r, hz)) : MT l X yX5_seekFewest cX5_seekFewest 6 (some .int) 6 350 0 0 [.ref (X.1 + p0), .int p1, .int p2] h (some (.int r)) hz := MT.of (by decide) (Nat.le_of_ble_eq_true rfl) fun M hl hc hr he => by
  subst hl
  exact gg_sub [0, 1, 2] rfl (t_X5_seekFewest_0  hc hr he (Nat.zero_le _) (Nat.zero_le _) ex)
/-! FractionLift$Routes.spread(III)V -/
def lX5_spreadL : List (Nat × Instr × Nat × Nat) := [(0, .iload_n 1, 1, 1), (1, .istore 4, 2, 3), (3, .iload 4, 2, 5), (5, .iload_n 2, 1, 6), (6, .if_icmp .ge 130, 3, 9), (9, .iconst 0, 1, 10), (10, .istore 5, 2, 12), (12, .iload 5, 2, 14), (14, .aload_n 0, 1, 15), (15, .getfield 29, 3, 18), (18, .getfield 63, 3, 21), (21, .if_icmp .ge 109, 3, 24), (24, .aload_n 0, 1, 25), (25, .getfield 9, 3, 28), (28, .aload_n 0, 1, 29), (29, .getfield 29, 3, 32), (32, .iload 5, 2, 34), (34, .aload_n 0, 1, 35), (35, .getfield 18, 3, 38), (38, .getfield 66, 3, 41), (41, .iload 4, 2, 43), (43, .iaload, 1, 44), (44, .i2l, 1, 45), (45, .aload_n 0, 1, 46), (46, .getfield 18, 3, 49), (49, .getfield 69, 3, 52), (52, .iload 4, 2, 54), (54, .iaload, 1, 55), (55, .i2l, 1, 56), (56, .invokevirtual 72, 3, 59), (59, .ifCond .ne 65, 3, 62), (62, .aload_n 0, 1, 63), (63, .getfield 18, 3, 66), (66, .aload_n 0, 1, 67), (67, .getfield 9, 3, 70), (70, .getfield 78, 3, 73), (73, .aload_n 0, 1, 74), (74, .getfield 9, 3, 77), (77, .getfield 80, 3, 80), (80, .iload_n 3, 1, 81), (81, .aload_n 0, 1, 82), (82, .getfield 18, 3, 85), (85, .getfield 49, 3, 88), (88, .invokevirtual 82, 3, 91), (91, .iconst (-1), 1, 92), (92, .if_icmp .ne 32, 3, 95), (95, .aload_n 0, 1, 96), (96, .getfield 18, 3, 99), (99, .aload_n 0, 1, 100), (100, .getfield 9, 3, 103), (103, .getfield 78, 3, 106), (106, .aload_n 0, 1, 107), (107, .getfield 9, 3, 110), (110, .getfield 80, 3, 113), (113, .iload 4, 2, 115), (115, .bipush 6, 2, 117), (117, .imul, 1, 118), (118, .iload 5, 2, 120), (120, .iadd, 1, 121), (121, .invokevirtual 45, 3, 124), (124, .iinc 5 1, 3, 127), (127, .goto (-115), 3, 130), (130, .iinc 4 1, 3, 133), (133, .goto (-130), 3, 136), (136, .return_, 1, 137)]
set_option maxRecDepth 20000 in
theorem dX5_spread : dcL cX5_spread lX5_spreadL = true := by decide +kernel
def b_X5_spread_124 (F : Nat) (self2 : PH → Nat → Int32 → Int32 → Int32 → Option (Unit × PH)) (self7 : PH → Nat → Int32 → Int32 → Int32 → Int32 → Option (Unit × PH)) (h : PH) (v0 : Nat) (v2 : Int32) (v3 : Int32) (v4 : Int32) (v5 : Int32) : Option (Unit × PH) := bindv (v5 + (1)) fun x1 => (self7 h v0 v2 v3 v4 x1)
set_option maxRecDepth 20000 in
theorem t_X5_spread_124 {M : MV} {X : XT} {F : Nat} {self2 : PH → Nat → Int32 → Int32 → Int32 → Option (Unit × PH)} {self7 : PH → Nat → Int32 → Int32 → Int32 → Int32 → Option (Unit × PH)} {h hz : PH} {r : Unit} {ce sl mc ms : Nat} {v0 : Nat} {v2 : Int32} {v3 : Int32} {v4 : Int32} {v5 : Int32} (hc : Cx M X RX5 cX5_spread) (hr : Rx M 5 292 mc ms 6) (he : Ex M X none "spread" none hz mc ms) (hm : ce ≤ mc) (hs : sl ≤ ms) (ih2 : ∀ (h : PH) (v0 : Nat) (v2 : Int32) (v3 : Int32) (v4 : Int32), self2 h v0 v2 v3 v4 = some (r, hz) → GG M X h ce sl 3 [(0, .ref (X.1 + v0)), (2, .int v2), (3, .int v3), (4, .int v4)] []) (ih7 : ∀ (h : PH) (v0 : Nat) (v2 : Int32) (v3 : Int32) (v4 : Int32) (v5 : Int32), self7 h v0 v2 v3 v4 v5 = some (r, hz) → GG M X h ce sl 12 [(0, .ref (X.1 + v0)), (2, .int v2), (3, .int v3), (4, .int v4), (5, .int v5)] []) (hf : b_X5_spread_124 F self2 self7 h v0 v2 v3 v4 v5 = some (r, hz)) : GG M X h ce sl 124 [(0, .ref (X.1 + v0)), (2, .int v2), (3, .int v3), (4, .int v4), (5, .int v5)] [] := by
  unfold b_X5_spread_124 at hf
  refine obv hf fun x1 e_x1 hf => ?_
  refine r_iinc 4 [(5, .int x1), (0, .ref (X.1 + v0)), (2, .int v2), (3, .int v3), (4, .int v4)] hc hr (dc_at dX5_spread 60 rfl) rfl (by rw [e_x1]; rfl) (by decide) rfl ?_
  refine r_goto (tgt := 12) hc (dc_at dX5_spread 61 rfl) (by decide) ?_
  exact gg_sub [1, 2, 3, 4, 0] rfl (ih7 _ _ _ _ _ _ hf)
def b_X5_spread_12 (F : Nat) (self2 : PH → Nat → Int32 → Int32 → Int32 → Option (Unit × PH)) (self7 : PH → Nat → Int32 → Int32 → Int32 → Int32 → Option (Unit × PH)) (h : PH) (v0 : Nat) (v2 : Int32) (v3 : Int32) (v4 : Int32) (v5 : Int32) : Option (Unit × PH) := (gR 5 5 h v0).bind fun a1 => ((gI 0 6 h a1).bind fun x2 => (if x2 ≤ v5 then (bindv (v4 + (1)) fun x3 => (self2 h v0 v2 v3 x3)) else ((gR 5 4 h v0).bind fun a4 => ((gR 5 5 h v0).bind fun a5 => ((gR 5 0 h v0).bind fun a6 => ((gR 1 0 h a6).bind fun a7 => ((aI 0 h a7 v4).bind fun x8 => ((gR 5 0 h v0).bind fun a9 => ((gR 1 1 h a9).bind fun a10 => ((aI 0 h a10 v4).bind fun x11 => (cO 4 h a4 (bind2 (m_X4_lead F h a4 a5 v5 (Int32.toInt64 x8) (Int32.toInt64 x11)) fun x12 h13 => (if x12 = 0 then ((gR 5 0 h13 v0).bind fun a14 => ((gR 5 4 h13 v0).bind fun a15 => ((gI 4 0 h13 a15).bind fun x16 => ((gR 5 4 h13 v0).bind fun a17 => ((gI 4 1 h13 a17).bind fun x18 => ((gR 5 0 h13 v0).bind fun a19 => ((gI 1 4 h13 a19).bind fun x20 => (cO 1 h13 a14 ((m_X1_find F h13 a14 x16 x18 v3 x20).bind fun x21 => (if x21 = (-1 : Int32) then ((gR 5 0 h13 v0).bind fun a22 => ((gR 5 4 h13 v0).bind fun a23 => ((gI 4 0 h13 a23).bind fun x24 => ((gR 5 4 h13 v0).bind fun a25 => ((gI 4 1 h13 a25).bind fun x26 => (cO 1 h13 a22 (bind2 (m_X1_put h13 a22 x24 x26 ((((v4 * (6 : Int32))) + v5))) fun _ h28 => (b_X5_spread_124 F self2 self7 h28 v0 v2 v3 v4 v5)))))))) else (b_X5_spread_124 F self2 self7 h13 v0 v2 v3 v4 v5))))))))))) else (b_X5_spread_124 F self2 self7 h13 v0 v2 v3 v4 v5))))))))))))))
set_option maxRecDepth 20000 in
theorem tb_X5_spread_12 {M : MV} {X : XT} {F : Nat} {self2 : PH → Nat → Int32 → Int32 → Int32 → Option (Unit × PH)} {self7 : PH → Nat → Int32 → Int32 → Int32 → Int32 → Option (Unit × PH)} {h hz : PH} {r : Unit} {ce sl mc ms : Nat} {v0 : Nat} {v2 : Int32} {v3 : Int32} {v4 : Int32} {v5 : Int32} (hc : Cx M X RX5 cX5_spread) (hr : Rx M 5 292 mc ms 6) (he : Ex M X none "spread" none hz mc ms) (hm : ce ≤ mc) (hs : sl ≤ ms) (ih2 : ∀ (h : PH) (v0 : Nat) (v2 : Int32) (v3 : Int32) (v4 : Int32), self2 h v0 v2 v3 v4 = some (r, hz) → GG M X h ce sl 3 [(0, .ref (X.1 + v0)), (2, .int v2), (3, .int v3), (4, .int v4)] []) (ih7 : ∀ (h : PH) (v0 : Nat) (v2 : Int32) (v3 : Int32) (v4 : Int32) (v5 : Int32), self7 h v0 v2 v3 v4 v5 = some (r, hz) → GG M X h ce sl 12 [(0, .ref (X.1 + v0)), (2, .int v2), (3, .int v3), (4, .int v4), (5, .int v5)] []) (hf : b_X5_spread_12 F self2 self7 h v0 v2 v3 v4 v5 = some (r, hz)) : GG M X h ce sl 12 [(0, .ref (X.1 + v0)), (2, .int v2), (3, .int v3), (4, .int v4), (5, .int v5)] [] := by
  unfold b_X5_spread_12 at hf
  refine r_iload hc 4 (dc_at dX5_spread 7 rfl) rfl ?_
  refine r_aload_n hc 0 (dc_at dX5_spread 8 rfl) rfl ?_
  refine r_getR hc (dc_at dX5_spread 9 rfl) fl_X5_29 hf fun a1 hf => ?_
  refine r_getI hc (dc_at dX5_spread 10 rfl) fl_X5_63 hf fun x2 hf => ?_
  refine r_icmp_ge (tgt := 130) hc (dc_at dX5_spread 11 rfl) (by decide) hf (fun hf => ?_) (fun hf => ?_)
  · refine obv hf fun x3 e_x3 hf => ?_
    refine r_iinc 3 [(4, .int x3), (0, .ref (X.1 + v0)), (2, .int v2), (3, .int v3), (5, .int v5)] hc hr (dc_at dX5_spread 62 rfl) rfl (by rw [e_x3]; rfl) (by decide) rfl ?_
    refine r_goto (tgt := 3) hc (dc_at dX5_spread 63 rfl) (by decide) ?_
    exact gg_sub [1, 2, 3, 0] rfl (ih2 _ _ _ _ _ hf)
  · refine r_aload_n hc 0 (dc_at dX5_spread 12 rfl) rfl ?_
    refine r_getR hc (dc_at dX5_spread 13 rfl) fl_X5_9 hf fun a4 hf => ?_
    refine r_aload_n hc 0 (dc_at dX5_spread 14 rfl) rfl ?_
    refine r_getR hc (dc_at dX5_spread 15 rfl) fl_X5_29 hf fun a5 hf => ?_
    refine r_iload hc 4 (dc_at dX5_spread 16 rfl) rfl ?_
    refine r_aload_n hc 0 (dc_at dX5_spread 17 rfl) rfl ?_
    refine r_getR hc (dc_at dX5_spread 18 rfl) fl_X5_18 hf fun a6 hf => ?_
    refine r_getR hc (dc_at dX5_spread 19 rfl) fl_X5_66 hf fun a7 hf => ?_
    refine r_iload hc 3 (dc_at dX5_spread 20 rfl) rfl ?_
    refine r_iaload hc (dc_at dX5_spread 21 rfl) hf fun x8 hf => ?_
    refine r_i2l hc (dc_at dX5_spread 22 rfl) ?_
    refine r_aload_n hc 0 (dc_at dX5_spread 23 rfl) rfl ?_
    refine r_getR hc (dc_at dX5_spread 24 rfl) fl_X5_18 hf fun a9 hf => ?_
    refine r_getR hc (dc_at dX5_spread 25 rfl) fl_X5_69 hf fun a10 hf => ?_
    refine r_iload hc 3 (dc_at dX5_spread 26 rfl) rfl ?_
    refine r_iaload hc (dc_at dX5_spread 27 rfl) hf fun x11 hf => ?_
    refine r_i2l hc (dc_at dX5_spread 28 rfl) ?_
    obtain ⟨ho, hf⟩ := cO_some hf
    refine ob2 hf fun x12 h13 ex hf => ?_
    refine r_callVi (As := [.ref (X.1 + a5), .int v5, .long ((Int32.toInt64 x8)), .long ((Int32.toInt64 x11))]) (ci := 4) hc hr (dc_at dX5_spread 29 rfl) ml_X5_72 mv_X4_lead vi_X4_lead rfl ho rfl (mt_X4_lead ex) (by first | exact Nat.le_of_ble_eq_true rfl | omega) (by first | exact Nat.le_of_ble_eq_true rfl | omega) (by first | exact Nat.le_of_ble_eq_true rfl | omega) hm hs ?_
    refine r_if_ne (tgt := 124) hc (dc_at dX5_spread 30 rfl) (by decide) hf (fun hf => ?_) (fun hf => ?_)
    · exact gg_sub [0, 1, 2, 3, 4] rfl (t_X5_spread_124 hc hr he hm hs ih2 ih7 hf)
    · refine r_aload_n hc 0 (dc_at dX5_spread 31 rfl) rfl ?_
      refine r_getR hc (dc_at dX5_spread 32 rfl) fl_X5_18 hf fun a14 hf => ?_
      refine r_aload_n hc 0 (dc_at dX5_spread 33 rfl) rfl ?_
      refine r_getR hc (dc_at dX5_spread 34 rfl) fl_X5_9 hf fun a15 hf => ?_
      refine r_getI hc (dc_at dX5_spread 35 rfl) fl_X5_78 hf fun x16 hf => ?_
      refine r_aload_n hc 0 (dc_at dX5_spread 36 rfl) rfl ?_
      refine r_getR hc (dc_at dX5_spread 37 rfl) fl_X5_9 hf fun a17 hf => ?_
      refine r_getI hc (dc_at dX5_spread 38 rfl) fl_X5_80 hf fun x18 hf => ?_
      refine r_iload_n hc 2 (dc_at dX5_spread 39 rfl) rfl ?_
      refine r_aload_n hc 0 (dc_at dX5_spread 40 rfl) rfl ?_
      refine r_getR hc (dc_at dX5_spread 41 rfl) fl_X5_18 hf fun a19 hf => ?_
      refine r_getI hc (dc_at dX5_spread 42 rfl) fl_X5_49 hf fun x20 hf => ?_
      obtain ⟨ho, hf⟩ := cO_some hf
      refine ob hf fun x21 ex hf => ?_
      refine r_callVi (As := [.int x16, .int x18, .int v3, .int x20]) (ci := 1) hc hr (dc_at dX5_spread 43 rfl) ml_X5_82 mv_X1_find vi_X1_find rfl ho rfl (mt_X1_find ex) (by first | exact Nat.le_of_ble_eq_true rfl | omega) (by first | exact Nat.le_of_ble_eq_true rfl | omega) (by first | exact Nat.le_of_ble_eq_true rfl | omega) hm hs ?_
      refine r_iconst (-1 : Int32) hc (dc_at dX5_spread 44 rfl) (by decide) ?_
      refine r_icmp_ne (tgt := 124) hc (dc_at dX5_spread 45 rfl) (by decide) hf (fun hf => ?_) (fun hf => ?_)
      · exact gg_sub [0, 1, 2, 3, 4] rfl (t_X5_spread_124 hc hr he hm hs ih2 ih7 hf)
      · refine r_aload_n hc 0 (dc_at dX5_spread 46 rfl) rfl ?_
        refine r_getR hc (dc_at dX5_spread 47 rfl) fl_X5_18 hf fun a22 hf => ?_
        refine r_aload_n hc 0 (dc_at dX5_spread 48 rfl) rfl ?_
        refine r_getR hc (dc_at dX5_spread 49 rfl) fl_X5_9 hf fun a23 hf => ?_
        refine r_getI hc (dc_at dX5_spread 50 rfl) fl_X5_78 hf fun x24 hf => ?_
        refine r_aload_n hc 0 (dc_at dX5_spread 51 rfl) rfl ?_
        refine r_getR hc (dc_at dX5_spread 52 rfl) fl_X5_9 hf fun a25 hf => ?_
        refine r_getI hc (dc_at dX5_spread 53 rfl) fl_X5_80 hf fun x26 hf => ?_
        refine r_iload hc 3 (dc_at dX5_spread 54 rfl) rfl ?_
        refine r_bipush (6 : Int32) hc (dc_at dX5_spread 55 rfl) (by decide) ?_
        refine r_imul hc (dc_at dX5_spread 56 rfl) ?_
        refine r_iload hc 4 (dc_at dX5_spread 57 rfl) rfl ?_
        refine r_iadd hc (dc_at dX5_spread 58 rfl) ?_
        obtain ⟨ho, hf⟩ := cO_some hf
        refine ob2 hf fun u h28 ex hf => ?_
        refine r_callVv (As := [.int x24, .int x26, .int ((((v4 * (6 : Int32))) + v5))]) (ci := 1) hc hr (dc_at dX5_spread 59 rfl) ml_X5_45 mv_X1_put vi_X1_put rfl ho rfl (mt_X1_put ex) (by first | exact Nat.le_of_ble_eq_true rfl | omega) (by first | exact Nat.le_of_ble_eq_true rfl | omega) (by first | exact Nat.le_of_ble_eq_true rfl | omega) hm hs ?_
        exact gg_sub [0, 1, 2, 3, 4] rfl (t_X5_spread_124 hc hr he hm hs ih2 ih7 hf)
def l_X5_spread_12 (F : Nat) (self2 : PH → Nat → Int32 → Int32 → Int32 → Option (Unit × PH)) : Nat → PH → Nat → Int32 → Int32 → Int32 → Int32 → Option (Unit × PH)
  | 0 => fun _ _ _ _ _ _ => none
  | n + 1 => fun h v0 v2 v3 v4 v5 => b_X5_spread_12 F self2 (l_X5_spread_12 F self2 n) h v0 v2 v3 v4 v5
theorem tl_X5_spread_12 {M : MV} {X : XT} {F : Nat} {self2 : PH → Nat → Int32 → Int32 → Int32 → Option (Unit × PH)} {hz : PH} {r : Unit} {ce sl mc ms : Nat} (hc : Cx M X RX5 cX5_spread) (hr : Rx M 5 292 mc ms 6) (he : Ex M X none "spread" none hz mc ms) (hm : ce ≤ mc) (hs : sl ≤ ms) (ih2 : ∀ (h : PH) (v0 : Nat) (v2 : Int32) (v3 : Int32) (v4 : Int32), self2 h v0 v2 v3 v4 = some (r, hz) → GG M X h ce sl 3 [(0, .ref (X.1 + v0)), (2, .int v2), (3, .int v3), (4, .int v4)] []) (n : Nat) : ∀ (h : PH) (v0 : Nat) (v2 : Int32) (v3 : Int32) (v4 : Int32) (v5 : Int32), l_X5_spread_12 F self2 n h v0 v2 v3 v4 v5 = some (r, hz) → GG M X h ce sl 12 [(0, .ref (X.1 + v0)), (2, .int v2), (3, .int v3), (4, .int v4), (5, .int v5)] [] := by
  induction n with
  | zero => intro h v0 v2 v3 v4 v5 hf; cases hf
  | succ n ih => intro h v0 v2 v3 v4 v5 hf; exact tb_X5_spread_12 (F := F) hc hr he hm hs ih2 ih hf
def b_X5_spread_3 (F : Nat) (self2 : PH → Nat → Int32 → Int32 → Int32 → Option (Unit × PH)) (h : PH) (v0 : Nat) (v2 : Int32) (v3 : Int32) (v4 : Int32) : Option (Unit × PH) := if v2 ≤ v4 then (some ((), h)) else (l_X5_spread_12 F self2 F h v0 v2 v3 v4 (0 : Int32))
set_option maxRecDepth 20000 in
theorem tb_X5_spread_3 {M : MV} {X : XT} {F : Nat} {self2 : PH → Nat → Int32 → Int32 → Int32 → Option (Unit × PH)} {h hz : PH} {r : Unit} {ce sl mc ms : Nat} {v0 : Nat} {v2 : Int32} {v3 : Int32} {v4 : Int32} (hc : Cx M X RX5 cX5_spread) (hr : Rx M 5 292 mc ms 6) (he : Ex M X none "spread" none hz mc ms) (hm : ce ≤ mc) (hs : sl ≤ ms) (ih2 : ∀ (h : PH) (v0 : Nat) (v2 : Int32) (v3 : Int32) (v4 : Int32), self2 h v0 v2 v3 v4 = some (r, hz) → GG M X h ce sl 3 [(0, .ref (X.1 + v0)), (2, .int v2), (3, .int v3), (4, .int v4)] []) (hf : b_X5_spread_3 F self2 h v0 v2 v3 v4 = some (r, hz)) : GG M X h ce sl 3 [(0, .ref (X.1 + v0)), (2, .int v2), (3, .int v3), (4, .int v4)] [] := by
  unfold b_X5_spread_3 at hf
  refine r_iload hc 3 (dc_at dX5_spread 2 rfl) rfl ?_
  refine r_iload_n hc 1 (dc_at dX5_spread 3 rfl) rfl ?_
  refine r_icmp_ge (tgt := 136) hc (dc_at dX5_spread 4 rfl) (by decide) hf (fun hf => ?_) (fun hf => ?_)
  · exact r_vret hc he (hm) (hs) (dc_at dX5_spread 64 rfl) hf
  · refine r_iconst (0 : Int32) hc (dc_at dX5_spread 5 rfl) (by decide) ?_
    refine r_istore [(5, .int ((0 : Int32))), (0, .ref (X.1 + v0)), (2, .int v2), (3, .int v3), (4, .int v4)] hc hr (dc_at dX5_spread 6 rfl) (by decide) rfl ?_
    exact gg_sub [1, 2, 3, 4, 0] rfl (tl_X5_spread_12 hc hr he hm hs ih2 F _ _ _ _ _ _ hf)
def l_X5_spread_3 (F : Nat) : Nat → PH → Nat → Int32 → Int32 → Int32 → Option (Unit × PH)
  | 0 => fun _ _ _ _ _ => none
  | n + 1 => fun h v0 v2 v3 v4 => b_X5_spread_3 F (l_X5_spread_3 F n) h v0 v2 v3 v4
theorem tl_X5_spread_3 {M : MV} {X : XT} {F : Nat} {hz : PH} {r : Unit} {ce sl mc ms : Nat} (hc : Cx M X RX5 cX5_spread) (hr : Rx M 5 292 mc ms 6) (he : Ex M X none "spread" none hz mc ms) (hm : ce ≤ mc) (hs : sl ≤ ms) (n : Nat) : ∀ (h : PH) (v0 : Nat) (v2 : Int32) (v3 : Int32) (v4 : Int32), l_X5_spread_3 F n h v0 v2 v3 v4 = some (r, hz) → GG M X h ce sl 3 [(0, .ref (X.1 + v0)), (2, .int v2), (3, .int v3), (4, .int v4)] [] := by
  induction n with
  | zero => intro h v0 v2 v3 v4 hf; cases hf
  | succ n ih => intro h v0 v2 v3 v4 hf; exact tb_X5_spread_3 (F := F) hc hr he hm hs  ih hf
def b_X5_spread_0 (F : Nat) (h : PH) (v0 : Nat) (v1 : Int32) (v2 : Int32) (v3 : Int32) : Option (Unit × PH) := l_X5_spread_3 F F h v0 v2 v3 v1
set_option maxRecDepth 20000 in
theorem t_X5_spread_0 {M : MV} {X : XT} {F : Nat} {h hz : PH} {r : Unit} {ce sl mc ms : Nat} {v0 : Nat} {v1 : Int32} {v2 : Int32} {v3 : Int32} (hc : Cx M X RX5 cX5_spread) (hr : Rx M 5 292 mc ms 6) (he : Ex M X none "spread" none hz mc ms) (hm : ce ≤ mc) (hs : sl ≤ ms) (hf : b_X5_spread_0 F h v0 v1 v2 v3 = some (r, hz)) : GG M X h ce sl 0 [(0, .ref (X.1 + v0)), (1, .int v1), (2, .int v2), (3, .int v3)] [] := by
  unfold b_X5_spread_0 at hf
  refine r_iload_n hc 1 (dc_at dX5_spread 0 rfl) rfl ?_
  refine r_istore [(4, .int v1), (0, .ref (X.1 + v0)), (1, .int v1), (2, .int v2), (3, .int v3)] hc hr (dc_at dX5_spread 1 rfl) (by decide) rfl ?_
  exact gg_sub [1, 3, 4, 0] rfl (tl_X5_spread_3 hc hr he hm hs  F _ _ _ _ _ hf)
def m_X5_spread (F : Nat) (h : PH) (p0 : Nat) (p1 : Int32) (p2 : Int32) (p3 : Int32) : Option (Unit × PH) := b_X5_spread_0 F h p0 p1 p2 p3
theorem mt_X5_spread {l : Launch} {X : XT} {F : Nat} {h hz : PH} {p0 : Nat} {p1 : Int32} {p2 : Int32} {p3 : Int32} {r : Unit} (ex : m_X5_spread F h p0 p1 p2 p3 = some (r, hz)) : MT l X yX5_spread cX5_spread 6 none 5 292 0 0 [.ref (X.1 + p0), .int p1, .int p2, .int p3] h none hz := MT.of (by decide) (Nat.le_of_ble_eq_true rfl) fun M hl hc hr he => by
  subst hl
  exact gg_sub [0, 1, 2, 3] rfl (t_X5_spread_0  hc hr he (Nat.zero_le _) (Nat.zero_le _) ex)
/-! FractionLift$Routes.layFloors(I)I -/
def lX5_layFloorsL : List (Nat × Instr × Nat × Nat) := [(0, .iconst 0, 1, 1), (1, .istore_n 2, 1, 2), (2, .iconst 1, 1, 3), (3, .istore_n 3, 1, 4), (4, .iload_n 3, 1, 5), (5, .iload_n 1, 1, 6), (6, .if_icmp .gt 30, 3, 9), (9, .aload_n 0, 1, 10), (10, .getfield 18, 3, 13), (13, .getfield 49, 3, 16), (16, .istore 4, 2, 18), (18, .aload_n 0, 1, 19), (19, .iload_n 2, 1, 20), (20, .iload 4, 2, 22), (22, .iload 4, 2, 24), (24, .invokevirtual 89, 3, 27), (27, .iload 4, 2, 29), (29, .istore_n 2, 1, 30), (30, .iinc 3 1, 3, 33), (33, .goto (-29), 3, 36), (36, .iload_n 2, 1, 37), (37, .ireturn, 1, 38)]
set_option maxRecDepth 20000 in
theorem dX5_layFloors : dcL cX5_layFloors lX5_layFloorsL = true := by decide +kernel
def b_X5_layFloors_4 (F : Nat) (self4 : PH → Nat → Int32 → Int32 → Int32 → Option (Int32 × PH)) (h : PH) (v0 : Nat) (v1 : Int32) (v2 : Int32) (v3 : Int32) : Option (Int32 × PH) := if v1 < v3 then (some (v2, h)) else ((gR 5 0 h v0).bind fun a1 => ((gI 1 4 h a1).bind fun x2 => (cO 5 h v0 (bind2 (m_X5_spread F h v0 v2 x2 x2) fun _ h4 => (bindv (v3 + (1)) fun x5 => (self4 h4 v0 v1 x2 x5))))))
set_option maxRecDepth 20000 in
theorem tb_X5_layFloors_4 {M : MV} {X : XT} {F : Nat} {self4 : PH → Nat → Int32 → Int32 → Int32 → Option (Int32 × PH)} {h hz : PH} {r : Int32} {ce sl mc ms : Nat} {v0 : Nat} {v1 : Int32} {v2 : Int32} {v3 : Int32} (hc : Cx M X RX5 cX5_layFloors) (hr : Rx M 6 350 mc ms 5) (he : Ex M X (some .int) "layFloors" (some (.int r)) hz mc ms) (hm : ce ≤ mc) (hs : sl ≤ ms) (ih4 : ∀ (h : PH) (v0 : Nat) (v1 : Int32) (v2 : Int32) (v3 : Int32), self4 h v0 v1 v2 v3 = some (r, hz) → GG M X h ce sl 4 [(0, .ref (X.1 + v0)), (1, .int v1), (2, .int v2), (3, .int v3)] []) (hf : b_X5_layFloors_4 F self4 h v0 v1 v2 v3 = some (r, hz)) : GG M X h ce sl 4 [(0, .ref (X.1 + v0)), (1, .int v1), (2, .int v2), (3, .int v3)] [] := by
  unfold b_X5_layFloors_4 at hf
  refine r_iload_n hc 3 (dc_at dX5_layFloors 4 rfl) rfl ?_
  refine r_iload_n hc 1 (dc_at dX5_layFloors 5 rfl) rfl ?_
  refine r_icmp_gt (tgt := 36) hc (dc_at dX5_layFloors 6 rfl) (by decide) hf (fun hf => ?_) (fun hf => ?_)
  · refine r_iload_n hc 2 (dc_at dX5_layFloors 20 rfl) rfl ?_
    exact r_iret hc he (hm) (hs) (dc_at dX5_layFloors 21 rfl) hf
  · refine r_aload_n hc 0 (dc_at dX5_layFloors 7 rfl) rfl ?_
    refine r_getR hc (dc_at dX5_layFloors 8 rfl) fl_X5_18 hf fun a1 hf => ?_
    refine r_getI hc (dc_at dX5_layFloors 9 rfl) fl_X5_49 hf fun x2 hf => ?_
    refine r_istore [(4, .int x2), (0, .ref (X.1 + v0)), (1, .int v1), (2, .int v2), (3, .int v3)] hc hr (dc_at dX5_layFloors 10 rfl) (by decide) rfl ?_
    refine r_aload_n hc 1 (dc_at dX5_layFloors 11 rfl) rfl ?_
    refine r_iload_n hc 3 (dc_at dX5_layFloors 12 rfl) rfl ?_
    refine r_iload hc 0 (dc_at dX5_layFloors 13 rfl) rfl ?_
    refine r_iload hc 0 (dc_at dX5_layFloors 14 rfl) rfl ?_
    obtain ⟨ho, hf⟩ := cO_some hf
    refine ob2 hf fun u h4 ex hf => ?_
    refine r_callVv (As := [.int v2, .int x2, .int x2]) (ci := 5) hc hr (dc_at dX5_layFloors 15 rfl) ml_X5_89 mv_X5_spread vi_X5_spread rfl ho rfl (mt_X5_spread ex) (by first | exact Nat.le_of_ble_eq_true rfl | omega) (by first | exact Nat.le_of_ble_eq_true rfl | omega) (by first | exact Nat.le_of_ble_eq_true rfl | omega) hm hs ?_
    refine r_iload hc 0 (dc_at dX5_layFloors 16 rfl) rfl ?_
    refine r_istore_n [(2, .int x2), (4, .int x2), (0, .ref (X.1 + v0)), (1, .int v1), (3, .int v3)] hc hr (dc_at dX5_layFloors 17 rfl) (by decide) rfl ?_
    refine obv hf fun x5 e_x5 hf => ?_
    refine r_iinc 4 [(3, .int x5), (2, .int x2), (4, .int x2), (0, .ref (X.1 + v0)), (1, .int v1)] hc hr (dc_at dX5_layFloors 18 rfl) rfl (by rw [e_x5]; rfl) (by decide) rfl ?_
    refine r_goto (tgt := 4) hc (dc_at dX5_layFloors 19 rfl) (by decide) ?_
    exact gg_sub [3, 4, 1, 0] rfl (ih4 _ _ _ _ _ hf)
def l_X5_layFloors_4 (F : Nat) : Nat → PH → Nat → Int32 → Int32 → Int32 → Option (Int32 × PH)
  | 0 => fun _ _ _ _ _ => none
  | n + 1 => fun h v0 v1 v2 v3 => b_X5_layFloors_4 F (l_X5_layFloors_4 F n) h v0 v1 v2 v3
theorem tl_X5_layFloors_4 {M : MV} {X : XT} {F : Nat} {hz : PH} {r : Int32} {ce sl mc ms : Nat} (hc : Cx M X RX5 cX5_layFloors) (hr : Rx M 6 350 mc ms 5) (he : Ex M X (some .int) "layFloors" (some (.int r)) hz mc ms) (hm : ce ≤ mc) (hs : sl ≤ ms) (n : Nat) : ∀ (h : PH) (v0 : Nat) (v1 : Int32) (v2 : Int32) (v3 : Int32), l_X5_layFloors_4 F n h v0 v1 v2 v3 = some (r, hz) → GG M X h ce sl 4 [(0, .ref (X.1 + v0)), (1, .int v1), (2, .int v2), (3, .int v3)] [] := by
  induction n with
  | zero => intro h v0 v1 v2 v3 hf; cases hf
  | succ n ih => intro h v0 v1 v2 v3 hf; exact tb_X5_layFloors_4 (F := F) hc hr he hm hs  ih hf
def b_X5_layFloors_0 (F : Nat) (h : PH) (v0 : Nat) (v1 : Int32) : Option (Int32 × PH) := l_X5_layFloors_4 F F h v0 v1 (0 : Int32) (1 : Int32)
set_option maxRecDepth 20000 in
theorem t_X5_layFloors_0 {M : MV} {X : XT} {F : Nat} {h hz : PH} {r : Int32} {ce sl mc ms : Nat} {v0 : Nat} {v1 : Int32} (hc : Cx M X RX5 cX5_layFloors) (hr : Rx M 6 350 mc ms 5) (he : Ex M X (some .int) "layFloors" (some (.int r)) hz mc ms) (hm : ce ≤ mc) (hs : sl ≤ ms) (hf : b_X5_layFloors_0 F h v0 v1 = some (r, hz)) : GG M X h ce sl 0 [(0, .ref (X.1 + v0)), (1, .int v1)] [] := by
  unfold b_X5_layFloors_0 at hf
  refine r_iconst (0 : Int32) hc (dc_at dX5_layFloors 0 rfl) (by decide) ?_
  refine r_istore_n [(2, .int ((0 : Int32))), (0, .ref (X.1 + v0)), (1, .int v1)] hc hr (dc_at dX5_layFloors 1 rfl) (by decide) rfl ?_
  refine r_iconst (1 : Int32) hc (dc_at dX5_layFloors 2 rfl) (by decide) ?_
  refine r_istore_n [(3, .int ((1 : Int32))), (2, .int ((0 : Int32))), (0, .ref (X.1 + v0)), (1, .int v1)] hc hr (dc_at dX5_layFloors 3 rfl) (by decide) rfl ?_
  exact gg_sub [2, 3, 1, 0] rfl (tl_X5_layFloors_4 hc hr he hm hs  F _ _ _ _ _ hf)
def m_X5_layFloors (F : Nat) (h : PH) (p0 : Nat) (p1 : Int32) : Option (Int32 × PH) := b_X5_layFloors_0 F h p0 p1
theorem mt_X5_layFloors {l : Launch} {X : XT} {F : Nat} {h hz : PH} {p0 : Nat} {p1 : Int32} {r : Int32} (ex : m_X5_layFloors F h p0 p1 = some (r, hz)) : MT l X yX5_layFloors cX5_layFloors 5 (some .int) 6 350 0 0 [.ref (X.1 + p0), .int p1] h (some (.int r)) hz := MT.of (by decide) (Nat.le_of_ble_eq_true rfl) fun M hl hc hr he => by
  subst hl
  exact gg_sub [0, 1] rfl (t_X5_layFloors_0  hc hr he (Nat.zero_le _) (Nat.zero_le _) ex)
/-! FractionLift$Routes.greatestFrom(I)I -/
def lX5_greatestFromL : List (Nat × Instr × Nat × Nat) := [(0, .iconst (-1), 1, 1), (1, .istore_n 2, 1, 2), (2, .iload_n 1, 1, 3), (3, .istore_n 3, 1, 4), (4, .iload_n 3, 1, 5), (5, .aload_n 0, 1, 6), (6, .getfield 18, 3, 9), (9, .getfield 49, 3, 12), (12, .if_icmp .ge 28, 3, 15), (15, .iload_n 2, 1, 16), (16, .iconst (-1), 1, 17), (17, .if_icmp .eq 15, 3, 20), (20, .aload_n 0, 1, 21), (21, .getfield 18, 3, 24), (24, .iload_n 2, 1, 25), (25, .iload_n 3, 1, 26), (26, .invokevirtual 92, 3, 29), (29, .ifCond .eq 5, 3, 32), (32, .iload_n 3, 1, 33), (33, .istore_n 2, 1, 34), (34, .iinc 3 1, 3, 37), (37, .goto (-33), 3, 40), (40, .iload_n 2, 1, 41), (41, .ireturn, 1, 42)]
set_option maxRecDepth 20000 in
theorem dX5_greatestFrom : dcL cX5_greatestFrom lX5_greatestFromL = true := by decide +kernel
def b_X5_greatestFrom_34 (F : Nat) (self4 : Nat → Int32 → Int32 → Option Int32) (h : PH) (v0 : Nat) (v2 : Int32) (v3 : Int32) : Option Int32 := bindv (v3 + (1)) fun x1 => (self4 v0 v2 x1)
set_option maxRecDepth 20000 in
theorem t_X5_greatestFrom_34 {M : MV} {X : XT} {F : Nat} {self4 : Nat → Int32 → Int32 → Option Int32} {h : PH} {r : Int32} {ce sl mc ms : Nat} {v0 : Nat} {v2 : Int32} {v3 : Int32} (hc : Cx M X RX5 cX5_greatestFrom) (hr : Rx M 2 118 mc ms 4) (he : Ex M X (some .int) "greatestFrom" (some (.int r)) h mc ms) (hm : ce ≤ mc) (hs : sl ≤ ms) (ih4 : ∀ (v0 : Nat) (v2 : Int32) (v3 : Int32), self4 v0 v2 v3 = some r → GG M X h ce sl 4 [(0, .ref (X.1 + v0)), (2, .int v2), (3, .int v3)] []) (hf : b_X5_greatestFrom_34 F self4 h v0 v2 v3 = some r) : GG M X h ce sl 34 [(0, .ref (X.1 + v0)), (2, .int v2), (3, .int v3)] [] := by
  unfold b_X5_greatestFrom_34 at hf
  refine obv hf fun x1 e_x1 hf => ?_
  refine r_iinc 2 [(3, .int x1), (0, .ref (X.1 + v0)), (2, .int v2)] hc hr (dc_at dX5_greatestFrom 20 rfl) rfl (by rw [e_x1]; rfl) (by decide) rfl ?_
  refine r_goto (tgt := 4) hc (dc_at dX5_greatestFrom 21 rfl) (by decide) ?_
  exact gg_sub [1, 2, 0] rfl (ih4 _ _ _ hf)
def b_X5_greatestFrom_32 (F : Nat) (self4 : Nat → Int32 → Int32 → Option Int32) (h : PH) (v0 : Nat) (v3 : Int32) : Option Int32 := b_X5_greatestFrom_34 F self4 h v0 v3 v3
set_option maxRecDepth 20000 in
theorem t_X5_greatestFrom_32 {M : MV} {X : XT} {F : Nat} {self4 : Nat → Int32 → Int32 → Option Int32} {h : PH} {r : Int32} {ce sl mc ms : Nat} {v0 : Nat} {v3 : Int32} (hc : Cx M X RX5 cX5_greatestFrom) (hr : Rx M 2 118 mc ms 4) (he : Ex M X (some .int) "greatestFrom" (some (.int r)) h mc ms) (hm : ce ≤ mc) (hs : sl ≤ ms) (ih4 : ∀ (v0 : Nat) (v2 : Int32) (v3 : Int32), self4 v0 v2 v3 = some r → GG M X h ce sl 4 [(0, .ref (X.1 + v0)), (2, .int v2), (3, .int v3)] []) (hf : b_X5_greatestFrom_32 F self4 h v0 v3 = some r) : GG M X h ce sl 32 [(0, .ref (X.1 + v0)), (3, .int v3)] [] := by
  unfold b_X5_greatestFrom_32 at hf
  refine r_iload_n hc 1 (dc_at dX5_greatestFrom 18 rfl) rfl ?_
  refine r_istore_n [(2, .int v3), (0, .ref (X.1 + v0)), (3, .int v3)] hc hr (dc_at dX5_greatestFrom 19 rfl) (by decide) rfl ?_
  exact gg_sub [1, 0, 2] rfl (t_X5_greatestFrom_34 hc hr he hm hs ih4 hf)
def b_X5_greatestFrom_4 (F : Nat) (self4 : Nat → Int32 → Int32 → Option Int32) (h : PH) (v0 : Nat) (v2 : Int32) (v3 : Int32) : Option Int32 := (gR 5 0 h v0).bind fun a1 => ((gI 1 4 h a1).bind fun x2 => (if x2 ≤ v3 then (some v2) else (if v2 = (-1 : Int32) then (b_X5_greatestFrom_32 F self4 h v0 v3) else ((gR 5 0 h v0).bind fun a3 => (cO 1 h a3 ((m_X1_isBelow h a3 v2 v3).bind fun x4 => (if x4 = 0 then (b_X5_greatestFrom_34 F self4 h v0 v2 v3) else (b_X5_greatestFrom_32 F self4 h v0 v3))))))))
set_option maxRecDepth 20000 in
theorem tb_X5_greatestFrom_4 {M : MV} {X : XT} {F : Nat} {self4 : Nat → Int32 → Int32 → Option Int32} {h : PH} {r : Int32} {ce sl mc ms : Nat} {v0 : Nat} {v2 : Int32} {v3 : Int32} (hc : Cx M X RX5 cX5_greatestFrom) (hr : Rx M 2 118 mc ms 4) (he : Ex M X (some .int) "greatestFrom" (some (.int r)) h mc ms) (hm : ce ≤ mc) (hs : sl ≤ ms) (ih4 : ∀ (v0 : Nat) (v2 : Int32) (v3 : Int32), self4 v0 v2 v3 = some r → GG M X h ce sl 4 [(0, .ref (X.1 + v0)), (2, .int v2), (3, .int v3)] []) (hf : b_X5_greatestFrom_4 F self4 h v0 v2 v3 = some r) : GG M X h ce sl 4 [(0, .ref (X.1 + v0)), (2, .int v2), (3, .int v3)] [] := by
  unfold b_X5_greatestFrom_4 at hf
  refine r_iload_n hc 2 (dc_at dX5_greatestFrom 4 rfl) rfl ?_
  refine r_aload_n hc 0 (dc_at dX5_greatestFrom 5 rfl) rfl ?_
  refine r_getR hc (dc_at dX5_greatestFrom 6 rfl) fl_X5_18 hf fun a1 hf => ?_
  refine r_getI hc (dc_at dX5_greatestFrom 7 rfl) fl_X5_49 hf fun x2 hf => ?_
  refine r_icmp_ge (tgt := 40) hc (dc_at dX5_greatestFrom 8 rfl) (by decide) hf (fun hf => ?_) (fun hf => ?_)
  · refine r_iload_n hc 1 (dc_at dX5_greatestFrom 22 rfl) rfl ?_
    exact r_iretP hc he (hm) (hs) (dc_at dX5_greatestFrom 23 rfl) hf
  · refine r_iload_n hc 1 (dc_at dX5_greatestFrom 9 rfl) rfl ?_
    refine r_iconst (-1 : Int32) hc (dc_at dX5_greatestFrom 10 rfl) (by decide) ?_
    refine r_icmp_eq (tgt := 32) hc (dc_at dX5_greatestFrom 11 rfl) (by decide) hf (fun hf => ?_) (fun hf => ?_)
    · exact gg_sub [0, 2] rfl (t_X5_greatestFrom_32 hc hr he hm hs ih4 hf)
    · refine r_aload_n hc 0 (dc_at dX5_greatestFrom 12 rfl) rfl ?_
      refine r_getR hc (dc_at dX5_greatestFrom 13 rfl) fl_X5_18 hf fun a3 hf => ?_
      refine r_iload_n hc 1 (dc_at dX5_greatestFrom 14 rfl) rfl ?_
      refine r_iload_n hc 2 (dc_at dX5_greatestFrom 15 rfl) rfl ?_
      obtain ⟨ho, hf⟩ := cO_some hf
      refine ob hf fun x4 ex hf => ?_
      refine r_callVi (As := [.int v2, .int v3]) (ci := 1) hc hr (dc_at dX5_greatestFrom 16 rfl) ml_X5_92 mv_X1_isBelow vi_X1_isBelow rfl ho rfl (mt_X1_isBelow ex) (by first | exact Nat.le_of_ble_eq_true rfl | omega) (by first | exact Nat.le_of_ble_eq_true rfl | omega) (by first | exact Nat.le_of_ble_eq_true rfl | omega) hm hs ?_
      refine r_if_eq (tgt := 34) hc (dc_at dX5_greatestFrom 17 rfl) (by decide) hf (fun hf => ?_) (fun hf => ?_)
      · exact gg_sub [0, 1, 2] rfl (t_X5_greatestFrom_34 hc hr he hm hs ih4 hf)
      · exact gg_sub [0, 2] rfl (t_X5_greatestFrom_32 hc hr he hm hs ih4 hf)
def l_X5_greatestFrom_4 (F : Nat) (h : PH) : Nat → Nat → Int32 → Int32 → Option Int32
  | 0 => fun _ _ _ => none
  | n + 1 => fun v0 v2 v3 => b_X5_greatestFrom_4 F (l_X5_greatestFrom_4 F h n) h v0 v2 v3
theorem tl_X5_greatestFrom_4 {M : MV} {X : XT} {F : Nat} {h : PH} {r : Int32} {ce sl mc ms : Nat} (hc : Cx M X RX5 cX5_greatestFrom) (hr : Rx M 2 118 mc ms 4) (he : Ex M X (some .int) "greatestFrom" (some (.int r)) h mc ms) (hm : ce ≤ mc) (hs : sl ≤ ms) (n : Nat) : ∀ (v0 : Nat) (v2 : Int32) (v3 : Int32), l_X5_greatestFrom_4 F h n v0 v2 v3 = some r → GG M X h ce sl 4 [(0, .ref (X.1 + v0)), (2, .int v2), (3, .int v3)] [] := by
  induction n with
  | zero => intro v0 v2 v3 hf; cases hf
  | succ n ih => intro v0 v2 v3 hf; exact tb_X5_greatestFrom_4 (F := F) hc hr he hm hs  ih hf
def b_X5_greatestFrom_0 (F : Nat) (h : PH) (v0 : Nat) (v1 : Int32) : Option Int32 := l_X5_greatestFrom_4 F h F v0 (-1 : Int32) v1
set_option maxRecDepth 20000 in
theorem t_X5_greatestFrom_0 {M : MV} {X : XT} {F : Nat} {h : PH} {r : Int32} {ce sl mc ms : Nat} {v0 : Nat} {v1 : Int32} (hc : Cx M X RX5 cX5_greatestFrom) (hr : Rx M 2 118 mc ms 4) (he : Ex M X (some .int) "greatestFrom" (some (.int r)) h mc ms) (hm : ce ≤ mc) (hs : sl ≤ ms) (hf : b_X5_greatestFrom_0 F h v0 v1 = some r) : GG M X h ce sl 0 [(0, .ref (X.1 + v0)), (1, .int v1)] [] := by
  unfold b_X5_greatestFrom_0 at hf
  refine r_iconst (-1 : Int32) hc (dc_at dX5_greatestFrom 0 rfl) (by decide) ?_
  refine r_istore_n [(2, .int ((-1 : Int32))), (0, .ref (X.1 + v0)), (1, .int v1)] hc hr (dc_at dX5_greatestFrom 1 rfl) (by decide) rfl ?_
  refine r_iload_n hc 2 (dc_at dX5_greatestFrom 2 rfl) rfl ?_
  refine r_istore_n [(3, .int v1), (2, .int ((-1 : Int32))), (0, .ref (X.1 + v0)), (1, .int v1)] hc hr (dc_at dX5_greatestFrom 3 rfl) (by decide) rfl ?_
  exact gg_sub [2, 1, 0] rfl (tl_X5_greatestFrom_4 hc hr he hm hs  F _ _ _ hf)
def m_X5_greatestFrom (F : Nat) (h : PH) (p0 : Nat) (p1 : Int32) : Option Int32 := b_X5_greatestFrom_0 F h p0 p1
theorem mt_X5_greatestFrom {l : Launch} {X : XT} {F : Nat} {h : PH} {p0 : Nat} {p1 : Int32} {r : Int32} (ex : m_X5_greatestFrom F h p0 p1 = some r) : MT l X yX5_greatestFrom cX5_greatestFrom 4 (some .int) 2 118 0 0 [.ref (X.1 + p0), .int p1] h (some (.int r)) h := MT.of (by decide) (Nat.le_of_ble_eq_true rfl) fun M hl hc hr he => by
  subst hl
  exact gg_sub [0, 1] rfl (t_X5_greatestFrom_0  hc hr he (Nat.zero_le _) (Nat.zero_le _) ex)
/-! FractionLift$Routes.stepToTwins(III)Z -/
def lX5_stepToTwinsL : List (Nat × Instr × Nat × Nat) := [(0, .iload_n 1, 1, 1), (1, .istore 4, 2, 3), (3, .iload 4, 2, 5), (5, .iload_n 2, 1, 6), (6, .if_icmp .ge 173, 3, 9), (9, .iconst 0, 1, 10), (10, .istore 5, 2, 12), (12, .iload 5, 2, 14), (14, .aload_n 0, 1, 15), (15, .getfield 29, 3, 18), (18, .getfield 63, 3, 21), (21, .if_icmp .ge 152, 3, 24), (24, .aload_n 0, 1, 25), (25, .getfield 9, 3, 28), (28, .aload_n 0, 1, 29), (29, .getfield 29, 3, 32), (32, .iload 5, 2, 34), (34, .aload_n 0, 1, 35), (35, .getfield 18, 3, 38), (38, .getfield 66, 3, 41), (41, .iload 4, 2, 43), (43, .iaload, 1, 44), (44, .i2l, 1, 45), (45, .aload_n 0, 1, 46), (46, .getfield 18, 3, 49), (49, .getfield 69, 3, 52), (52, .iload 4, 2, 54), (54, .iaload, 1, 55), (55, .i2l, 1, 56), (56, .invokevirtual 72, 3, 59), (59, .ifCond .eq 6, 3, 62), (62, .goto 105, 3, 65), (65, .iload 4, 2, 67), (67, .bipush 6, 2, 69), (69, .imul, 1, 70), (70, .iload 5, 2, 72), (72, .iadd, 1, 73), (73, .istore 6, 2, 75), (75, .aload_n 0, 1, 76), (76, .getfield 18, 3, 79), (79, .aload_n 0, 1, 80), (80, .getfield 9, 3, 83), (83, .getfield 78, 3, 86), (86, .aload_n 0, 1, 87), (87, .getfield 9, 3, 90), (90, .getfield 80, 3, 93), (93, .iload_n 2, 1, 94), (94, .aload_n 0, 1, 95), (95, .getfield 18, 3, 98), (98, .getfield 49, 3, 101), (101, .invokevirtual 82, 3, 104), (104, .istore 7, 2, 106), (106, .iload 7, 2, 108), (108, .iconst (-1), 1, 109), (109, .if_icmp .eq 35, 3, 112), (112, .aload_n 0, 1, 113), (113, .aload_n 0, 1, 114), (114, .getfield 18, 3, 117), (117, .getfield 86, 3, 120), (120, .iload 7, 2, 122), (122, .iaload, 1, 123), (123, .iload_n 3, 1, 124), (124, .aload_n 0, 1, 125), (125, .getfield 22, 3, 128), (128, .invokevirtual 59, 3, 131), (131, .aload_n 0, 1, 132), (132, .iload 6, 2, 134), (134, .iload_n 3, 1, 135), (135, .aload_n 0, 1, 136), (136, .getfield 26, 3, 139), (139, .invokevirtual 59, 3, 142), (142, .iconst 1, 1, 143), (143, .ireturn, 1, 144), (144, .aload_n 0, 1, 145), (145, .getfield 18, 3, 148), (148, .aload_n 0, 1, 149), (149, .getfield 9, 3, 152), (152, .getfield 78, 3, 155), (155, .aload_n 0, 1, 156), (156, .getfield 9, 3, 159), (159, .getfield 80, 3, 162), (162, .iload 6, 2, 164), (164, .invokevirtual 45, 3, 167), (167, .iinc 5 1, 3, 170), (170, .goto (-158), 3, 173), (173, .iinc 4 1, 3, 176), (176, .goto (-173), 3, 179), (179, .iconst 0, 1, 180), (180, .ireturn, 1, 181)]
set_option maxRecDepth 20000 in
theorem dX5_stepToTwins : dcL cX5_stepToTwins lX5_stepToTwinsL = true := by decide +kernel
def b_X5_stepToTwins_167 (F : Nat) (self2 : PH → Nat → Int32 → Int32 → Int32 → Option (Int32 × PH)) (self7 : PH → Nat → Int32 → Int32 → Int32 → Int32 → Option (Int32 × PH)) (h : PH) (v0 : Nat) (v2 : Int32) (v3 : Int32) (v4 : Int32) (v5 : Int32) : Option (Int32 × PH) := bindv (v5 + (1)) fun x1 => (self7 h v0 v2 v3 v4 x1)
set_option maxRecDepth 20000 in
theorem t_X5_stepToTwins_167 {M : MV} {X : XT} {F : Nat} {self2 : PH → Nat → Int32 → Int32 → Int32 → Option (Int32 × PH)} {self7 : PH → Nat → Int32 → Int32 → Int32 → Int32 → Option (Int32 × PH)} {h hz : PH} {r : Int32} {ce sl mc ms : Nat} {v0 : Nat} {v2 : Int32} {v3 : Int32} {v4 : Int32} {v5 : Int32} (hc : Cx M X RX5 cX5_stepToTwins) (hr : Rx M 5 292 mc ms 8) (he : Ex M X (some .boolean) "stepToTwins" (some (.int r)) hz mc ms) (hm : ce ≤ mc) (hs : sl ≤ ms) (ih2 : ∀ (h : PH) (v0 : Nat) (v2 : Int32) (v3 : Int32) (v4 : Int32), self2 h v0 v2 v3 v4 = some (r, hz) → GG M X h ce sl 3 [(0, .ref (X.1 + v0)), (2, .int v2), (3, .int v3), (4, .int v4)] []) (ih7 : ∀ (h : PH) (v0 : Nat) (v2 : Int32) (v3 : Int32) (v4 : Int32) (v5 : Int32), self7 h v0 v2 v3 v4 v5 = some (r, hz) → GG M X h ce sl 12 [(0, .ref (X.1 + v0)), (2, .int v2), (3, .int v3), (4, .int v4), (5, .int v5)] []) (hf : b_X5_stepToTwins_167 F self2 self7 h v0 v2 v3 v4 v5 = some (r, hz)) : GG M X h ce sl 167 [(0, .ref (X.1 + v0)), (2, .int v2), (3, .int v3), (4, .int v4), (5, .int v5)] [] := by
  unfold b_X5_stepToTwins_167 at hf
  refine obv hf fun x1 e_x1 hf => ?_
  refine r_iinc 4 [(5, .int x1), (0, .ref (X.1 + v0)), (2, .int v2), (3, .int v3), (4, .int v4)] hc hr (dc_at dX5_stepToTwins 83 rfl) rfl (by rw [e_x1]; rfl) (by decide) rfl ?_
  refine r_goto (tgt := 12) hc (dc_at dX5_stepToTwins 84 rfl) (by decide) ?_
  exact gg_sub [1, 2, 3, 4, 0] rfl (ih7 _ _ _ _ _ _ hf)
def b_X5_stepToTwins_12 (F : Nat) (self2 : PH → Nat → Int32 → Int32 → Int32 → Option (Int32 × PH)) (self7 : PH → Nat → Int32 → Int32 → Int32 → Int32 → Option (Int32 × PH)) (h : PH) (v0 : Nat) (v2 : Int32) (v3 : Int32) (v4 : Int32) (v5 : Int32) : Option (Int32 × PH) := (gR 5 5 h v0).bind fun a1 => ((gI 0 6 h a1).bind fun x2 => (if x2 ≤ v5 then (bindv (v4 + (1)) fun x3 => (self2 h v0 v2 v3 x3)) else ((gR 5 4 h v0).bind fun a4 => ((gR 5 5 h v0).bind fun a5 => ((gR 5 0 h v0).bind fun a6 => ((gR 1 0 h a6).bind fun a7 => ((aI 0 h a7 v4).bind fun x8 => ((gR 5 0 h v0).bind fun a9 => ((gR 1 1 h a9).bind fun a10 => ((aI 0 h a10 v4).bind fun x11 => (cO 4 h a4 (bind2 (m_X4_lead F h a4 a5 v5 (Int32.toInt64 x8) (Int32.toInt64 x11)) fun x12 h13 => (if x12 = 0 then (bindv ((((v4 * (6 : Int32))) + v5)) fun x14 => ((gR 5 0 h13 v0).bind fun a15 => ((gR 5 4 h13 v0).bind fun a16 => ((gI 4 0 h13 a16).bind fun x17 => ((gR 5 4 h13 v0).bind fun a18 => ((gI 4 1 h13 a18).bind fun x19 => ((gR 5 0 h13 v0).bind fun a20 => ((gI 1 4 h13 a20).bind fun x21 => (cO 1 h13 a15 ((m_X1_find F h13 a15 x17 x19 v2 x21).bind fun x22 => (if x22 = (-1 : Int32) then ((gR 5 0 h13 v0).bind fun a23 => ((gR 5 4 h13 v0).bind fun a24 => ((gI 4 0 h13 a24).bind fun x25 => ((gR 5 4 h13 v0).bind fun a26 => ((gI 4 1 h13 a26).bind fun x27 => (cO 1 h13 a23 (bind2 (m_X1_put h13 a23 x25 x27 x14) fun _ h29 => (b_X5_stepToTwins_167 F self2 self7 h29 v0 v2 v3 v4 v5)))))))) else ((gR 5 0 h13 v0).bind fun a30 => ((gR 1 2 h13 a30).bind fun a31 => ((aI 0 h13 a31 x22).bind fun x32 => ((gR 5 1 h13 v0).bind fun a33 => (cO 5 h13 v0 (bind2 (m_X5_traceRow F h13 v0 x32 v3 a33) fun _ h35 => ((gR 5 2 h35 v0).bind fun a36 => (cO 5 h35 v0 (bind2 (m_X5_traceRow F h35 v0 x14 v3 a36) fun _ h38 => (rZ (1 : Int32) h38))))))))))))))))))))) else (b_X5_stepToTwins_167 F self2 self7 h13 v0 v2 v3 v4 v5))))))))))))))
set_option maxRecDepth 20000 in
theorem tb_X5_stepToTwins_12 {M : MV} {X : XT} {F : Nat} {self2 : PH → Nat → Int32 → Int32 → Int32 → Option (Int32 × PH)} {self7 : PH → Nat → Int32 → Int32 → Int32 → Int32 → Option (Int32 × PH)} {h hz : PH} {r : Int32} {ce sl mc ms : Nat} {v0 : Nat} {v2 : Int32} {v3 : Int32} {v4 : Int32} {v5 : Int32} (hc : Cx M X RX5 cX5_stepToTwins) (hr : Rx M 5 292 mc ms 8) (he : Ex M X (some .boolean) "stepToTwins" (some (.int r)) hz mc ms) (hm : ce ≤ mc) (hs : sl ≤ ms) (ih2 : ∀ (h : PH) (v0 : Nat) (v2 : Int32) (v3 : Int32) (v4 : Int32), self2 h v0 v2 v3 v4 = some (r, hz) → GG M X h ce sl 3 [(0, .ref (X.1 + v0)), (2, .int v2), (3, .int v3), (4, .int v4)] []) (ih7 : ∀ (h : PH) (v0 : Nat) (v2 : Int32) (v3 : Int32) (v4 : Int32) (v5 : Int32), self7 h v0 v2 v3 v4 v5 = some (r, hz) → GG M X h ce sl 12 [(0, .ref (X.1 + v0)), (2, .int v2), (3, .int v3), (4, .int v4), (5, .int v5)] []) (hf : b_X5_stepToTwins_12 F self2 self7 h v0 v2 v3 v4 v5 = some (r, hz)) : GG M X h ce sl 12 [(0, .ref (X.1 + v0)), (2, .int v2), (3, .int v3), (4, .int v4), (5, .int v5)] [] := by
  unfold b_X5_stepToTwins_12 at hf
  refine r_iload hc 4 (dc_at dX5_stepToTwins 7 rfl) rfl ?_
  refine r_aload_n hc 0 (dc_at dX5_stepToTwins 8 rfl) rfl ?_
  refine r_getR hc (dc_at dX5_stepToTwins 9 rfl) fl_X5_29 hf fun a1 hf => ?_
  refine r_getI hc (dc_at dX5_stepToTwins 10 rfl) fl_X5_63 hf fun x2 hf => ?_
  refine r_icmp_ge (tgt := 173) hc (dc_at dX5_stepToTwins 11 rfl) (by decide) hf (fun hf => ?_) (fun hf => ?_)
  · refine obv hf fun x3 e_x3 hf => ?_
    refine r_iinc 3 [(4, .int x3), (0, .ref (X.1 + v0)), (2, .int v2), (3, .int v3), (5, .int v5)] hc hr (dc_at dX5_stepToTwins 85 rfl) rfl (by rw [e_x3]; rfl) (by decide) rfl ?_
    refine r_goto (tgt := 3) hc (dc_at dX5_stepToTwins 86 rfl) (by decide) ?_
    exact gg_sub [1, 2, 3, 0] rfl (ih2 _ _ _ _ _ hf)
  · refine r_aload_n hc 0 (dc_at dX5_stepToTwins 12 rfl) rfl ?_
    refine r_getR hc (dc_at dX5_stepToTwins 13 rfl) fl_X5_9 hf fun a4 hf => ?_
    refine r_aload_n hc 0 (dc_at dX5_stepToTwins 14 rfl) rfl ?_
    refine r_getR hc (dc_at dX5_stepToTwins 15 rfl) fl_X5_29 hf fun a5 hf => ?_
    refine r_iload hc 4 (dc_at dX5_stepToTwins 16 rfl) rfl ?_
    refine r_aload_n hc 0 (dc_at dX5_stepToTwins 17 rfl) rfl ?_
    refine r_getR hc (dc_at dX5_stepToTwins 18 rfl) fl_X5_18 hf fun a6 hf => ?_
    refine r_getR hc (dc_at dX5_stepToTwins 19 rfl) fl_X5_66 hf fun a7 hf => ?_
    refine r_iload hc 3 (dc_at dX5_stepToTwins 20 rfl) rfl ?_
    refine r_iaload hc (dc_at dX5_stepToTwins 21 rfl) hf fun x8 hf => ?_
    refine r_i2l hc (dc_at dX5_stepToTwins 22 rfl) ?_
    refine r_aload_n hc 0 (dc_at dX5_stepToTwins 23 rfl) rfl ?_
    refine r_getR hc (dc_at dX5_stepToTwins 24 rfl) fl_X5_18 hf fun a9 hf => ?_
    refine r_getR hc (dc_at dX5_stepToTwins 25 rfl) fl_X5_69 hf fun a10 hf => ?_
    refine r_iload hc 3 (dc_at dX5_stepToTwins 26 rfl) rfl ?_
    refine r_iaload hc (dc_at dX5_stepToTwins 27 rfl) hf fun x11 hf => ?_
    refine r_i2l hc (dc_at dX5_stepToTwins 28 rfl) ?_
    obtain ⟨ho, hf⟩ := cO_some hf
    refine ob2 hf fun x12 h13 ex hf => ?_
    refine r_callVi (As := [.ref (X.1 + a5), .int v5, .long ((Int32.toInt64 x8)), .long ((Int32.toInt64 x11))]) (ci := 4) hc hr (dc_at dX5_stepToTwins 29 rfl) ml_X5_72 mv_X4_lead vi_X4_lead rfl ho rfl (mt_X4_lead ex) (by first | exact Nat.le_of_ble_eq_true rfl | omega) (by first | exact Nat.le_of_ble_eq_true rfl | omega) (by first | exact Nat.le_of_ble_eq_true rfl | omega) hm hs ?_
    refine r_if_eq (tgt := 65) hc (dc_at dX5_stepToTwins 30 rfl) (by decide) hf (fun hf => ?_) (fun hf => ?_)
    · refine r_iload hc 3 (dc_at dX5_stepToTwins 32 rfl) rfl ?_
      refine r_bipush (6 : Int32) hc (dc_at dX5_stepToTwins 33 rfl) (by decide) ?_
      refine r_imul hc (dc_at dX5_stepToTwins 34 rfl) ?_
      refine r_iload hc 4 (dc_at dX5_stepToTwins 35 rfl) rfl ?_
      refine r_iadd hc (dc_at dX5_stepToTwins 36 rfl) ?_
      refine r_nm (mk := Value.int) hf fun x14 hf => ?_
      refine r_istore [(6, .int x14), (0, .ref (X.1 + v0)), (2, .int v2), (3, .int v3), (4, .int v4), (5, .int v5)] hc hr (dc_at dX5_stepToTwins 37 rfl) (by decide) rfl ?_
      refine r_aload_n hc 1 (dc_at dX5_stepToTwins 38 rfl) rfl ?_
      refine r_getR hc (dc_at dX5_stepToTwins 39 rfl) fl_X5_18 hf fun a15 hf => ?_
      refine r_aload_n hc 1 (dc_at dX5_stepToTwins 40 rfl) rfl ?_
      refine r_getR hc (dc_at dX5_stepToTwins 41 rfl) fl_X5_9 hf fun a16 hf => ?_
      refine r_getI hc (dc_at dX5_stepToTwins 42 rfl) fl_X5_78 hf fun x17 hf => ?_
      refine r_aload_n hc 1 (dc_at dX5_stepToTwins 43 rfl) rfl ?_
      refine r_getR hc (dc_at dX5_stepToTwins 44 rfl) fl_X5_9 hf fun a18 hf => ?_
      refine r_getI hc (dc_at dX5_stepToTwins 45 rfl) fl_X5_80 hf fun x19 hf => ?_
      refine r_iload_n hc 2 (dc_at dX5_stepToTwins 46 rfl) rfl ?_
      refine r_aload_n hc 1 (dc_at dX5_stepToTwins 47 rfl) rfl ?_
      refine r_getR hc (dc_at dX5_stepToTwins 48 rfl) fl_X5_18 hf fun a20 hf => ?_
      refine r_getI hc (dc_at dX5_stepToTwins 49 rfl) fl_X5_49 hf fun x21 hf => ?_
      obtain ⟨ho, hf⟩ := cO_some hf
      refine ob hf fun x22 ex hf => ?_
      refine r_callVi (As := [.int x17, .int x19, .int v2, .int x21]) (ci := 1) hc hr (dc_at dX5_stepToTwins 50 rfl) ml_X5_82 mv_X1_find vi_X1_find rfl ho rfl (mt_X1_find ex) (by first | exact Nat.le_of_ble_eq_true rfl | omega) (by first | exact Nat.le_of_ble_eq_true rfl | omega) (by first | exact Nat.le_of_ble_eq_true rfl | omega) hm hs ?_
      refine r_istore [(7, .int x22), (6, .int x14), (0, .ref (X.1 + v0)), (2, .int v2), (3, .int v3), (4, .int v4), (5, .int v5)] hc hr (dc_at dX5_stepToTwins 51 rfl) (by decide) rfl ?_
      refine r_iload hc 0 (dc_at dX5_stepToTwins 52 rfl) rfl ?_
      refine r_iconst (-1 : Int32) hc (dc_at dX5_stepToTwins 53 rfl) (by decide) ?_
      refine r_icmp_eq (tgt := 144) hc (dc_at dX5_stepToTwins 54 rfl) (by decide) hf (fun hf => ?_) (fun hf => ?_)
      · refine r_aload_n hc 2 (dc_at dX5_stepToTwins 73 rfl) rfl ?_
        refine r_getR hc (dc_at dX5_stepToTwins 74 rfl) fl_X5_18 hf fun a23 hf => ?_
        refine r_aload_n hc 2 (dc_at dX5_stepToTwins 75 rfl) rfl ?_
        refine r_getR hc (dc_at dX5_stepToTwins 76 rfl) fl_X5_9 hf fun a24 hf => ?_
        refine r_getI hc (dc_at dX5_stepToTwins 77 rfl) fl_X5_78 hf fun x25 hf => ?_
        refine r_aload_n hc 2 (dc_at dX5_stepToTwins 78 rfl) rfl ?_
        refine r_getR hc (dc_at dX5_stepToTwins 79 rfl) fl_X5_9 hf fun a26 hf => ?_
        refine r_getI hc (dc_at dX5_stepToTwins 80 rfl) fl_X5_80 hf fun x27 hf => ?_
        refine r_iload hc 1 (dc_at dX5_stepToTwins 81 rfl) rfl ?_
        obtain ⟨ho, hf⟩ := cO_some hf
        refine ob2 hf fun u h29 ex hf => ?_
        refine r_callVv (As := [.int x25, .int x27, .int x14]) (ci := 1) hc hr (dc_at dX5_stepToTwins 82 rfl) ml_X5_45 mv_X1_put vi_X1_put rfl ho rfl (mt_X1_put ex) (by first | exact Nat.le_of_ble_eq_true rfl | omega) (by first | exact Nat.le_of_ble_eq_true rfl | omega) (by first | exact Nat.le_of_ble_eq_true rfl | omega) hm hs ?_
        exact gg_sub [2, 3, 4, 5, 6] rfl (t_X5_stepToTwins_167 hc hr he hm hs ih2 ih7 hf)
      · refine r_aload_n hc 2 (dc_at dX5_stepToTwins 55 rfl) rfl ?_
        refine r_aload_n hc 2 (dc_at dX5_stepToTwins 56 rfl) rfl ?_
        refine r_getR hc (dc_at dX5_stepToTwins 57 rfl) fl_X5_18 hf fun a30 hf => ?_
        refine r_getR hc (dc_at dX5_stepToTwins 58 rfl) fl_X5_86 hf fun a31 hf => ?_
        refine r_iload hc 0 (dc_at dX5_stepToTwins 59 rfl) rfl ?_
        refine r_iaload hc (dc_at dX5_stepToTwins 60 rfl) hf fun x32 hf => ?_
        refine r_iload_n hc 4 (dc_at dX5_stepToTwins 61 rfl) rfl ?_
        refine r_aload_n hc 2 (dc_at dX5_stepToTwins 62 rfl) rfl ?_
        refine r_getR hc (dc_at dX5_stepToTwins 63 rfl) fl_X5_22 hf fun a33 hf => ?_
        obtain ⟨ho, hf⟩ := cO_some hf
        refine ob2 hf fun u h35 ex hf => ?_
        refine r_callVv (As := [.int x32, .int v3, .ref (X.1 + a33)]) (ci := 5) hc hr (dc_at dX5_stepToTwins 64 rfl) ml_X5_59 mv_X5_traceRow vi_X5_traceRow rfl ho rfl (mt_X5_traceRow ex) (by first | exact Nat.le_of_ble_eq_true rfl | omega) (by first | exact Nat.le_of_ble_eq_true rfl | omega) (by first | exact Nat.le_of_ble_eq_true rfl | omega) hm hs ?_
        refine r_aload_n hc 2 (dc_at dX5_stepToTwins 65 rfl) rfl ?_
        refine r_iload hc 1 (dc_at dX5_stepToTwins 66 rfl) rfl ?_
        refine r_iload_n hc 4 (dc_at dX5_stepToTwins 67 rfl) rfl ?_
        refine r_aload_n hc 2 (dc_at dX5_stepToTwins 68 rfl) rfl ?_
        refine r_getR hc (dc_at dX5_stepToTwins 69 rfl) fl_X5_26 hf fun a36 hf => ?_
        obtain ⟨ho, hf⟩ := cO_some hf
        refine ob2 hf fun u h38 ex hf => ?_
        refine r_callVv (As := [.int x14, .int v3, .ref (X.1 + a36)]) (ci := 5) hc hr (dc_at dX5_stepToTwins 70 rfl) ml_X5_59 mv_X5_traceRow vi_X5_traceRow rfl ho rfl (mt_X5_traceRow ex) (by first | exact Nat.le_of_ble_eq_true rfl | omega) (by first | exact Nat.le_of_ble_eq_true rfl | omega) (by first | exact Nat.le_of_ble_eq_true rfl | omega) hm hs ?_
        refine r_iconst (1 : Int32) hc (dc_at dX5_stepToTwins 71 rfl) (by decide) ?_
        exact r_zret hc he (hm) (hs) (dc_at dX5_stepToTwins 72 rfl) hf
    · refine r_goto (tgt := 167) hc (dc_at dX5_stepToTwins 31 rfl) (by decide) ?_
      exact gg_sub [0, 1, 2, 3, 4] rfl (t_X5_stepToTwins_167 hc hr he hm hs ih2 ih7 hf)
def l_X5_stepToTwins_12 (F : Nat) (self2 : PH → Nat → Int32 → Int32 → Int32 → Option (Int32 × PH)) : Nat → PH → Nat → Int32 → Int32 → Int32 → Int32 → Option (Int32 × PH)
  | 0 => fun _ _ _ _ _ _ => none
  | n + 1 => fun h v0 v2 v3 v4 v5 => b_X5_stepToTwins_12 F self2 (l_X5_stepToTwins_12 F self2 n) h v0 v2 v3 v4 v5
theorem tl_X5_stepToTwins_12 {M : MV} {X : XT} {F : Nat} {self2 : PH → Nat → Int32 → Int32 → Int32 → Option (Int32 × PH)} {hz : PH} {r : Int32} {ce sl mc ms : Nat} (hc : Cx M X RX5 cX5_stepToTwins) (hr : Rx M 5 292 mc ms 8) (he : Ex M X (some .boolean) "stepToTwins" (some (.int r)) hz mc ms) (hm : ce ≤ mc) (hs : sl ≤ ms) (ih2 : ∀ (h : PH) (v0 : Nat) (v2 : Int32) (v3 : Int32) (v4 : Int32), self2 h v0 v2 v3 v4 = some (r, hz) → GG M X h ce sl 3 [(0, .ref (X.1 + v0)), (2, .int v2), (3, .int v3), (4, .int v4)] []) (n : Nat) : ∀ (h : PH) (v0 : Nat) (v2 : Int32) (v3 : Int32) (v4 : Int32) (v5 : Int32), l_X5_stepToTwins_12 F self2 n h v0 v2 v3 v4 v5 = some (r, hz) → GG M X h ce sl 12 [(0, .ref (X.1 + v0)), (2, .int v2), (3, .int v3), (4, .int v4), (5, .int v5)] [] := by
  induction n with
  | zero => intro h v0 v2 v3 v4 v5 hf; cases hf
  | succ n ih => intro h v0 v2 v3 v4 v5 hf; exact tb_X5_stepToTwins_12 (F := F) hc hr he hm hs ih2 ih hf
def b_X5_stepToTwins_3 (F : Nat) (self2 : PH → Nat → Int32 → Int32 → Int32 → Option (Int32 × PH)) (h : PH) (v0 : Nat) (v2 : Int32) (v3 : Int32) (v4 : Int32) : Option (Int32 × PH) := if v2 ≤ v4 then (rZ (0 : Int32) h) else (l_X5_stepToTwins_12 F self2 F h v0 v2 v3 v4 (0 : Int32))
set_option maxRecDepth 20000 in
theorem tb_X5_stepToTwins_3 {M : MV} {X : XT} {F : Nat} {self2 : PH → Nat → Int32 → Int32 → Int32 → Option (Int32 × PH)} {h hz : PH} {r : Int32} {ce sl mc ms : Nat} {v0 : Nat} {v2 : Int32} {v3 : Int32} {v4 : Int32} (hc : Cx M X RX5 cX5_stepToTwins) (hr : Rx M 5 292 mc ms 8) (he : Ex M X (some .boolean) "stepToTwins" (some (.int r)) hz mc ms) (hm : ce ≤ mc) (hs : sl ≤ ms) (ih2 : ∀ (h : PH) (v0 : Nat) (v2 : Int32) (v3 : Int32) (v4 : Int32), self2 h v0 v2 v3 v4 = some (r, hz) → GG M X h ce sl 3 [(0, .ref (X.1 + v0)), (2, .int v2), (3, .int v3), (4, .int v4)] []) (hf : b_X5_stepToTwins_3 F self2 h v0 v2 v3 v4 = some (r, hz)) : GG M X h ce sl 3 [(0, .ref (X.1 + v0)), (2, .int v2), (3, .int v3), (4, .int v4)] [] := by
  unfold b_X5_stepToTwins_3 at hf
  refine r_iload hc 3 (dc_at dX5_stepToTwins 2 rfl) rfl ?_
  refine r_iload_n hc 1 (dc_at dX5_stepToTwins 3 rfl) rfl ?_
  refine r_icmp_ge (tgt := 179) hc (dc_at dX5_stepToTwins 4 rfl) (by decide) hf (fun hf => ?_) (fun hf => ?_)
  · refine r_iconst (0 : Int32) hc (dc_at dX5_stepToTwins 87 rfl) (by decide) ?_
    exact r_zret hc he (hm) (hs) (dc_at dX5_stepToTwins 88 rfl) hf
  · refine r_iconst (0 : Int32) hc (dc_at dX5_stepToTwins 5 rfl) (by decide) ?_
    refine r_istore [(5, .int ((0 : Int32))), (0, .ref (X.1 + v0)), (2, .int v2), (3, .int v3), (4, .int v4)] hc hr (dc_at dX5_stepToTwins 6 rfl) (by decide) rfl ?_
    exact gg_sub [1, 2, 3, 4, 0] rfl (tl_X5_stepToTwins_12 hc hr he hm hs ih2 F _ _ _ _ _ _ hf)
def l_X5_stepToTwins_3 (F : Nat) : Nat → PH → Nat → Int32 → Int32 → Int32 → Option (Int32 × PH)
  | 0 => fun _ _ _ _ _ => none
  | n + 1 => fun h v0 v2 v3 v4 => b_X5_stepToTwins_3 F (l_X5_stepToTwins_3 F n) h v0 v2 v3 v4
theorem tl_X5_stepToTwins_3 {M : MV} {X : XT} {F : Nat} {hz : PH} {r : Int32} {ce sl mc ms : Nat} (hc : Cx M X RX5 cX5_stepToTwins) (hr : Rx M 5 292 mc ms 8) (he : Ex M X (some .boolean) "stepToTwins" (some (.int r)) hz mc ms) (hm : ce ≤ mc) (hs : sl ≤ ms) (n : Nat) : ∀ (h : PH) (v0 : Nat) (v2 : Int32) (v3 : Int32) (v4 : Int32), l_X5_stepToTwins_3 F n h v0 v2 v3 v4 = some (r, hz) → GG M X h ce sl 3 [(0, .ref (X.1 + v0)), (2, .int v2), (3, .int v3), (4, .int v4)] [] := by
  induction n with
  | zero => intro h v0 v2 v3 v4 hf; cases hf
  | succ n ih => intro h v0 v2 v3 v4 hf; exact tb_X5_stepToTwins_3 (F := F) hc hr he hm hs  ih hf
def b_X5_stepToTwins_0 (F : Nat) (h : PH) (v0 : Nat) (v1 : Int32) (v2 : Int32) (v3 : Int32) : Option (Int32 × PH) := l_X5_stepToTwins_3 F F h v0 v2 v3 v1
set_option maxRecDepth 20000 in
theorem t_X5_stepToTwins_0 {M : MV} {X : XT} {F : Nat} {h hz : PH} {r : Int32} {ce sl mc ms : Nat} {v0 : Nat} {v1 : Int32} {v2 : Int32} {v3 : Int32} (hc : Cx M X RX5 cX5_stepToTwins) (hr : Rx M 5 292 mc ms 8) (he : Ex M X (some .boolean) "stepToTwins" (some (.int r)) hz mc ms) (hm : ce ≤ mc) (hs : sl ≤ ms) (hf : b_X5_stepToTwins_0 F h v0 v1 v2 v3 = some (r, hz)) : GG M X h ce sl 0 [(0, .ref (X.1 + v0)), (1, .int v1), (2, .int v2), (3, .int v3)] [] := by
  unfold b_X5_stepToTwins_0 at hf
  refine r_iload_n hc 1 (dc_at dX5_stepToTwins 0 rfl) rfl ?_
  refine r_istore [(4, .int v1), (0, .ref (X.1 + v0)), (1, .int v1), (2, .int v2), (3, .int v3)] hc hr (dc_at dX5_stepToTwins 1 rfl) (by decide) rfl ?_
  exact gg_sub [1, 3, 4, 0] rfl (tl_X5_stepToTwins_3 hc hr he hm hs  F _ _ _ _ _ hf)
def m_X5_stepToTwins (F : Nat) (h : PH) (p0 : Nat) (p1 : Int32) (p2 : Int32) (p3 : Int32) : Option (Int32 × PH) := b_X5_stepToTwins_0 F h p0 p1 p2 p3
theorem mt_X5_stepToTwins {l : Launch} {X : XT} {F : Nat} {h hz : PH} {p0 : Nat} {p1 : Int32} {p2 : Int32} {p3 : Int32} {r : Int32} (ex : m_X5_stepToTwins F h p0 p1 p2 p3 = some (r, hz)) : MT l X yX5_stepToTwins cX5_stepToTwins 8 (some .boolean) 5 292 0 0 [.ref (X.1 + p0), .int p1, .int p2, .int p3] h (some (.int r)) hz := MT.of (by decide) (Nat.le_of_ble_eq_true rfl) fun M hl hc hr he => by
  subst hl
  exact gg_sub [0, 1, 2, 3] rfl (t_X5_stepToTwins_0  hc hr he (Nat.zero_le _) (Nat.zero_le _) ex)
/-! FractionLift$Routes.seekTwins()I -/
def lX5_seekTwinsL : List (Nat × Instr × Nat × Nat) := [(0, .iconst 0, 1, 1), (1, .istore_n 1, 1, 2), (2, .iconst 1, 1, 3), (3, .istore_n 2, 1, 4), (4, .iload_n 2, 1, 5), (5, .iconst 5, 1, 6), (6, .if_icmp .gt 31, 3, 9), (9, .aload_n 0, 1, 10), (10, .getfield 18, 3, 13), (13, .getfield 49, 3, 16), (16, .istore_n 3, 1, 17), (17, .aload_n 0, 1, 18), (18, .iload_n 1, 1, 19), (19, .iload_n 3, 1, 20), (20, .iload_n 2, 1, 21), (21, .invokevirtual 96, 3, 24), (24, .ifCond .eq 5, 3, 27), (27, .iload_n 2, 1, 28), (28, .ireturn, 1, 29), (29, .iload_n 3, 1, 30), (30, .istore_n 1, 1, 31), (31, .iinc 2 1, 3, 34), (34, .goto (-30), 3, 37), (37, .iconst (-1), 1, 38), (38, .ireturn, 1, 39)]
set_option maxRecDepth 20000 in
theorem dX5_seekTwins : dcL cX5_seekTwins lX5_seekTwinsL = true := by decide +kernel
def b_X5_seekTwins_4 (F : Nat) (self4 : PH → Nat → Int32 → Int32 → Option (Int32 × PH)) (h : PH) (v0 : Nat) (v1 : Int32) (v2 : Int32) : Option (Int32 × PH) := if (5 : Int32) < v2 then (some ((-1 : Int32), h)) else ((gR 5 0 h v0).bind fun a1 => ((gI 1 4 h a1).bind fun x2 => (cO 5 h v0 (bind2 (m_X5_stepToTwins F h v0 v1 x2 v2) fun x3 h4 => (if x3 = 0 then (bindv (v2 + (1)) fun x5 => (self4 h4 v0 x2 x5)) else (some (v2, h4)))))))
set_option maxRecDepth 20000 in
theorem tb_X5_seekTwins_4 {M : MV} {X : XT} {F : Nat} {self4 : PH → Nat → Int32 → Int32 → Option (Int32 × PH)} {h hz : PH} {r : Int32} {ce sl mc ms : Nat} {v0 : Nat} {v1 : Int32} {v2 : Int32} (hc : Cx M X RX5 cX5_seekTwins) (hr : Rx M 6 350 mc ms 4) (he : Ex M X (some .int) "seekTwins" (some (.int r)) hz mc ms) (hm : ce ≤ mc) (hs : sl ≤ ms) (ih4 : ∀ (h : PH) (v0 : Nat) (v1 : Int32) (v2 : Int32), self4 h v0 v1 v2 = some (r, hz) → GG M X h ce sl 4 [(0, .ref (X.1 + v0)), (1, .int v1), (2, .int v2)] []) (hf : b_X5_seekTwins_4 F self4 h v0 v1 v2 = some (r, hz)) : GG M X h ce sl 4 [(0, .ref (X.1 + v0)), (1, .int v1), (2, .int v2)] [] := by
  unfold b_X5_seekTwins_4 at hf
  refine r_iload_n hc 2 (dc_at dX5_seekTwins 4 rfl) rfl ?_
  refine r_iconst (5 : Int32) hc (dc_at dX5_seekTwins 5 rfl) (by decide) ?_
  refine r_icmp_gt (tgt := 37) hc (dc_at dX5_seekTwins 6 rfl) (by decide) hf (fun hf => ?_) (fun hf => ?_)
  · refine r_iconst (-1 : Int32) hc (dc_at dX5_seekTwins 23 rfl) (by decide) ?_
    exact r_iret hc he (hm) (hs) (dc_at dX5_seekTwins 24 rfl) hf
  · refine r_aload_n hc 0 (dc_at dX5_seekTwins 7 rfl) rfl ?_
    refine r_getR hc (dc_at dX5_seekTwins 8 rfl) fl_X5_18 hf fun a1 hf => ?_
    refine r_getI hc (dc_at dX5_seekTwins 9 rfl) fl_X5_49 hf fun x2 hf => ?_
    refine r_istore_n [(3, .int x2), (0, .ref (X.1 + v0)), (1, .int v1), (2, .int v2)] hc hr (dc_at dX5_seekTwins 10 rfl) (by decide) rfl ?_
    refine r_aload_n hc 1 (dc_at dX5_seekTwins 11 rfl) rfl ?_
    refine r_iload_n hc 2 (dc_at dX5_seekTwins 12 rfl) rfl ?_
    refine r_iload_n hc 0 (dc_at dX5_seekTwins 13 rfl) rfl ?_
    refine r_iload_n hc 3 (dc_at dX5_seekTwins 14 rfl) rfl ?_
    obtain ⟨ho, hf⟩ := cO_some hf
    refine ob2 hf fun x3 h4 ex hf => ?_
    refine r_callVi (As := [.int v1, .int x2, .int v2]) (ci := 5) hc hr (dc_at dX5_seekTwins 15 rfl) ml_X5_96 mv_X5_stepToTwins vi_X5_stepToTwins rfl ho rfl (mt_X5_stepToTwins ex) (by first | exact Nat.le_of_ble_eq_true rfl | omega) (by first | exact Nat.le_of_ble_eq_true rfl | omega) (by first | exact Nat.le_of_ble_eq_true rfl | omega) hm hs ?_
    refine r_if_eq (tgt := 29) hc (dc_at dX5_seekTwins 16 rfl) (by decide) hf (fun hf => ?_) (fun hf => ?_)
    · refine r_iload_n hc 0 (dc_at dX5_seekTwins 19 rfl) rfl ?_
      refine r_istore_n [(1, .int x2), (3, .int x2), (0, .ref (X.1 + v0)), (2, .int v2)] hc hr (dc_at dX5_seekTwins 20 rfl) (by decide) rfl ?_
      refine obv hf fun x5 e_x5 hf => ?_
      refine r_iinc 3 [(2, .int x5), (1, .int x2), (3, .int x2), (0, .ref (X.1 + v0))] hc hr (dc_at dX5_seekTwins 21 rfl) rfl (by rw [e_x5]; rfl) (by decide) rfl ?_
      refine r_goto (tgt := 4) hc (dc_at dX5_seekTwins 22 rfl) (by decide) ?_
      exact gg_sub [3, 1, 0] rfl (ih4 _ _ _ _ hf)
    · refine r_iload_n hc 3 (dc_at dX5_seekTwins 17 rfl) rfl ?_
      exact r_iret hc he (hm) (hs) (dc_at dX5_seekTwins 18 rfl) hf
def l_X5_seekTwins_4 (F : Nat) : Nat → PH → Nat → Int32 → Int32 → Option (Int32 × PH)
  | 0 => fun _ _ _ _ => none
  | n + 1 => fun h v0 v1 v2 => b_X5_seekTwins_4 F (l_X5_seekTwins_4 F n) h v0 v1 v2
theorem tl_X5_seekTwins_4 {M : MV} {X : XT} {F : Nat} {hz : PH} {r : Int32} {ce sl mc ms : Nat} (hc : Cx M X RX5 cX5_seekTwins) (hr : Rx M 6 350 mc ms 4) (he : Ex M X (some .int) "seekTwins" (some (.int r)) hz mc ms) (hm : ce ≤ mc) (hs : sl ≤ ms) (n : Nat) : ∀ (h : PH) (v0 : Nat) (v1 : Int32) (v2 : Int32), l_X5_seekTwins_4 F n h v0 v1 v2 = some (r, hz) → GG M X h ce sl 4 [(0, .ref (X.1 + v0)), (1, .int v1), (2, .int v2)] [] := by
  induction n with
  | zero => intro h v0 v1 v2 hf; cases hf
  | succ n ih => intro h v0 v1 v2 hf; exact tb_X5_seekTwins_4 (F := F) hc hr he hm hs  ih hf
def b_X5_seekTwins_0 (F : Nat) (h : PH) (v0 : Nat) : Option (Int32 × PH) := l_X5_seekTwins_4 F F h v0 (0 : Int32) (1 : Int32)
set_option maxRecDepth 20000 in
theorem t_X5_seekTwins_0 {M : MV} {X : XT} {F : Nat} {h hz : PH} {r : Int32} {ce sl mc ms : Nat} {v0 : Nat} (hc : Cx M X RX5 cX5_seekTwins) (hr : Rx M 6 350 mc ms 4) (he : Ex M X (some .int) "seekTwins" (some (.int r)) hz mc ms) (hm : ce ≤ mc) (hs : sl ≤ ms) (hf : b_X5_seekTwins_0 F h v0 = some (r, hz)) : GG M X h ce sl 0 [(0, .ref (X.1 + v0))] [] := by
  unfold b_X5_seekTwins_0 at hf
  refine r_iconst (0 : Int32) hc (dc_at dX5_seekTwins 0 rfl) (by decide) ?_
  refine r_istore_n [(1, .int ((0 : Int32))), (0, .ref (X.1 + v0))] hc hr (dc_at dX5_seekTwins 1 rfl) (by decide) rfl ?_
  refine r_iconst (1 : Int32) hc (dc_at dX5_seekTwins 2 rfl) (by decide) ?_
  refine r_istore_n [(2, .int ((1 : Int32))), (1, .int ((0 : Int32))), (0, .ref (X.1 + v0))] hc hr (dc_at dX5_seekTwins 3 rfl) (by decide) rfl ?_
  exact gg_sub [2, 1, 0] rfl (tl_X5_seekTwins_4 hc hr he hm hs  F _ _ _ _ hf)
def m_X5_seekTwins (F : Nat) (h : PH) (p0 : Nat) : Option (Int32 × PH) := b_X5_seekTwins_0 F h p0
theorem mt_X5_seekTwins {l : Launch} {X : XT} {F : Nat} {h hz : PH} {p0 : Nat} {r : Int32} (ex : m_X5_seekTwins F h p0 = some (r, hz)) : MT l X yX5_seekTwins cX5_seekTwins 4 (some .int) 6 350 0 0 [.ref (X.1 + p0)] h (some (.int r)) hz := MT.of (by decide) (Nat.le_of_ble_eq_true rfl) fun M hl hc hr he => by
  subst hl
  exact gg_sub [0] rfl (t_X5_seekTwins_0  hc hr he (Nat.zero_le _) (Nat.zero_le _) ex)
/-! FractionLift$Routes.leastCommon(III)I -/
def lX5_leastCommonL : List (Nat × Instr × Nat × Nat) := [(0, .iconst (-1), 1, 1), (1, .istore 4, 2, 3), (3, .iload_n 2, 1, 4), (4, .istore 5, 2, 6), (6, .iload 5, 2, 8), (8, .iload_n 3, 1, 9), (9, .if_icmp .ge 66, 3, 12), (12, .iload 4, 2, 14), (14, .iconst (-1), 1, 15), (15, .if_icmp .eq 17, 3, 18), (18, .aload_n 0, 1, 19), (19, .getfield 18, 3, 22), (22, .iload 5, 2, 24), (24, .iload 4, 2, 26), (26, .invokevirtual 92, 3, 29), (29, .ifCond .eq 40, 3, 32), (32, .aload_n 0, 1, 33), (33, .getfield 18, 3, 36), (36, .aload_n 0, 1, 37), (37, .getfield 18, 3, 40), (40, .getfield 66, 3, 43), (43, .iload 5, 2, 45), (45, .iaload, 1, 46), (46, .aload_n 0, 1, 47), (47, .getfield 18, 3, 50), (50, .getfield 69, 3, 53), (53, .iload 5, 2, 55), (55, .iaload, 1, 56), (56, .iload_n 1, 1, 57), (57, .iload_n 2, 1, 58), (58, .invokevirtual 82, 3, 61), (61, .iconst (-1), 1, 62), (62, .if_icmp .eq 7, 3, 65), (65, .iload 5, 2, 67), (67, .istore 4, 2, 69), (69, .iinc 5 1, 3, 72), (72, .goto (-66), 3, 75), (75, .iload 4, 2, 77), (77, .ireturn, 1, 78)]
set_option maxRecDepth 20000 in
theorem dX5_leastCommon : dcL cX5_leastCommon lX5_leastCommonL = true := by decide +kernel
def b_X5_leastCommon_69 (F : Nat) (self4 : Nat → Int32 → Int32 → Int32 → Int32 → Int32 → Option Int32) (h : PH) (v0 : Nat) (v1 : Int32) (v2 : Int32) (v3 : Int32) (v4 : Int32) (v5 : Int32) : Option Int32 := bindv (v5 + (1)) fun x1 => (self4 v0 v1 v2 v3 v4 x1)
set_option maxRecDepth 20000 in
theorem t_X5_leastCommon_69 {M : MV} {X : XT} {F : Nat} {self4 : Nat → Int32 → Int32 → Int32 → Int32 → Int32 → Option Int32} {h : PH} {r : Int32} {ce sl mc ms : Nat} {v0 : Nat} {v1 : Int32} {v2 : Int32} {v3 : Int32} {v4 : Int32} {v5 : Int32} (hc : Cx M X RX5 cX5_leastCommon) (hr : Rx M 3 176 mc ms 6) (he : Ex M X (some .int) "leastCommon" (some (.int r)) h mc ms) (hm : ce ≤ mc) (hs : sl ≤ ms) (ih4 : ∀ (v0 : Nat) (v1 : Int32) (v2 : Int32) (v3 : Int32) (v4 : Int32) (v5 : Int32), self4 v0 v1 v2 v3 v4 v5 = some r → GG M X h ce sl 6 [(0, .ref (X.1 + v0)), (1, .int v1), (2, .int v2), (3, .int v3), (4, .int v4), (5, .int v5)] []) (hf : b_X5_leastCommon_69 F self4 h v0 v1 v2 v3 v4 v5 = some r) : GG M X h ce sl 69 [(0, .ref (X.1 + v0)), (1, .int v1), (2, .int v2), (3, .int v3), (4, .int v4), (5, .int v5)] [] := by
  unfold b_X5_leastCommon_69 at hf
  refine obv hf fun x1 e_x1 hf => ?_
  refine r_iinc 5 [(5, .int x1), (0, .ref (X.1 + v0)), (1, .int v1), (2, .int v2), (3, .int v3), (4, .int v4)] hc hr (dc_at dX5_leastCommon 35 rfl) rfl (by rw [e_x1]; rfl) (by decide) rfl ?_
  refine r_goto (tgt := 6) hc (dc_at dX5_leastCommon 36 rfl) (by decide) ?_
  exact gg_sub [1, 2, 3, 4, 5, 0] rfl (ih4 _ _ _ _ _ _ hf)
def b_X5_leastCommon_32 (F : Nat) (self4 : Nat → Int32 → Int32 → Int32 → Int32 → Int32 → Option Int32) (h : PH) (v0 : Nat) (v1 : Int32) (v2 : Int32) (v3 : Int32) (v4 : Int32) (v5 : Int32) : Option Int32 := (gR 5 0 h v0).bind fun a1 => ((gR 5 0 h v0).bind fun a2 => ((gR 1 0 h a2).bind fun a3 => ((aI 0 h a3 v5).bind fun x4 => ((gR 5 0 h v0).bind fun a5 => ((gR 1 1 h a5).bind fun a6 => ((aI 0 h a6 v5).bind fun x7 => (cO 1 h a1 ((m_X1_find F h a1 x4 x7 v1 v2).bind fun x8 => (if x8 = (-1 : Int32) then (b_X5_leastCommon_69 F self4 h v0 v1 v2 v3 v4 v5) else (b_X5_leastCommon_69 F self4 h v0 v1 v2 v3 v5 v5))))))))))
set_option maxRecDepth 20000 in
theorem t_X5_leastCommon_32 {M : MV} {X : XT} {F : Nat} {self4 : Nat → Int32 → Int32 → Int32 → Int32 → Int32 → Option Int32} {h : PH} {r : Int32} {ce sl mc ms : Nat} {v0 : Nat} {v1 : Int32} {v2 : Int32} {v3 : Int32} {v4 : Int32} {v5 : Int32} (hc : Cx M X RX5 cX5_leastCommon) (hr : Rx M 3 176 mc ms 6) (he : Ex M X (some .int) "leastCommon" (some (.int r)) h mc ms) (hm : ce ≤ mc) (hs : sl ≤ ms) (ih4 : ∀ (v0 : Nat) (v1 : Int32) (v2 : Int32) (v3 : Int32) (v4 : Int32) (v5 : Int32), self4 v0 v1 v2 v3 v4 v5 = some r → GG M X h ce sl 6 [(0, .ref (X.1 + v0)), (1, .int v1), (2, .int v2), (3, .int v3), (4, .int v4), (5, .int v5)] []) (hf : b_X5_leastCommon_32 F self4 h v0 v1 v2 v3 v4 v5 = some r) : GG M X h ce sl 32 [(0, .ref (X.1 + v0)), (1, .int v1), (2, .int v2), (3, .int v3), (4, .int v4), (5, .int v5)] [] := by
  unfold b_X5_leastCommon_32 at hf
  refine r_aload_n hc 0 (dc_at dX5_leastCommon 16 rfl) rfl ?_
  refine r_getR hc (dc_at dX5_leastCommon 17 rfl) fl_X5_18 hf fun a1 hf => ?_
  refine r_aload_n hc 0 (dc_at dX5_leastCommon 18 rfl) rfl ?_
  refine r_getR hc (dc_at dX5_leastCommon 19 rfl) fl_X5_18 hf fun a2 hf => ?_
  refine r_getR hc (dc_at dX5_leastCommon 20 rfl) fl_X5_66 hf fun a3 hf => ?_
  refine r_iload hc 5 (dc_at dX5_leastCommon 21 rfl) rfl ?_
  refine r_iaload hc (dc_at dX5_leastCommon 22 rfl) hf fun x4 hf => ?_
  refine r_aload_n hc 0 (dc_at dX5_leastCommon 23 rfl) rfl ?_
  refine r_getR hc (dc_at dX5_leastCommon 24 rfl) fl_X5_18 hf fun a5 hf => ?_
  refine r_getR hc (dc_at dX5_leastCommon 25 rfl) fl_X5_69 hf fun a6 hf => ?_
  refine r_iload hc 5 (dc_at dX5_leastCommon 26 rfl) rfl ?_
  refine r_iaload hc (dc_at dX5_leastCommon 27 rfl) hf fun x7 hf => ?_
  refine r_iload_n hc 1 (dc_at dX5_leastCommon 28 rfl) rfl ?_
  refine r_iload_n hc 2 (dc_at dX5_leastCommon 29 rfl) rfl ?_
  obtain ⟨ho, hf⟩ := cO_some hf
  refine ob hf fun x8 ex hf => ?_
  refine r_callVi (As := [.int x4, .int x7, .int v1, .int v2]) (ci := 1) hc hr (dc_at dX5_leastCommon 30 rfl) ml_X5_82 mv_X1_find vi_X1_find rfl ho rfl (mt_X1_find ex) (by first | exact Nat.le_of_ble_eq_true rfl | omega) (by first | exact Nat.le_of_ble_eq_true rfl | omega) (by first | exact Nat.le_of_ble_eq_true rfl | omega) hm hs ?_
  refine r_iconst (-1 : Int32) hc (dc_at dX5_leastCommon 31 rfl) (by decide) ?_
  refine r_icmp_eq (tgt := 69) hc (dc_at dX5_leastCommon 32 rfl) (by decide) hf (fun hf => ?_) (fun hf => ?_)
  · exact gg_sub [0, 1, 2, 3, 4, 5] rfl (t_X5_leastCommon_69 hc hr he hm hs ih4 hf)
  · refine r_iload hc 5 (dc_at dX5_leastCommon 33 rfl) rfl ?_
    refine r_istore [(4, .int v5), (0, .ref (X.1 + v0)), (1, .int v1), (2, .int v2), (3, .int v3), (5, .int v5)] hc hr (dc_at dX5_leastCommon 34 rfl) (by decide) rfl ?_
    exact gg_sub [1, 2, 3, 4, 0, 5] rfl (t_X5_leastCommon_69 hc hr he hm hs ih4 hf)
def b_X5_leastCommon_6 (F : Nat) (self4 : Nat → Int32 → Int32 → Int32 → Int32 → Int32 → Option Int32) (h : PH) (v0 : Nat) (v1 : Int32) (v2 : Int32) (v3 : Int32) (v4 : Int32) (v5 : Int32) : Option Int32 := if v3 ≤ v5 then (some v4) else (if v4 = (-1 : Int32) then (b_X5_leastCommon_32 F self4 h v0 v1 v2 v3 v4 v5) else ((gR 5 0 h v0).bind fun a1 => (cO 1 h a1 ((m_X1_isBelow h a1 v5 v4).bind fun x2 => (if x2 = 0 then (b_X5_leastCommon_69 F self4 h v0 v1 v2 v3 v4 v5) else (b_X5_leastCommon_32 F self4 h v0 v1 v2 v3 v4 v5))))))
set_option maxRecDepth 20000 in
theorem tb_X5_leastCommon_6 {M : MV} {X : XT} {F : Nat} {self4 : Nat → Int32 → Int32 → Int32 → Int32 → Int32 → Option Int32} {h : PH} {r : Int32} {ce sl mc ms : Nat} {v0 : Nat} {v1 : Int32} {v2 : Int32} {v3 : Int32} {v4 : Int32} {v5 : Int32} (hc : Cx M X RX5 cX5_leastCommon) (hr : Rx M 3 176 mc ms 6) (he : Ex M X (some .int) "leastCommon" (some (.int r)) h mc ms) (hm : ce ≤ mc) (hs : sl ≤ ms) (ih4 : ∀ (v0 : Nat) (v1 : Int32) (v2 : Int32) (v3 : Int32) (v4 : Int32) (v5 : Int32), self4 v0 v1 v2 v3 v4 v5 = some r → GG M X h ce sl 6 [(0, .ref (X.1 + v0)), (1, .int v1), (2, .int v2), (3, .int v3), (4, .int v4), (5, .int v5)] []) (hf : b_X5_leastCommon_6 F self4 h v0 v1 v2 v3 v4 v5 = some r) : GG M X h ce sl 6 [(0, .ref (X.1 + v0)), (1, .int v1), (2, .int v2), (3, .int v3), (4, .int v4), (5, .int v5)] [] := by
  unfold b_X5_leastCommon_6 at hf
  refine r_iload hc 5 (dc_at dX5_leastCommon 4 rfl) rfl ?_
  refine r_iload_n hc 3 (dc_at dX5_leastCommon 5 rfl) rfl ?_
  refine r_icmp_ge (tgt := 75) hc (dc_at dX5_leastCommon 6 rfl) (by decide) hf (fun hf => ?_) (fun hf => ?_)
  · refine r_iload hc 4 (dc_at dX5_leastCommon 37 rfl) rfl ?_
    exact r_iretP hc he (hm) (hs) (dc_at dX5_leastCommon 38 rfl) hf
  · refine r_iload hc 4 (dc_at dX5_leastCommon 7 rfl) rfl ?_
    refine r_iconst (-1 : Int32) hc (dc_at dX5_leastCommon 8 rfl) (by decide) ?_
    refine r_icmp_eq (tgt := 32) hc (dc_at dX5_leastCommon 9 rfl) (by decide) hf (fun hf => ?_) (fun hf => ?_)
    · exact gg_sub [0, 1, 2, 3, 4, 5] rfl (t_X5_leastCommon_32 hc hr he hm hs ih4 hf)
    · refine r_aload_n hc 0 (dc_at dX5_leastCommon 10 rfl) rfl ?_
      refine r_getR hc (dc_at dX5_leastCommon 11 rfl) fl_X5_18 hf fun a1 hf => ?_
      refine r_iload hc 5 (dc_at dX5_leastCommon 12 rfl) rfl ?_
      refine r_iload hc 4 (dc_at dX5_leastCommon 13 rfl) rfl ?_
      obtain ⟨ho, hf⟩ := cO_some hf
      refine ob hf fun x2 ex hf => ?_
      refine r_callVi (As := [.int v5, .int v4]) (ci := 1) hc hr (dc_at dX5_leastCommon 14 rfl) ml_X5_92 mv_X1_isBelow vi_X1_isBelow rfl ho rfl (mt_X1_isBelow ex) (by first | exact Nat.le_of_ble_eq_true rfl | omega) (by first | exact Nat.le_of_ble_eq_true rfl | omega) (by first | exact Nat.le_of_ble_eq_true rfl | omega) hm hs ?_
      refine r_if_eq (tgt := 69) hc (dc_at dX5_leastCommon 15 rfl) (by decide) hf (fun hf => ?_) (fun hf => ?_)
      · exact gg_sub [0, 1, 2, 3, 4, 5] rfl (t_X5_leastCommon_69 hc hr he hm hs ih4 hf)
      · exact gg_sub [0, 1, 2, 3, 4, 5] rfl (t_X5_leastCommon_32 hc hr he hm hs ih4 hf)
def l_X5_leastCommon_6 (F : Nat) (h : PH) : Nat → Nat → Int32 → Int32 → Int32 → Int32 → Int32 → Option Int32
  | 0 => fun _ _ _ _ _ _ => none
  | n + 1 => fun v0 v1 v2 v3 v4 v5 => b_X5_leastCommon_6 F (l_X5_leastCommon_6 F h n) h v0 v1 v2 v3 v4 v5
theorem tl_X5_leastCommon_6 {M : MV} {X : XT} {F : Nat} {h : PH} {r : Int32} {ce sl mc ms : Nat} (hc : Cx M X RX5 cX5_leastCommon) (hr : Rx M 3 176 mc ms 6) (he : Ex M X (some .int) "leastCommon" (some (.int r)) h mc ms) (hm : ce ≤ mc) (hs : sl ≤ ms) (n : Nat) : ∀ (v0 : Nat) (v1 : Int32) (v2 : Int32) (v3 : Int32) (v4 : Int32) (v5 : Int32), l_X5_leastCommon_6 F h n v0 v1 v2 v3 v4 v5 = some r → GG M X h ce sl 6 [(0, .ref (X.1 + v0)), (1, .int v1), (2, .int v2), (3, .int v3), (4, .int v4), (5, .int v5)] [] := by
  induction n with
  | zero => intro v0 v1 v2 v3 v4 v5 hf; cases hf
  | succ n ih => intro v0 v1 v2 v3 v4 v5 hf; exact tb_X5_leastCommon_6 (F := F) hc hr he hm hs  ih hf
def b_X5_leastCommon_0 (F : Nat) (h : PH) (v0 : Nat) (v1 : Int32) (v2 : Int32) (v3 : Int32) : Option Int32 := l_X5_leastCommon_6 F h F v0 v1 v2 v3 (-1 : Int32) v2
set_option maxRecDepth 20000 in
theorem t_X5_leastCommon_0 {M : MV} {X : XT} {F : Nat} {h : PH} {r : Int32} {ce sl mc ms : Nat} {v0 : Nat} {v1 : Int32} {v2 : Int32} {v3 : Int32} (hc : Cx M X RX5 cX5_leastCommon) (hr : Rx M 3 176 mc ms 6) (he : Ex M X (some .int) "leastCommon" (some (.int r)) h mc ms) (hm : ce ≤ mc) (hs : sl ≤ ms) (hf : b_X5_leastCommon_0 F h v0 v1 v2 v3 = some r) : GG M X h ce sl 0 [(0, .ref (X.1 + v0)), (1, .int v1), (2, .int v2), (3, .int v3)] [] := by
  unfold b_X5_leastCommon_0 at hf
  refine r_iconst (-1 : Int32) hc (dc_at dX5_leastCommon 0 rfl) (by decide) ?_
  refine r_istore [(4, .int ((-1 : Int32))), (0, .ref (X.1 + v0)), (1, .int v1), (2, .int v2), (3, .int v3)] hc hr (dc_at dX5_leastCommon 1 rfl) (by decide) rfl ?_
  refine r_iload_n hc 3 (dc_at dX5_leastCommon 2 rfl) rfl ?_
  refine r_istore [(5, .int v2), (4, .int ((-1 : Int32))), (0, .ref (X.1 + v0)), (1, .int v1), (2, .int v2), (3, .int v3)] hc hr (dc_at dX5_leastCommon 3 rfl) (by decide) rfl ?_
  exact gg_sub [2, 3, 4, 5, 1, 0] rfl (tl_X5_leastCommon_6 hc hr he hm hs  F _ _ _ _ _ _ hf)
def m_X5_leastCommon (F : Nat) (h : PH) (p0 : Nat) (p1 : Int32) (p2 : Int32) (p3 : Int32) : Option Int32 := b_X5_leastCommon_0 F h p0 p1 p2 p3
theorem mt_X5_leastCommon {l : Launch} {X : XT} {F : Nat} {h : PH} {p0 : Nat} {p1 : Int32} {p2 : Int32} {p3 : Int32} {r : Int32} (ex : m_X5_leastCommon F h p0 p1 p2 p3 = some r) : MT l X yX5_leastCommon cX5_leastCommon 6 (some .int) 3 176 0 0 [.ref (X.1 + p0), .int p1, .int p2, .int p3] h (some (.int r)) h := MT.of (by decide) (Nat.le_of_ble_eq_true rfl) fun M hl hc hr he => by
  subst hl
  exact gg_sub [0, 1, 2, 3] rfl (t_X5_leastCommon_0  hc hr he (Nat.zero_le _) (Nat.zero_le _) ex)
/-! FractionLift$Routes.stay(II)V -/
def lX5_stayL : List (Nat × Instr × Nat × Nat) := [(0, .iload_n 1, 1, 1), (1, .istore_n 3, 1, 2), (2, .iload_n 3, 1, 3), (3, .iload_n 2, 1, 4), (4, .if_icmp .ge 35, 3, 7), (7, .aload_n 0, 1, 8), (8, .getfield 18, 3, 11), (11, .aload_n 0, 1, 12), (12, .getfield 18, 3, 15), (15, .getfield 66, 3, 18), (18, .iload_n 3, 1, 19), (19, .iaload, 1, 20), (20, .aload_n 0, 1, 21), (21, .getfield 18, 3, 24), (24, .getfield 69, 3, 27), (27, .iload_n 3, 1, 28), (28, .iaload, 1, 29), (29, .iconst (-1), 1, 30), (30, .invokevirtual 45, 3, 33), (33, .iinc 3 1, 3, 36), (36, .goto (-34), 3, 39), (39, .return_, 1, 40)]
set_option maxRecDepth 20000 in
theorem dX5_stay : dcL cX5_stay lX5_stayL = true := by decide +kernel
def b_X5_stay_2 (F : Nat) (self2 : PH → Nat → Int32 → Int32 → Option (Unit × PH)) (h : PH) (v0 : Nat) (v2 : Int32) (v3 : Int32) : Option (Unit × PH) := if v2 ≤ v3 then (some ((), h)) else ((gR 5 0 h v0).bind fun a1 => ((gR 5 0 h v0).bind fun a2 => ((gR 1 0 h a2).bind fun a3 => ((aI 0 h a3 v3).bind fun x4 => ((gR 5 0 h v0).bind fun a5 => ((gR 1 1 h a5).bind fun a6 => ((aI 0 h a6 v3).bind fun x7 => (cO 1 h a1 (bind2 (m_X1_put h a1 x4 x7 (-1 : Int32)) fun _ h9 => (bindv (v3 + (1)) fun x10 => (self2 h9 v0 v2 x10)))))))))))
set_option maxRecDepth 20000 in
theorem tb_X5_stay_2 {M : MV} {X : XT} {F : Nat} {self2 : PH → Nat → Int32 → Int32 → Option (Unit × PH)} {h hz : PH} {r : Unit} {ce sl mc ms : Nat} {v0 : Nat} {v2 : Int32} {v3 : Int32} (hc : Cx M X RX5 cX5_stay) (hr : Rx M 3 176 mc ms 4) (he : Ex M X none "stay" none hz mc ms) (hm : ce ≤ mc) (hs : sl ≤ ms) (ih2 : ∀ (h : PH) (v0 : Nat) (v2 : Int32) (v3 : Int32), self2 h v0 v2 v3 = some (r, hz) → GG M X h ce sl 2 [(0, .ref (X.1 + v0)), (2, .int v2), (3, .int v3)] []) (hf : b_X5_stay_2 F self2 h v0 v2 v3 = some (r, hz)) : GG M X h ce sl 2 [(0, .ref (X.1 + v0)), (2, .int v2), (3, .int v3)] [] := by
  unfold b_X5_stay_2 at hf
  refine r_iload_n hc 2 (dc_at dX5_stay 2 rfl) rfl ?_
  refine r_iload_n hc 1 (dc_at dX5_stay 3 rfl) rfl ?_
  refine r_icmp_ge (tgt := 39) hc (dc_at dX5_stay 4 rfl) (by decide) hf (fun hf => ?_) (fun hf => ?_)
  · exact r_vret hc he (hm) (hs) (dc_at dX5_stay 21 rfl) hf
  · refine r_aload_n hc 0 (dc_at dX5_stay 5 rfl) rfl ?_
    refine r_getR hc (dc_at dX5_stay 6 rfl) fl_X5_18 hf fun a1 hf => ?_
    refine r_aload_n hc 0 (dc_at dX5_stay 7 rfl) rfl ?_
    refine r_getR hc (dc_at dX5_stay 8 rfl) fl_X5_18 hf fun a2 hf => ?_
    refine r_getR hc (dc_at dX5_stay 9 rfl) fl_X5_66 hf fun a3 hf => ?_
    refine r_iload_n hc 2 (dc_at dX5_stay 10 rfl) rfl ?_
    refine r_iaload hc (dc_at dX5_stay 11 rfl) hf fun x4 hf => ?_
    refine r_aload_n hc 0 (dc_at dX5_stay 12 rfl) rfl ?_
    refine r_getR hc (dc_at dX5_stay 13 rfl) fl_X5_18 hf fun a5 hf => ?_
    refine r_getR hc (dc_at dX5_stay 14 rfl) fl_X5_69 hf fun a6 hf => ?_
    refine r_iload_n hc 2 (dc_at dX5_stay 15 rfl) rfl ?_
    refine r_iaload hc (dc_at dX5_stay 16 rfl) hf fun x7 hf => ?_
    refine r_iconst (-1 : Int32) hc (dc_at dX5_stay 17 rfl) (by decide) ?_
    obtain ⟨ho, hf⟩ := cO_some hf
    refine ob2 hf fun u h9 ex hf => ?_
    refine r_callVv (As := [.int x4, .int x7, .int ((-1 : Int32))]) (ci := 1) hc hr (dc_at dX5_stay 18 rfl) ml_X5_45 mv_X1_put vi_X1_put rfl ho rfl (mt_X1_put ex) (by first | exact Nat.le_of_ble_eq_true rfl | omega) (by first | exact Nat.le_of_ble_eq_true rfl | omega) (by first | exact Nat.le_of_ble_eq_true rfl | omega) hm hs ?_
    refine obv hf fun x10 e_x10 hf => ?_
    refine r_iinc 2 [(3, .int x10), (0, .ref (X.1 + v0)), (2, .int v2)] hc hr (dc_at dX5_stay 19 rfl) rfl (by rw [e_x10]; rfl) (by decide) rfl ?_
    refine r_goto (tgt := 2) hc (dc_at dX5_stay 20 rfl) (by decide) ?_
    exact gg_sub [1, 2, 0] rfl (ih2 _ _ _ _ hf)
def l_X5_stay_2 (F : Nat) : Nat → PH → Nat → Int32 → Int32 → Option (Unit × PH)
  | 0 => fun _ _ _ _ => none
  | n + 1 => fun h v0 v2 v3 => b_X5_stay_2 F (l_X5_stay_2 F n) h v0 v2 v3
theorem tl_X5_stay_2 {M : MV} {X : XT} {F : Nat} {hz : PH} {r : Unit} {ce sl mc ms : Nat} (hc : Cx M X RX5 cX5_stay) (hr : Rx M 3 176 mc ms 4) (he : Ex M X none "stay" none hz mc ms) (hm : ce ≤ mc) (hs : sl ≤ ms) (n : Nat) : ∀ (h : PH) (v0 : Nat) (v2 : Int32) (v3 : Int32), l_X5_stay_2 F n h v0 v2 v3 = some (r, hz) → GG M X h ce sl 2 [(0, .ref (X.1 + v0)), (2, .int v2), (3, .int v3)] [] := by
  induction n with
  | zero => intro h v0 v2 v3 hf; cases hf
  | succ n ih => intro h v0 v2 v3 hf; exact tb_X5_stay_2 (F := F) hc hr he hm hs  ih hf
def b_X5_stay_0 (F : Nat) (h : PH) (v0 : Nat) (v1 : Int32) (v2 : Int32) : Option (Unit × PH) := l_X5_stay_2 F F h v0 v2 v1
set_option maxRecDepth 20000 in
theorem t_X5_stay_0 {M : MV} {X : XT} {F : Nat} {h hz : PH} {r : Unit} {ce sl mc ms : Nat} {v0 : Nat} {v1 : Int32} {v2 : Int32} (hc : Cx M X RX5 cX5_stay) (hr : Rx M 3 176 mc ms 4) (he : Ex M X none "stay" none hz mc ms) (hm : ce ≤ mc) (hs : sl ≤ ms) (hf : b_X5_stay_0 F h v0 v1 v2 = some (r, hz)) : GG M X h ce sl 0 [(0, .ref (X.1 + v0)), (1, .int v1), (2, .int v2)] [] := by
  unfold b_X5_stay_0 at hf
  refine r_iload_n hc 1 (dc_at dX5_stay 0 rfl) rfl ?_
  refine r_istore_n [(3, .int v1), (0, .ref (X.1 + v0)), (1, .int v1), (2, .int v2)] hc hr (dc_at dX5_stay 1 rfl) (by decide) rfl ?_
  exact gg_sub [1, 3, 0] rfl (tl_X5_stay_2 hc hr he hm hs  F _ _ _ _ hf)
def m_X5_stay (F : Nat) (h : PH) (p0 : Nat) (p1 : Int32) (p2 : Int32) : Option (Unit × PH) := b_X5_stay_0 F h p0 p1 p2
theorem mt_X5_stay {l : Launch} {X : XT} {F : Nat} {h hz : PH} {p0 : Nat} {p1 : Int32} {p2 : Int32} {r : Unit} (ex : m_X5_stay F h p0 p1 p2 = some (r, hz)) : MT l X yX5_stay cX5_stay 4 none 3 176 0 0 [.ref (X.1 + p0), .int p1, .int p2] h none hz := MT.of (by decide) (Nat.le_of_ble_eq_true rfl) fun M hl hc hr he => by
  subst hl
  exact gg_sub [0, 1, 2] rfl (t_X5_stay_0  hc hr he (Nat.zero_le _) (Nat.zero_le _) ex)
/-! FractionLift$Routes.seekMeeting(IIZ)I -/
def lX5_seekMeetingL : List (Nat × Instr × Nat × Nat) := [(0, .aload_n 0, 1, 1), (1, .getfield 18, 3, 4), (4, .getfield 49, 3, 7), (7, .istore 4, 2, 9), (9, .aload_n 0, 1, 10), (10, .getfield 18, 3, 13), (13, .aload_n 0, 1, 14), (14, .getfield 29, 3, 17), (17, .getfield 100, 3, 20), (20, .iload_n 1, 1, 21), (21, .iaload, 1, 22), (22, .aload_n 0, 1, 23), (23, .getfield 29, 3, 26), (26, .getfield 103, 3, 29), (29, .iload_n 1, 1, 30), (30, .iaload, 1, 31), (31, .iconst (-1), 1, 32), (32, .invokevirtual 45, 3, 35), (35, .aload_n 0, 1, 36), (36, .getfield 18, 3, 39), (39, .getfield 49, 3, 42), (42, .istore 5, 2, 44), (44, .aload_n 0, 1, 45), (45, .getfield 18, 3, 48), (48, .aload_n 0, 1, 49), (49, .getfield 29, 3, 52), (52, .getfield 100, 3, 55), (55, .iload_n 2, 1, 56), (56, .iaload, 1, 57), (57, .aload_n 0, 1, 58), (58, .getfield 29, 3, 61), (61, .getfield 103, 3, 64), (64, .iload_n 2, 1, 65), (65, .iaload, 1, 66), (66, .iconst (-1), 1, 67), (67, .invokevirtual 45, 3, 70), (70, .iconst 0, 1, 71), (71, .istore 6, 2, 73), (73, .iload 6, 2, 75), (75, .iconst 4, 1, 76), (76, .if_icmp .gt 98, 3, 79), (79, .aload_n 0, 1, 80), (80, .getfield 18, 3, 83), (83, .getfield 49, 3, 86), (86, .istore 7, 2, 88), (88, .aload_n 0, 1, 89), (89, .aload_n 0, 1, 90), (90, .iload 4, 2, 92), (92, .iload 5, 2, 94), (94, .iload 7, 2, 96), (96, .invokevirtual 106, 3, 99), (99, .putfield 110, 3, 102), (102, .aload_n 0, 1, 103), (103, .getfield 110, 3, 106), (106, .iconst (-1), 1, 107), (107, .if_icmp .eq 6, 3, 110), (110, .iload 6, 2, 112), (112, .ireturn, 1, 113), (113, .iload 6, 2, 115), (115, .iconst 4, 1, 116), (116, .if_icmp .ge 52, 3, 119), (119, .aload_n 0, 1, 120), (120, .iload 4, 2, 122), (122, .iload 5, 2, 124), (124, .iload 7, 2, 126), (126, .invokevirtual 89, 3, 129), (129, .aload_n 0, 1, 130), (130, .getfield 18, 3, 133), (133, .getfield 49, 3, 136), (136, .istore 8, 2, 138), (138, .iload_n 3, 1, 139), (139, .ifCond .eq 11, 3, 142), (142, .aload_n 0, 1, 143), (143, .iload 5, 2, 145), (145, .iload 7, 2, 147), (147, .invokevirtual 113, 3, 150), (150, .aload_n 0, 1, 151), (151, .iload 5, 2, 153), (153, .iload 7, 2, 155), (155, .iload 8, 2, 157), (157, .invokevirtual 89, 3, 160), (160, .iload 7, 2, 162), (162, .istore 4, 2, 164), (164, .iload 8, 2, 166), (166, .istore 5, 2, 168), (168, .iinc 6 1, 3, 171), (171, .goto (-98), 3, 174), (174, .iconst (-1), 1, 175), (175, .ireturn, 1, 176)]
set_option maxRecDepth 20000 in
theorem dX5_seekMeeting : dcL cX5_seekMeeting lX5_seekMeetingL = true := by decide +kernel
def b_X5_seekMeeting_168 (F : Nat) (self38 : PH → Nat → Int32 → Int32 → Int32 → Int32 → Option (Int32 × PH)) (h : PH) (v0 : Nat) (v3 : Int32) (v4 : Int32) (v5 : Int32) (v6 : Int32) : Option (Int32 × PH) := bindv (v6 + (1)) fun x1 => (self38 h v0 v3 v4 v5 x1)
set_option maxRecDepth 20000 in
theorem t_X5_seekMeeting_168 {M : MV} {X : XT} {F : Nat} {self38 : PH → Nat → Int32 → Int32 → Int32 → Int32 → Option (Int32 × PH)} {h hz : PH} {r : Int32} {ce sl mc ms : Nat} {v0 : Nat} {v3 : Int32} {v4 : Int32} {v5 : Int32} {v6 : Int32} (hc : Cx M X RX5 cX5_seekMeeting) (hr : Rx M 6 350 mc ms 9) (he : Ex M X (some .int) "seekMeeting" (some (.int r)) hz mc ms) (hm : ce ≤ mc) (hs : sl ≤ ms) (ih38 : ∀ (h : PH) (v0 : Nat) (v3 : Int32) (v4 : Int32) (v5 : Int32) (v6 : Int32), self38 h v0 v3 v4 v5 v6 = some (r, hz) → GG M X h ce sl 73 [(0, .ref (X.1 + v0)), (3, .int v3), (4, .int v4), (5, .int v5), (6, .int v6)] []) (hf : b_X5_seekMeeting_168 F self38 h v0 v3 v4 v5 v6 = some (r, hz)) : GG M X h ce sl 168 [(0, .ref (X.1 + v0)), (3, .int v3), (4, .int v4), (5, .int v5), (6, .int v6)] [] := by
  unfold b_X5_seekMeeting_168 at hf
  refine obv hf fun x1 e_x1 hf => ?_
  refine r_iinc 4 [(6, .int x1), (0, .ref (X.1 + v0)), (3, .int v3), (4, .int v4), (5, .int v5)] hc hr (dc_at dX5_seekMeeting 85 rfl) rfl (by rw [e_x1]; rfl) (by decide) rfl ?_
  refine r_goto (tgt := 73) hc (dc_at dX5_seekMeeting 86 rfl) (by decide) ?_
  exact gg_sub [1, 2, 3, 4, 0] rfl (ih38 _ _ _ _ _ _ hf)
def b_X5_seekMeeting_150 (F : Nat) (self38 : PH → Nat → Int32 → Int32 → Int32 → Int32 → Option (Int32 × PH)) (h : PH) (v0 : Nat) (v3 : Int32) (v5 : Int32) (v6 : Int32) (v7 : Int32) (v8 : Int32) : Option (Int32 × PH) := cO 5 h v0 (bind2 (m_X5_spread F h v0 v5 v7 v8) fun _ h2 => (b_X5_seekMeeting_168 F self38 h2 v0 v3 v7 v8 v6))
set_option maxRecDepth 20000 in
theorem t_X5_seekMeeting_150 {M : MV} {X : XT} {F : Nat} {self38 : PH → Nat → Int32 → Int32 → Int32 → Int32 → Option (Int32 × PH)} {h hz : PH} {r : Int32} {ce sl mc ms : Nat} {v0 : Nat} {v3 : Int32} {v5 : Int32} {v6 : Int32} {v7 : Int32} {v8 : Int32} (hc : Cx M X RX5 cX5_seekMeeting) (hr : Rx M 6 350 mc ms 9) (he : Ex M X (some .int) "seekMeeting" (some (.int r)) hz mc ms) (hm : ce ≤ mc) (hs : sl ≤ ms) (ih38 : ∀ (h : PH) (v0 : Nat) (v3 : Int32) (v4 : Int32) (v5 : Int32) (v6 : Int32), self38 h v0 v3 v4 v5 v6 = some (r, hz) → GG M X h ce sl 73 [(0, .ref (X.1 + v0)), (3, .int v3), (4, .int v4), (5, .int v5), (6, .int v6)] []) (hf : b_X5_seekMeeting_150 F self38 h v0 v3 v5 v6 v7 v8 = some (r, hz)) : GG M X h ce sl 150 [(0, .ref (X.1 + v0)), (3, .int v3), (5, .int v5), (6, .int v6), (7, .int v7), (8, .int v8)] [] := by
  unfold b_X5_seekMeeting_150 at hf
  refine r_aload_n hc 0 (dc_at dX5_seekMeeting 76 rfl) rfl ?_
  refine r_iload hc 2 (dc_at dX5_seekMeeting 77 rfl) rfl ?_
  refine r_iload hc 4 (dc_at dX5_seekMeeting 78 rfl) rfl ?_
  refine r_iload hc 5 (dc_at dX5_seekMeeting 79 rfl) rfl ?_
  obtain ⟨ho, hf⟩ := cO_some hf
  refine ob2 hf fun u h2 ex hf => ?_
  refine r_callVv (As := [.int v5, .int v7, .int v8]) (ci := 5) hc hr (dc_at dX5_seekMeeting 80 rfl) ml_X5_89 mv_X5_spread vi_X5_spread rfl ho rfl (mt_X5_spread ex) (by first | exact Nat.le_of_ble_eq_true rfl | omega) (by first | exact Nat.le_of_ble_eq_true rfl | omega) (by first | exact Nat.le_of_ble_eq_true rfl | omega) hm hs ?_
  refine r_iload hc 4 (dc_at dX5_seekMeeting 81 rfl) rfl ?_
  refine r_istore [(4, .int v7), (0, .ref (X.1 + v0)), (3, .int v3), (5, .int v5), (6, .int v6), (7, .int v7), (8, .int v8)] hc hr (dc_at dX5_seekMeeting 82 rfl) (by decide) rfl ?_
  refine r_iload hc 6 (dc_at dX5_seekMeeting 83 rfl) rfl ?_
  refine r_istore [(5, .int v8), (4, .int v7), (0, .ref (X.1 + v0)), (3, .int v3), (6, .int v6), (7, .int v7), (8, .int v8)] hc hr (dc_at dX5_seekMeeting 84 rfl) (by decide) rfl ?_
  exact gg_sub [2, 3, 1, 0, 4] rfl (t_X5_seekMeeting_168 hc hr he hm hs ih38 hf)
def b_X5_seekMeeting_73 (F : Nat) (self38 : PH → Nat → Int32 → Int32 → Int32 → Int32 → Option (Int32 × PH)) (h : PH) (v0 : Nat) (v3 : Int32) (v4 : Int32) (v5 : Int32) (v6 : Int32) : Option (Int32 × PH) := if (4 : Int32) < v6 then (some ((-1 : Int32), h)) else ((gR 5 0 h v0).bind fun a1 => ((gI 1 4 h a1).bind fun x2 => (cO 5 h v0 ((m_X5_leastCommon F h v0 v4 v5 x2).bind fun x3 => ((pV 5 3 (.int x3) h v0).bind fun h4 => ((gI 5 3 h4 v0).bind fun x5 => (if x5 = (-1 : Int32) then (if (4 : Int32) ≤ v6 then (b_X5_seekMeeting_168 F self38 h4 v0 v3 v4 v5 v6) else (cO 5 h4 v0 (bind2 (m_X5_spread F h4 v0 v4 v5 x2) fun _ h7 => ((gR 5 0 h7 v0).bind fun a8 => ((gI 1 4 h7 a8).bind fun x9 => (if v3 = 0 then (b_X5_seekMeeting_150 F self38 h7 v0 v3 v5 v6 x2 x9) else (cO 5 h7 v0 (bind2 (m_X5_stay F h7 v0 v5 x2) fun _ h11 => (b_X5_seekMeeting_150 F self38 h11 v0 v3 v5 v6 x2 x9))))))))) else (some (v6, h4)))))))))
set_option maxRecDepth 20000 in
theorem tb_X5_seekMeeting_73 {M : MV} {X : XT} {F : Nat} {self38 : PH → Nat → Int32 → Int32 → Int32 → Int32 → Option (Int32 × PH)} {h hz : PH} {r : Int32} {ce sl mc ms : Nat} {v0 : Nat} {v3 : Int32} {v4 : Int32} {v5 : Int32} {v6 : Int32} (hc : Cx M X RX5 cX5_seekMeeting) (hr : Rx M 6 350 mc ms 9) (he : Ex M X (some .int) "seekMeeting" (some (.int r)) hz mc ms) (hm : ce ≤ mc) (hs : sl ≤ ms) (ih38 : ∀ (h : PH) (v0 : Nat) (v3 : Int32) (v4 : Int32) (v5 : Int32) (v6 : Int32), self38 h v0 v3 v4 v5 v6 = some (r, hz) → GG M X h ce sl 73 [(0, .ref (X.1 + v0)), (3, .int v3), (4, .int v4), (5, .int v5), (6, .int v6)] []) (hf : b_X5_seekMeeting_73 F self38 h v0 v3 v4 v5 v6 = some (r, hz)) : GG M X h ce sl 73 [(0, .ref (X.1 + v0)), (3, .int v3), (4, .int v4), (5, .int v5), (6, .int v6)] [] := by
  unfold b_X5_seekMeeting_73 at hf
  refine r_iload hc 4 (dc_at dX5_seekMeeting 38 rfl) rfl ?_
  refine r_iconst (4 : Int32) hc (dc_at dX5_seekMeeting 39 rfl) (by decide) ?_
  refine r_icmp_gt (tgt := 174) hc (dc_at dX5_seekMeeting 40 rfl) (by decide) hf (fun hf => ?_) (fun hf => ?_)
  · refine r_iconst (-1 : Int32) hc (dc_at dX5_seekMeeting 87 rfl) (by decide) ?_
    exact r_iret hc he (hm) (hs) (dc_at dX5_seekMeeting 88 rfl) hf
  · refine r_aload_n hc 0 (dc_at dX5_seekMeeting 41 rfl) rfl ?_
    refine r_getR hc (dc_at dX5_seekMeeting 42 rfl) fl_X5_18 hf fun a1 hf => ?_
    refine r_getI hc (dc_at dX5_seekMeeting 43 rfl) fl_X5_49 hf fun x2 hf => ?_
    refine r_istore [(7, .int x2), (0, .ref (X.1 + v0)), (3, .int v3), (4, .int v4), (5, .int v5), (6, .int v6)] hc hr (dc_at dX5_seekMeeting 44 rfl) (by decide) rfl ?_
    refine r_aload_n hc 1 (dc_at dX5_seekMeeting 45 rfl) rfl ?_
    refine r_aload_n hc 1 (dc_at dX5_seekMeeting 46 rfl) rfl ?_
    refine r_iload hc 3 (dc_at dX5_seekMeeting 47 rfl) rfl ?_
    refine r_iload hc 4 (dc_at dX5_seekMeeting 48 rfl) rfl ?_
    refine r_iload hc 0 (dc_at dX5_seekMeeting 49 rfl) rfl ?_
    obtain ⟨ho, hf⟩ := cO_some hf
    refine ob hf fun x3 ex hf => ?_
    refine r_callVi (As := [.int v4, .int v5, .int x2]) (ci := 5) hc hr (dc_at dX5_seekMeeting 50 rfl) ml_X5_106 mv_X5_leastCommon vi_X5_leastCommon rfl ho rfl (mt_X5_leastCommon ex) (by first | exact Nat.le_of_ble_eq_true rfl | omega) (by first | exact Nat.le_of_ble_eq_true rfl | omega) (by first | exact Nat.le_of_ble_eq_true rfl | omega) hm hs ?_
    refine r_putI hc he (dc_at dX5_seekMeeting 51 rfl) fp_X5_110 (fun q => by cases q) hf fun h4 hf => ?_
    refine r_aload_n hc 1 (dc_at dX5_seekMeeting 52 rfl) rfl ?_
    refine r_getI hc (dc_at dX5_seekMeeting 53 rfl) fl_X5_110 hf fun x5 hf => ?_
    refine r_iconst (-1 : Int32) hc (dc_at dX5_seekMeeting 54 rfl) (by decide) ?_
    refine r_icmp_eq (tgt := 113) hc (dc_at dX5_seekMeeting 55 rfl) (by decide) hf (fun hf => ?_) (fun hf => ?_)
    · refine r_iload hc 5 (dc_at dX5_seekMeeting 58 rfl) rfl ?_
      refine r_iconst (4 : Int32) hc (dc_at dX5_seekMeeting 59 rfl) (by decide) ?_
      refine r_icmp_ge (tgt := 168) hc (dc_at dX5_seekMeeting 60 rfl) (by decide) hf (fun hf => ?_) (fun hf => ?_)
      · exact gg_sub [1, 2, 3, 4, 5] rfl (t_X5_seekMeeting_168 hc hr he hm hs ih38 hf)
      · refine r_aload_n hc 1 (dc_at dX5_seekMeeting 61 rfl) rfl ?_
        refine r_iload hc 3 (dc_at dX5_seekMeeting 62 rfl) rfl ?_
        refine r_iload hc 4 (dc_at dX5_seekMeeting 63 rfl) rfl ?_
        refine r_iload hc 0 (dc_at dX5_seekMeeting 64 rfl) rfl ?_
        obtain ⟨ho, hf⟩ := cO_some hf
        refine ob2 hf fun u h7 ex hf => ?_
        refine r_callVv (As := [.int v4, .int v5, .int x2]) (ci := 5) hc hr (dc_at dX5_seekMeeting 65 rfl) ml_X5_89 mv_X5_spread vi_X5_spread rfl ho rfl (mt_X5_spread ex) (by first | exact Nat.le_of_ble_eq_true rfl | omega) (by first | exact Nat.le_of_ble_eq_true rfl | omega) (by first | exact Nat.le_of_ble_eq_true rfl | omega) hm hs ?_
        refine r_aload_n hc 1 (dc_at dX5_seekMeeting 66 rfl) rfl ?_
        refine r_getR hc (dc_at dX5_seekMeeting 67 rfl) fl_X5_18 hf fun a8 hf => ?_
        refine r_getI hc (dc_at dX5_seekMeeting 68 rfl) fl_X5_49 hf fun x9 hf => ?_
        refine r_istore [(8, .int x9), (7, .int x2), (0, .ref (X.1 + v0)), (3, .int v3), (4, .int v4), (5, .int v5), (6, .int v6)] hc hr (dc_at dX5_seekMeeting 69 rfl) (by decide) rfl ?_
        refine r_iload_n hc 3 (dc_at dX5_seekMeeting 70 rfl) rfl ?_
        refine r_if_eq (tgt := 150) hc (dc_at dX5_seekMeeting 71 rfl) (by decide) hf (fun hf => ?_) (fun hf => ?_)
        · exact gg_sub [2, 3, 5, 6, 1, 0] rfl (t_X5_seekMeeting_150 hc hr he hm hs ih38 hf)
        · refine r_aload_n hc 2 (dc_at dX5_seekMeeting 72 rfl) rfl ?_
          refine r_iload hc 5 (dc_at dX5_seekMeeting 73 rfl) rfl ?_
          refine r_iload hc 1 (dc_at dX5_seekMeeting 74 rfl) rfl ?_
          obtain ⟨ho, hf⟩ := cO_some hf
          refine ob2 hf fun u h11 ex hf => ?_
          refine r_callVv (As := [.int v5, .int x2]) (ci := 5) hc hr (dc_at dX5_seekMeeting 75 rfl) ml_X5_113 mv_X5_stay vi_X5_stay rfl ho rfl (mt_X5_stay ex) (by first | exact Nat.le_of_ble_eq_true rfl | omega) (by first | exact Nat.le_of_ble_eq_true rfl | omega) (by first | exact Nat.le_of_ble_eq_true rfl | omega) hm hs ?_
          exact gg_sub [2, 3, 5, 6, 1, 0] rfl (t_X5_seekMeeting_150 hc hr he hm hs ih38 hf)
    · refine r_iload hc 5 (dc_at dX5_seekMeeting 56 rfl) rfl ?_
      exact r_iret hc he (hm) (hs) (dc_at dX5_seekMeeting 57 rfl) hf
def l_X5_seekMeeting_73 (F : Nat) : Nat → PH → Nat → Int32 → Int32 → Int32 → Int32 → Option (Int32 × PH)
  | 0 => fun _ _ _ _ _ _ => none
  | n + 1 => fun h v0 v3 v4 v5 v6 => b_X5_seekMeeting_73 F (l_X5_seekMeeting_73 F n) h v0 v3 v4 v5 v6
theorem tl_X5_seekMeeting_73 {M : MV} {X : XT} {F : Nat} {hz : PH} {r : Int32} {ce sl mc ms : Nat} (hc : Cx M X RX5 cX5_seekMeeting) (hr : Rx M 6 350 mc ms 9) (he : Ex M X (some .int) "seekMeeting" (some (.int r)) hz mc ms) (hm : ce ≤ mc) (hs : sl ≤ ms) (n : Nat) : ∀ (h : PH) (v0 : Nat) (v3 : Int32) (v4 : Int32) (v5 : Int32) (v6 : Int32), l_X5_seekMeeting_73 F n h v0 v3 v4 v5 v6 = some (r, hz) → GG M X h ce sl 73 [(0, .ref (X.1 + v0)), (3, .int v3), (4, .int v4), (5, .int v5), (6, .int v6)] [] := by
  induction n with
  | zero => intro h v0 v3 v4 v5 v6 hf; cases hf
  | succ n ih => intro h v0 v3 v4 v5 v6 hf; exact tb_X5_seekMeeting_73 (F := F) hc hr he hm hs  ih hf
def b_X5_seekMeeting_0 (F : Nat) (h : PH) (v0 : Nat) (v1 : Int32) (v2 : Int32) (v3 : Int32) : Option (Int32 × PH) := (gR 5 0 h v0).bind fun a1 => ((gI 1 4 h a1).bind fun x2 => ((gR 5 0 h v0).bind fun a3 => ((gR 5 5 h v0).bind fun a4 => ((gR 0 16 h a4).bind fun a5 => ((aI 0 h a5 v1).bind fun x6 => ((gR 5 5 h v0).bind fun a7 => ((gR 0 17 h a7).bind fun a8 => ((aI 0 h a8 v1).bind fun x9 => (cO 1 h a3 (bind2 (m_X1_put h a3 x6 x9 (-1 : Int32)) fun _ h11 => ((gR 5 0 h11 v0).bind fun a12 => ((gI 1 4 h11 a12).bind fun x13 => ((gR 5 0 h11 v0).bind fun a14 => ((gR 5 5 h11 v0).bind fun a15 => ((gR 0 16 h11 a15).bind fun a16 => ((aI 0 h11 a16 v2).bind fun x17 => ((gR 5 5 h11 v0).bind fun a18 => ((gR 0 17 h11 a18).bind fun a19 => ((aI 0 h11 a19 v2).bind fun x20 => (cO 1 h11 a14 (bind2 (m_X1_put h11 a14 x17 x20 (-1 : Int32)) fun _ h22 => (l_X5_seekMeeting_73 F F h22 v0 v3 x2 x13 (0 : Int32)))))))))))))))))))))))
set_option maxRecDepth 20000 in
theorem t_X5_seekMeeting_0 {M : MV} {X : XT} {F : Nat} {h hz : PH} {r : Int32} {ce sl mc ms : Nat} {v0 : Nat} {v1 : Int32} {v2 : Int32} {v3 : Int32} (hc : Cx M X RX5 cX5_seekMeeting) (hr : Rx M 6 350 mc ms 9) (he : Ex M X (some .int) "seekMeeting" (some (.int r)) hz mc ms) (hm : ce ≤ mc) (hs : sl ≤ ms) (hf : b_X5_seekMeeting_0 F h v0 v1 v2 v3 = some (r, hz)) : GG M X h ce sl 0 [(0, .ref (X.1 + v0)), (1, .int v1), (2, .int v2), (3, .int v3)] [] := by
  unfold b_X5_seekMeeting_0 at hf
  refine r_aload_n hc 0 (dc_at dX5_seekMeeting 0 rfl) rfl ?_
  refine r_getR hc (dc_at dX5_seekMeeting 1 rfl) fl_X5_18 hf fun a1 hf => ?_
  refine r_getI hc (dc_at dX5_seekMeeting 2 rfl) fl_X5_49 hf fun x2 hf => ?_
  refine r_istore [(4, .int x2), (0, .ref (X.1 + v0)), (1, .int v1), (2, .int v2), (3, .int v3)] hc hr (dc_at dX5_seekMeeting 3 rfl) (by decide) rfl ?_
  refine r_aload_n hc 1 (dc_at dX5_seekMeeting 4 rfl) rfl ?_
  refine r_getR hc (dc_at dX5_seekMeeting 5 rfl) fl_X5_18 hf fun a3 hf => ?_
  refine r_aload_n hc 1 (dc_at dX5_seekMeeting 6 rfl) rfl ?_
  refine r_getR hc (dc_at dX5_seekMeeting 7 rfl) fl_X5_29 hf fun a4 hf => ?_
  refine r_getR hc (dc_at dX5_seekMeeting 8 rfl) fl_X5_100 hf fun a5 hf => ?_
  refine r_iload_n hc 2 (dc_at dX5_seekMeeting 9 rfl) rfl ?_
  refine r_iaload hc (dc_at dX5_seekMeeting 10 rfl) hf fun x6 hf => ?_
  refine r_aload_n hc 1 (dc_at dX5_seekMeeting 11 rfl) rfl ?_
  refine r_getR hc (dc_at dX5_seekMeeting 12 rfl) fl_X5_29 hf fun a7 hf => ?_
  refine r_getR hc (dc_at dX5_seekMeeting 13 rfl) fl_X5_103 hf fun a8 hf => ?_
  refine r_iload_n hc 2 (dc_at dX5_seekMeeting 14 rfl) rfl ?_
  refine r_iaload hc (dc_at dX5_seekMeeting 15 rfl) hf fun x9 hf => ?_
  refine r_iconst (-1 : Int32) hc (dc_at dX5_seekMeeting 16 rfl) (by decide) ?_
  obtain ⟨ho, hf⟩ := cO_some hf
  refine ob2 hf fun u h11 ex hf => ?_
  refine r_callVv (As := [.int x6, .int x9, .int ((-1 : Int32))]) (ci := 1) hc hr (dc_at dX5_seekMeeting 17 rfl) ml_X5_45 mv_X1_put vi_X1_put rfl ho rfl (mt_X1_put ex) (by first | exact Nat.le_of_ble_eq_true rfl | omega) (by first | exact Nat.le_of_ble_eq_true rfl | omega) (by first | exact Nat.le_of_ble_eq_true rfl | omega) hm hs ?_
  refine r_aload_n hc 1 (dc_at dX5_seekMeeting 18 rfl) rfl ?_
  refine r_getR hc (dc_at dX5_seekMeeting 19 rfl) fl_X5_18 hf fun a12 hf => ?_
  refine r_getI hc (dc_at dX5_seekMeeting 20 rfl) fl_X5_49 hf fun x13 hf => ?_
  refine r_istore [(5, .int x13), (4, .int x2), (0, .ref (X.1 + v0)), (1, .int v1), (2, .int v2), (3, .int v3)] hc hr (dc_at dX5_seekMeeting 21 rfl) (by decide) rfl ?_
  refine r_aload_n hc 2 (dc_at dX5_seekMeeting 22 rfl) rfl ?_
  refine r_getR hc (dc_at dX5_seekMeeting 23 rfl) fl_X5_18 hf fun a14 hf => ?_
  refine r_aload_n hc 2 (dc_at dX5_seekMeeting 24 rfl) rfl ?_
  refine r_getR hc (dc_at dX5_seekMeeting 25 rfl) fl_X5_29 hf fun a15 hf => ?_
  refine r_getR hc (dc_at dX5_seekMeeting 26 rfl) fl_X5_100 hf fun a16 hf => ?_
  refine r_iload_n hc 4 (dc_at dX5_seekMeeting 27 rfl) rfl ?_
  refine r_iaload hc (dc_at dX5_seekMeeting 28 rfl) hf fun x17 hf => ?_
  refine r_aload_n hc 2 (dc_at dX5_seekMeeting 29 rfl) rfl ?_
  refine r_getR hc (dc_at dX5_seekMeeting 30 rfl) fl_X5_29 hf fun a18 hf => ?_
  refine r_getR hc (dc_at dX5_seekMeeting 31 rfl) fl_X5_103 hf fun a19 hf => ?_
  refine r_iload_n hc 4 (dc_at dX5_seekMeeting 32 rfl) rfl ?_
  refine r_iaload hc (dc_at dX5_seekMeeting 33 rfl) hf fun x20 hf => ?_
  refine r_iconst (-1 : Int32) hc (dc_at dX5_seekMeeting 34 rfl) (by decide) ?_
  obtain ⟨ho, hf⟩ := cO_some hf
  refine ob2 hf fun u h22 ex hf => ?_
  refine r_callVv (As := [.int x17, .int x20, .int ((-1 : Int32))]) (ci := 1) hc hr (dc_at dX5_seekMeeting 35 rfl) ml_X5_45 mv_X1_put vi_X1_put rfl ho rfl (mt_X1_put ex) (by first | exact Nat.le_of_ble_eq_true rfl | omega) (by first | exact Nat.le_of_ble_eq_true rfl | omega) (by first | exact Nat.le_of_ble_eq_true rfl | omega) hm hs ?_
  refine r_iconst (0 : Int32) hc (dc_at dX5_seekMeeting 36 rfl) (by decide) ?_
  refine r_istore [(6, .int ((0 : Int32))), (5, .int x13), (4, .int x2), (0, .ref (X.1 + v0)), (1, .int v1), (2, .int v2), (3, .int v3)] hc hr (dc_at dX5_seekMeeting 37 rfl) (by decide) rfl ?_
  exact gg_sub [3, 6, 2, 1, 0] rfl (tl_X5_seekMeeting_73 hc hr he hm hs  F _ _ _ _ _ _ hf)
def m_X5_seekMeeting (F : Nat) (h : PH) (p0 : Nat) (p1 : Int32) (p2 : Int32) (p3 : Int32) : Option (Int32 × PH) := b_X5_seekMeeting_0 F h p0 p1 p2 p3
theorem mt_X5_seekMeeting {l : Launch} {X : XT} {F : Nat} {h hz : PH} {p0 : Nat} {p1 : Int32} {p2 : Int32} {p3 : Int32} {r : Int32} (ex : m_X5_seekMeeting F h p0 p1 p2 p3 = some (r, hz)) : MT l X yX5_seekMeeting cX5_seekMeeting 9 (some .int) 6 350 0 0 [.ref (X.1 + p0), .int p1, .int p2, .int p3] h (some (.int r)) hz := MT.of (by decide) (Nat.le_of_ble_eq_true rfl) fun M hl hc hr he => by
  subst hl
  exact gg_sub [0, 1, 2, 3] rfl (t_X5_seekMeeting_0  hc hr he (Nat.zero_le _) (Nat.zero_le _) ex)
/-! FractionLift$Tray.smallAt(I)I -/
def lX7_smallAtL : List (Nat × Instr × Nat × Nat) := [(0, .iload_n 1, 1, 1), (1, .ifCond .lt 11, 3, 4), (4, .iload_n 1, 1, 5), (5, .aload_n 0, 1, 6), (6, .getfield 25, 3, 9), (9, .if_icmp .lt 5, 3, 12), (12, .iconst (-1), 1, 13), (13, .ireturn, 1, 14), (14, .aload_n 0, 1, 15), (15, .getfield 9, 3, 18), (18, .iload_n 1, 1, 19), (19, .laload, 1, 20), (20, .lconst 0, 1, 21), (21, .lcmp, 1, 22), (22, .ifCond .lt 26, 3, 25), (25, .aload_n 0, 1, 26), (26, .getfield 9, 3, 29), (29, .iload_n 1, 1, 30), (30, .laload, 1, 31), (31, .ldc2_w 40, 3, 34), (34, .lcmp, 1, 35), (35, .ifCond .ge 13, 3, 38), (38, .aload_n 0, 1, 39), (39, .getfield 9, 3, 42), (42, .iload_n 1, 1, 43), (43, .laload, 1, 44), (44, .l2i, 1, 45), (45, .goto 4, 3, 48), (48, .iconst (-1), 1, 49), (49, .ireturn, 1, 50)]
set_option maxRecDepth 20000 in
theorem dX7_smallAt : dcL cX7_smallAt lX7_smallAtL = true := by decide +kernel
def b_X7_smallAt_0 (h : PH) (v0 : Nat) (v1 : Int32) : Option Int32 := if v1 < 0 then (some (-1 : Int32)) else ((gI 7 1 h v0).bind fun x1 => (if v1 < x1 then ((gR 7 2 h v0).bind fun a2 => ((aL h a2 v1).bind fun x3 => (if x3 < (0 : Int64) then (some (-1 : Int32)) else ((gR 7 2 h v0).bind fun a4 => ((aL h a4 v1).bind fun x5 => (if (100 : Int64) ≤ x5 then (some (-1 : Int32)) else ((gR 7 2 h v0).bind fun a6 => ((aL h a6 v1).bind fun x7 => (some (Int64.toInt32 x7)))))))))) else (some (-1 : Int32))))
set_option maxRecDepth 20000 in
theorem t_X7_smallAt_0 {M : MV} {X : XT} {h : PH} {r : Int32} {ce sl mc ms : Nat} {v0 : Nat} {v1 : Int32} (hc : Cx M X RX7 cX7_smallAt) (hr : Rx M 1 60 mc ms 2) (he : Ex M X (some .int) "smallAt" (some (.int r)) h mc ms) (hm : ce ≤ mc) (hs : sl ≤ ms) (hf : b_X7_smallAt_0 h v0 v1 = some r) : GG M X h ce sl 0 [(0, .ref (X.1 + v0)), (1, .int v1)] [] := by
  unfold b_X7_smallAt_0 at hf
  refine r_iload_n hc 1 (dc_at dX7_smallAt 0 rfl) rfl ?_
  refine r_if_lt (tgt := 12) hc (dc_at dX7_smallAt 1 rfl) (by decide) hf (fun hf => ?_) (fun hf => ?_)
  · refine r_iconst (-1 : Int32) hc (dc_at dX7_smallAt 6 rfl) (by decide) ?_
    exact r_iretP hc he (hm) (hs) (dc_at dX7_smallAt 7 rfl) hf
  · refine r_iload_n hc 1 (dc_at dX7_smallAt 2 rfl) rfl ?_
    refine r_aload_n hc 0 (dc_at dX7_smallAt 3 rfl) rfl ?_
    refine r_getI hc (dc_at dX7_smallAt 4 rfl) fl_X7_25 hf fun x1 hf => ?_
    refine r_icmp_lt (tgt := 14) hc (dc_at dX7_smallAt 5 rfl) (by decide) hf (fun hf => ?_) (fun hf => ?_)
    · refine r_aload_n hc 0 (dc_at dX7_smallAt 8 rfl) rfl ?_
      refine r_getR hc (dc_at dX7_smallAt 9 rfl) fl_X7_9 hf fun a2 hf => ?_
      refine r_iload_n hc 1 (dc_at dX7_smallAt 10 rfl) rfl ?_
      refine r_laload hc (dc_at dX7_smallAt 11 rfl) hf fun x3 hf => ?_
      refine r_lconst (0 : Int64) hc (dc_at dX7_smallAt 12 rfl) (by decide) ?_
      refine r_lcmp_lt (tgt := 48) hc (dc_at dX7_smallAt 13 rfl) (dc_at dX7_smallAt 14 rfl) (by decide) hf (fun hf => ?_) (fun hf => ?_)
      · refine r_iconst (-1 : Int32) hc (dc_at dX7_smallAt 28 rfl) (by decide) ?_
        exact r_iretP hc he (hm) (hs) (dc_at dX7_smallAt 29 rfl) hf
      · refine r_aload_n hc 0 (dc_at dX7_smallAt 15 rfl) rfl ?_
        refine r_getR hc (dc_at dX7_smallAt 16 rfl) fl_X7_9 hf fun a4 hf => ?_
        refine r_iload_n hc 1 (dc_at dX7_smallAt 17 rfl) rfl ?_
        refine r_laload hc (dc_at dX7_smallAt 18 rfl) hf fun x5 hf => ?_
        refine r_ldc2 hc (dc_at dX7_smallAt 19 rfl) cl2_X7_40 ?_
        refine r_lcmp_ge (tgt := 48) hc (dc_at dX7_smallAt 20 rfl) (dc_at dX7_smallAt 21 rfl) (by decide) hf (fun hf => ?_) (fun hf => ?_)
        · refine r_iconst (-1 : Int32) hc (dc_at dX7_smallAt 28 rfl) (by decide) ?_
          exact r_iretP hc he (hm) (hs) (dc_at dX7_smallAt 29 rfl) hf
        · refine r_aload_n hc 0 (dc_at dX7_smallAt 22 rfl) rfl ?_
          refine r_getR hc (dc_at dX7_smallAt 23 rfl) fl_X7_9 hf fun a6 hf => ?_
          refine r_iload_n hc 1 (dc_at dX7_smallAt 24 rfl) rfl ?_
          refine r_laload hc (dc_at dX7_smallAt 25 rfl) hf fun x7 hf => ?_
          refine r_l2i hc (dc_at dX7_smallAt 26 rfl) ?_
          refine r_goto (tgt := 49) hc (dc_at dX7_smallAt 27 rfl) (by decide) ?_
          exact r_iretP hc he (hm) (hs) (dc_at dX7_smallAt 29 rfl) hf
    · refine r_iconst (-1 : Int32) hc (dc_at dX7_smallAt 6 rfl) (by decide) ?_
      exact r_iretP hc he (hm) (hs) (dc_at dX7_smallAt 7 rfl) hf
def m_X7_smallAt (h : PH) (p0 : Nat) (p1 : Int32) : Option Int32 := b_X7_smallAt_0 h p0 p1
theorem mt_X7_smallAt {l : Launch} {X : XT} {h : PH} {p0 : Nat} {p1 : Int32} {r : Int32} (ex : m_X7_smallAt h p0 p1 = some r) : MT l X yX7_smallAt cX7_smallAt 2 (some .int) 1 60 0 0 [.ref (X.1 + p0), .int p1] h (some (.int r)) h := MT.of (by decide) (Nat.le_of_ble_eq_true rfl) fun M hl hc hr he => by
  subst hl
  exact gg_sub [0, 1] rfl (t_X7_smallAt_0  hc hr he (Nat.zero_le _) (Nat.zero_le _) ex)
/-! FractionLift$Routes.branch(III)V -/
def lX5_branchL : List (Nat × Instr × Nat × Nat) := [(0, .aload_n 0, 1, 1), (1, .getfield 18, 3, 4), (4, .getfield 117, 3, 7), (7, .iload_n 1, 1, 8), (8, .laload, 1, 9), (9, .lstore 4, 2, 11), (11, .aload_n 0, 1, 12), (12, .getfield 18, 3, 15), (15, .getfield 66, 3, 18), (18, .iload_n 1, 1, 19), (19, .iaload, 1, 20), (20, .istore 6, 2, 22), (22, .aload_n 0, 1, 23), (23, .getfield 18, 3, 26), (26, .getfield 69, 3, 29), (29, .iload_n 1, 1, 30), (30, .iaload, 1, 31), (31, .istore 7, 2, 33), (33, .aload_n 0, 1, 34), (34, .getfield 9, 3, 37), (37, .aload_n 0, 1, 38), (38, .getfield 29, 3, 41), (41, .iload_n 2, 1, 42), (42, .iload 6, 2, 44), (44, .i2l, 1, 45), (45, .iload 7, 2, 47), (47, .i2l, 1, 48), (48, .invokevirtual 72, 3, 51), (51, .ifCond .eq 22, 3, 54), (54, .aload_n 0, 1, 55), (55, .getfield 18, 3, 58), (58, .iload 6, 2, 60), (60, .iload 7, 2, 62), (62, .iload_n 3, 1, 63), (63, .lload 4, 2, 65), (65, .ldc2_w 131, 3, 68), (68, .lmul, 1, 69), (69, .invokevirtual 133, 3, 72), (72, .return_, 1, 73), (73, .aload_n 0, 1, 74), (74, .getfield 18, 3, 77), (77, .aload_n 0, 1, 78), (78, .getfield 9, 3, 81), (81, .getfield 78, 3, 84), (84, .aload_n 0, 1, 85), (85, .getfield 9, 3, 88), (88, .getfield 80, 3, 91), (91, .iload_n 3, 1, 92), (92, .lload 4, 2, 94), (94, .bipush 10, 2, 96), (96, .aload_n 0, 1, 97), (97, .getfield 29, 3, 100), (100, .getfield 137, 3, 103), (103, .isub, 1, 104), (104, .i2l, 1, 105), (105, .lmul, 1, 106), (106, .invokevirtual 133, 3, 109), (109, .aload_n 0, 1, 110), (110, .getfield 29, 3, 113), (113, .getfield 137, 3, 116), (116, .ifCond .le 26, 3, 119), (119, .aload_n 0, 1, 120), (120, .getfield 18, 3, 123), (123, .iload 6, 2, 125), (125, .iload 7, 2, 127), (127, .iload_n 3, 1, 128), (128, .lload 4, 2, 130), (130, .aload_n 0, 1, 131), (131, .getfield 29, 3, 134), (134, .getfield 137, 3, 137), (137, .i2l, 1, 138), (138, .lmul, 1, 139), (139, .invokevirtual 133, 3, 142), (142, .return_, 1, 143)]
set_option maxRecDepth 20000 in
theorem dX5_branch : dcL cX5_branch lX5_branchL = true := by decide +kernel
def b_X5_branch_0 (F : Nat) (h : PH) (v0 : Nat) (v1 : Int32) (v2 : Int32) (v3 : Int32) : Option (Unit × PH) := (gR 5 0 h v0).bind fun a1 => ((gR 1 3 h a1).bind fun a2 => ((aL h a2 v1).bind fun x3 => ((gR 5 0 h v0).bind fun a4 => ((gR 1 0 h a4).bind fun a5 => ((aI 0 h a5 v1).bind fun x6 => ((gR 5 0 h v0).bind fun a7 => ((gR 1 1 h a7).bind fun a8 => ((aI 0 h a8 v1).bind fun x9 => ((gR 5 4 h v0).bind fun a10 => ((gR 5 5 h v0).bind fun a11 => (cO 4 h a10 (bind2 (m_X4_lead F h a10 a11 v2 (Int32.toInt64 x6) (Int32.toInt64 x9)) fun x12 h13 => (if x12 = 0 then ((gR 5 0 h13 v0).bind fun a14 => ((gR 5 4 h13 v0).bind fun a15 => ((gI 4 0 h13 a15).bind fun x16 => ((gR 5 4 h13 v0).bind fun a17 => ((gI 4 1 h13 a17).bind fun x18 => ((gR 5 5 h13 v0).bind fun a19 => ((gI 0 1 h13 a19).bind fun x20 => (cO 1 h13 a14 (bind2 (m_X1_addWeight F h13 a14 x16 x18 v3 ((x3 * ((Int32.toInt64 (((10 : Int32) - x20))))))) fun _ h22 => ((gR 5 5 h22 v0).bind fun a23 => ((gI 0 1 h22 a23).bind fun x24 => (if x24 ≤ 0 then (some ((), h22)) else ((gR 5 0 h22 v0).bind fun a25 => ((gR 5 5 h22 v0).bind fun a26 => ((gI 0 1 h22 a26).bind fun x27 => (cO 1 h22 a25 (bind2 (m_X1_addWeight F h22 a25 x6 x9 v3 ((x3 * (Int32.toInt64 x27)))) fun _ h29 => (some ((), h29))))))))))))))))))) else ((gR 5 0 h13 v0).bind fun a30 => (cO 1 h13 a30 (bind2 (m_X1_addWeight F h13 a30 x6 x9 v3 ((x3 * (10 : Int64)))) fun _ h32 => (some ((), h32))))))))))))))))))
set_option maxRecDepth 20000 in
theorem t_X5_branch_0 {M : MV} {X : XT} {F : Nat} {h hz : PH} {r : Unit} {ce sl mc ms : Nat} {v0 : Nat} {v1 : Int32} {v2 : Int32} {v3 : Int32} (hc : Cx M X RX5 cX5_branch) (hr : Rx M 5 292 mc ms 8) (he : Ex M X none "branch" none hz mc ms) (hm : ce ≤ mc) (hs : sl ≤ ms) (hf : b_X5_branch_0 F h v0 v1 v2 v3 = some (r, hz)) : GG M X h ce sl 0 [(0, .ref (X.1 + v0)), (1, .int v1), (2, .int v2), (3, .int v3)] [] := by
  unfold b_X5_branch_0 at hf
  refine r_aload_n hc 0 (dc_at dX5_branch 0 rfl) rfl ?_
  refine r_getR hc (dc_at dX5_branch 1 rfl) fl_X5_18 hf fun a1 hf => ?_
  refine r_getR hc (dc_at dX5_branch 2 rfl) fl_X5_117 hf fun a2 hf => ?_
  refine r_iload_n hc 1 (dc_at dX5_branch 3 rfl) rfl ?_
  refine r_laload hc (dc_at dX5_branch 4 rfl) hf fun x3 hf => ?_
  refine r_lstore [(4, .long x3), (0, .ref (X.1 + v0)), (1, .int v1), (2, .int v2), (3, .int v3)] hc hr (dc_at dX5_branch 5 rfl) (by decide) rfl ?_
  refine r_aload_n hc 1 (dc_at dX5_branch 6 rfl) rfl ?_
  refine r_getR hc (dc_at dX5_branch 7 rfl) fl_X5_18 hf fun a4 hf => ?_
  refine r_getR hc (dc_at dX5_branch 8 rfl) fl_X5_66 hf fun a5 hf => ?_
  refine r_iload_n hc 2 (dc_at dX5_branch 9 rfl) rfl ?_
  refine r_iaload hc (dc_at dX5_branch 10 rfl) hf fun x6 hf => ?_
  refine r_istore [(6, .int x6), (4, .long x3), (0, .ref (X.1 + v0)), (1, .int v1), (2, .int v2), (3, .int v3)] hc hr (dc_at dX5_branch 11 rfl) (by decide) rfl ?_
  refine r_aload_n hc 2 (dc_at dX5_branch 12 rfl) rfl ?_
  refine r_getR hc (dc_at dX5_branch 13 rfl) fl_X5_18 hf fun a7 hf => ?_
  refine r_getR hc (dc_at dX5_branch 14 rfl) fl_X5_69 hf fun a8 hf => ?_
  refine r_iload_n hc 3 (dc_at dX5_branch 15 rfl) rfl ?_
  refine r_iaload hc (dc_at dX5_branch 16 rfl) hf fun x9 hf => ?_
  refine r_istore [(7, .int x9), (6, .int x6), (4, .long x3), (0, .ref (X.1 + v0)), (1, .int v1), (2, .int v2), (3, .int v3)] hc hr (dc_at dX5_branch 17 rfl) (by decide) rfl ?_
  refine r_aload_n hc 3 (dc_at dX5_branch 18 rfl) rfl ?_
  refine r_getR hc (dc_at dX5_branch 19 rfl) fl_X5_9 hf fun a10 hf => ?_
  refine r_aload_n hc 3 (dc_at dX5_branch 20 rfl) rfl ?_
  refine r_getR hc (dc_at dX5_branch 21 rfl) fl_X5_29 hf fun a11 hf => ?_
  refine r_iload_n hc 5 (dc_at dX5_branch 22 rfl) rfl ?_
  refine r_iload hc 1 (dc_at dX5_branch 23 rfl) rfl ?_
  refine r_i2l hc (dc_at dX5_branch 24 rfl) ?_
  refine r_iload hc 0 (dc_at dX5_branch 25 rfl) rfl ?_
  refine r_i2l hc (dc_at dX5_branch 26 rfl) ?_
  obtain ⟨ho, hf⟩ := cO_some hf
  refine ob2 hf fun x12 h13 ex hf => ?_
  refine r_callVi (As := [.ref (X.1 + a11), .int v2, .long ((Int32.toInt64 x6)), .long ((Int32.toInt64 x9))]) (ci := 4) hc hr (dc_at dX5_branch 27 rfl) ml_X5_72 mv_X4_lead vi_X4_lead rfl ho rfl (mt_X4_lead ex) (by first | exact Nat.le_of_ble_eq_true rfl | omega) (by first | exact Nat.le_of_ble_eq_true rfl | omega) (by first | exact Nat.le_of_ble_eq_true rfl | omega) hm hs ?_
  refine r_if_eq (tgt := 73) hc (dc_at dX5_branch 28 rfl) (by decide) hf (fun hf => ?_) (fun hf => ?_)
  · refine r_aload_n hc 3 (dc_at dX5_branch 39 rfl) rfl ?_
    refine r_getR hc (dc_at dX5_branch 40 rfl) fl_X5_18 hf fun a14 hf => ?_
    refine r_aload_n hc 3 (dc_at dX5_branch 41 rfl) rfl ?_
    refine r_getR hc (dc_at dX5_branch 42 rfl) fl_X5_9 hf fun a15 hf => ?_
    refine r_getI hc (dc_at dX5_branch 43 rfl) fl_X5_78 hf fun x16 hf => ?_
    refine r_aload_n hc 3 (dc_at dX5_branch 44 rfl) rfl ?_
    refine r_getR hc (dc_at dX5_branch 45 rfl) fl_X5_9 hf fun a17 hf => ?_
    refine r_getI hc (dc_at dX5_branch 46 rfl) fl_X5_80 hf fun x18 hf => ?_
    refine r_iload_n hc 6 (dc_at dX5_branch 47 rfl) rfl ?_
    refine r_lload hc 2 (dc_at dX5_branch 48 rfl) rfl ?_
    refine r_bipush (10 : Int32) hc (dc_at dX5_branch 49 rfl) (by decide) ?_
    refine r_aload_n hc 3 (dc_at dX5_branch 50 rfl) rfl ?_
    refine r_getR hc (dc_at dX5_branch 51 rfl) fl_X5_29 hf fun a19 hf => ?_
    refine r_getI hc (dc_at dX5_branch 52 rfl) fl_X5_137 hf fun x20 hf => ?_
    refine r_isub hc (dc_at dX5_branch 53 rfl) ?_
    refine r_i2l hc (dc_at dX5_branch 54 rfl) ?_
    refine r_lmul hc (dc_at dX5_branch 55 rfl) ?_
    obtain ⟨ho, hf⟩ := cO_some hf
    refine ob2 hf fun u h22 ex hf => ?_
    refine r_callVv (As := [.int x16, .int x18, .int v3, .long ((x3 * ((Int32.toInt64 (((10 : Int32) - x20))))))]) (ci := 1) hc hr (dc_at dX5_branch 56 rfl) ml_X5_133 mv_X1_addWeight vi_X1_addWeight rfl ho rfl (mt_X1_addWeight ex) (by first | exact Nat.le_of_ble_eq_true rfl | omega) (by first | exact Nat.le_of_ble_eq_true rfl | omega) (by first | exact Nat.le_of_ble_eq_true rfl | omega) hm hs ?_
    refine r_aload_n hc 3 (dc_at dX5_branch 57 rfl) rfl ?_
    refine r_getR hc (dc_at dX5_branch 58 rfl) fl_X5_29 hf fun a23 hf => ?_
    refine r_getI hc (dc_at dX5_branch 59 rfl) fl_X5_137 hf fun x24 hf => ?_
    refine r_if_le (tgt := 142) hc (dc_at dX5_branch 60 rfl) (by decide) hf (fun hf => ?_) (fun hf => ?_)
    · exact r_vret hc he (hm) (hs) (dc_at dX5_branch 73 rfl) hf
    · refine r_aload_n hc 3 (dc_at dX5_branch 61 rfl) rfl ?_
      refine r_getR hc (dc_at dX5_branch 62 rfl) fl_X5_18 hf fun a25 hf => ?_
      refine r_iload hc 1 (dc_at dX5_branch 63 rfl) rfl ?_
      refine r_iload hc 0 (dc_at dX5_branch 64 rfl) rfl ?_
      refine r_iload_n hc 6 (dc_at dX5_branch 65 rfl) rfl ?_
      refine r_lload hc 2 (dc_at dX5_branch 66 rfl) rfl ?_
      refine r_aload_n hc 3 (dc_at dX5_branch 67 rfl) rfl ?_
      refine r_getR hc (dc_at dX5_branch 68 rfl) fl_X5_29 hf fun a26 hf => ?_
      refine r_getI hc (dc_at dX5_branch 69 rfl) fl_X5_137 hf fun x27 hf => ?_
      refine r_i2l hc (dc_at dX5_branch 70 rfl) ?_
      refine r_lmul hc (dc_at dX5_branch 71 rfl) ?_
      obtain ⟨ho, hf⟩ := cO_some hf
      refine ob2 hf fun u h29 ex hf => ?_
      refine r_callVv (As := [.int x6, .int x9, .int v3, .long ((x3 * (Int32.toInt64 x27)))]) (ci := 1) hc hr (dc_at dX5_branch 72 rfl) ml_X5_133 mv_X1_addWeight vi_X1_addWeight rfl ho rfl (mt_X1_addWeight ex) (by first | exact Nat.le_of_ble_eq_true rfl | omega) (by first | exact Nat.le_of_ble_eq_true rfl | omega) (by first | exact Nat.le_of_ble_eq_true rfl | omega) hm hs ?_
      exact r_vret hc he (hm) (hs) (dc_at dX5_branch 73 rfl) hf
  · refine r_aload_n hc 3 (dc_at dX5_branch 29 rfl) rfl ?_
    refine r_getR hc (dc_at dX5_branch 30 rfl) fl_X5_18 hf fun a30 hf => ?_
    refine r_iload hc 1 (dc_at dX5_branch 31 rfl) rfl ?_
    refine r_iload hc 0 (dc_at dX5_branch 32 rfl) rfl ?_
    refine r_iload_n hc 6 (dc_at dX5_branch 33 rfl) rfl ?_
    refine r_lload hc 2 (dc_at dX5_branch 34 rfl) rfl ?_
    refine r_ldc2 hc (dc_at dX5_branch 35 rfl) cl2_X5_131 ?_
    refine r_lmul hc (dc_at dX5_branch 36 rfl) ?_
    obtain ⟨ho, hf⟩ := cO_some hf
    refine ob2 hf fun u h32 ex hf => ?_
    refine r_callVv (As := [.int x6, .int x9, .int v3, .long ((x3 * (10 : Int64)))]) (ci := 1) hc hr (dc_at dX5_branch 37 rfl) ml_X5_133 mv_X1_addWeight vi_X1_addWeight rfl ho rfl (mt_X1_addWeight ex) (by first | exact Nat.le_of_ble_eq_true rfl | omega) (by first | exact Nat.le_of_ble_eq_true rfl | omega) (by first | exact Nat.le_of_ble_eq_true rfl | omega) hm hs ?_
    exact r_vret hc he (hm) (hs) (dc_at dX5_branch 38 rfl) hf
def m_X5_branch (F : Nat) (h : PH) (p0 : Nat) (p1 : Int32) (p2 : Int32) (p3 : Int32) : Option (Unit × PH) := b_X5_branch_0 F h p0 p1 p2 p3
theorem mt_X5_branch {l : Launch} {X : XT} {F : Nat} {h hz : PH} {p0 : Nat} {p1 : Int32} {p2 : Int32} {p3 : Int32} {r : Unit} (ex : m_X5_branch F h p0 p1 p2 p3 = some (r, hz)) : MT l X yX5_branch cX5_branch 8 none 5 292 0 0 [.ref (X.1 + p0), .int p1, .int p2, .int p3] h none hz := MT.of (by decide) (Nat.le_of_ble_eq_true rfl) fun M hl hc hr he => by
  subst hl
  exact gg_sub [0, 1, 2, 3] rfl (t_X5_branch_0  hc hr he (Nat.zero_le _) (Nat.zero_le _) ex)
/-! FractionLift$Routes.layChances(LFractionLift$Tray;)I -/
def lX5_layChancesL : List (Nat × Instr × Nat × Nat) := [(0, .aload_n 0, 1, 1), (1, .getfield 18, 3, 4), (4, .getfield 117, 3, 7), (7, .iconst 0, 1, 8), (8, .lconst 1, 1, 9), (9, .lastore, 1, 10), (10, .iconst 0, 1, 11), (11, .istore_n 2, 1, 12), (12, .iconst 0, 1, 13), (13, .istore_n 3, 1, 14), (14, .iload_n 3, 1, 15), (15, .aload_n 1, 1, 16), (16, .getfield 121, 3, 19), (19, .if_icmp .ge 62, 3, 22), (22, .aload_n 0, 1, 23), (23, .getfield 18, 3, 26), (26, .getfield 49, 3, 29), (29, .istore 4, 2, 31), (31, .aload_n 1, 1, 32), (32, .iload_n 3, 1, 33), (33, .invokevirtual 124, 3, 36), (36, .istore 5, 2, 38), (38, .iload_n 2, 1, 39), (39, .istore 6, 2, 41), (41, .iload 6, 2, 43), (43, .iload 4, 2, 45), (45, .if_icmp .ge 27, 3, 48), (48, .iload 6, 2, 50), (50, .sipush 511, 3, 53), (53, .if_icmp .ge 19, 3, 56), (56, .aload_n 0, 1, 57), (57, .iload 6, 2, 59), (59, .iload 5, 2, 61), (61, .iload 4, 2, 63), (63, .invokevirtual 128, 3, 66), (66, .iinc 6 1, 3, 69), (69, .goto (-28), 3, 72), (72, .iload 4, 2, 74), (74, .istore_n 2, 1, 75), (75, .iinc 3 1, 3, 78), (78, .goto (-64), 3, 81), (81, .iload_n 2, 1, 82), (82, .ireturn, 1, 83)]
set_option maxRecDepth 20000 in
theorem dX5_layChances : dcL cX5_layChances lX5_layChancesL = true := by decide +kernel
def b_X5_layChances_72 (F : Nat) (self10 : PH → Nat → Nat → Int32 → Int32 → Option (Int32 × PH)) (h : PH) (v0 : Nat) (v1 : Nat) (v3 : Int32) (v4 : Int32) : Option (Int32 × PH) := bindv (v3 + (1)) fun x1 => (self10 h v0 v1 v4 x1)
set_option maxRecDepth 20000 in
theorem t_X5_layChances_72 {M : MV} {X : XT} {F : Nat} {self10 : PH → Nat → Nat → Int32 → Int32 → Option (Int32 × PH)} {h hz : PH} {r : Int32} {ce sl mc ms : Nat} {v0 : Nat} {v1 : Nat} {v3 : Int32} {v4 : Int32} (hc : Cx M X RX5 cX5_layChances) (hr : Rx M 6 350 mc ms 7) (he : Ex M X (some .int) "layChances" (some (.int r)) hz mc ms) (hm : ce ≤ mc) (hs : sl ≤ ms) (ih10 : ∀ (h : PH) (v0 : Nat) (v1 : Nat) (v2 : Int32) (v3 : Int32), self10 h v0 v1 v2 v3 = some (r, hz) → GG M X h ce sl 14 [(0, .ref (X.1 + v0)), (1, .ref (X.1 + v1)), (2, .int v2), (3, .int v3)] []) (hf : b_X5_layChances_72 F self10 h v0 v1 v3 v4 = some (r, hz)) : GG M X h ce sl 72 [(0, .ref (X.1 + v0)), (1, .ref (X.1 + v1)), (3, .int v3), (4, .int v4)] [] := by
  unfold b_X5_layChances_72 at hf
  refine r_iload hc 3 (dc_at dX5_layChances 37 rfl) rfl ?_
  refine r_istore_n [(2, .int v4), (0, .ref (X.1 + v0)), (1, .ref (X.1 + v1)), (3, .int v3), (4, .int v4)] hc hr (dc_at dX5_layChances 38 rfl) (by decide) rfl ?_
  refine obv hf fun x1 e_x1 hf => ?_
  refine r_iinc 3 [(3, .int x1), (2, .int v4), (0, .ref (X.1 + v0)), (1, .ref (X.1 + v1)), (4, .int v4)] hc hr (dc_at dX5_layChances 39 rfl) rfl (by rw [e_x1]; rfl) (by decide) rfl ?_
  refine r_goto (tgt := 14) hc (dc_at dX5_layChances 40 rfl) (by decide) ?_
  exact gg_sub [2, 3, 1, 0] rfl (ih10 _ _ _ _ _ hf)
def b_X5_layChances_41 (F : Nat) (self10 : PH → Nat → Nat → Int32 → Int32 → Option (Int32 × PH)) (self24 : PH → Nat → Nat → Int32 → Int32 → Int32 → Int32 → Option (Int32 × PH)) (h : PH) (v0 : Nat) (v1 : Nat) (v3 : Int32) (v4 : Int32) (v5 : Int32) (v6 : Int32) : Option (Int32 × PH) := if v4 ≤ v6 then (b_X5_layChances_72 F self10 h v0 v1 v3 v4) else (if (511 : Int32) ≤ v6 then (b_X5_layChances_72 F self10 h v0 v1 v3 v4) else (cO 5 h v0 (bind2 (m_X5_branch F h v0 v6 v5 v4) fun _ h2 => (bindv (v6 + (1)) fun x3 => (self24 h2 v0 v1 v3 v4 v5 x3)))))
set_option maxRecDepth 20000 in
theorem tb_X5_layChances_41 {M : MV} {X : XT} {F : Nat} {self10 : PH → Nat → Nat → Int32 → Int32 → Option (Int32 × PH)} {self24 : PH → Nat → Nat → Int32 → Int32 → Int32 → Int32 → Option (Int32 × PH)} {h hz : PH} {r : Int32} {ce sl mc ms : Nat} {v0 : Nat} {v1 : Nat} {v3 : Int32} {v4 : Int32} {v5 : Int32} {v6 : Int32} (hc : Cx M X RX5 cX5_layChances) (hr : Rx M 6 350 mc ms 7) (he : Ex M X (some .int) "layChances" (some (.int r)) hz mc ms) (hm : ce ≤ mc) (hs : sl ≤ ms) (ih10 : ∀ (h : PH) (v0 : Nat) (v1 : Nat) (v2 : Int32) (v3 : Int32), self10 h v0 v1 v2 v3 = some (r, hz) → GG M X h ce sl 14 [(0, .ref (X.1 + v0)), (1, .ref (X.1 + v1)), (2, .int v2), (3, .int v3)] []) (ih24 : ∀ (h : PH) (v0 : Nat) (v1 : Nat) (v3 : Int32) (v4 : Int32) (v5 : Int32) (v6 : Int32), self24 h v0 v1 v3 v4 v5 v6 = some (r, hz) → GG M X h ce sl 41 [(0, .ref (X.1 + v0)), (1, .ref (X.1 + v1)), (3, .int v3), (4, .int v4), (5, .int v5), (6, .int v6)] []) (hf : b_X5_layChances_41 F self10 self24 h v0 v1 v3 v4 v5 v6 = some (r, hz)) : GG M X h ce sl 41 [(0, .ref (X.1 + v0)), (1, .ref (X.1 + v1)), (3, .int v3), (4, .int v4), (5, .int v5), (6, .int v6)] [] := by
  unfold b_X5_layChances_41 at hf
  refine r_iload hc 5 (dc_at dX5_layChances 24 rfl) rfl ?_
  refine r_iload hc 3 (dc_at dX5_layChances 25 rfl) rfl ?_
  refine r_icmp_ge (tgt := 72) hc (dc_at dX5_layChances 26 rfl) (by decide) hf (fun hf => ?_) (fun hf => ?_)
  · exact gg_sub [0, 1, 2, 3] rfl (t_X5_layChances_72 hc hr he hm hs ih10 hf)
  · refine r_iload hc 5 (dc_at dX5_layChances 27 rfl) rfl ?_
    refine r_sipush (511 : Int32) hc (dc_at dX5_layChances 28 rfl) (by decide) ?_
    refine r_icmp_ge (tgt := 72) hc (dc_at dX5_layChances 29 rfl) (by decide) hf (fun hf => ?_) (fun hf => ?_)
    · exact gg_sub [0, 1, 2, 3] rfl (t_X5_layChances_72 hc hr he hm hs ih10 hf)
    · refine r_aload_n hc 0 (dc_at dX5_layChances 30 rfl) rfl ?_
      refine r_iload hc 5 (dc_at dX5_layChances 31 rfl) rfl ?_
      refine r_iload hc 4 (dc_at dX5_layChances 32 rfl) rfl ?_
      refine r_iload hc 3 (dc_at dX5_layChances 33 rfl) rfl ?_
      obtain ⟨ho, hf⟩ := cO_some hf
      refine ob2 hf fun u h2 ex hf => ?_
      refine r_callVv (As := [.int v6, .int v5, .int v4]) (ci := 5) hc hr (dc_at dX5_layChances 34 rfl) ml_X5_128 mv_X5_branch vi_X5_branch rfl ho rfl (mt_X5_branch ex) (by first | exact Nat.le_of_ble_eq_true rfl | omega) (by first | exact Nat.le_of_ble_eq_true rfl | omega) (by first | exact Nat.le_of_ble_eq_true rfl | omega) hm hs ?_
      refine obv hf fun x3 e_x3 hf => ?_
      refine r_iinc 5 [(6, .int x3), (0, .ref (X.1 + v0)), (1, .ref (X.1 + v1)), (3, .int v3), (4, .int v4), (5, .int v5)] hc hr (dc_at dX5_layChances 35 rfl) rfl (by rw [e_x3]; rfl) (by decide) rfl ?_
      refine r_goto (tgt := 41) hc (dc_at dX5_layChances 36 rfl) (by decide) ?_
      exact gg_sub [1, 2, 3, 4, 5, 0] rfl (ih24 _ _ _ _ _ _ _ hf)
def l_X5_layChances_41 (F : Nat) (self10 : PH → Nat → Nat → Int32 → Int32 → Option (Int32 × PH)) : Nat → PH → Nat → Nat → Int32 → Int32 → Int32 → Int32 → Option (Int32 × PH)
  | 0 => fun _ _ _ _ _ _ _ => none
  | n + 1 => fun h v0 v1 v3 v4 v5 v6 => b_X5_layChances_41 F self10 (l_X5_layChances_41 F self10 n) h v0 v1 v3 v4 v5 v6
theorem tl_X5_layChances_41 {M : MV} {X : XT} {F : Nat} {self10 : PH → Nat → Nat → Int32 → Int32 → Option (Int32 × PH)} {hz : PH} {r : Int32} {ce sl mc ms : Nat} (hc : Cx M X RX5 cX5_layChances) (hr : Rx M 6 350 mc ms 7) (he : Ex M X (some .int) "layChances" (some (.int r)) hz mc ms) (hm : ce ≤ mc) (hs : sl ≤ ms) (ih10 : ∀ (h : PH) (v0 : Nat) (v1 : Nat) (v2 : Int32) (v3 : Int32), self10 h v0 v1 v2 v3 = some (r, hz) → GG M X h ce sl 14 [(0, .ref (X.1 + v0)), (1, .ref (X.1 + v1)), (2, .int v2), (3, .int v3)] []) (n : Nat) : ∀ (h : PH) (v0 : Nat) (v1 : Nat) (v3 : Int32) (v4 : Int32) (v5 : Int32) (v6 : Int32), l_X5_layChances_41 F self10 n h v0 v1 v3 v4 v5 v6 = some (r, hz) → GG M X h ce sl 41 [(0, .ref (X.1 + v0)), (1, .ref (X.1 + v1)), (3, .int v3), (4, .int v4), (5, .int v5), (6, .int v6)] [] := by
  induction n with
  | zero => intro h v0 v1 v3 v4 v5 v6 hf; cases hf
  | succ n ih => intro h v0 v1 v3 v4 v5 v6 hf; exact tb_X5_layChances_41 (F := F) hc hr he hm hs ih10 ih hf
def b_X5_layChances_14 (F : Nat) (self10 : PH → Nat → Nat → Int32 → Int32 → Option (Int32 × PH)) (h : PH) (v0 : Nat) (v1 : Nat) (v2 : Int32) (v3 : Int32) : Option (Int32 × PH) := (gI 7 1 h v1).bind fun x1 => (if x1 ≤ v3 then (some (v2, h)) else ((gR 5 0 h v0).bind fun a2 => ((gI 1 4 h a2).bind fun x3 => (cO 7 h v1 ((m_X7_smallAt h v1 v3).bind fun x4 => (l_X5_layChances_41 F self10 F h v0 v1 v3 x3 x4 v2))))))
set_option maxRecDepth 20000 in
theorem tb_X5_layChances_14 {M : MV} {X : XT} {F : Nat} {self10 : PH → Nat → Nat → Int32 → Int32 → Option (Int32 × PH)} {h hz : PH} {r : Int32} {ce sl mc ms : Nat} {v0 : Nat} {v1 : Nat} {v2 : Int32} {v3 : Int32} (hc : Cx M X RX5 cX5_layChances) (hr : Rx M 6 350 mc ms 7) (he : Ex M X (some .int) "layChances" (some (.int r)) hz mc ms) (hm : ce ≤ mc) (hs : sl ≤ ms) (ih10 : ∀ (h : PH) (v0 : Nat) (v1 : Nat) (v2 : Int32) (v3 : Int32), self10 h v0 v1 v2 v3 = some (r, hz) → GG M X h ce sl 14 [(0, .ref (X.1 + v0)), (1, .ref (X.1 + v1)), (2, .int v2), (3, .int v3)] []) (hf : b_X5_layChances_14 F self10 h v0 v1 v2 v3 = some (r, hz)) : GG M X h ce sl 14 [(0, .ref (X.1 + v0)), (1, .ref (X.1 + v1)), (2, .int v2), (3, .int v3)] [] := by
  unfold b_X5_layChances_14 at hf
  refine r_iload_n hc 3 (dc_at dX5_layChances 10 rfl) rfl ?_
  refine r_aload_n hc 1 (dc_at dX5_layChances 11 rfl) rfl ?_
  refine r_getI hc (dc_at dX5_layChances 12 rfl) fl_X5_121 hf fun x1 hf => ?_
  refine r_icmp_ge (tgt := 81) hc (dc_at dX5_layChances 13 rfl) (by decide) hf (fun hf => ?_) (fun hf => ?_)
  · refine r_iload_n hc 2 (dc_at dX5_layChances 41 rfl) rfl ?_
    exact r_iret hc he (hm) (hs) (dc_at dX5_layChances 42 rfl) hf
  · refine r_aload_n hc 0 (dc_at dX5_layChances 14 rfl) rfl ?_
    refine r_getR hc (dc_at dX5_layChances 15 rfl) fl_X5_18 hf fun a2 hf => ?_
    refine r_getI hc (dc_at dX5_layChances 16 rfl) fl_X5_49 hf fun x3 hf => ?_
    refine r_istore [(4, .int x3), (0, .ref (X.1 + v0)), (1, .ref (X.1 + v1)), (2, .int v2), (3, .int v3)] hc hr (dc_at dX5_layChances 17 rfl) (by decide) rfl ?_
    refine r_aload_n hc 2 (dc_at dX5_layChances 18 rfl) rfl ?_
    refine r_iload_n hc 4 (dc_at dX5_layChances 19 rfl) rfl ?_
    obtain ⟨ho, hf⟩ := cO_some hf
    refine ob hf fun x4 ex hf => ?_
    refine r_callVi (As := [.int v3]) (ci := 7) hc hr (dc_at dX5_layChances 20 rfl) ml_X5_124 mv_X7_smallAt vi_X7_smallAt rfl ho rfl (mt_X7_smallAt ex) (by first | exact Nat.le_of_ble_eq_true rfl | omega) (by first | exact Nat.le_of_ble_eq_true rfl | omega) (by first | exact Nat.le_of_ble_eq_true rfl | omega) hm hs ?_
    refine r_istore [(5, .int x4), (4, .int x3), (0, .ref (X.1 + v0)), (1, .ref (X.1 + v1)), (2, .int v2), (3, .int v3)] hc hr (dc_at dX5_layChances 21 rfl) (by decide) rfl ?_
    refine r_iload_n hc 4 (dc_at dX5_layChances 22 rfl) rfl ?_
    refine r_istore [(6, .int v2), (5, .int x4), (4, .int x3), (0, .ref (X.1 + v0)), (1, .ref (X.1 + v1)), (2, .int v2), (3, .int v3)] hc hr (dc_at dX5_layChances 23 rfl) (by decide) rfl ?_
    exact gg_sub [3, 4, 6, 2, 1, 0] rfl (tl_X5_layChances_41 hc hr he hm hs ih10 F _ _ _ _ _ _ _ hf)
def l_X5_layChances_14 (F : Nat) : Nat → PH → Nat → Nat → Int32 → Int32 → Option (Int32 × PH)
  | 0 => fun _ _ _ _ _ => none
  | n + 1 => fun h v0 v1 v2 v3 => b_X5_layChances_14 F (l_X5_layChances_14 F n) h v0 v1 v2 v3
theorem tl_X5_layChances_14 {M : MV} {X : XT} {F : Nat} {hz : PH} {r : Int32} {ce sl mc ms : Nat} (hc : Cx M X RX5 cX5_layChances) (hr : Rx M 6 350 mc ms 7) (he : Ex M X (some .int) "layChances" (some (.int r)) hz mc ms) (hm : ce ≤ mc) (hs : sl ≤ ms) (n : Nat) : ∀ (h : PH) (v0 : Nat) (v1 : Nat) (v2 : Int32) (v3 : Int32), l_X5_layChances_14 F n h v0 v1 v2 v3 = some (r, hz) → GG M X h ce sl 14 [(0, .ref (X.1 + v0)), (1, .ref (X.1 + v1)), (2, .int v2), (3, .int v3)] [] := by
  induction n with
  | zero => intro h v0 v1 v2 v3 hf; cases hf
  | succ n ih => intro h v0 v1 v2 v3 hf; exact tb_X5_layChances_14 (F := F) hc hr he hm hs  ih hf
def b_X5_layChances_0 (F : Nat) (h : PH) (v0 : Nat) (v1 : Nat) : Option (Int32 × PH) := (gR 5 0 h v0).bind fun a1 => ((gR 1 3 h a1).bind fun a2 => ((sL h a2 (0 : Int32) (1 : Int64)).bind fun h3 => (l_X5_layChances_14 F F h3 v0 v1 (0 : Int32) (0 : Int32))))
set_option maxRecDepth 20000 in
theorem t_X5_layChances_0 {M : MV} {X : XT} {F : Nat} {h hz : PH} {r : Int32} {ce sl mc ms : Nat} {v0 : Nat} {v1 : Nat} (hc : Cx M X RX5 cX5_layChances) (hr : Rx M 6 350 mc ms 7) (he : Ex M X (some .int) "layChances" (some (.int r)) hz mc ms) (hm : ce ≤ mc) (hs : sl ≤ ms) (hf : b_X5_layChances_0 F h v0 v1 = some (r, hz)) : GG M X h ce sl 0 [(0, .ref (X.1 + v0)), (1, .ref (X.1 + v1))] [] := by
  unfold b_X5_layChances_0 at hf
  refine r_aload_n hc 0 (dc_at dX5_layChances 0 rfl) rfl ?_
  refine r_getR hc (dc_at dX5_layChances 1 rfl) fl_X5_18 hf fun a1 hf => ?_
  refine r_getR hc (dc_at dX5_layChances 2 rfl) fl_X5_117 hf fun a2 hf => ?_
  refine r_iconst (0 : Int32) hc (dc_at dX5_layChances 3 rfl) (by decide) ?_
  refine r_lconst (1 : Int64) hc (dc_at dX5_layChances 4 rfl) (by decide) ?_
  refine r_lastore hc (dc_at dX5_layChances 5 rfl) hf fun h3 hf => ?_
  refine r_iconst (0 : Int32) hc (dc_at dX5_layChances 6 rfl) (by decide) ?_
  refine r_istore_n [(2, .int ((0 : Int32))), (0, .ref (X.1 + v0)), (1, .ref (X.1 + v1))] hc hr (dc_at dX5_layChances 7 rfl) (by decide) rfl ?_
  refine r_iconst (0 : Int32) hc (dc_at dX5_layChances 8 rfl) (by decide) ?_
  refine r_istore_n [(3, .int ((0 : Int32))), (2, .int ((0 : Int32))), (0, .ref (X.1 + v0)), (1, .ref (X.1 + v1))] hc hr (dc_at dX5_layChances 9 rfl) (by decide) rfl ?_
  exact gg_sub [2, 3, 1, 0] rfl (tl_X5_layChances_14 hc hr he hm hs  F _ _ _ _ _ hf)
def m_X5_layChances (F : Nat) (h : PH) (p0 : Nat) (p1 : Nat) : Option (Int32 × PH) := b_X5_layChances_0 F h p0 p1
theorem mt_X5_layChances {l : Launch} {X : XT} {F : Nat} {h hz : PH} {p0 : Nat} {p1 : Nat} {r : Int32} (ex : m_X5_layChances F h p0 p1 = some (r, hz)) : MT l X yX5_layChances cX5_layChances 7 (some .int) 6 350 0 0 [.ref (X.1 + p0), .ref (X.1 + p1)] h (some (.int r)) hz := MT.of (by decide) (Nat.le_of_ble_eq_true rfl) fun M hl hc hr he => by
  subst hl
  exact gg_sub [0, 1] rfl (t_X5_layChances_0  hc hr he (Nat.zero_le _) (Nat.zero_le _) ex)
/-! FractionLift$Tray.<init>()V -/
def lX7_initL : List (Nat × Instr × Nat × Nat) := [(0, .aload_n 0, 1, 1), (1, .invokespecial 3, 3, 4), (4, .aload_n 0, 1, 5), (5, .bipush 40, 2, 7), (7, .newarray .long, 2, 9), (9, .putfield 9, 3, 12), (12, .return_, 1, 13)]
set_option maxRecDepth 20000 in
theorem dX7_init : dcL cX7_init lX7_initL = true := by decide +kernel
def b_X7_init_0 (h : PH) (v0 : Nat) : Option (Unit × PH) := bindv h.length fun a1 => (bindv (h ++ [.inl (1, 40, .inr (.inl (fun _ => 0)))]) fun h2 => ((pV 7 2 (.ref a1) h2 v0).bind fun h3 => (some ((), h3))))
set_option maxRecDepth 20000 in
theorem t_X7_init_0 {M : MV} {X : XT} {h hz : PH} {r : Unit} {v0 : Nat} (hc : Cx M X RX7 cX7_init) (hr : Rx M 1 60 1 40 1) (he : Ex M X none "<init>" none hz 1 40) (hm : 0 ≤ 1) (hs : 0 ≤ 40) (hf : b_X7_init_0 h v0 = some (r, hz)) : GG M X h 0 0 0 [(0, .ref (X.1 + v0))] [] := by
  unfold b_X7_init_0 at hf
  refine r_aload_n hc 0 (dc_at dX7_init 0 rfl) rfl ?_
  refine r_objinit hc hr (dc_at dX7_init 1 rfl) oi_X7_3 oiw (by first | exact Nat.le_of_ble_eq_true rfl | omega) (by first | exact Nat.le_of_ble_eq_true rfl | omega) ?_
  refine r_aload_n hc 0 (dc_at dX7_init 2 rfl) rfl ?_
  refine r_bipush (40 : Int32) hc (dc_at dX7_init 3 rfl) (by decide) ?_
  refine r_newarrN (t := 1) (N := 40) (ty := .long) hc hr (dc_at dX7_init 4 rfl) arr_long rfl (fun _ _ z => z) rfl (fun _ => rfl) (by decide) (by decide) (by decide) (Nat.le_of_ble_eq_true rfl) (Nat.le_of_ble_eq_true rfl) hf fun a1 h2 hf => ?_
  refine r_putR hc he (dc_at dX7_init 5 rfl) fp_X7_9 (fun _ => rfl) ⟨rfl, fun _ => ⟨rfl, rfl⟩⟩ hf fun h3 hf => ?_
  exact r_vret hc he (Nat.le_of_ble_eq_true rfl) (Nat.le_of_ble_eq_true rfl) (dc_at dX7_init 6 rfl) hf
def m_X7_init (h : PH) (p0 : Nat) : Option (Unit × PH) := b_X7_init_0 h p0
theorem mt_X7_init {l : Launch} {X : XT} {h hz : PH} {p0 : Nat} {r : Unit} (ex : m_X7_init h p0 = some (r, hz)) : MT l X yX7_init cX7_init 1 none 1 60 1 40 [.ref (X.1 + p0)] h none hz := MT.of (by decide) (Nat.le_of_ble_eq_true rfl) fun M hl hc hr he => by
  subst hl
  exact gg_sub [0] rfl (t_X7_init_0  hc hr he (Nat.zero_le _) (Nat.zero_le _) ex)
/-! java/util/Arrays.fill([JJ)V -/
def lJ7_fill_d0a16L : List (Nat × Instr × Nat × Nat) := [(0, .iconst 0, 1, 1), (1, .istore_n 3, 1, 2), (2, .aload_n 0, 1, 3), (3, .arraylength, 1, 4), (4, .istore 4, 2, 6), (6, .iload_n 3, 1, 7), (7, .iload 4, 2, 9), (9, .if_icmp .ge 13, 3, 12), (12, .aload_n 0, 1, 13), (13, .iload_n 3, 1, 14), (14, .lload_n 1, 1, 15), (15, .lastore, 1, 16), (16, .iinc 3 1, 3, 19), (19, .goto (-13), 3, 22), (22, .return_, 1, 23)]
set_option maxRecDepth 20000 in
theorem dJ7_fill_d0a16 : dcL cJ7_fill_d0a16 lJ7_fill_d0a16L = true := by decide +kernel
def b_J7_fill_d0a16_6 (F : Nat) (self5 : PH → Nat → Int64 → Int32 → Int32 → Option (Unit × PH)) (h : PH) (v0 : Nat) (v1 : Int64) (v3 : Int32) (v4 : Int32) : Option (Unit × PH) := if v4 ≤ v3 then (some ((), h)) else ((sL h v0 v3 v1).bind fun h1 => (bindv (v3 + (1)) fun x2 => (self5 h1 v0 v1 x2 v4)))
set_option maxRecDepth 20000 in
theorem tb_J7_fill_d0a16_6 {M : MV} {X : XT} {F : Nat} {self5 : PH → Nat → Int64 → Int32 → Int32 → Option (Unit × PH)} {h hz : PH} {r : Unit} {ce sl mc ms : Nat} {v0 : Nat} {v1 : Int64} {v3 : Int32} {v4 : Int32} (hc : Cx M X RJ7 cJ7_fill_d0a16) (hr : Rx M 1 60 mc ms 5) (he : Ex M X none "fill" none hz mc ms) (hm : ce ≤ mc) (hs : sl ≤ ms) (ih5 : ∀ (h : PH) (v0 : Nat) (v1 : Int64) (v3 : Int32) (v4 : Int32), self5 h v0 v1 v3 v4 = some (r, hz) → GG M X h ce sl 6 [(0, .ref (X.1 + v0)), (1, .long v1), (3, .int v3), (4, .int v4)] []) (hf : b_J7_fill_d0a16_6 F self5 h v0 v1 v3 v4 = some (r, hz)) : GG M X h ce sl 6 [(0, .ref (X.1 + v0)), (1, .long v1), (3, .int v3), (4, .int v4)] [] := by
  unfold b_J7_fill_d0a16_6 at hf
  refine r_iload_n hc 2 (dc_at dJ7_fill_d0a16 5 rfl) rfl ?_
  refine r_iload hc 3 (dc_at dJ7_fill_d0a16 6 rfl) rfl ?_
  refine r_icmp_ge (tgt := 22) hc (dc_at dJ7_fill_d0a16 7 rfl) (by decide) hf (fun hf => ?_) (fun hf => ?_)
  · exact r_vret hc he (hm) (hs) (dc_at dJ7_fill_d0a16 14 rfl) hf
  · refine r_aload_n hc 0 (dc_at dJ7_fill_d0a16 8 rfl) rfl ?_
    refine r_iload_n hc 2 (dc_at dJ7_fill_d0a16 9 rfl) rfl ?_
    refine r_lload_n hc 1 (dc_at dJ7_fill_d0a16 10 rfl) rfl ?_
    refine r_lastore hc (dc_at dJ7_fill_d0a16 11 rfl) hf fun h1 hf => ?_
    refine obv hf fun x2 e_x2 hf => ?_
    refine r_iinc 2 [(3, .int x2), (0, .ref (X.1 + v0)), (1, .long v1), (4, .int v4)] hc hr (dc_at dJ7_fill_d0a16 12 rfl) rfl (by rw [e_x2]; rfl) (by decide) rfl ?_
    refine r_goto (tgt := 6) hc (dc_at dJ7_fill_d0a16 13 rfl) (by decide) ?_
    exact gg_sub [1, 2, 0, 3] rfl (ih5 _ _ _ _ _ hf)
def l_J7_fill_d0a16_6 (F : Nat) : Nat → PH → Nat → Int64 → Int32 → Int32 → Option (Unit × PH)
  | 0 => fun _ _ _ _ _ => none
  | n + 1 => fun h v0 v1 v3 v4 => b_J7_fill_d0a16_6 F (l_J7_fill_d0a16_6 F n) h v0 v1 v3 v4
theorem tl_J7_fill_d0a16_6 {M : MV} {X : XT} {F : Nat} {hz : PH} {r : Unit} {ce sl mc ms : Nat} (hc : Cx M X RJ7 cJ7_fill_d0a16) (hr : Rx M 1 60 mc ms 5) (he : Ex M X none "fill" none hz mc ms) (hm : ce ≤ mc) (hs : sl ≤ ms) (n : Nat) : ∀ (h : PH) (v0 : Nat) (v1 : Int64) (v3 : Int32) (v4 : Int32), l_J7_fill_d0a16_6 F n h v0 v1 v3 v4 = some (r, hz) → GG M X h ce sl 6 [(0, .ref (X.1 + v0)), (1, .long v1), (3, .int v3), (4, .int v4)] [] := by
  induction n with
  | zero => intro h v0 v1 v3 v4 hf; cases hf
  | succ n ih => intro h v0 v1 v3 v4 hf; exact tb_J7_fill_d0a16_6 (F := F) hc hr he hm hs  ih hf
def b_J7_fill_d0a16_0 (F : Nat) (h : PH) (v0 : Nat) (v1 : Int64) : Option (Unit × PH) := (aLen h v0).bind fun x1 => (l_J7_fill_d0a16_6 F F h v0 v1 (0 : Int32) x1)
set_option maxRecDepth 20000 in
theorem t_J7_fill_d0a16_0 {M : MV} {X : XT} {F : Nat} {h hz : PH} {r : Unit} {ce sl mc ms : Nat} {v0 : Nat} {v1 : Int64} (hc : Cx M X RJ7 cJ7_fill_d0a16) (hr : Rx M 1 60 mc ms 5) (he : Ex M X none "fill" none hz mc ms) (hm : ce ≤ mc) (hs : sl ≤ ms) (hf : b_J7_fill_d0a16_0 F h v0 v1 = some (r, hz)) : GG M X h ce sl 0 [(0, .ref (X.1 + v0)), (1, .long v1)] [] := by
  unfold b_J7_fill_d0a16_0 at hf
  refine r_iconst (0 : Int32) hc (dc_at dJ7_fill_d0a16 0 rfl) (by decide) ?_
  refine r_istore_n [(3, .int ((0 : Int32))), (0, .ref (X.1 + v0)), (1, .long v1)] hc hr (dc_at dJ7_fill_d0a16 1 rfl) (by decide) rfl ?_
  refine r_aload_n hc 1 (dc_at dJ7_fill_d0a16 2 rfl) rfl ?_
  refine r_alen hc (dc_at dJ7_fill_d0a16 3 rfl) hf fun x1 hf => ?_
  refine r_istore [(4, .int x1), (3, .int ((0 : Int32))), (0, .ref (X.1 + v0)), (1, .long v1)] hc hr (dc_at dJ7_fill_d0a16 4 rfl) (by decide) rfl ?_
  exact gg_sub [2, 3, 1, 0] rfl (tl_J7_fill_d0a16_6 hc hr he hm hs  F _ _ _ _ _ hf)
def m_J7_fill_d0a16 (F : Nat) (h : PH) (p0 : Nat) (p1 : Int64) : Option (Unit × PH) := b_J7_fill_d0a16_0 F h p0 p1
theorem mt_J7_fill_d0a16 {l : Launch} {X : XT} {F : Nat} {h hz : PH} {p0 : Nat} {p1 : Int64} {r : Unit} (ex : m_J7_fill_d0a16 F h p0 p1 = some (r, hz)) : MT l X yJ7_fill_d0a16 cJ7_fill_d0a16 5 none 1 60 0 0 [.ref (X.1 + p0), .long p1] h none hz := MT.of (by decide) (Nat.le_of_ble_eq_true rfl) fun M hl hc hr he => by
  subst hl
  exact gg_sub [0, 1] rfl (t_J7_fill_d0a16_0  hc hr he (Nat.zero_le _) (Nat.zero_le _) ex)
/-! FractionLift$Tray.layOut(II)V -/
def lX7_layOutL : List (Nat × Instr × Nat × Nat) := [(0, .aload_n 0, 1, 1), (1, .iload_n 1, 1, 2), (2, .putfield 15, 3, 5), (5, .aload_n 0, 1, 6), (6, .iload_n 2, 1, 7), (7, .bipush 40, 2, 9), (9, .invokestatic 19, 3, 12), (12, .putfield 25, 3, 15), (15, .aload_n 0, 1, 16), (16, .getfield 9, 3, 19), (19, .lconst 0, 1, 20), (20, .invokestatic 28, 3, 23), (23, .return_, 1, 24)]
set_option maxRecDepth 20000 in
theorem dX7_layOut : dcL cX7_layOut lX7_layOutL = true := by decide +kernel
def b_X7_layOut_0 (F : Nat) (h : PH) (v0 : Nat) (v1 : Int32) (v2 : Int32) : Option (Unit × PH) := (pV 7 0 (.int v1) h v0).bind fun h1 => ((pV 7 1 (.int ((jmin v2 (40 : Int32)))) h1 v0).bind fun h2 => ((gR 7 2 h2 v0).bind fun a3 => (bind2 (m_J7_fill_d0a16 F h2 a3 (0 : Int64)) fun _ h5 => (some ((), h5)))))
set_option maxRecDepth 20000 in
theorem t_X7_layOut_0 {M : MV} {X : XT} {F : Nat} {h hz : PH} {r : Unit} {ce sl mc ms : Nat} {v0 : Nat} {v1 : Int32} {v2 : Int32} (hc : Cx M X RX7 cX7_layOut) (hr : Rx M 2 118 mc ms 3) (he : Ex M X none "layOut" none hz mc ms) (hm : ce ≤ mc) (hs : sl ≤ ms) (hf : b_X7_layOut_0 F h v0 v1 v2 = some (r, hz)) : GG M X h ce sl 0 [(0, .ref (X.1 + v0)), (1, .int v1), (2, .int v2)] [] := by
  unfold b_X7_layOut_0 at hf
  refine r_aload_n hc 0 (dc_at dX7_layOut 0 rfl) rfl ?_
  refine r_iload_n hc 1 (dc_at dX7_layOut 1 rfl) rfl ?_
  refine r_putI hc he (dc_at dX7_layOut 2 rfl) fp_X7_15 (fun q => by cases q) hf fun h1 hf => ?_
  refine r_aload_n hc 0 (dc_at dX7_layOut 3 rfl) rfl ?_
  refine r_iload_n hc 2 (dc_at dX7_layOut 4 rfl) rfl ?_
  refine r_bipush (40 : Int32) hc (dc_at dX7_layOut 5 rfl) (by decide) ?_
  refine r_mmin hc hr (dc_at dX7_layOut 6 rfl) ml_X7_19 mv_J9_min_7cf53 st_J9_min_7cf53 (by first | exact Nat.le_of_ble_eq_true rfl | omega) (by first | exact Nat.le_of_ble_eq_true rfl | omega) (hm) (hs) ?_
  refine r_putI hc he (dc_at dX7_layOut 7 rfl) fp_X7_25 (fun q => by cases q) hf fun h2 hf => ?_
  refine r_aload_n hc 0 (dc_at dX7_layOut 8 rfl) rfl ?_
  refine r_getR hc (dc_at dX7_layOut 9 rfl) fl_X7_9 hf fun a3 hf => ?_
  refine r_lconst (0 : Int64) hc (dc_at dX7_layOut 10 rfl) (by decide) ?_
  refine ob2 hf fun u h5 ex hf => ?_
  refine r_callSv (As := [.ref (X.1 + a3), .long ((0 : Int64))]) hc hr (dc_at dX7_layOut 11 rfl) ml_X7_28 mv_J7_fill_d0a16 st_J7_fill_d0a16 rfl (mt_J7_fill_d0a16 ex) (by first | exact Nat.le_of_ble_eq_true rfl | omega) (by first | exact Nat.le_of_ble_eq_true rfl | omega) (by first | exact Nat.le_of_ble_eq_true rfl | omega) hm hs ?_
  exact r_vret hc he (hm) (hs) (dc_at dX7_layOut 12 rfl) hf
def m_X7_layOut (F : Nat) (h : PH) (p0 : Nat) (p1 : Int32) (p2 : Int32) : Option (Unit × PH) := b_X7_layOut_0 F h p0 p1 p2
theorem mt_X7_layOut {l : Launch} {X : XT} {F : Nat} {h hz : PH} {p0 : Nat} {p1 : Int32} {p2 : Int32} {r : Unit} (ex : m_X7_layOut F h p0 p1 p2 = some (r, hz)) : MT l X yX7_layOut cX7_layOut 3 none 2 118 0 0 [.ref (X.1 + p0), .int p1, .int p2] h none hz := MT.of (by decide) (Nat.le_of_ble_eq_true rfl) fun M hl hc hr he => by
  subst hl
  exact gg_sub [0, 1, 2] rfl (t_X7_layOut_0  hc hr he (Nat.zero_le _) (Nat.zero_le _) ex)
/-! FractionLift$Tray.cut(J)J -/
def lX7_cutL : List (Nat × Instr × Nat × Nat) := [(0, .aload_n 0, 1, 1), (1, .getfield 15, 3, 4), (4, .tableswitch 42 0 2 #[28, 33, 38], 28, 32), (32, .lload_n 1, 1, 33), (33, .l2i, 1, 34), (34, .i2b, 1, 35), (35, .i2l, 1, 36), (36, .lreturn, 1, 37), (37, .lload_n 1, 1, 38), (38, .l2i, 1, 39), (39, .i2s, 1, 40), (40, .i2l, 1, 41), (41, .lreturn, 1, 42), (42, .lload_n 1, 1, 43), (43, .l2i, 1, 44), (44, .i2l, 1, 45), (45, .lreturn, 1, 46), (46, .lload_n 1, 1, 47), (47, .lreturn, 1, 48)]
set_option maxRecDepth 20000 in
theorem dX7_cut : dcL cX7_cut lX7_cutL = true := by decide +kernel
def b_X7_cut_0 (h : PH) (v0 : Nat) (v1 : Int64) : Option Int64 := (gI 7 0 h v0).bind fun x1 => (swN x1 (0) [some ((Int32.toInt64 (((Int32.toInt8 (Int64.toInt32 v1)).toInt32)))), some ((Int32.toInt64 (((Int32.toInt16 (Int64.toInt32 v1)).toInt32)))), some ((Int32.toInt64 (Int64.toInt32 v1)))] (some v1))
set_option maxRecDepth 20000 in
theorem t_X7_cut_0 {M : MV} {X : XT} {h : PH} {r : Int64} {ce sl mc ms : Nat} {v0 : Nat} {v1 : Int64} (hc : Cx M X RX7 cX7_cut) (hr : Rx M 1 60 mc ms 3) (he : Ex M X (some .long) "cut" (some (.long r)) h mc ms) (hm : ce ≤ mc) (hs : sl ≤ ms) (hf : b_X7_cut_0 h v0 v1 = some r) : GG M X h ce sl 0 [(0, .ref (X.1 + v0)), (1, .long v1)] [] := by
  unfold b_X7_cut_0 at hf
  refine r_aload_n hc 0 (dc_at dX7_cut 0 rfl) rfl ?_
  refine r_getI hc (dc_at dX7_cut 1 rfl) fl_X7_15 hf fun x1 hf => ?_
  rcases sw_cases hf with ⟨i, hi, hx, hf⟩ | ⟨hx, hf⟩
  · rcases (show i = 0 ∨ i = 1 ∨ i = 2 by simp only [List.length_cons, List.length_nil] at hi; omega) with rfl | rfl | rfl
    · have hf := gd_at hf rfl
      refine r_tableIn (tgt := 32) 0 hc (dc_at dX7_cut 2 rfl) hx rfl (by decide) (by decide) ?_
      refine r_lload_n hc 1 (dc_at dX7_cut 3 rfl) rfl ?_
      refine r_l2i hc (dc_at dX7_cut 4 rfl) ?_
      refine r_i2b hc (dc_at dX7_cut 5 rfl) ?_
      refine r_i2l hc (dc_at dX7_cut 6 rfl) ?_
      exact r_lretP hc he (hm) (hs) (dc_at dX7_cut 7 rfl) hf
    · have hf := gd_at hf rfl
      refine r_tableIn (tgt := 37) 1 hc (dc_at dX7_cut 2 rfl) hx rfl (by decide) (by decide) ?_
      refine r_lload_n hc 1 (dc_at dX7_cut 8 rfl) rfl ?_
      refine r_l2i hc (dc_at dX7_cut 9 rfl) ?_
      refine r_i2s hc (dc_at dX7_cut 10 rfl) ?_
      refine r_i2l hc (dc_at dX7_cut 11 rfl) ?_
      exact r_lretP hc he (hm) (hs) (dc_at dX7_cut 12 rfl) hf
    · have hf := gd_at hf rfl
      refine r_tableIn (tgt := 42) 2 hc (dc_at dX7_cut 2 rfl) hx rfl (by decide) (by decide) ?_
      refine r_lload_n hc 1 (dc_at dX7_cut 13 rfl) rfl ?_
      refine r_l2i hc (dc_at dX7_cut 14 rfl) ?_
      refine r_i2l hc (dc_at dX7_cut 15 rfl) ?_
      exact r_lretP hc he (hm) (hs) (dc_at dX7_cut 16 rfl) hf
  · refine r_tableOut (tgt := 46) 3 hc (dc_at dX7_cut 2 rfl) hx (by decide) (by decide) ?_
    refine r_lload_n hc 1 (dc_at dX7_cut 17 rfl) rfl ?_
    exact r_lretP hc he (hm) (hs) (dc_at dX7_cut 18 rfl) hf
def m_X7_cut (h : PH) (p0 : Nat) (p1 : Int64) : Option Int64 := b_X7_cut_0 h p0 p1
theorem mt_X7_cut {l : Launch} {X : XT} {h : PH} {p0 : Nat} {p1 : Int64} {r : Int64} (ex : m_X7_cut h p0 p1 = some r) : MT l X yX7_cut cX7_cut 3 (some .long) 1 60 0 0 [.ref (X.1 + p0), .long p1] h (some (.long r)) h := MT.of (by decide) (Nat.le_of_ble_eq_true rfl) fun M hl hc hr he => by
  subst hl
  exact gg_sub [0, 1] rfl (t_X7_cut_0  hc hr he (Nat.zero_le _) (Nat.zero_le _) ex)
/-! FractionLift$Tray.lay(IJ)J -/
def lX7_layL : List (Nat × Instr × Nat × Nat) := [(0, .iload_n 1, 1, 1), (1, .ifCond .lt 11, 3, 4), (4, .iload_n 1, 1, 5), (5, .aload_n 0, 1, 6), (6, .getfield 25, 3, 9), (9, .if_icmp .lt 7, 3, 12), (12, .ldc2_w 34, 3, 15), (15, .lreturn, 1, 16), (16, .aload_n 0, 1, 17), (17, .getfield 9, 3, 20), (20, .iload_n 1, 1, 21), (21, .aload_n 0, 1, 22), (22, .lload_n 2, 1, 23), (23, .invokevirtual 36, 3, 26), (26, .lastore, 1, 27), (27, .aload_n 0, 1, 28), (28, .getfield 9, 3, 31), (31, .iload_n 1, 1, 32), (32, .laload, 1, 33), (33, .lreturn, 1, 34)]
set_option maxRecDepth 20000 in
theorem dX7_lay : dcL cX7_lay lX7_layL = true := by decide +kernel
def b_X7_lay_0 (h : PH) (v0 : Nat) (v1 : Int32) (v2 : Int64) : Option (Int64 × PH) := if v1 < 0 then (some ((-7 : Int64), h)) else ((gI 7 1 h v0).bind fun x1 => (if v1 < x1 then ((gR 7 2 h v0).bind fun a2 => (cO 7 h v0 ((m_X7_cut h v0 v2).bind fun x3 => ((sL h a2 v1 x3).bind fun h4 => ((gR 7 2 h4 v0).bind fun a5 => ((aL h4 a5 v1).bind fun x6 => (some (x6, h4)))))))) else (some ((-7 : Int64), h))))
set_option maxRecDepth 20000 in
theorem t_X7_lay_0 {M : MV} {X : XT} {h hz : PH} {r : Int64} {ce sl mc ms : Nat} {v0 : Nat} {v1 : Int32} {v2 : Int64} (hc : Cx M X RX7 cX7_lay) (hr : Rx M 2 118 mc ms 4) (he : Ex M X (some .long) "lay" (some (.long r)) hz mc ms) (hm : ce ≤ mc) (hs : sl ≤ ms) (hf : b_X7_lay_0 h v0 v1 v2 = some (r, hz)) : GG M X h ce sl 0 [(0, .ref (X.1 + v0)), (1, .int v1), (2, .long v2)] [] := by
  unfold b_X7_lay_0 at hf
  refine r_iload_n hc 1 (dc_at dX7_lay 0 rfl) rfl ?_
  refine r_if_lt (tgt := 12) hc (dc_at dX7_lay 1 rfl) (by decide) hf (fun hf => ?_) (fun hf => ?_)
  · refine r_ldc2 hc (dc_at dX7_lay 6 rfl) cl2_X7_34 ?_
    exact r_lret hc he (hm) (hs) (dc_at dX7_lay 7 rfl) hf
  · refine r_iload_n hc 1 (dc_at dX7_lay 2 rfl) rfl ?_
    refine r_aload_n hc 0 (dc_at dX7_lay 3 rfl) rfl ?_
    refine r_getI hc (dc_at dX7_lay 4 rfl) fl_X7_25 hf fun x1 hf => ?_
    refine r_icmp_lt (tgt := 16) hc (dc_at dX7_lay 5 rfl) (by decide) hf (fun hf => ?_) (fun hf => ?_)
    · refine r_aload_n hc 0 (dc_at dX7_lay 8 rfl) rfl ?_
      refine r_getR hc (dc_at dX7_lay 9 rfl) fl_X7_9 hf fun a2 hf => ?_
      refine r_iload_n hc 1 (dc_at dX7_lay 10 rfl) rfl ?_
      refine r_aload_n hc 0 (dc_at dX7_lay 11 rfl) rfl ?_
      refine r_lload_n hc 2 (dc_at dX7_lay 12 rfl) rfl ?_
      obtain ⟨ho, hf⟩ := cO_some hf
      refine ob hf fun x3 ex hf => ?_
      refine r_callVl (As := [.long v2]) (ci := 7) hc hr (dc_at dX7_lay 13 rfl) ml_X7_36 mv_X7_cut vi_X7_cut rfl ho rfl (mt_X7_cut ex) (by first | exact Nat.le_of_ble_eq_true rfl | omega) (by first | exact Nat.le_of_ble_eq_true rfl | omega) (by first | exact Nat.le_of_ble_eq_true rfl | omega) hm hs ?_
      refine r_lastore hc (dc_at dX7_lay 14 rfl) hf fun h4 hf => ?_
      refine r_aload_n hc 0 (dc_at dX7_lay 15 rfl) rfl ?_
      refine r_getR hc (dc_at dX7_lay 16 rfl) fl_X7_9 hf fun a5 hf => ?_
      refine r_iload_n hc 1 (dc_at dX7_lay 17 rfl) rfl ?_
      refine r_laload hc (dc_at dX7_lay 18 rfl) hf fun x6 hf => ?_
      exact r_lret hc he (hm) (hs) (dc_at dX7_lay 19 rfl) hf
    · refine r_ldc2 hc (dc_at dX7_lay 6 rfl) cl2_X7_34 ?_
      exact r_lret hc he (hm) (hs) (dc_at dX7_lay 7 rfl) hf
def m_X7_lay (h : PH) (p0 : Nat) (p1 : Int32) (p2 : Int64) : Option (Int64 × PH) := b_X7_lay_0 h p0 p1 p2
theorem mt_X7_lay {l : Launch} {X : XT} {h hz : PH} {p0 : Nat} {p1 : Int32} {p2 : Int64} {r : Int64} (ex : m_X7_lay h p0 p1 p2 = some (r, hz)) : MT l X yX7_lay cX7_lay 4 (some .long) 2 118 0 0 [.ref (X.1 + p0), .int p1, .long p2] h (some (.long r)) hz := MT.of (by decide) (Nat.le_of_ble_eq_true rfl) fun M hl hc hr he => by
  subst hl
  exact gg_sub [0, 1, 2] rfl (t_X7_lay_0  hc hr he (Nat.zero_le _) (Nat.zero_le _) ex)
/-! FractionLift$Watcher.<init>(LFractionLift$Reckoner;)V -/
def lX8_initL : List (Nat × Instr × Nat × Nat) := [(0, .aload_n 0, 1, 1), (1, .invokespecial 3, 3, 4), (4, .aload_n 0, 1, 5), (5, .aload_n 1, 1, 6), (6, .putfield 9, 3, 9), (9, .aload_n 0, 1, 10), (10, .bipush 8, 2, 12), (12, .newarray .int, 2, 14), (14, .putfield 15, 3, 17), (17, .aload_n 0, 1, 18), (18, .bipush 8, 2, 20), (20, .newarray .int, 2, 22), (22, .putfield 19, 3, 25), (25, .return_, 1, 26)]
set_option maxRecDepth 20000 in
theorem dX8_init : dcL cX8_init lX8_initL = true := by decide +kernel
def b_X8_init_0 (h : PH) (v0 : Nat) (v1 : Nat) : Option (Unit × PH) := (pV 8 4 (.ref v1) h v0).bind fun h1 => (bindv h1.length fun a2 => (bindv (h1 ++ [.inl (0, 8, .inl (fun _ => 0))]) fun h3 => ((pV 8 2 (.ref a2) h3 v0).bind fun h4 => (bindv h4.length fun a5 => (bindv (h4 ++ [.inl (0, 8, .inl (fun _ => 0))]) fun h6 => ((pV 8 3 (.ref a5) h6 v0).bind fun h7 => (some ((), h7))))))))
set_option maxRecDepth 20000 in
theorem t_X8_init_0 {M : MV} {X : XT} {h hz : PH} {r : Unit} {v0 : Nat} {v1 : Nat} (hc : Cx M X RX8 cX8_init) (hr : Rx M 1 60 2 16 2) (he : Ex M X none "<init>" none hz 2 16) (hm : 0 ≤ 2) (hs : 0 ≤ 16) (hf : b_X8_init_0 h v0 v1 = some (r, hz)) : GG M X h 0 0 0 [(0, .ref (X.1 + v0)), (1, .ref (X.1 + v1))] [] := by
  unfold b_X8_init_0 at hf
  refine r_aload_n hc 0 (dc_at dX8_init 0 rfl) rfl ?_
  refine r_objinit hc hr (dc_at dX8_init 1 rfl) oi_X8_3 oiw (by first | exact Nat.le_of_ble_eq_true rfl | omega) (by first | exact Nat.le_of_ble_eq_true rfl | omega) ?_
  refine r_aload_n hc 0 (dc_at dX8_init 2 rfl) rfl ?_
  refine r_aload_n hc 1 (dc_at dX8_init 3 rfl) rfl ?_
  refine r_putR hc he (dc_at dX8_init 4 rfl) fp_X8_9 (fun _ => rfl) ⟨rfl, fun _ => ⟨rfl, rfl⟩⟩ hf fun h1 hf => ?_
  refine r_aload_n hc 0 (dc_at dX8_init 5 rfl) rfl ?_
  refine r_bipush (8 : Int32) hc (dc_at dX8_init 6 rfl) (by decide) ?_
  refine r_newarrN (t := 0) (N := 8) (ty := .int) hc hr (dc_at dX8_init 7 rfl) arr_int rfl (fun _ _ z => z) rfl (fun _ => rfl) (by decide) (by decide) (by decide) (Nat.le_of_ble_eq_true rfl) (Nat.le_of_ble_eq_true rfl) hf fun a2 h3 hf => ?_
  refine r_putR hc he (dc_at dX8_init 8 rfl) fp_X8_15 (fun _ => rfl) ⟨rfl, fun _ => ⟨rfl, rfl⟩⟩ hf fun h4 hf => ?_
  refine r_aload_n hc 0 (dc_at dX8_init 9 rfl) rfl ?_
  refine r_bipush (8 : Int32) hc (dc_at dX8_init 10 rfl) (by decide) ?_
  refine r_newarrN (t := 0) (N := 8) (ty := .int) hc hr (dc_at dX8_init 11 rfl) arr_int rfl (fun _ _ z => z) rfl (fun _ => rfl) (by decide) (by decide) (by decide) (Nat.le_of_ble_eq_true rfl) (Nat.le_of_ble_eq_true rfl) hf fun a5 h6 hf => ?_
  refine r_putR hc he (dc_at dX8_init 12 rfl) fp_X8_19 (fun _ => rfl) ⟨rfl, fun _ => ⟨rfl, rfl⟩⟩ hf fun h7 hf => ?_
  exact r_vret hc he (Nat.le_of_ble_eq_true rfl) (Nat.le_of_ble_eq_true rfl) (dc_at dX8_init 13 rfl) hf
def m_X8_init (h : PH) (p0 : Nat) (p1 : Nat) : Option (Unit × PH) := b_X8_init_0 h p0 p1
theorem mt_X8_init {l : Launch} {X : XT} {h hz : PH} {p0 : Nat} {p1 : Nat} {r : Unit} (ex : m_X8_init h p0 p1 = some (r, hz)) : MT l X yX8_init cX8_init 2 none 1 60 2 16 [.ref (X.1 + p0), .ref (X.1 + p1)] h none hz := MT.of (by decide) (Nat.le_of_ble_eq_true rfl) fun M hl hc hr he => by
  subst hl
  exact gg_sub [0, 1] rfl (t_X8_init_0  hc hr he (Nat.zero_le _) (Nat.zero_le _) ex)
/-! FractionLift$Watcher.takeRow(I)V -/
def lX8_takeRowL : List (Nat × Instr × Nat × Nat) := [(0, .iconst 0, 1, 1), (1, .istore_n 2, 1, 2), (2, .iconst 0, 1, 3), (3, .istore_n 3, 1, 4), (4, .iload_n 3, 1, 5), (5, .iload_n 1, 1, 6), (6, .if_icmp .ge 65, 3, 9), (9, .iload_n 2, 1, 10), (10, .bipush 6, 2, 12), (12, .imul, 1, 13), (13, .aload_n 0, 1, 14), (14, .getfield 19, 3, 17), (17, .iload_n 3, 1, 18), (18, .iaload, 1, 19), (19, .iadd, 1, 20), (20, .istore_n 2, 1, 21), (21, .aload_n 0, 1, 22), (22, .getfield 34, 3, 25), (25, .ifCond .ne 18, 3, 28), (28, .aload_n 0, 1, 29), (29, .getfield 15, 3, 32), (32, .iload_n 3, 1, 33), (33, .aload_n 0, 1, 34), (34, .getfield 19, 3, 37), (37, .iload_n 3, 1, 38), (38, .iaload, 1, 39), (39, .iastore, 1, 40), (40, .goto 25, 3, 43), (43, .aload_n 0, 1, 44), (44, .getfield 15, 3, 47), (47, .iload_n 3, 1, 48), (48, .iaload, 1, 49), (49, .aload_n 0, 1, 50), (50, .getfield 19, 3, 53), (53, .iload_n 3, 1, 54), (54, .iaload, 1, 55), (55, .if_icmp .eq 10, 3, 58), (58, .aload_n 0, 1, 59), (59, .getfield 15, 3, 62), (62, .iload_n 3, 1, 63), (63, .iconst (-1), 1, 64), (64, .iastore, 1, 65), (65, .iinc 3 1, 3, 68), (68, .goto (-64), 3, 71), (71, .aload_n 0, 1, 72), (72, .getfield 34, 3, 75), (75, .aload_n 0, 1, 76), (76, .getfield 30, 3, 79), (79, .if_icmp .ne 8, 3, 82), (82, .aload_n 0, 1, 83), (83, .iload_n 2, 1, 84), (84, .putfield 37, 3, 87), (87, .aload_n 0, 1, 88), (88, .dup, 1, 89), (89, .getfield 34, 3, 92), (92, .iconst 1, 1, 93), (93, .iadd, 1, 94), (94, .putfield 34, 3, 97), (97, .return_, 1, 98)]
set_option maxRecDepth 20000 in
theorem dX8_takeRow : dcL cX8_takeRow lX8_takeRowL = true := by decide +kernel
def b_X8_takeRow_65 (F : Nat) (self4 : PH → Nat → Int32 → Int32 → Int32 → Option (Unit × PH)) (h : PH) (v0 : Nat) (v1 : Int32) (v2 : Int32) (v3 : Int32) : Option (Unit × PH) := bindv (v3 + (1)) fun x1 => (self4 h v0 v1 v2 x1)
set_option maxRecDepth 20000 in
theorem t_X8_takeRow_65 {M : MV} {X : XT} {F : Nat} {self4 : PH → Nat → Int32 → Int32 → Int32 → Option (Unit × PH)} {h hz : PH} {r : Unit} {ce sl mc ms : Nat} {v0 : Nat} {v1 : Int32} {v2 : Int32} {v3 : Int32} (hc : Cx M X RX8 cX8_takeRow) (hr : Rx M 1 60 mc ms 4) (he : Ex M X none "takeRow" none hz mc ms) (hm : ce ≤ mc) (hs : sl ≤ ms) (ih4 : ∀ (h : PH) (v0 : Nat) (v1 : Int32) (v2 : Int32) (v3 : Int32), self4 h v0 v1 v2 v3 = some (r, hz) → GG M X h ce sl 4 [(0, .ref (X.1 + v0)), (1, .int v1), (2, .int v2), (3, .int v3)] []) (hf : b_X8_takeRow_65 F self4 h v0 v1 v2 v3 = some (r, hz)) : GG M X h ce sl 65 [(0, .ref (X.1 + v0)), (1, .int v1), (2, .int v2), (3, .int v3)] [] := by
  unfold b_X8_takeRow_65 at hf
  refine obv hf fun x1 e_x1 hf => ?_
  refine r_iinc 3 [(3, .int x1), (0, .ref (X.1 + v0)), (1, .int v1), (2, .int v2)] hc hr (dc_at dX8_takeRow 42 rfl) rfl (by rw [e_x1]; rfl) (by decide) rfl ?_
  refine r_goto (tgt := 4) hc (dc_at dX8_takeRow 43 rfl) (by decide) ?_
  exact gg_sub [1, 2, 3, 0] rfl (ih4 _ _ _ _ _ hf)
def b_X8_takeRow_87 (F : Nat) (h : PH) (v0 : Nat) : Option (Unit × PH) := (gI 8 0 h v0).bind fun x1 => ((pV 8 0 (.int ((x1 + (1 : Int32)))) h v0).bind fun h2 => (some ((), h2)))
set_option maxRecDepth 20000 in
theorem t_X8_takeRow_87 {M : MV} {X : XT} {F : Nat} {h hz : PH} {r : Unit} {ce sl mc ms : Nat} {v0 : Nat} (hc : Cx M X RX8 cX8_takeRow) (hr : Rx M 1 60 mc ms 4) (he : Ex M X none "takeRow" none hz mc ms) (hm : ce ≤ mc) (hs : sl ≤ ms) (hf : b_X8_takeRow_87 F h v0 = some (r, hz)) : GG M X h ce sl 87 [(0, .ref (X.1 + v0))] [] := by
  unfold b_X8_takeRow_87 at hf
  refine r_aload_n hc 0 (dc_at dX8_takeRow 52 rfl) rfl ?_
  refine r_dup hc (dc_at dX8_takeRow 53 rfl) rfl ?_
  refine r_getI hc (dc_at dX8_takeRow 54 rfl) fl_X8_34 hf fun x1 hf => ?_
  refine r_iconst (1 : Int32) hc (dc_at dX8_takeRow 55 rfl) (by decide) ?_
  refine r_iadd hc (dc_at dX8_takeRow 56 rfl) ?_
  refine r_putI hc he (dc_at dX8_takeRow 57 rfl) fp_X8_34 (fun q => by cases q) hf fun h2 hf => ?_
  exact r_vret hc he (hm) (hs) (dc_at dX8_takeRow 58 rfl) hf
def b_X8_takeRow_4 (F : Nat) (self4 : PH → Nat → Int32 → Int32 → Int32 → Option (Unit × PH)) (h : PH) (v0 : Nat) (v1 : Int32) (v2 : Int32) (v3 : Int32) : Option (Unit × PH) := if v1 ≤ v3 then ((gI 8 0 h v0).bind fun x1 => ((gI 8 7 h v0).bind fun x2 => (if x1 = x2 then ((pV 8 1 (.int v2) h v0).bind fun h3 => (b_X8_takeRow_87 F h3 v0)) else (b_X8_takeRow_87 F h v0)))) else ((gR 8 3 h v0).bind fun a4 => ((aI 0 h a4 v3).bind fun x5 => (bindv ((((v2 * (6 : Int32))) + x5)) fun x6 => ((gI 8 0 h v0).bind fun x7 => (if x7 = 0 then ((gR 8 2 h v0).bind fun a14 => ((gR 8 3 h v0).bind fun a15 => ((aI 0 h a15 v3).bind fun x16 => ((sI 0 h a14 v3 x16).bind fun h17 => (b_X8_takeRow_65 F self4 h17 v0 v1 x6 v3))))) else ((gR 8 2 h v0).bind fun a8 => ((aI 0 h a8 v3).bind fun x9 => ((gR 8 3 h v0).bind fun a10 => ((aI 0 h a10 v3).bind fun x11 => (if x9 = x11 then (b_X8_takeRow_65 F self4 h v0 v1 x6 v3) else ((gR 8 2 h v0).bind fun a12 => ((sI 0 h a12 v3 (-1 : Int32)).bind fun h13 => (b_X8_takeRow_65 F self4 h13 v0 v1 x6 v3)))))))))))))
set_option maxRecDepth 20000 in
theorem tb_X8_takeRow_4 {M : MV} {X : XT} {F : Nat} {self4 : PH → Nat → Int32 → Int32 → Int32 → Option (Unit × PH)} {h hz : PH} {r : Unit} {ce sl mc ms : Nat} {v0 : Nat} {v1 : Int32} {v2 : Int32} {v3 : Int32} (hc : Cx M X RX8 cX8_takeRow) (hr : Rx M 1 60 mc ms 4) (he : Ex M X none "takeRow" none hz mc ms) (hm : ce ≤ mc) (hs : sl ≤ ms) (ih4 : ∀ (h : PH) (v0 : Nat) (v1 : Int32) (v2 : Int32) (v3 : Int32), self4 h v0 v1 v2 v3 = some (r, hz) → GG M X h ce sl 4 [(0, .ref (X.1 + v0)), (1, .int v1), (2, .int v2), (3, .int v3)] []) (hf : b_X8_takeRow_4 F self4 h v0 v1 v2 v3 = some (r, hz)) : GG M X h ce sl 4 [(0, .ref (X.1 + v0)), (1, .int v1), (2, .int v2), (3, .int v3)] [] := by
  unfold b_X8_takeRow_4 at hf
  refine r_iload_n hc 3 (dc_at dX8_takeRow 4 rfl) rfl ?_
  refine r_iload_n hc 1 (dc_at dX8_takeRow 5 rfl) rfl ?_
  refine r_icmp_ge (tgt := 71) hc (dc_at dX8_takeRow 6 rfl) (by decide) hf (fun hf => ?_) (fun hf => ?_)
  · refine r_aload_n hc 0 (dc_at dX8_takeRow 44 rfl) rfl ?_
    refine r_getI hc (dc_at dX8_takeRow 45 rfl) fl_X8_34 hf fun x1 hf => ?_
    refine r_aload_n hc 0 (dc_at dX8_takeRow 46 rfl) rfl ?_
    refine r_getI hc (dc_at dX8_takeRow 47 rfl) fl_X8_30 hf fun x2 hf => ?_
    refine r_icmp_ne (tgt := 87) hc (dc_at dX8_takeRow 48 rfl) (by decide) hf (fun hf => ?_) (fun hf => ?_)
    · exact gg_sub [0] rfl (t_X8_takeRow_87 hc hr he hm hs  hf)
    · refine r_aload_n hc 0 (dc_at dX8_takeRow 49 rfl) rfl ?_
      refine r_iload_n hc 2 (dc_at dX8_takeRow 50 rfl) rfl ?_
      refine r_putI hc he (dc_at dX8_takeRow 51 rfl) fp_X8_37 (fun q => by cases q) hf fun h3 hf => ?_
      exact gg_sub [0] rfl (t_X8_takeRow_87 hc hr he hm hs  hf)
  · refine r_iload_n hc 2 (dc_at dX8_takeRow 7 rfl) rfl ?_
    refine r_bipush (6 : Int32) hc (dc_at dX8_takeRow 8 rfl) (by decide) ?_
    refine r_imul hc (dc_at dX8_takeRow 9 rfl) ?_
    refine r_aload_n hc 0 (dc_at dX8_takeRow 10 rfl) rfl ?_
    refine r_getR hc (dc_at dX8_takeRow 11 rfl) fl_X8_19 hf fun a4 hf => ?_
    refine r_iload_n hc 3 (dc_at dX8_takeRow 12 rfl) rfl ?_
    refine r_iaload hc (dc_at dX8_takeRow 13 rfl) hf fun x5 hf => ?_
    refine r_iadd hc (dc_at dX8_takeRow 14 rfl) ?_
    refine r_nm (mk := Value.int) hf fun x6 hf => ?_
    refine r_istore_n [(2, .int x6), (0, .ref (X.1 + v0)), (1, .int v1), (3, .int v3)] hc hr (dc_at dX8_takeRow 15 rfl) (by decide) rfl ?_
    refine r_aload_n hc 1 (dc_at dX8_takeRow 16 rfl) rfl ?_
    refine r_getI hc (dc_at dX8_takeRow 17 rfl) fl_X8_34 hf fun x7 hf => ?_
    refine r_if_ne (tgt := 43) hc (dc_at dX8_takeRow 18 rfl) (by decide) hf (fun hf => ?_) (fun hf => ?_)
    · refine r_aload_n hc 1 (dc_at dX8_takeRow 28 rfl) rfl ?_
      refine r_getR hc (dc_at dX8_takeRow 29 rfl) fl_X8_15 hf fun a8 hf => ?_
      refine r_iload_n hc 3 (dc_at dX8_takeRow 30 rfl) rfl ?_
      refine r_iaload hc (dc_at dX8_takeRow 31 rfl) hf fun x9 hf => ?_
      refine r_aload_n hc 1 (dc_at dX8_takeRow 32 rfl) rfl ?_
      refine r_getR hc (dc_at dX8_takeRow 33 rfl) fl_X8_19 hf fun a10 hf => ?_
      refine r_iload_n hc 3 (dc_at dX8_takeRow 34 rfl) rfl ?_
      refine r_iaload hc (dc_at dX8_takeRow 35 rfl) hf fun x11 hf => ?_
      refine r_icmp_eq (tgt := 65) hc (dc_at dX8_takeRow 36 rfl) (by decide) hf (fun hf => ?_) (fun hf => ?_)
      · exact gg_sub [1, 2, 0, 3] rfl (t_X8_takeRow_65 hc hr he hm hs ih4 hf)
      · refine r_aload_n hc 1 (dc_at dX8_takeRow 37 rfl) rfl ?_
        refine r_getR hc (dc_at dX8_takeRow 38 rfl) fl_X8_15 hf fun a12 hf => ?_
        refine r_iload_n hc 3 (dc_at dX8_takeRow 39 rfl) rfl ?_
        refine r_iconst (-1 : Int32) hc (dc_at dX8_takeRow 40 rfl) (by decide) ?_
        refine r_iastore hc (dc_at dX8_takeRow 41 rfl) hf fun h13 hf => ?_
        exact gg_sub [1, 2, 0, 3] rfl (t_X8_takeRow_65 hc hr he hm hs ih4 hf)
    · refine r_aload_n hc 1 (dc_at dX8_takeRow 19 rfl) rfl ?_
      refine r_getR hc (dc_at dX8_takeRow 20 rfl) fl_X8_15 hf fun a14 hf => ?_
      refine r_iload_n hc 3 (dc_at dX8_takeRow 21 rfl) rfl ?_
      refine r_aload_n hc 1 (dc_at dX8_takeRow 22 rfl) rfl ?_
      refine r_getR hc (dc_at dX8_takeRow 23 rfl) fl_X8_19 hf fun a15 hf => ?_
      refine r_iload_n hc 3 (dc_at dX8_takeRow 24 rfl) rfl ?_
      refine r_iaload hc (dc_at dX8_takeRow 25 rfl) hf fun x16 hf => ?_
      refine r_iastore hc (dc_at dX8_takeRow 26 rfl) hf fun h17 hf => ?_
      refine r_goto (tgt := 65) hc (dc_at dX8_takeRow 27 rfl) (by decide) ?_
      exact gg_sub [1, 2, 0, 3] rfl (t_X8_takeRow_65 hc hr he hm hs ih4 hf)
def l_X8_takeRow_4 (F : Nat) : Nat → PH → Nat → Int32 → Int32 → Int32 → Option (Unit × PH)
  | 0 => fun _ _ _ _ _ => none
  | n + 1 => fun h v0 v1 v2 v3 => b_X8_takeRow_4 F (l_X8_takeRow_4 F n) h v0 v1 v2 v3
theorem tl_X8_takeRow_4 {M : MV} {X : XT} {F : Nat} {hz : PH} {r : Unit} {ce sl mc ms : Nat} (hc : Cx M X RX8 cX8_takeRow) (hr : Rx M 1 60 mc ms 4) (he : Ex M X none "takeRow" none hz mc ms) (hm : ce ≤ mc) (hs : sl ≤ ms) (n : Nat) : ∀ (h : PH) (v0 : Nat) (v1 : Int32) (v2 : Int32) (v3 : Int32), l_X8_takeRow_4 F n h v0 v1 v2 v3 = some (r, hz) → GG M X h ce sl 4 [(0, .ref (X.1 + v0)), (1, .int v1), (2, .int v2), (3, .int v3)] [] := by
  induction n with
  | zero => intro h v0 v1 v2 v3 hf; cases hf
  | succ n ih => intro h v0 v1 v2 v3 hf; exact tb_X8_takeRow_4 (F := F) hc hr he hm hs  ih hf
def b_X8_takeRow_0 (F : Nat) (h : PH) (v0 : Nat) (v1 : Int32) : Option (Unit × PH) := l_X8_takeRow_4 F F h v0 v1 (0 : Int32) (0 : Int32)
set_option maxRecDepth 20000 in
theorem t_X8_takeRow_0 {M : MV} {X : XT} {F : Nat} {h hz : PH} {r : Unit} {ce sl mc ms : Nat} {v0 : Nat} {v1 : Int32} (hc : Cx M X RX8 cX8_takeRow) (hr : Rx M 1 60 mc ms 4) (he : Ex M X none "takeRow" none hz mc ms) (hm : ce ≤ mc) (hs : sl ≤ ms) (hf : b_X8_takeRow_0 F h v0 v1 = some (r, hz)) : GG M X h ce sl 0 [(0, .ref (X.1 + v0)), (1, .int v1)] [] := by
  unfold b_X8_takeRow_0 at hf
  refine r_iconst (0 : Int32) hc (dc_at dX8_takeRow 0 rfl) (by decide) ?_
  refine r_istore_n [(2, .int ((0 : Int32))), (0, .ref (X.1 + v0)), (1, .int v1)] hc hr (dc_at dX8_takeRow 1 rfl) (by decide) rfl ?_
  refine r_iconst (0 : Int32) hc (dc_at dX8_takeRow 2 rfl) (by decide) ?_
  refine r_istore_n [(3, .int ((0 : Int32))), (2, .int ((0 : Int32))), (0, .ref (X.1 + v0)), (1, .int v1)] hc hr (dc_at dX8_takeRow 3 rfl) (by decide) rfl ?_
  exact gg_sub [2, 3, 1, 0] rfl (tl_X8_takeRow_4 hc hr he hm hs  F _ _ _ _ _ hf)
def m_X8_takeRow (F : Nat) (h : PH) (p0 : Nat) (p1 : Int32) : Option (Unit × PH) := b_X8_takeRow_0 F h p0 p1
theorem mt_X8_takeRow {l : Launch} {X : XT} {F : Nat} {h hz : PH} {p0 : Nat} {p1 : Int32} {r : Unit} (ex : m_X8_takeRow F h p0 p1 = some (r, hz)) : MT l X yX8_takeRow cX8_takeRow 4 none 1 60 0 0 [.ref (X.1 + p0), .int p1] h none hz := MT.of (by decide) (Nat.le_of_ble_eq_true rfl) fun M hl hc hr he => by
  subst hl
  exact gg_sub [0, 1] rfl (t_X8_takeRow_0  hc hr he (Nat.zero_le _) (Nat.zero_le _) ex)
/-! FractionLift$Watcher.isSeenAt(I)Z -/
def lX8_isSeenAtL : List (Nat × Instr × Nat × Nat) := [(0, .iload_n 1, 1, 1), (1, .ifCond .lt 14, 3, 4), (4, .iload_n 1, 1, 5), (5, .aload_n 0, 1, 6), (6, .getfield 22, 3, 9), (9, .getfield 84, 3, 12), (12, .if_icmp .lt 5, 3, 15), (15, .iconst 1, 1, 16), (16, .ireturn, 1, 17), (17, .aload_n 0, 1, 18), (18, .getfield 22, 3, 21), (21, .getfield 87, 3, 24), (24, .iload_n 1, 1, 25), (25, .iaload, 1, 26), (26, .aload_n 0, 1, 27), (27, .getfield 9, 3, 30), (30, .getfield 78, 3, 33), (33, .if_icmp .ne 26, 3, 36), (36, .aload_n 0, 1, 37), (37, .getfield 22, 3, 40), (40, .getfield 90, 3, 43), (43, .iload_n 1, 1, 44), (44, .iaload, 1, 45), (45, .aload_n 0, 1, 46), (46, .getfield 9, 3, 49), (49, .getfield 81, 3, 52), (52, .if_icmp .ne 7, 3, 55), (55, .iconst 1, 1, 56), (56, .goto 4, 3, 59), (59, .iconst 0, 1, 60), (60, .ireturn, 1, 61)]
set_option maxRecDepth 20000 in
theorem dX8_isSeenAt : dcL cX8_isSeenAt lX8_isSeenAtL = true := by decide +kernel
def b_X8_isSeenAt_0 (h : PH) (v0 : Nat) (v1 : Int32) : Option Int32 := if v1 < 0 then (rZP (1 : Int32)) else ((gR 8 5 h v0).bind fun a1 => ((gI 0 9 h a1).bind fun x2 => (if v1 < x2 then ((gR 8 5 h v0).bind fun a3 => ((gR 0 10 h a3).bind fun a4 => ((aI 0 h a4 v1).bind fun x5 => ((gR 8 4 h v0).bind fun a6 => ((gI 4 0 h a6).bind fun x7 => (if x5 = x7 then ((gR 8 5 h v0).bind fun a8 => ((gR 0 11 h a8).bind fun a9 => ((aI 0 h a9 v1).bind fun x10 => ((gR 8 4 h v0).bind fun a11 => ((gI 4 1 h a11).bind fun x12 => (if x10 = x12 then (rZP (1 : Int32)) else (rZP (0 : Int32)))))))) else (rZP (0 : Int32)))))))) else (rZP (1 : Int32)))))
set_option maxRecDepth 20000 in
theorem t_X8_isSeenAt_0 {M : MV} {X : XT} {h : PH} {r : Int32} {ce sl mc ms : Nat} {v0 : Nat} {v1 : Int32} (hc : Cx M X RX8 cX8_isSeenAt) (hr : Rx M 1 60 mc ms 2) (he : Ex M X (some .boolean) "isSeenAt" (some (.int r)) h mc ms) (hm : ce ≤ mc) (hs : sl ≤ ms) (hf : b_X8_isSeenAt_0 h v0 v1 = some r) : GG M X h ce sl 0 [(0, .ref (X.1 + v0)), (1, .int v1)] [] := by
  unfold b_X8_isSeenAt_0 at hf
  refine r_iload_n hc 1 (dc_at dX8_isSeenAt 0 rfl) rfl ?_
  refine r_if_lt (tgt := 15) hc (dc_at dX8_isSeenAt 1 rfl) (by decide) hf (fun hf => ?_) (fun hf => ?_)
  · refine r_iconst (1 : Int32) hc (dc_at dX8_isSeenAt 7 rfl) (by decide) ?_
    exact r_zretP hc he (hm) (hs) (dc_at dX8_isSeenAt 8 rfl) hf
  · refine r_iload_n hc 1 (dc_at dX8_isSeenAt 2 rfl) rfl ?_
    refine r_aload_n hc 0 (dc_at dX8_isSeenAt 3 rfl) rfl ?_
    refine r_getR hc (dc_at dX8_isSeenAt 4 rfl) fl_X8_22 hf fun a1 hf => ?_
    refine r_getI hc (dc_at dX8_isSeenAt 5 rfl) fl_X8_84 hf fun x2 hf => ?_
    refine r_icmp_lt (tgt := 17) hc (dc_at dX8_isSeenAt 6 rfl) (by decide) hf (fun hf => ?_) (fun hf => ?_)
    · refine r_aload_n hc 0 (dc_at dX8_isSeenAt 9 rfl) rfl ?_
      refine r_getR hc (dc_at dX8_isSeenAt 10 rfl) fl_X8_22 hf fun a3 hf => ?_
      refine r_getR hc (dc_at dX8_isSeenAt 11 rfl) fl_X8_87 hf fun a4 hf => ?_
      refine r_iload_n hc 1 (dc_at dX8_isSeenAt 12 rfl) rfl ?_
      refine r_iaload hc (dc_at dX8_isSeenAt 13 rfl) hf fun x5 hf => ?_
      refine r_aload_n hc 0 (dc_at dX8_isSeenAt 14 rfl) rfl ?_
      refine r_getR hc (dc_at dX8_isSeenAt 15 rfl) fl_X8_9 hf fun a6 hf => ?_
      refine r_getI hc (dc_at dX8_isSeenAt 16 rfl) fl_X8_78 hf fun x7 hf => ?_
      refine r_icmp_ne (tgt := 59) hc (dc_at dX8_isSeenAt 17 rfl) (by decide) hf (fun hf => ?_) (fun hf => ?_)
      · refine r_iconst (0 : Int32) hc (dc_at dX8_isSeenAt 29 rfl) (by decide) ?_
        exact r_zretP hc he (hm) (hs) (dc_at dX8_isSeenAt 30 rfl) hf
      · refine r_aload_n hc 0 (dc_at dX8_isSeenAt 18 rfl) rfl ?_
        refine r_getR hc (dc_at dX8_isSeenAt 19 rfl) fl_X8_22 hf fun a8 hf => ?_
        refine r_getR hc (dc_at dX8_isSeenAt 20 rfl) fl_X8_90 hf fun a9 hf => ?_
        refine r_iload_n hc 1 (dc_at dX8_isSeenAt 21 rfl) rfl ?_
        refine r_iaload hc (dc_at dX8_isSeenAt 22 rfl) hf fun x10 hf => ?_
        refine r_aload_n hc 0 (dc_at dX8_isSeenAt 23 rfl) rfl ?_
        refine r_getR hc (dc_at dX8_isSeenAt 24 rfl) fl_X8_9 hf fun a11 hf => ?_
        refine r_getI hc (dc_at dX8_isSeenAt 25 rfl) fl_X8_81 hf fun x12 hf => ?_
        refine r_icmp_ne (tgt := 59) hc (dc_at dX8_isSeenAt 26 rfl) (by decide) hf (fun hf => ?_) (fun hf => ?_)
        · refine r_iconst (0 : Int32) hc (dc_at dX8_isSeenAt 29 rfl) (by decide) ?_
          exact r_zretP hc he (hm) (hs) (dc_at dX8_isSeenAt 30 rfl) hf
        · refine r_iconst (1 : Int32) hc (dc_at dX8_isSeenAt 27 rfl) (by decide) ?_
          refine r_goto (tgt := 60) hc (dc_at dX8_isSeenAt 28 rfl) (by decide) ?_
          exact r_zretP hc he (hm) (hs) (dc_at dX8_isSeenAt 30 rfl) hf
    · refine r_iconst (1 : Int32) hc (dc_at dX8_isSeenAt 7 rfl) (by decide) ?_
      exact r_zretP hc he (hm) (hs) (dc_at dX8_isSeenAt 8 rfl) hf
def m_X8_isSeenAt (h : PH) (p0 : Nat) (p1 : Int32) : Option Int32 := b_X8_isSeenAt_0 h p0 p1
theorem mt_X8_isSeenAt {l : Launch} {X : XT} {h : PH} {p0 : Nat} {p1 : Int32} {r : Int32} (ex : m_X8_isSeenAt h p0 p1 = some r) : MT l X yX8_isSeenAt cX8_isSeenAt 2 (some .boolean) 1 60 0 0 [.ref (X.1 + p0), .int p1] h (some (.int r)) h := MT.of (by decide) (Nat.le_of_ble_eq_true rfl) fun M hl hc hr he => by
  subst hl
  exact gg_sub [0, 1] rfl (t_X8_isSeenAt_0  hc hr he (Nat.zero_le _) (Nat.zero_le _) ex)
/-! FractionLift$Watcher.goOn(III)V -/
def lX8_goOnL : List (Nat × Instr × Nat × Nat) := [(0, .iload_n 1, 1, 1), (1, .aload_n 0, 1, 2), (2, .getfield 26, 3, 5), (5, .getfield 52, 3, 8), (8, .if_icmp .ge 9, 3, 11), (11, .iload_n 1, 1, 12), (12, .bipush 8, 2, 14), (14, .if_icmp .lt 9, 3, 17), (17, .aload_n 0, 1, 18), (18, .iload_n 1, 1, 19), (19, .invokevirtual 57, 3, 22), (22, .return_, 1, 23), (23, .aload_n 0, 1, 24), (24, .getfield 26, 3, 27), (27, .iload_n 1, 1, 28), (28, .invokevirtual 61, 3, 31), (31, .istore 4, 2, 33), (33, .iconst 0, 1, 34), (34, .istore 5, 2, 36), (36, .iload 5, 2, 38), (38, .aload_n 0, 1, 39), (39, .getfield 22, 3, 42), (42, .getfield 65, 3, 45), (45, .if_icmp .ge 67, 3, 48), (48, .aload_n 0, 1, 49), (49, .getfield 9, 3, 52), (52, .aload_n 0, 1, 53), (53, .getfield 22, 3, 56), (56, .iload 5, 2, 58), (58, .iload_n 2, 1, 59), (59, .i2l, 1, 60), (60, .iload_n 3, 1, 61), (61, .i2l, 1, 62), (62, .invokevirtual 68, 3, 65), (65, .ifCond .ne 41, 3, 68), (68, .aload_n 0, 1, 69), (69, .iload 4, 2, 71), (71, .invokevirtual 74, 3, 74), (74, .ifCond .eq 32, 3, 77), (77, .aload_n 0, 1, 78), (78, .getfield 19, 3, 81), (81, .iload_n 1, 1, 82), (82, .iload 5, 2, 84), (84, .iastore, 1, 85), (85, .aload_n 0, 1, 86), (86, .iload_n 1, 1, 87), (87, .iconst 1, 1, 88), (88, .iadd, 1, 89), (89, .aload_n 0, 1, 90), (90, .getfield 9, 3, 93), (93, .getfield 78, 3, 96), (96, .aload_n 0, 1, 97), (97, .getfield 9, 3, 100), (100, .getfield 81, 3, 103), (103, .invokevirtual 48, 3, 106), (106, .iinc 5 1, 3, 109), (109, .goto (-73), 3, 112), (112, .return_, 1, 113)]
set_option maxRecDepth 20000 in
theorem dX8_goOn : dcL cX8_goOn lX8_goOnL = true := by decide +kernel
def b_X8_goOn_17 (rc : PH → Nat → Int32 → Int32 → Int32 → Option (Unit × PH)) (F : Nat) (h : PH) (v0 : Nat) (v1 : Int32) : Option (Unit × PH) := cO 8 h v0 (bind2 (m_X8_takeRow F h v0 v1) fun _ h2 => (some ((), h2)))
set_option maxRecDepth 20000 in
theorem t_X8_goOn_17 {M : MV} {X : XT} {rc : PH → Nat → Int32 → Int32 → Int32 → Option (Unit × PH)} {d : Nat} {F : Nat} {h hz : PH} {r : Unit} {ce sl mc ms : Nat} {v0 : Nat} {v1 : Int32} (hrc : ∀ {h hz : PH} {p0 : Nat} {p1 : Int32} {p2 : Int32} {p3 : Int32} {r : Unit}, rc h p0 p1 p2 p3 = some (r, hz) → MT M.2.1 X yX8_goOn cX8_goOn 6 none (1 * d + 5) (58 * d + 292) 0 0 [.ref (X.1 + p0), .int p1, .int p2, .int p3] h none hz) (hc : Cx M X RX8 cX8_goOn) (hr : Rx M (1 * d + 6) (58 * d + 350) mc ms 6) (he : Ex M X none "goOn" none hz mc ms) (hm : ce ≤ mc) (hs : sl ≤ ms) (hf : b_X8_goOn_17 rc F h v0 v1 = some (r, hz)) : GG M X h ce sl 17 [(0, .ref (X.1 + v0)), (1, .int v1)] [] := by
  unfold b_X8_goOn_17 at hf
  refine r_aload_n hc 0 (dc_at dX8_goOn 8 rfl) rfl ?_
  refine r_iload_n hc 1 (dc_at dX8_goOn 9 rfl) rfl ?_
  obtain ⟨ho, hf⟩ := cO_some hf
  refine ob2 hf fun u h2 ex hf => ?_
  refine r_callVv (As := [.int v1]) (ci := 8) hc hr (dc_at dX8_goOn 10 rfl) ml_X8_57 mv_X8_takeRow vi_X8_takeRow rfl ho rfl (mt_X8_takeRow ex) (by first | exact Nat.le_of_ble_eq_true rfl | omega) (by first | exact Nat.le_of_ble_eq_true rfl | omega) (by first | exact Nat.le_of_ble_eq_true rfl | omega) hm hs ?_
  exact r_vret hc he (hm) (hs) (dc_at dX8_goOn 11 rfl) hf
def b_X8_goOn_106 (rc : PH → Nat → Int32 → Int32 → Int32 → Option (Unit × PH)) (F : Nat) (self19 : PH → Nat → Int32 → Int32 → Int32 → Int32 → Int32 → Option (Unit × PH)) (h : PH) (v0 : Nat) (v1 : Int32) (v2 : Int32) (v3 : Int32) (v4 : Int32) (v5 : Int32) : Option (Unit × PH) := bindv (v5 + (1)) fun x1 => (self19 h v0 v1 v2 v3 v4 x1)
set_option maxRecDepth 20000 in
theorem t_X8_goOn_106 {M : MV} {X : XT} {rc : PH → Nat → Int32 → Int32 → Int32 → Option (Unit × PH)} {d : Nat} {F : Nat} {self19 : PH → Nat → Int32 → Int32 → Int32 → Int32 → Int32 → Option (Unit × PH)} {h hz : PH} {r : Unit} {ce sl mc ms : Nat} {v0 : Nat} {v1 : Int32} {v2 : Int32} {v3 : Int32} {v4 : Int32} {v5 : Int32} (hrc : ∀ {h hz : PH} {p0 : Nat} {p1 : Int32} {p2 : Int32} {p3 : Int32} {r : Unit}, rc h p0 p1 p2 p3 = some (r, hz) → MT M.2.1 X yX8_goOn cX8_goOn 6 none (1 * d + 5) (58 * d + 292) 0 0 [.ref (X.1 + p0), .int p1, .int p2, .int p3] h none hz) (hc : Cx M X RX8 cX8_goOn) (hr : Rx M (1 * d + 6) (58 * d + 350) mc ms 6) (he : Ex M X none "goOn" none hz mc ms) (hm : ce ≤ mc) (hs : sl ≤ ms) (ih19 : ∀ (h : PH) (v0 : Nat) (v1 : Int32) (v2 : Int32) (v3 : Int32) (v4 : Int32) (v5 : Int32), self19 h v0 v1 v2 v3 v4 v5 = some (r, hz) → GG M X h ce sl 36 [(0, .ref (X.1 + v0)), (1, .int v1), (2, .int v2), (3, .int v3), (4, .int v4), (5, .int v5)] []) (hf : b_X8_goOn_106 rc F self19 h v0 v1 v2 v3 v4 v5 = some (r, hz)) : GG M X h ce sl 106 [(0, .ref (X.1 + v0)), (1, .int v1), (2, .int v2), (3, .int v3), (4, .int v4), (5, .int v5)] [] := by
  unfold b_X8_goOn_106 at hf
  refine obv hf fun x1 e_x1 hf => ?_
  refine r_iinc 5 [(5, .int x1), (0, .ref (X.1 + v0)), (1, .int v1), (2, .int v2), (3, .int v3), (4, .int v4)] hc hr (dc_at dX8_goOn 55 rfl) rfl (by rw [e_x1]; rfl) (by decide) rfl ?_
  refine r_goto (tgt := 36) hc (dc_at dX8_goOn 56 rfl) (by decide) ?_
  exact gg_sub [1, 2, 3, 4, 5, 0] rfl (ih19 _ _ _ _ _ _ _ hf)
def b_X8_goOn_36 (rc : PH → Nat → Int32 → Int32 → Int32 → Option (Unit × PH)) (F : Nat) (self19 : PH → Nat → Int32 → Int32 → Int32 → Int32 → Int32 → Option (Unit × PH)) (h : PH) (v0 : Nat) (v1 : Int32) (v2 : Int32) (v3 : Int32) (v4 : Int32) (v5 : Int32) : Option (Unit × PH) := (gR 8 5 h v0).bind fun a1 => ((gI 0 6 h a1).bind fun x2 => (if x2 ≤ v5 then (some ((), h)) else ((gR 8 4 h v0).bind fun a3 => ((gR 8 5 h v0).bind fun a4 => (cO 4 h a3 (bind2 (m_X4_lead F h a3 a4 v5 (Int32.toInt64 v2) (Int32.toInt64 v3)) fun x5 h6 => (if x5 = 0 then (cO 8 h6 v0 ((m_X8_isSeenAt h6 v0 v4).bind fun x7 => (if x7 = 0 then (b_X8_goOn_106 rc F self19 h6 v0 v1 v2 v3 v4 v5) else ((gR 8 3 h6 v0).bind fun a8 => ((sI 0 h6 a8 v1 v5).bind fun h9 => ((gR 8 4 h9 v0).bind fun a10 => ((gI 4 0 h9 a10).bind fun x11 => ((gR 8 4 h9 v0).bind fun a12 => ((gI 4 1 h9 a12).bind fun x13 => (cO 8 h9 v0 (bind2 (rc h9 v0 ((v1 + (1 : Int32))) x11 x13) fun _ h15 => (b_X8_goOn_106 rc F self19 h15 v0 v1 v2 v3 v4 v5)))))))))))) else (b_X8_goOn_106 rc F self19 h6 v0 v1 v2 v3 v4 v5))))))))
set_option maxRecDepth 20000 in
theorem tb_X8_goOn_36 {M : MV} {X : XT} {rc : PH → Nat → Int32 → Int32 → Int32 → Option (Unit × PH)} {d : Nat} {F : Nat} {self19 : PH → Nat → Int32 → Int32 → Int32 → Int32 → Int32 → Option (Unit × PH)} {h hz : PH} {r : Unit} {ce sl mc ms : Nat} {v0 : Nat} {v1 : Int32} {v2 : Int32} {v3 : Int32} {v4 : Int32} {v5 : Int32} (hrc : ∀ {h hz : PH} {p0 : Nat} {p1 : Int32} {p2 : Int32} {p3 : Int32} {r : Unit}, rc h p0 p1 p2 p3 = some (r, hz) → MT M.2.1 X yX8_goOn cX8_goOn 6 none (1 * d + 5) (58 * d + 292) 0 0 [.ref (X.1 + p0), .int p1, .int p2, .int p3] h none hz) (hc : Cx M X RX8 cX8_goOn) (hr : Rx M (1 * d + 6) (58 * d + 350) mc ms 6) (he : Ex M X none "goOn" none hz mc ms) (hm : ce ≤ mc) (hs : sl ≤ ms) (ih19 : ∀ (h : PH) (v0 : Nat) (v1 : Int32) (v2 : Int32) (v3 : Int32) (v4 : Int32) (v5 : Int32), self19 h v0 v1 v2 v3 v4 v5 = some (r, hz) → GG M X h ce sl 36 [(0, .ref (X.1 + v0)), (1, .int v1), (2, .int v2), (3, .int v3), (4, .int v4), (5, .int v5)] []) (hf : b_X8_goOn_36 rc F self19 h v0 v1 v2 v3 v4 v5 = some (r, hz)) : GG M X h ce sl 36 [(0, .ref (X.1 + v0)), (1, .int v1), (2, .int v2), (3, .int v3), (4, .int v4), (5, .int v5)] [] := by
  unfold b_X8_goOn_36 at hf
  refine r_iload hc 5 (dc_at dX8_goOn 19 rfl) rfl ?_
  refine r_aload_n hc 0 (dc_at dX8_goOn 20 rfl) rfl ?_
  refine r_getR hc (dc_at dX8_goOn 21 rfl) fl_X8_22 hf fun a1 hf => ?_
  refine r_getI hc (dc_at dX8_goOn 22 rfl) fl_X8_65 hf fun x2 hf => ?_
  refine r_icmp_ge (tgt := 112) hc (dc_at dX8_goOn 23 rfl) (by decide) hf (fun hf => ?_) (fun hf => ?_)
  · exact r_vret hc he (hm) (hs) (dc_at dX8_goOn 57 rfl) hf
  · refine r_aload_n hc 0 (dc_at dX8_goOn 24 rfl) rfl ?_
    refine r_getR hc (dc_at dX8_goOn 25 rfl) fl_X8_9 hf fun a3 hf => ?_
    refine r_aload_n hc 0 (dc_at dX8_goOn 26 rfl) rfl ?_
    refine r_getR hc (dc_at dX8_goOn 27 rfl) fl_X8_22 hf fun a4 hf => ?_
    refine r_iload hc 5 (dc_at dX8_goOn 28 rfl) rfl ?_
    refine r_iload_n hc 2 (dc_at dX8_goOn 29 rfl) rfl ?_
    refine r_i2l hc (dc_at dX8_goOn 30 rfl) ?_
    refine r_iload_n hc 3 (dc_at dX8_goOn 31 rfl) rfl ?_
    refine r_i2l hc (dc_at dX8_goOn 32 rfl) ?_
    obtain ⟨ho, hf⟩ := cO_some hf
    refine ob2 hf fun x5 h6 ex hf => ?_
    refine r_callVi (As := [.ref (X.1 + a4), .int v5, .long ((Int32.toInt64 v2)), .long ((Int32.toInt64 v3))]) (ci := 4) hc hr (dc_at dX8_goOn 33 rfl) ml_X8_68 mv_X4_lead vi_X4_lead rfl ho rfl (mt_X4_lead ex) (by first | exact Nat.le_of_ble_eq_true rfl | omega) (by first | exact Nat.le_of_ble_eq_true rfl | omega) (by first | exact Nat.le_of_ble_eq_true rfl | omega) hm hs ?_
    refine r_if_ne (tgt := 106) hc (dc_at dX8_goOn 34 rfl) (by decide) hf (fun hf => ?_) (fun hf => ?_)
    · exact gg_sub [0, 1, 2, 3, 4, 5] rfl (t_X8_goOn_106 hrc hc hr he hm hs ih19 hf)
    · refine r_aload_n hc 0 (dc_at dX8_goOn 35 rfl) rfl ?_
      refine r_iload hc 4 (dc_at dX8_goOn 36 rfl) rfl ?_
      obtain ⟨ho, hf⟩ := cO_some hf
      refine ob hf fun x7 ex hf => ?_
      refine r_callVi (As := [.int v4]) (ci := 8) hc hr (dc_at dX8_goOn 37 rfl) ml_X8_74 mv_X8_isSeenAt vi_X8_isSeenAt rfl ho rfl (mt_X8_isSeenAt ex) (by first | exact Nat.le_of_ble_eq_true rfl | omega) (by first | exact Nat.le_of_ble_eq_true rfl | omega) (by first | exact Nat.le_of_ble_eq_true rfl | omega) hm hs ?_
      refine r_if_eq (tgt := 106) hc (dc_at dX8_goOn 38 rfl) (by decide) hf (fun hf => ?_) (fun hf => ?_)
      · exact gg_sub [0, 1, 2, 3, 4, 5] rfl (t_X8_goOn_106 hrc hc hr he hm hs ih19 hf)
      · refine r_aload_n hc 0 (dc_at dX8_goOn 39 rfl) rfl ?_
        refine r_getR hc (dc_at dX8_goOn 40 rfl) fl_X8_19 hf fun a8 hf => ?_
        refine r_iload_n hc 1 (dc_at dX8_goOn 41 rfl) rfl ?_
        refine r_iload hc 5 (dc_at dX8_goOn 42 rfl) rfl ?_
        refine r_iastore hc (dc_at dX8_goOn 43 rfl) hf fun h9 hf => ?_
        refine r_aload_n hc 0 (dc_at dX8_goOn 44 rfl) rfl ?_
        refine r_iload_n hc 1 (dc_at dX8_goOn 45 rfl) rfl ?_
        refine r_iconst (1 : Int32) hc (dc_at dX8_goOn 46 rfl) (by decide) ?_
        refine r_iadd hc (dc_at dX8_goOn 47 rfl) ?_
        refine r_aload_n hc 0 (dc_at dX8_goOn 48 rfl) rfl ?_
        refine r_getR hc (dc_at dX8_goOn 49 rfl) fl_X8_9 hf fun a10 hf => ?_
        refine r_getI hc (dc_at dX8_goOn 50 rfl) fl_X8_78 hf fun x11 hf => ?_
        refine r_aload_n hc 0 (dc_at dX8_goOn 51 rfl) rfl ?_
        refine r_getR hc (dc_at dX8_goOn 52 rfl) fl_X8_9 hf fun a12 hf => ?_
        refine r_getI hc (dc_at dX8_goOn 53 rfl) fl_X8_81 hf fun x13 hf => ?_
        obtain ⟨ho, hf⟩ := cO_some hf
        refine ob2 hf fun u h15 ex hf => ?_
        refine r_callVv (As := [.int ((v1 + (1 : Int32))), .int x11, .int x13]) (ci := 8) hc hr (dc_at dX8_goOn 54 rfl) ml_X8_48 mv_X8_goOn vi_X8_goOn rfl ho rfl (hrc  ex) (by first | exact Nat.le_of_ble_eq_true rfl | omega) (by first | exact Nat.le_of_ble_eq_true rfl | omega) (by first | exact Nat.le_of_ble_eq_true rfl | omega) hm hs ?_
        exact gg_sub [0, 1, 2, 3, 4, 5] rfl (t_X8_goOn_106 hrc hc hr he hm hs ih19 hf)
def l_X8_goOn_36 (rc : PH → Nat → Int32 → Int32 → Int32 → Option (Unit × PH)) (F : Nat) : Nat → PH → Nat → Int32 → Int32 → Int32 → Int32 → Int32 → Option (Unit × PH)
  | 0 => fun _ _ _ _ _ _ _ => none
  | n + 1 => fun h v0 v1 v2 v3 v4 v5 => b_X8_goOn_36 rc F (l_X8_goOn_36 rc F n) h v0 v1 v2 v3 v4 v5
theorem tl_X8_goOn_36 {M : MV} {X : XT} {rc : PH → Nat → Int32 → Int32 → Int32 → Option (Unit × PH)} {d : Nat} {F : Nat} {hz : PH} {r : Unit} {ce sl mc ms : Nat} (hrc : ∀ {h hz : PH} {p0 : Nat} {p1 : Int32} {p2 : Int32} {p3 : Int32} {r : Unit}, rc h p0 p1 p2 p3 = some (r, hz) → MT M.2.1 X yX8_goOn cX8_goOn 6 none (1 * d + 5) (58 * d + 292) 0 0 [.ref (X.1 + p0), .int p1, .int p2, .int p3] h none hz) (hc : Cx M X RX8 cX8_goOn) (hr : Rx M (1 * d + 6) (58 * d + 350) mc ms 6) (he : Ex M X none "goOn" none hz mc ms) (hm : ce ≤ mc) (hs : sl ≤ ms) (n : Nat) : ∀ (h : PH) (v0 : Nat) (v1 : Int32) (v2 : Int32) (v3 : Int32) (v4 : Int32) (v5 : Int32), l_X8_goOn_36 rc F n h v0 v1 v2 v3 v4 v5 = some (r, hz) → GG M X h ce sl 36 [(0, .ref (X.1 + v0)), (1, .int v1), (2, .int v2), (3, .int v3), (4, .int v4), (5, .int v5)] [] := by
  induction n with
  | zero => intro h v0 v1 v2 v3 v4 v5 hf; cases hf
  | succ n ih => intro h v0 v1 v2 v3 v4 v5 hf; exact tb_X8_goOn_36 (F := F) hrc hc hr he hm hs  ih hf
def b_X8_goOn_0 (rc : PH → Nat → Int32 → Int32 → Int32 → Option (Unit × PH)) (F : Nat) (h : PH) (v0 : Nat) (v1 : Int32) (v2 : Int32) (v3 : Int32) : Option (Unit × PH) := (gR 8 6 h v0).bind fun a1 => ((gI 7 1 h a1).bind fun x2 => (if x2 ≤ v1 then (b_X8_goOn_17 rc F h v0 v1) else (if v1 < (8 : Int32) then ((gR 8 6 h v0).bind fun a3 => (cO 7 h a3 ((m_X7_smallAt h a3 v1).bind fun x4 => (l_X8_goOn_36 rc F F h v0 v1 v2 v3 x4 (0 : Int32))))) else (b_X8_goOn_17 rc F h v0 v1))))
set_option maxRecDepth 20000 in
theorem t_X8_goOn_0 {M : MV} {X : XT} {rc : PH → Nat → Int32 → Int32 → Int32 → Option (Unit × PH)} {d : Nat} {F : Nat} {h hz : PH} {r : Unit} {ce sl mc ms : Nat} {v0 : Nat} {v1 : Int32} {v2 : Int32} {v3 : Int32} (hrc : ∀ {h hz : PH} {p0 : Nat} {p1 : Int32} {p2 : Int32} {p3 : Int32} {r : Unit}, rc h p0 p1 p2 p3 = some (r, hz) → MT M.2.1 X yX8_goOn cX8_goOn 6 none (1 * d + 5) (58 * d + 292) 0 0 [.ref (X.1 + p0), .int p1, .int p2, .int p3] h none hz) (hc : Cx M X RX8 cX8_goOn) (hr : Rx M (1 * d + 6) (58 * d + 350) mc ms 6) (he : Ex M X none "goOn" none hz mc ms) (hm : ce ≤ mc) (hs : sl ≤ ms) (hf : b_X8_goOn_0 rc F h v0 v1 v2 v3 = some (r, hz)) : GG M X h ce sl 0 [(0, .ref (X.1 + v0)), (1, .int v1), (2, .int v2), (3, .int v3)] [] := by
  unfold b_X8_goOn_0 at hf
  refine r_iload_n hc 1 (dc_at dX8_goOn 0 rfl) rfl ?_
  refine r_aload_n hc 0 (dc_at dX8_goOn 1 rfl) rfl ?_
  refine r_getR hc (dc_at dX8_goOn 2 rfl) fl_X8_26 hf fun a1 hf => ?_
  refine r_getI hc (dc_at dX8_goOn 3 rfl) fl_X8_52 hf fun x2 hf => ?_
  refine r_icmp_ge (tgt := 17) hc (dc_at dX8_goOn 4 rfl) (by decide) hf (fun hf => ?_) (fun hf => ?_)
  · exact gg_sub [0, 1] rfl (t_X8_goOn_17 hrc hc hr he hm hs  hf)
  · refine r_iload_n hc 1 (dc_at dX8_goOn 5 rfl) rfl ?_
    refine r_bipush (8 : Int32) hc (dc_at dX8_goOn 6 rfl) (by decide) ?_
    refine r_icmp_lt (tgt := 23) hc (dc_at dX8_goOn 7 rfl) (by decide) hf (fun hf => ?_) (fun hf => ?_)
    · refine r_aload_n hc 0 (dc_at dX8_goOn 12 rfl) rfl ?_
      refine r_getR hc (dc_at dX8_goOn 13 rfl) fl_X8_26 hf fun a3 hf => ?_
      refine r_iload_n hc 1 (dc_at dX8_goOn 14 rfl) rfl ?_
      obtain ⟨ho, hf⟩ := cO_some hf
      refine ob hf fun x4 ex hf => ?_
      refine r_callVi (As := [.int v1]) (ci := 7) hc hr (dc_at dX8_goOn 15 rfl) ml_X8_61 mv_X7_smallAt vi_X7_smallAt rfl ho rfl (mt_X7_smallAt ex) (by first | exact Nat.le_of_ble_eq_true rfl | omega) (by first | exact Nat.le_of_ble_eq_true rfl | omega) (by first | exact Nat.le_of_ble_eq_true rfl | omega) hm hs ?_
      refine r_istore [(4, .int x4), (0, .ref (X.1 + v0)), (1, .int v1), (2, .int v2), (3, .int v3)] hc hr (dc_at dX8_goOn 16 rfl) (by decide) rfl ?_
      refine r_iconst (0 : Int32) hc (dc_at dX8_goOn 17 rfl) (by decide) ?_
      refine r_istore [(5, .int ((0 : Int32))), (4, .int x4), (0, .ref (X.1 + v0)), (1, .int v1), (2, .int v2), (3, .int v3)] hc hr (dc_at dX8_goOn 18 rfl) (by decide) rfl ?_
      exact gg_sub [2, 3, 4, 5, 1, 0] rfl (tl_X8_goOn_36 hrc hc hr he hm hs  F _ _ _ _ _ _ _ hf)
    · exact gg_sub [0, 1] rfl (t_X8_goOn_17 hrc hc hr he hm hs  hf)
def g_X8_goOn (rc : PH → Nat → Int32 → Int32 → Int32 → Option (Unit × PH)) (F : Nat) (h : PH) (p0 : Nat) (p1 : Int32) (p2 : Int32) (p3 : Int32) : Option (Unit × PH) := b_X8_goOn_0 rc F h p0 p1 p2 p3
theorem mg_X8_goOn {l : Launch} {X : XT} {rc : PH → Nat → Int32 → Int32 → Int32 → Option (Unit × PH)} {d : Nat} {F : Nat} {h hz : PH} {p0 : Nat} {p1 : Int32} {p2 : Int32} {p3 : Int32} {r : Unit} (hrc : ∀ {h hz : PH} {p0 : Nat} {p1 : Int32} {p2 : Int32} {p3 : Int32} {r : Unit}, rc h p0 p1 p2 p3 = some (r, hz) → MT l X yX8_goOn cX8_goOn 6 none (1 * d + 5) (58 * d + 292) 0 0 [.ref (X.1 + p0), .int p1, .int p2, .int p3] h none hz) (ex : g_X8_goOn rc F h p0 p1 p2 p3 = some (r, hz)) : MT l X yX8_goOn cX8_goOn 6 none (1 * d + 6) (58 * d + 350) 0 0 [.ref (X.1 + p0), .int p1, .int p2, .int p3] h none hz := MT.of (by decide) (Nat.le_of_ble_eq_true rfl) fun M hl hc hr he => by
  subst hl
  exact gg_sub [0, 1, 2, 3] rfl (t_X8_goOn_0 hrc hc hr he (Nat.zero_le _) (Nat.zero_le _) ex)
def m_X8_goOn (F : Nat) : Nat → PH → Nat → Int32 → Int32 → Int32 → Option (Unit × PH)
  | 0 => fun _ _ _ _ _ => none
  | d + 1 => fun h p0 p1 p2 p3 => g_X8_goOn (m_X8_goOn F d) F h p0 p1 p2 p3
theorem mr_X8_goOn {l : Launch} {X : XT} {F : Nat} (d : Nat) : ∀ {h hz : PH} {p0 : Nat} {p1 : Int32} {p2 : Int32} {p3 : Int32} {r : Unit}, m_X8_goOn F d h p0 p1 p2 p3 = some (r, hz) → MT l X yX8_goOn cX8_goOn 6 none (1 * d + 5) (58 * d + 292) 0 0 [.ref (X.1 + p0), .int p1, .int p2, .int p3] h none hz := by
  induction d with
  | zero => intro _ _ _ _ _ _ _ hf; cases hf
  | succ d ih => intro _ _ _ _ _ _ _ hf; exact (show 1 * (d + 1) + 5 = 1 * d + 6 by omega) ▸ (show 58 * (d + 1) + 292 = 58 * d + 350 by omega) ▸ mg_X8_goOn ih hf
theorem mt_X8_goOn {l : Launch} {X : XT} {F : Nat} {h hz : PH} {p0 : Nat} {p1 : Int32} {p2 : Int32} {p3 : Int32} {r : Unit} (ex : m_X8_goOn F 10 h p0 p1 p2 p3 = some (r, hz)) : MT l X yX8_goOn cX8_goOn 6 none 15 872 0 0 [.ref (X.1 + p0), .int p1, .int p2, .int p3] h none hz := mr_X8_goOn 10 ex
/-! FractionLift$Watcher.watchAll(LFractionLift$House;LFractionLift$Tray;I)V -/
def lX8_watchAllL : List (Nat × Instr × Nat × Nat) := [(0, .aload_n 0, 1, 1), (1, .aload_n 1, 1, 2), (2, .putfield 22, 3, 5), (5, .aload_n 0, 1, 6), (6, .aload_n 2, 1, 7), (7, .putfield 26, 3, 10), (10, .aload_n 0, 1, 11), (11, .iload_n 3, 1, 12), (12, .putfield 30, 3, 15), (15, .aload_n 0, 1, 16), (16, .iconst 0, 1, 17), (17, .putfield 34, 3, 20), (20, .aload_n 0, 1, 21), (21, .iconst (-1), 1, 22), (22, .putfield 37, 3, 25), (25, .aload_n 0, 1, 26), (26, .iconst 0, 1, 27), (27, .aload_n 1, 1, 28), (28, .getfield 40, 3, 31), (31, .aload_n 1, 1, 32), (32, .getfield 45, 3, 35), (35, .invokevirtual 48, 3, 38), (38, .return_, 1, 39)]
set_option maxRecDepth 20000 in
theorem dX8_watchAll : dcL cX8_watchAll lX8_watchAllL = true := by decide +kernel
def b_X8_watchAll_0 (F : Nat) (h : PH) (v0 : Nat) (v1 : Nat) (v2 : Nat) (v3 : Int32) : Option (Unit × PH) := (pV 8 5 (.ref v1) h v0).bind fun h1 => ((pV 8 6 (.ref v2) h1 v0).bind fun h2 => ((pV 8 7 (.int v3) h2 v0).bind fun h3 => ((pV 8 0 (.int (0 : Int32)) h3 v0).bind fun h4 => ((pV 8 1 (.int (-1 : Int32)) h4 v0).bind fun h5 => ((gI 0 4 h5 v1).bind fun x6 => ((gI 0 5 h5 v1).bind fun x7 => (cO 8 h5 v0 (bind2 (m_X8_goOn F 10 h5 v0 (0 : Int32) x6 x7) fun _ h9 => (some ((), h9))))))))))
set_option maxRecDepth 20000 in
theorem t_X8_watchAll_0 {M : MV} {X : XT} {F : Nat} {h hz : PH} {r : Unit} {ce sl mc ms : Nat} {v0 : Nat} {v1 : Nat} {v2 : Nat} {v3 : Int32} (hc : Cx M X RX8 cX8_watchAll) (hr : Rx M 16 930 mc ms 4) (he : Ex M X none "watchAll" none hz mc ms) (hm : ce ≤ mc) (hs : sl ≤ ms) (hf : b_X8_watchAll_0 F h v0 v1 v2 v3 = some (r, hz)) : GG M X h ce sl 0 [(0, .ref (X.1 + v0)), (1, .ref (X.1 + v1)), (2, .ref (X.1 + v2)), (3, .int v3)] [] := by
  unfold b_X8_watchAll_0 at hf
  refine r_aload_n hc 0 (dc_at dX8_watchAll 0 rfl) rfl ?_
  refine r_aload_n hc 1 (dc_at dX8_watchAll 1 rfl) rfl ?_
  refine r_putR hc he (dc_at dX8_watchAll 2 rfl) fp_X8_22 (fun q => by cases q) ⟨rfl, fun _ => ⟨rfl, rfl⟩⟩ hf fun h1 hf => ?_
  refine r_aload_n hc 0 (dc_at dX8_watchAll 3 rfl) rfl ?_
  refine r_aload_n hc 2 (dc_at dX8_watchAll 4 rfl) rfl ?_
  refine r_putR hc he (dc_at dX8_watchAll 5 rfl) fp_X8_26 (fun q => by cases q) ⟨rfl, fun _ => ⟨rfl, rfl⟩⟩ hf fun h2 hf => ?_
  refine r_aload_n hc 0 (dc_at dX8_watchAll 6 rfl) rfl ?_
  refine r_iload_n hc 3 (dc_at dX8_watchAll 7 rfl) rfl ?_
  refine r_putI hc he (dc_at dX8_watchAll 8 rfl) fp_X8_30 (fun q => by cases q) hf fun h3 hf => ?_
  refine r_aload_n hc 0 (dc_at dX8_watchAll 9 rfl) rfl ?_
  refine r_iconst (0 : Int32) hc (dc_at dX8_watchAll 10 rfl) (by decide) ?_
  refine r_putI hc he (dc_at dX8_watchAll 11 rfl) fp_X8_34 (fun q => by cases q) hf fun h4 hf => ?_
  refine r_aload_n hc 0 (dc_at dX8_watchAll 12 rfl) rfl ?_
  refine r_iconst (-1 : Int32) hc (dc_at dX8_watchAll 13 rfl) (by decide) ?_
  refine r_putI hc he (dc_at dX8_watchAll 14 rfl) fp_X8_37 (fun q => by cases q) hf fun h5 hf => ?_
  refine r_aload_n hc 0 (dc_at dX8_watchAll 15 rfl) rfl ?_
  refine r_iconst (0 : Int32) hc (dc_at dX8_watchAll 16 rfl) (by decide) ?_
  refine r_aload_n hc 1 (dc_at dX8_watchAll 17 rfl) rfl ?_
  refine r_getI hc (dc_at dX8_watchAll 18 rfl) fl_X8_40 hf fun x6 hf => ?_
  refine r_aload_n hc 1 (dc_at dX8_watchAll 19 rfl) rfl ?_
  refine r_getI hc (dc_at dX8_watchAll 20 rfl) fl_X8_45 hf fun x7 hf => ?_
  obtain ⟨ho, hf⟩ := cO_some hf
  refine ob2 hf fun u h9 ex hf => ?_
  refine r_callVv (As := [.int ((0 : Int32)), .int x6, .int x7]) (ci := 8) hc hr (dc_at dX8_watchAll 21 rfl) ml_X8_48 mv_X8_goOn vi_X8_goOn rfl ho rfl (mt_X8_goOn ex) (by first | exact Nat.le_of_ble_eq_true rfl | omega) (by first | exact Nat.le_of_ble_eq_true rfl | omega) (by first | exact Nat.le_of_ble_eq_true rfl | omega) hm hs ?_
  exact r_vret hc he (hm) (hs) (dc_at dX8_watchAll 22 rfl) hf
def m_X8_watchAll (F : Nat) (h : PH) (p0 : Nat) (p1 : Nat) (p2 : Nat) (p3 : Int32) : Option (Unit × PH) := b_X8_watchAll_0 F h p0 p1 p2 p3
theorem mt_X8_watchAll {l : Launch} {X : XT} {F : Nat} {h hz : PH} {p0 : Nat} {p1 : Nat} {p2 : Nat} {p3 : Int32} {r : Unit} (ex : m_X8_watchAll F h p0 p1 p2 p3 = some (r, hz)) : MT l X yX8_watchAll cX8_watchAll 4 none 16 930 0 0 [.ref (X.1 + p0), .ref (X.1 + p1), .ref (X.1 + p2), .int p3] h none hz := MT.of (by decide) (Nat.le_of_ble_eq_true rfl) fun M hl hc hr he => by
  subst hl
  exact gg_sub [0, 1, 2, 3] rfl (t_X8_watchAll_0  hc hr he (Nat.zero_le _) (Nat.zero_le _) ex)
/-! FractionLift.<init>()V -/
def lX9_initL : List (Nat × Instr × Nat × Nat) := [(0, .aload_n 0, 1, 1), (1, .invokespecial 1, 3, 4), (4, .aload_n 0, 1, 5), (5, .sipush 900, 3, 8), (8, .newarray .int, 2, 10), (10, .putfield 9, 3, 13), (13, .aload_n 0, 1, 14), (14, .iconst 0, 1, 15), (15, .putfield 13, 3, 18), (18, .aload_n 0, 1, 19), (19, .iconst 0, 1, 20), (20, .putfield 17, 3, 23), (23, .aload_n 0, 1, 24), (24, .iconst (-1), 1, 25), (25, .putfield 20, 3, 28), (28, .aload_n 0, 1, 29), (29, .new 23, 3, 32), (32, .dup, 1, 33), (33, .invokespecial 25, 3, 36), (36, .putfield 26, 3, 39), (39, .aload_n 0, 1, 40), (40, .iconst 2, 1, 41), (41, .anewarray 23, 3, 44), (44, .putfield 30, 3, 47), (47, .aload_n 0, 1, 48), (48, .iconst 4, 1, 49), (49, .anewarray 34, 3, 52), (52, .putfield 36, 3, 55), (55, .aload_n 0, 1, 56), (56, .bipush 12, 2, 58), (58, .newarray .int, 2, 60), (60, .putfield 40, 3, 63), (63, .aload_n 0, 1, 64), (64, .bipush 12, 2, 66), (66, .newarray .int, 2, 68), (68, .putfield 43, 3, 71), (71, .aload_n 0, 1, 72), (72, .iconst 0, 1, 73), (73, .putfield 46, 3, 76), (76, .aload_n 0, 1, 77), (77, .new 49, 3, 80), (80, .dup, 1, 81), (81, .invokespecial 51, 3, 84), (84, .putfield 52, 3, 87), (87, .aload_n 0, 1, 88), (88, .new 56, 3, 91), (91, .dup, 1, 92), (92, .invokespecial 58, 3, 95), (95, .putfield 59, 3, 98), (98, .aload_n 0, 1, 99), (99, .new 56, 3, 102), (102, .dup, 1, 103), (103, .invokespecial 58, 3, 106), (106, .putfield 63, 3, 109), (109, .aload_n 0, 1, 110), (110, .bipush 40, 2, 112), (112, .newarray .long, 2, 114), (114, .putfield 66, 3, 117), (117, .aload_n 0, 1, 118), (118, .sipush 201, 3, 121), (121, .newarray .int, 2, 123), (123, .putfield 70, 3, 126), (126, .return_, 1, 127)]
set_option maxRecDepth 20000 in
theorem dX9_init : dcL cX9_init lX9_initL = true := by decide +kernel
def b_X9_init_0 (h : PH) (v0 : Nat) : Option (Unit × PH) := bindv h.length fun a1 => (bindv (h ++ [.inl (0, 900, .inl (fun _ => 0))]) fun h2 => ((pV 9 0 (.ref a1) h2 v0).bind fun h3 => ((pV 9 1 (.int (0 : Int32)) h3 v0).bind fun h4 => ((pV 9 2 (.int (0 : Int32)) h4 v0).bind fun h5 => ((pV 9 3 (.int (-1 : Int32)) h5 v0).bind fun h6 => (bindv h6.length fun a7 => (bindv (h6 ++ [.inr (0, df0)]) fun h8 => (bind2 (m_X0_init h8 a7) fun _ h10 => ((pV 9 4 (.ref a7) h10 v0).bind fun h11 => (bindv h11.length fun a12 => (bindv (h11 ++ [.inl (3, 2, .inr (.inr (.inr (.inr (fun _ => none)))))]) fun h13 => ((pV 9 6 (.ref a12) h13 v0).bind fun h14 => (bindv h14.length fun a15 => (bindv (h14 ++ [.inl (4, 4, .inr (.inr (.inr (.inr (fun _ => none)))))]) fun h16 => ((pV 9 7 (.ref a15) h16 v0).bind fun h17 => (bindv h17.length fun a18 => (bindv (h17 ++ [.inl (0, 12, .inl (fun _ => 0))]) fun h19 => ((pV 9 8 (.ref a18) h19 v0).bind fun h20 => (bindv h20.length fun a21 => (bindv (h20 ++ [.inl (0, 12, .inl (fun _ => 0))]) fun h22 => ((pV 9 9 (.ref a21) h22 v0).bind fun h23 => ((pV 9 10 (.int (0 : Int32)) h23 v0).bind fun h24 => (bindv h24.length fun a25 => (bindv (h24 ++ [.inr (4, df4)]) fun h26 => (bind2 (m_X4_init h26 a25) fun _ h28 => ((pV 9 11 (.ref a25) h28 v0).bind fun h29 => (bindv h29.length fun a30 => (bindv (h29 ++ [.inr (2, df2)]) fun h31 => (bind2 (m_X2_init h31 a30) fun _ h33 => ((pV 9 12 (.ref a30) h33 v0).bind fun h34 => (bindv h34.length fun a35 => (bindv (h34 ++ [.inr (2, df2)]) fun h36 => (bind2 (m_X2_init h36 a35) fun _ h38 => ((pV 9 13 (.ref a35) h38 v0).bind fun h39 => (bindv h39.length fun a40 => (bindv (h39 ++ [.inl (1, 40, .inr (.inl (fun _ => 0)))]) fun h41 => ((pV 9 14 (.ref a40) h41 v0).bind fun h42 => (bindv h42.length fun a43 => (bindv (h42 ++ [.inl (0, 201, .inl (fun _ => 0))]) fun h44 => ((pV 9 15 (.ref a43) h44 v0).bind fun h45 => (some ((), h45))))))))))))))))))))))))))))))))))))))))))
set_option maxRecDepth 20000 in
theorem t_X9_init_0 {M : MV} {X : XT} {h hz : PH} {r : Unit} {v0 : Nat} (hc : Cx M X RX9 cX9_init) (hr : Rx M 2 118 22 2296 1) (he : Ex M X none "<init>" none hz 22 2296) (hm : 0 ≤ 22) (hs : 0 ≤ 2296) (hf : b_X9_init_0 h v0 = some (r, hz)) : GG M X h 0 0 0 [(0, .ref (X.1 + v0))] [] := by
  unfold b_X9_init_0 at hf
  refine r_aload_n hc 0 (dc_at dX9_init 0 rfl) rfl ?_
  refine r_objinit hc hr (dc_at dX9_init 1 rfl) oi_X9_1 oiw (by first | exact Nat.le_of_ble_eq_true rfl | omega) (by first | exact Nat.le_of_ble_eq_true rfl | omega) ?_
  refine r_aload_n hc 0 (dc_at dX9_init 2 rfl) rfl ?_
  refine r_sipush (900 : Int32) hc (dc_at dX9_init 3 rfl) (by decide) ?_
  refine r_newarrN (t := 0) (N := 900) (ty := .int) hc hr (dc_at dX9_init 4 rfl) arr_int rfl (fun _ _ z => z) rfl (fun _ => rfl) (by decide) (by decide) (by decide) (Nat.le_of_ble_eq_true rfl) (Nat.le_of_ble_eq_true rfl) hf fun a1 h2 hf => ?_
  refine r_putR hc he (dc_at dX9_init 5 rfl) fp_X9_9 (fun _ => rfl) ⟨rfl, fun _ => ⟨rfl, rfl⟩⟩ hf fun h3 hf => ?_
  refine r_aload_n hc 0 (dc_at dX9_init 6 rfl) rfl ?_
  refine r_iconst (0 : Int32) hc (dc_at dX9_init 7 rfl) (by decide) ?_
  refine r_putI hc he (dc_at dX9_init 8 rfl) fp_X9_13 (fun q => by cases q) hf fun h4 hf => ?_
  refine r_aload_n hc 0 (dc_at dX9_init 9 rfl) rfl ?_
  refine r_iconst (0 : Int32) hc (dc_at dX9_init 10 rfl) (by decide) ?_
  refine r_putI hc he (dc_at dX9_init 11 rfl) fp_X9_17 (fun q => by cases q) hf fun h5 hf => ?_
  refine r_aload_n hc 0 (dc_at dX9_init 12 rfl) rfl ?_
  refine r_iconst (-1 : Int32) hc (dc_at dX9_init 13 rfl) (by decide) ?_
  refine r_putI hc he (dc_at dX9_init 14 rfl) fp_X9_20 (fun q => by cases q) hf fun h6 hf => ?_
  refine r_aload_n hc 0 (dc_at dX9_init 15 rfl) rfl ?_
  refine r_newN (N := 18) hc hr (dc_at dX9_init 16 rfl) nw_X9_23 (Nat.le_of_ble_eq_true rfl) (Nat.le_of_ble_eq_true rfl) hf fun a7 h8 hf => ?_
  refine r_dup hc (dc_at dX9_init 17 rfl) rfl ?_
  refine ob2 hf fun u h10 ex hf => ?_
  refine r_callIC (As := []) hc hr (dc_at dX9_init 18 rfl) ml_X9_25 mv_X0_init im_X0_init rfl rfl (mt_X0_init ex) (by first | exact Nat.le_of_ble_eq_true rfl | omega) (by first | exact Nat.le_of_ble_eq_true rfl | omega) (by first | exact Nat.le_of_ble_eq_true rfl | omega) (Nat.le_of_ble_eq_true rfl) (Nat.le_of_ble_eq_true rfl) ?_
  refine r_putR hc he (dc_at dX9_init 19 rfl) fp_X9_26 (fun q => by cases q) ⟨rfl, fun _ => ⟨rfl, rfl⟩⟩ hf fun h11 hf => ?_
  refine r_aload_n hc 0 (dc_at dX9_init 20 rfl) rfl ?_
  refine r_iconst (2 : Int32) hc (dc_at dX9_init 21 rfl) (by decide) ?_
  refine r_anewarrN (t := 3) (N := 2) (C := "FractionLift$House") hc hr (dc_at dX9_init 22 rfl) cl_X9_23 (fun _ hq => hq.2.2.2.2.2.2.1) rfl (by decide) (by decide) (by decide) (Nat.le_of_ble_eq_true rfl) (Nat.le_of_ble_eq_true rfl) hf fun a12 h13 hf => ?_
  refine r_putR hc he (dc_at dX9_init 23 rfl) fp_X9_30 (fun _ => rfl) ⟨rfl, fun _ => ⟨rfl, rfl⟩⟩ hf fun h14 hf => ?_
  refine r_aload_n hc 0 (dc_at dX9_init 24 rfl) rfl ?_
  refine r_iconst (4 : Int32) hc (dc_at dX9_init 25 rfl) (by decide) ?_
  refine r_anewarrN (t := 4) (N := 4) (C := "FractionLift$Tray") hc hr (dc_at dX9_init 26 rfl) cl_X9_34 (fun _ hq => hq.2.2.2.2.2.2.2) rfl (by decide) (by decide) (by decide) (Nat.le_of_ble_eq_true rfl) (Nat.le_of_ble_eq_true rfl) hf fun a15 h16 hf => ?_
  refine r_putR hc he (dc_at dX9_init 27 rfl) fp_X9_36 (fun _ => rfl) ⟨rfl, fun _ => ⟨rfl, rfl⟩⟩ hf fun h17 hf => ?_
  refine r_aload_n hc 0 (dc_at dX9_init 28 rfl) rfl ?_
  refine r_bipush (12 : Int32) hc (dc_at dX9_init 29 rfl) (by decide) ?_
  refine r_newarrN (t := 0) (N := 12) (ty := .int) hc hr (dc_at dX9_init 30 rfl) arr_int rfl (fun _ _ z => z) rfl (fun _ => rfl) (by decide) (by decide) (by decide) (Nat.le_of_ble_eq_true rfl) (Nat.le_of_ble_eq_true rfl) hf fun a18 h19 hf => ?_
  refine r_putR hc he (dc_at dX9_init 31 rfl) fp_X9_40 (fun _ => rfl) ⟨rfl, fun _ => ⟨rfl, rfl⟩⟩ hf fun h20 hf => ?_
  refine r_aload_n hc 0 (dc_at dX9_init 32 rfl) rfl ?_
  refine r_bipush (12 : Int32) hc (dc_at dX9_init 33 rfl) (by decide) ?_
  refine r_newarrN (t := 0) (N := 12) (ty := .int) hc hr (dc_at dX9_init 34 rfl) arr_int rfl (fun _ _ z => z) rfl (fun _ => rfl) (by decide) (by decide) (by decide) (Nat.le_of_ble_eq_true rfl) (Nat.le_of_ble_eq_true rfl) hf fun a21 h22 hf => ?_
  refine r_putR hc he (dc_at dX9_init 35 rfl) fp_X9_43 (fun _ => rfl) ⟨rfl, fun _ => ⟨rfl, rfl⟩⟩ hf fun h23 hf => ?_
  refine r_aload_n hc 0 (dc_at dX9_init 36 rfl) rfl ?_
  refine r_iconst (0 : Int32) hc (dc_at dX9_init 37 rfl) (by decide) ?_
  refine r_putI hc he (dc_at dX9_init 38 rfl) fp_X9_46 (fun q => by cases q) hf fun h24 hf => ?_
  refine r_aload_n hc 0 (dc_at dX9_init 39 rfl) rfl ?_
  refine r_newN (N := 5) hc hr (dc_at dX9_init 40 rfl) nw_X9_49 (Nat.le_of_ble_eq_true rfl) (Nat.le_of_ble_eq_true rfl) hf fun a25 h26 hf => ?_
  refine r_dup hc (dc_at dX9_init 41 rfl) rfl ?_
  refine ob2 hf fun u h28 ex hf => ?_
  refine r_callIC (As := []) hc hr (dc_at dX9_init 42 rfl) ml_X9_51 mv_X4_init im_X4_init rfl rfl (mt_X4_init ex) (by first | exact Nat.le_of_ble_eq_true rfl | omega) (by first | exact Nat.le_of_ble_eq_true rfl | omega) (by first | exact Nat.le_of_ble_eq_true rfl | omega) (Nat.le_of_ble_eq_true rfl) (Nat.le_of_ble_eq_true rfl) ?_
  refine r_putR hc he (dc_at dX9_init 43 rfl) fp_X9_52 (fun _ => rfl) ⟨rfl, fun _ => ⟨rfl, rfl⟩⟩ hf fun h29 hf => ?_
  refine r_aload_n hc 0 (dc_at dX9_init 44 rfl) rfl ?_
  refine r_newN (N := 2) hc hr (dc_at dX9_init 45 rfl) nw_X9_56 (Nat.le_of_ble_eq_true rfl) (Nat.le_of_ble_eq_true rfl) hf fun a30 h31 hf => ?_
  refine r_dup hc (dc_at dX9_init 46 rfl) rfl ?_
  refine ob2 hf fun u h33 ex hf => ?_
  refine r_callI0 (As := []) hc hr (dc_at dX9_init 47 rfl) ml_X9_58 mv_X2_init im_X2_init rfl rfl (mt_X2_init ex) (by first | exact Nat.le_of_ble_eq_true rfl | omega) (by first | exact Nat.le_of_ble_eq_true rfl | omega) (by first | exact Nat.le_of_ble_eq_true rfl | omega) (Nat.le_of_ble_eq_true rfl) (Nat.le_of_ble_eq_true rfl) ?_
  refine r_putR hc he (dc_at dX9_init 48 rfl) fp_X9_59 (fun _ => rfl) ⟨rfl, fun _ => ⟨rfl, rfl⟩⟩ hf fun h34 hf => ?_
  refine r_aload_n hc 0 (dc_at dX9_init 49 rfl) rfl ?_
  refine r_newN (N := 2) hc hr (dc_at dX9_init 50 rfl) nw_X9_56 (Nat.le_of_ble_eq_true rfl) (Nat.le_of_ble_eq_true rfl) hf fun a35 h36 hf => ?_
  refine r_dup hc (dc_at dX9_init 51 rfl) rfl ?_
  refine ob2 hf fun u h38 ex hf => ?_
  refine r_callI0 (As := []) hc hr (dc_at dX9_init 52 rfl) ml_X9_58 mv_X2_init im_X2_init rfl rfl (mt_X2_init ex) (by first | exact Nat.le_of_ble_eq_true rfl | omega) (by first | exact Nat.le_of_ble_eq_true rfl | omega) (by first | exact Nat.le_of_ble_eq_true rfl | omega) (Nat.le_of_ble_eq_true rfl) (Nat.le_of_ble_eq_true rfl) ?_
  refine r_putR hc he (dc_at dX9_init 53 rfl) fp_X9_63 (fun _ => rfl) ⟨rfl, fun _ => ⟨rfl, rfl⟩⟩ hf fun h39 hf => ?_
  refine r_aload_n hc 0 (dc_at dX9_init 54 rfl) rfl ?_
  refine r_bipush (40 : Int32) hc (dc_at dX9_init 55 rfl) (by decide) ?_
  refine r_newarrN (t := 1) (N := 40) (ty := .long) hc hr (dc_at dX9_init 56 rfl) arr_long rfl (fun _ _ z => z) rfl (fun _ => rfl) (by decide) (by decide) (by decide) (Nat.le_of_ble_eq_true rfl) (Nat.le_of_ble_eq_true rfl) hf fun a40 h41 hf => ?_
  refine r_putR hc he (dc_at dX9_init 57 rfl) fp_X9_66 (fun _ => rfl) ⟨rfl, fun _ => ⟨rfl, rfl⟩⟩ hf fun h42 hf => ?_
  refine r_aload_n hc 0 (dc_at dX9_init 58 rfl) rfl ?_
  refine r_sipush (201 : Int32) hc (dc_at dX9_init 59 rfl) (by decide) ?_
  refine r_newarrN (t := 0) (N := 201) (ty := .int) hc hr (dc_at dX9_init 60 rfl) arr_int rfl (fun _ _ z => z) rfl (fun _ => rfl) (by decide) (by decide) (by decide) (Nat.le_of_ble_eq_true rfl) (Nat.le_of_ble_eq_true rfl) hf fun a43 h44 hf => ?_
  refine r_putR hc he (dc_at dX9_init 61 rfl) fp_X9_70 (fun _ => rfl) ⟨rfl, fun _ => ⟨rfl, rfl⟩⟩ hf fun h45 hf => ?_
  exact r_vret hc he (Nat.le_of_ble_eq_true rfl) (Nat.le_of_ble_eq_true rfl) (dc_at dX9_init 62 rfl) hf
def m_X9_init (h : PH) (p0 : Nat) : Option (Unit × PH) := b_X9_init_0 h p0
theorem mt_X9_init {l : Launch} {X : XT} {h hz : PH} {p0 : Nat} {r : Unit} (ex : m_X9_init h p0 = some (r, hz)) : MT l X yX9_init cX9_init 1 none 2 118 22 2296 [.ref (X.1 + p0)] h none hz := MT.of (by decide) (Nat.le_of_ble_eq_true rfl) fun M hl hc hr he => by
  subst hl
  exact gg_sub [0] rfl (t_X9_init_0  hc hr he (Nat.zero_le _) (Nat.zero_le _) ex)
