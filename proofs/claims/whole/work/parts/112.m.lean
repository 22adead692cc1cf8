/-! FractionLiftModel.rank(III)I -/
def lX10_rankL : List (Nat × Instr × Nat × Nat) := [(0, .aload_n 0, 1, 1), (1, .iconst 0, 1, 2), (2, .putfield 1, 3, 5), (5, .iload_n 3, 1, 6), (6, .i2l, 1, 7), (7, .lconst 1, 1, 8), (8, .ldc2_w 443, 3, 11), (11, .invokestatic 172, 3, 14), (14, .ifCond .eq 30, 3, 17), (17, .aload_n 0, 1, 18), (18, .iload_n 1, 1, 19), (19, .i2l, 1, 20), (20, .iload_n 2, 1, 21), (21, .i2l, 1, 22), (22, .invokevirtual 282, 3, 25), (25, .ifCond .eq 19, 3, 28), (28, .aload_n 0, 1, 29), (29, .aload_n 0, 1, 30), (30, .getfield 180, 3, 33), (33, .aload_n 0, 1, 34), (34, .getfield 184, 3, 37), (37, .iload_n 3, 1, 38), (38, .invokevirtual 445, 3, 41), (41, .goto 5, 3, 44), (44, .bipush (-3), 2, 46), (46, .ireturn, 1, 47)]
set_option maxRecDepth 20000 in
theorem dX10_rank : dcL cX10_rank lX10_rankL = true := by decide +kernel
def b_X10_rank_0 (F : Nat) (h : PH) (v0 : Nat) (v1 : Int32) (v2 : Int32) (v3 : Int32) : Option (Int32 × PH) := (pV 10 0 (.int (0 : Int32)) h v0).bind fun h1 => ((m_X10_within (Int32.toInt64 v3) (1 : Int64) (200 : Int64)).bind fun x2 => (if x2 = 0 then (some ((-3 : Int32), h1)) else (cO 10 h1 v0 (bind2 (m_X10_asks h1 v0 (Int32.toInt64 v1) (Int32.toInt64 v2)) fun x3 h4 => (if x3 = 0 then (some ((-3 : Int32), h4)) else ((gL 10 15 h4 v0).bind fun x5 => ((gL 10 16 h4 v0).bind fun x6 => (cO 10 h4 v0 ((m_X10_below F v0 x5 x6 v3).bind fun x7 => (some (x7, h4)))))))))))
set_option maxRecDepth 20000 in
theorem t_X10_rank_0 {M : MV} {X : XT} {F : Nat} {h hz : PH} {r : Int32} {ce sl mc ms : Nat} {v0 : Nat} {v1 : Int32} {v2 : Int32} {v3 : Int32} (hc : Cx M X RX10 cX10_rank) (hr : Rx M 134 7774 mc ms 4) (he : Ex M X (some .int) "rank" (some (.int r)) hz mc ms) (hm : ce ≤ mc) (hs : sl ≤ ms) (hf : b_X10_rank_0 F h v0 v1 v2 v3 = some (r, hz)) : GG M X h ce sl 0 [(0, .ref (X.1 + v0)), (1, .int v1), (2, .int v2), (3, .int v3)] [] := by
  unfold b_X10_rank_0 at hf
  refine r_aload_n hc 0 (dc_at dX10_rank 0 rfl) rfl ?_
  refine r_iconst (0 : Int32) hc (dc_at dX10_rank 1 rfl) (by decide) ?_
  refine r_putI hc he (dc_at dX10_rank 2 rfl) fp_X10_1 (fun q => by cases q) hf fun h1 hf => ?_
  refine r_iload_n hc 3 (dc_at dX10_rank 3 rfl) rfl ?_
  refine r_i2l hc (dc_at dX10_rank 4 rfl) ?_
  refine r_lconst (1 : Int64) hc (dc_at dX10_rank 5 rfl) (by decide) ?_
  refine r_ldc2 hc (dc_at dX10_rank 6 rfl) cl2_X10_443 ?_
  refine ob hf fun x2 ex hf => ?_
  refine r_callSi (As := [.long ((Int32.toInt64 v3)), .long ((1 : Int64)), .long ((200 : Int64))]) hc hr (dc_at dX10_rank 7 rfl) ml_X10_172 mv_X10_within st_X10_within rfl (mt_X10_within ex) (by first | exact Nat.le_of_ble_eq_true rfl | omega) (by first | exact Nat.le_of_ble_eq_true rfl | omega) (by first | exact Nat.le_of_ble_eq_true rfl | omega) hm hs ?_
  refine r_if_eq (tgt := 44) hc (dc_at dX10_rank 8 rfl) (by decide) hf (fun hf => ?_) (fun hf => ?_)
  · refine r_bipush (-3 : Int32) hc (dc_at dX10_rank 24 rfl) (by decide) ?_
    exact r_iret hc he (hm) (hs) (dc_at dX10_rank 25 rfl) hf
  · refine r_aload_n hc 0 (dc_at dX10_rank 9 rfl) rfl ?_
    refine r_iload_n hc 1 (dc_at dX10_rank 10 rfl) rfl ?_
    refine r_i2l hc (dc_at dX10_rank 11 rfl) ?_
    refine r_iload_n hc 2 (dc_at dX10_rank 12 rfl) rfl ?_
    refine r_i2l hc (dc_at dX10_rank 13 rfl) ?_
    obtain ⟨ho, hf⟩ := cO_some hf
    refine ob2 hf fun x3 h4 ex hf => ?_
    refine r_callVi (As := [.long ((Int32.toInt64 v1)), .long ((Int32.toInt64 v2))]) (ci := 10) hc hr (dc_at dX10_rank 14 rfl) ml_X10_282 mv_X10_asks vi_X10_asks rfl ho rfl (mt_X10_asks ex) (by first | exact Nat.le_of_ble_eq_true rfl | omega) (by first | exact Nat.le_of_ble_eq_true rfl | omega) (by first | exact Nat.le_of_ble_eq_true rfl | omega) hm hs ?_
    refine r_if_eq (tgt := 44) hc (dc_at dX10_rank 15 rfl) (by decide) hf (fun hf => ?_) (fun hf => ?_)
    · refine r_bipush (-3 : Int32) hc (dc_at dX10_rank 24 rfl) (by decide) ?_
      exact r_iret hc he (hm) (hs) (dc_at dX10_rank 25 rfl) hf
    · refine r_aload_n hc 0 (dc_at dX10_rank 16 rfl) rfl ?_
      refine r_aload_n hc 0 (dc_at dX10_rank 17 rfl) rfl ?_
      refine r_getL hc (dc_at dX10_rank 18 rfl) fl_X10_180 hf fun x5 hf => ?_
      refine r_aload_n hc 0 (dc_at dX10_rank 19 rfl) rfl ?_
      refine r_getL hc (dc_at dX10_rank 20 rfl) fl_X10_184 hf fun x6 hf => ?_
      refine r_iload_n hc 3 (dc_at dX10_rank 21 rfl) rfl ?_
      obtain ⟨ho, hf⟩ := cO_some hf
      refine ob hf fun x7 ex hf => ?_
      refine r_callVi (As := [.long x5, .long x6, .int v3]) (ci := 10) hc hr (dc_at dX10_rank 22 rfl) ml_X10_445 mv_X10_below vi_X10_below rfl ho rfl (mt_X10_below ex) (by first | exact Nat.le_of_ble_eq_true rfl | omega) (by first | exact Nat.le_of_ble_eq_true rfl | omega) (by first | exact Nat.le_of_ble_eq_true rfl | omega) hm hs ?_
      refine r_goto (tgt := 46) hc (dc_at dX10_rank 23 rfl) (by decide) ?_
      exact r_iret hc he (hm) (hs) (dc_at dX10_rank 25 rfl) hf
def m_X10_rank (F : Nat) (h : PH) (p0 : Nat) (p1 : Int32) (p2 : Int32) (p3 : Int32) : Option (Int32 × PH) := b_X10_rank_0 F h p0 p1 p2 p3
theorem mt_X10_rank {l : Launch} {X : XT} {F : Nat} {h hz : PH} {p0 : Nat} {p1 : Int32} {p2 : Int32} {p3 : Int32} {r : Int32} (ex : m_X10_rank F h p0 p1 p2 p3 = some (r, hz)) : MT l X yX10_rank cX10_rank 4 (some .int) 134 7774 0 0 [.ref (X.1 + p0), .int p1, .int p2, .int p3] h (some (.int r)) hz := MT.of (by decide) (Nat.le_of_ble_eq_true rfl) fun M hl hc hr he => by
  subst hl
  exact gg_sub [0, 1, 2, 3] rfl (t_X10_rank_0  hc hr he (Nat.zero_le _) (Nat.zero_le _) ex)
/-! FractionLiftModel.laysParts(JJ)I -/
def lX10_laysPartsL : List (Nat × Instr × Nat × Nat) := [(0, .lload_n 1, 1, 1), (1, .lload_n 3, 1, 2), (2, .lrem, 1, 3), (3, .lstore 5, 2, 5), (5, .lload_n 3, 1, 6), (6, .lstore 7, 2, 8), (8, .iconst 0, 1, 9), (9, .istore 9, 2, 11), (11, .lload 5, 2, 13), (13, .lconst 0, 1, 14), (14, .lcmp, 1, 15), (15, .ifCond .eq 86, 3, 18), (18, .lload 7, 2, 20), (20, .lload 5, 2, 22), (22, .ladd, 1, 23), (23, .lconst 1, 1, 24), (24, .lsub, 1, 25), (25, .lload 5, 2, 27), (27, .ldiv, 1, 28), (28, .lstore 10, 2, 30), (30, .lload 10, 2, 32), (32, .ldc2_w 260, 3, 35), (35, .lcmp, 1, 36), (36, .ifCond .le 6, 3, 39), (39, .bipush (-4), 2, 41), (41, .ireturn, 1, 42), (42, .aload_n 0, 1, 43), (43, .getfield 76, 3, 46), (46, .iload 9, 2, 48), (48, .lload 10, 2, 50), (50, .l2i, 1, 51), (51, .iastore, 1, 52), (52, .iinc 9 1, 3, 55), (55, .aload_n 0, 1, 56), (56, .lload 5, 2, 58), (58, .lload 10, 2, 60), (60, .lmul, 1, 61), (61, .lload 7, 2, 63), (63, .lsub, 1, 64), (64, .lload 7, 2, 66), (66, .lload 10, 2, 68), (68, .lmul, 1, 69), (69, .invokevirtual 194, 3, 72), (72, .aload_n 0, 1, 73), (73, .getfield 184, 3, 76), (76, .ldc2_w 260, 3, 79), (79, .lcmp, 1, 80), (80, .ifCond .le 6, 3, 83), (83, .bipush (-4), 2, 85), (85, .ireturn, 1, 86), (86, .aload_n 0, 1, 87), (87, .getfield 180, 3, 90), (90, .lstore 5, 2, 92), (92, .aload_n 0, 1, 93), (93, .getfield 184, 3, 96), (96, .lstore 7, 2, 98), (98, .goto (-87), 3, 101), (101, .iload 9, 2, 103), (103, .ireturn, 1, 104)]
set_option maxRecDepth 20000 in
theorem dX10_laysParts : dcL cX10_laysParts lX10_laysPartsL = true := by decide +kernel
def b_X10_laysParts_11 (F : Nat) (self8 : PH → Nat → Int64 → Int64 → Int32 → Option (Int32 × PH)) (h : PH) (v0 : Nat) (v5 : Int64) (v7 : Int64) (v9 : Int32) : Option (Int32 × PH) := if v5 = (0 : Int64) then (some (v9, h)) else (if v5 = 0 then none else (bindv (((((v7 + v5) - (1 : Int64))) / v5)) fun x1 => (if x1 ≤ (1000000000 : Int64) then ((gR 10 42 h v0).bind fun a2 => ((sI 0 h a2 v9 (Int64.toInt32 x1)).bind fun h3 => (bindv (v9 + (1)) fun x4 => (cO 10 h3 v0 (bind2 (m_X10_lays h3 v0 (((v5 * x1) - v7)) (v7 * x1)) fun _ h6 => ((gL 10 16 h6 v0).bind fun x7 => (if x7 ≤ (1000000000 : Int64) then ((gL 10 15 h6 v0).bind fun x8 => ((gL 10 16 h6 v0).bind fun x9 => (self8 h6 v0 x8 x9 x4))) else (some ((-4 : Int32), h6))))))))) else (some ((-4 : Int32), h)))))
set_option maxRecDepth 20000 in
theorem tb_X10_laysParts_11 {M : MV} {X : XT} {F : Nat} {self8 : PH → Nat → Int64 → Int64 → Int32 → Option (Int32 × PH)} {h hz : PH} {r : Int32} {ce sl mc ms : Nat} {v0 : Nat} {v5 : Int64} {v7 : Int64} {v9 : Int32} (hc : Cx M X RX10 cX10_laysParts) (hr : Rx M 133 7716 mc ms 12) (he : Ex M X (some .int) "laysParts" (some (.int r)) hz mc ms) (hm : ce ≤ mc) (hs : sl ≤ ms) (ih8 : ∀ (h : PH) (v0 : Nat) (v5 : Int64) (v7 : Int64) (v9 : Int32), self8 h v0 v5 v7 v9 = some (r, hz) → GG M X h ce sl 11 [(0, .ref (X.1 + v0)), (5, .long v5), (7, .long v7), (9, .int v9)] []) (hf : b_X10_laysParts_11 F self8 h v0 v5 v7 v9 = some (r, hz)) : GG M X h ce sl 11 [(0, .ref (X.1 + v0)), (5, .long v5), (7, .long v7), (9, .int v9)] [] := by
  unfold b_X10_laysParts_11 at hf
  refine r_lload hc 1 (dc_at dX10_laysParts 8 rfl) rfl ?_
  refine r_lconst (0 : Int64) hc (dc_at dX10_laysParts 9 rfl) (by decide) ?_
  refine r_lcmp_eq (tgt := 101) hc (dc_at dX10_laysParts 10 rfl) (dc_at dX10_laysParts 11 rfl) (by decide) hf (fun hf => ?_) (fun hf => ?_)
  · refine r_iload hc 3 (dc_at dX10_laysParts 57 rfl) rfl ?_
    exact r_iret hc he (hm) (hs) (dc_at dX10_laysParts 58 rfl) hf
  · refine r_lload hc 2 (dc_at dX10_laysParts 12 rfl) rfl ?_
    refine r_lload hc 1 (dc_at dX10_laysParts 13 rfl) rfl ?_
    refine r_ladd hc (dc_at dX10_laysParts 14 rfl) ?_
    refine r_lconst (1 : Int64) hc (dc_at dX10_laysParts 15 rfl) (by decide) ?_
    refine r_lsub hc (dc_at dX10_laysParts 16 rfl) ?_
    refine r_lload hc 1 (dc_at dX10_laysParts 17 rfl) rfl ?_
    refine r_ldiv hc (dc_at dX10_laysParts 18 rfl) hf (fun hf => ?_)
    refine r_nm (mk := Value.long) hf fun x1 hf => ?_
    refine r_lstore [(10, .long x1), (0, .ref (X.1 + v0)), (5, .long v5), (7, .long v7), (9, .int v9)] hc hr (dc_at dX10_laysParts 19 rfl) (by decide) rfl ?_
    refine r_lload hc 0 (dc_at dX10_laysParts 20 rfl) rfl ?_
    refine r_ldc2 hc (dc_at dX10_laysParts 21 rfl) cl2_X10_260 ?_
    refine r_lcmp_le (tgt := 42) hc (dc_at dX10_laysParts 22 rfl) (dc_at dX10_laysParts 23 rfl) (by decide) hf (fun hf => ?_) (fun hf => ?_)
    · refine r_aload_n hc 1 (dc_at dX10_laysParts 26 rfl) rfl ?_
      refine r_getR hc (dc_at dX10_laysParts 27 rfl) fl_X10_76 hf fun a2 hf => ?_
      refine r_iload hc 4 (dc_at dX10_laysParts 28 rfl) rfl ?_
      refine r_lload hc 0 (dc_at dX10_laysParts 29 rfl) rfl ?_
      refine r_l2i hc (dc_at dX10_laysParts 30 rfl) ?_
      refine r_iastore hc (dc_at dX10_laysParts 31 rfl) hf fun h3 hf => ?_
      refine obv hf fun x4 e_x4 hf => ?_
      refine r_iinc 4 [(9, .int x4), (10, .long x1), (0, .ref (X.1 + v0)), (5, .long v5), (7, .long v7)] hc hr (dc_at dX10_laysParts 32 rfl) rfl (by rw [e_x4]; rfl) (by decide) rfl ?_
      refine r_aload_n hc 2 (dc_at dX10_laysParts 33 rfl) rfl ?_
      refine r_lload hc 3 (dc_at dX10_laysParts 34 rfl) rfl ?_
      refine r_lload hc 1 (dc_at dX10_laysParts 35 rfl) rfl ?_
      refine r_lmul hc (dc_at dX10_laysParts 36 rfl) ?_
      refine r_lload hc 4 (dc_at dX10_laysParts 37 rfl) rfl ?_
      refine r_lsub hc (dc_at dX10_laysParts 38 rfl) ?_
      refine r_lload hc 4 (dc_at dX10_laysParts 39 rfl) rfl ?_
      refine r_lload hc 1 (dc_at dX10_laysParts 40 rfl) rfl ?_
      refine r_lmul hc (dc_at dX10_laysParts 41 rfl) ?_
      obtain ⟨ho, hf⟩ := cO_some hf
      refine ob2 hf fun u h6 ex hf => ?_
      refine r_callVv (As := [.long (((v5 * x1) - v7)), .long ((v7 * x1))]) (ci := 10) hc hr (dc_at dX10_laysParts 42 rfl) ml_X10_194 mv_X10_lays vi_X10_lays rfl ho rfl (mt_X10_lays ex) (by first | exact Nat.le_of_ble_eq_true rfl | omega) (by first | exact Nat.le_of_ble_eq_true rfl | omega) (by first | exact Nat.le_of_ble_eq_true rfl | omega) hm hs ?_
      refine r_aload_n hc 2 (dc_at dX10_laysParts 43 rfl) rfl ?_
      refine r_getL hc (dc_at dX10_laysParts 44 rfl) fl_X10_184 hf fun x7 hf => ?_
      refine r_ldc2 hc (dc_at dX10_laysParts 45 rfl) cl2_X10_260 ?_
      refine r_lcmp_le (tgt := 86) hc (dc_at dX10_laysParts 46 rfl) (dc_at dX10_laysParts 47 rfl) (by decide) hf (fun hf => ?_) (fun hf => ?_)
      · refine r_aload_n hc 2 (dc_at dX10_laysParts 50 rfl) rfl ?_
        refine r_getL hc (dc_at dX10_laysParts 51 rfl) fl_X10_180 hf fun x8 hf => ?_
        refine r_lstore [(5, .long x8), (9, .int x4), (10, .long x1), (0, .ref (X.1 + v0)), (7, .long v7)] hc hr (dc_at dX10_laysParts 52 rfl) (by decide) rfl ?_
        refine r_aload_n hc 3 (dc_at dX10_laysParts 53 rfl) rfl ?_
        refine r_getL hc (dc_at dX10_laysParts 54 rfl) fl_X10_184 hf fun x9 hf => ?_
        refine r_lstore [(7, .long x9), (5, .long x8), (9, .int x4), (10, .long x1), (0, .ref (X.1 + v0))] hc hr (dc_at dX10_laysParts 55 rfl) (by decide) rfl ?_
        refine r_goto (tgt := 11) hc (dc_at dX10_laysParts 56 rfl) (by decide) ?_
        exact gg_sub [4, 1, 0, 2] rfl (ih8 _ _ _ _ _ hf)
      · refine r_bipush (-4 : Int32) hc (dc_at dX10_laysParts 48 rfl) (by decide) ?_
        exact r_iret hc he (hm) (hs) (dc_at dX10_laysParts 49 rfl) hf
    · refine r_bipush (-4 : Int32) hc (dc_at dX10_laysParts 24 rfl) (by decide) ?_
      exact r_iret hc he (hm) (hs) (dc_at dX10_laysParts 25 rfl) hf
def l_X10_laysParts_11 (F : Nat) : Nat → PH → Nat → Int64 → Int64 → Int32 → Option (Int32 × PH)
  | 0 => fun _ _ _ _ _ => none
  | n + 1 => fun h v0 v5 v7 v9 => b_X10_laysParts_11 F (l_X10_laysParts_11 F n) h v0 v5 v7 v9
theorem tl_X10_laysParts_11 {M : MV} {X : XT} {F : Nat} {hz : PH} {r : Int32} {ce sl mc ms : Nat} (hc : Cx M X RX10 cX10_laysParts) (hr : Rx M 133 7716 mc ms 12) (he : Ex M X (some .int) "laysParts" (some (.int r)) hz mc ms) (hm : ce ≤ mc) (hs : sl ≤ ms) (n : Nat) : ∀ (h : PH) (v0 : Nat) (v5 : Int64) (v7 : Int64) (v9 : Int32), l_X10_laysParts_11 F n h v0 v5 v7 v9 = some (r, hz) → GG M X h ce sl 11 [(0, .ref (X.1 + v0)), (5, .long v5), (7, .long v7), (9, .int v9)] [] := by
  induction n with
  | zero => intro h v0 v5 v7 v9 hf; cases hf
  | succ n ih => intro h v0 v5 v7 v9 hf; exact tb_X10_laysParts_11 (F := F) hc hr he hm hs  ih hf
def b_X10_laysParts_0 (F : Nat) (h : PH) (v0 : Nat) (v1 : Int64) (v3 : Int64) : Option (Int32 × PH) := if v3 = 0 then none else (bindv (remL v1 v3) fun x1 => (l_X10_laysParts_11 F F h v0 x1 v3 (0 : Int32)))
set_option maxRecDepth 20000 in
theorem t_X10_laysParts_0 {M : MV} {X : XT} {F : Nat} {h hz : PH} {r : Int32} {ce sl mc ms : Nat} {v0 : Nat} {v1 : Int64} {v3 : Int64} (hc : Cx M X RX10 cX10_laysParts) (hr : Rx M 133 7716 mc ms 12) (he : Ex M X (some .int) "laysParts" (some (.int r)) hz mc ms) (hm : ce ≤ mc) (hs : sl ≤ ms) (hf : b_X10_laysParts_0 F h v0 v1 v3 = some (r, hz)) : GG M X h ce sl 0 [(0, .ref (X.1 + v0)), (1, .long v1), (3, .long v3)] [] := by
  unfold b_X10_laysParts_0 at hf
  refine r_lload_n hc 1 (dc_at dX10_laysParts 0 rfl) rfl ?_
  refine r_lload_n hc 2 (dc_at dX10_laysParts 1 rfl) rfl ?_
  refine r_lrem hc (dc_at dX10_laysParts 2 rfl) hf (fun hf => ?_)
  refine r_nm (mk := Value.long) hf fun x1 hf => ?_
  refine r_lstore [(5, .long x1), (0, .ref (X.1 + v0)), (1, .long v1), (3, .long v3)] hc hr (dc_at dX10_laysParts 3 rfl) (by decide) rfl ?_
  refine r_lload_n hc 3 (dc_at dX10_laysParts 4 rfl) rfl ?_
  refine r_lstore [(7, .long v3), (5, .long x1), (0, .ref (X.1 + v0)), (1, .long v1), (3, .long v3)] hc hr (dc_at dX10_laysParts 5 rfl) (by decide) rfl ?_
  refine r_iconst (0 : Int32) hc (dc_at dX10_laysParts 6 rfl) (by decide) ?_
  refine r_istore [(9, .int ((0 : Int32))), (7, .long v3), (5, .long x1), (0, .ref (X.1 + v0)), (1, .long v1), (3, .long v3)] hc hr (dc_at dX10_laysParts 7 rfl) (by decide) rfl ?_
  exact gg_sub [3, 2, 1, 0] rfl (tl_X10_laysParts_11 hc hr he hm hs  F _ _ _ _ _ hf)
def m_X10_laysParts (F : Nat) (h : PH) (p0 : Nat) (p1 : Int64) (p3 : Int64) : Option (Int32 × PH) := b_X10_laysParts_0 F h p0 p1 p3
theorem mt_X10_laysParts {l : Launch} {X : XT} {F : Nat} {h hz : PH} {p0 : Nat} {p1 : Int64} {p3 : Int64} {r : Int32} (ex : m_X10_laysParts F h p0 p1 p3 = some (r, hz)) : MT l X yX10_laysParts cX10_laysParts 12 (some .int) 133 7716 0 0 [.ref (X.1 + p0), .long p1, .long p3] h (some (.int r)) hz := MT.of (by decide) (Nat.le_of_ble_eq_true rfl) fun M hl hc hr he => by
  subst hl
  exact gg_sub [0, 1, 2] rfl (t_X10_laysParts_0  hc hr he (Nat.zero_le _) (Nat.zero_le _) ex)
/-! FractionLiftModel.parts(III)I -/
def lX10_partsL : List (Nat × Instr × Nat × Nat) := [(0, .aload_n 0, 1, 1), (1, .iconst 0, 1, 2), (2, .putfield 1, 3, 5), (5, .aload_n 0, 1, 6), (6, .iload_n 1, 1, 7), (7, .i2l, 1, 8), (8, .iload_n 2, 1, 9), (9, .i2l, 1, 10), (10, .invokevirtual 282, 3, 13), (13, .ifCond .ne 6, 3, 16), (16, .bipush (-3), 2, 18), (18, .ireturn, 1, 19), (19, .aload_n 0, 1, 20), (20, .aload_n 0, 1, 21), (21, .getfield 180, 3, 24), (24, .aload_n 0, 1, 25), (25, .getfield 184, 3, 28), (28, .invokevirtual 448, 3, 31), (31, .istore 4, 2, 33), (33, .iload 4, 2, 35), (35, .ifCond .lt 8, 3, 38), (38, .iload_n 3, 1, 39), (39, .iconst (-1), 1, 40), (40, .if_icmp .ne 8, 3, 43), (43, .iload 4, 2, 45), (45, .goto 27, 3, 48), (48, .iload_n 3, 1, 49), (49, .i2l, 1, 50), (50, .lconst 0, 1, 51), (51, .iload 4, 2, 53), (53, .iconst 1, 1, 54), (54, .isub, 1, 55), (55, .i2l, 1, 56), (56, .invokestatic 172, 3, 59), (59, .ifCond .eq 12, 3, 62), (62, .aload_n 0, 1, 63), (63, .getfield 76, 3, 66), (66, .iload_n 3, 1, 67), (67, .iaload, 1, 68), (68, .goto 4, 3, 71), (71, .iconst (-1), 1, 72), (72, .ireturn, 1, 73)]
set_option maxRecDepth 20000 in
theorem dX10_parts : dcL cX10_parts lX10_partsL = true := by decide +kernel
def b_X10_parts_0 (F : Nat) (h : PH) (v0 : Nat) (v1 : Int32) (v2 : Int32) (v3 : Int32) : Option (Int32 × PH) := (pV 10 0 (.int (0 : Int32)) h v0).bind fun h1 => (cO 10 h1 v0 (bind2 (m_X10_asks h1 v0 (Int32.toInt64 v1) (Int32.toInt64 v2)) fun x2 h3 => (if x2 = 0 then (some ((-3 : Int32), h3)) else ((gL 10 15 h3 v0).bind fun x4 => ((gL 10 16 h3 v0).bind fun x5 => (cO 10 h3 v0 (bind2 (m_X10_laysParts F h3 v0 x4 x5) fun x6 h7 => (if x6 < 0 then (some (x6, h7)) else (if v3 = (-1 : Int32) then (some (x6, h7)) else ((m_X10_within (Int32.toInt64 v3) (0 : Int64) ((Int32.toInt64 ((x6 - (1 : Int32)))))).bind fun x8 => (if x8 = 0 then (some ((-1 : Int32), h7)) else ((gR 10 42 h7 v0).bind fun a9 => ((aI 0 h7 a9 v3).bind fun x10 => (some (x10, h7)))))))))))))))
set_option maxRecDepth 20000 in
theorem t_X10_parts_0 {M : MV} {X : XT} {F : Nat} {h hz : PH} {r : Int32} {ce sl mc ms : Nat} {v0 : Nat} {v1 : Int32} {v2 : Int32} {v3 : Int32} (hc : Cx M X RX10 cX10_parts) (hr : Rx M 134 7774 mc ms 5) (he : Ex M X (some .int) "parts" (some (.int r)) hz mc ms) (hm : ce ≤ mc) (hs : sl ≤ ms) (hf : b_X10_parts_0 F h v0 v1 v2 v3 = some (r, hz)) : GG M X h ce sl 0 [(0, .ref (X.1 + v0)), (1, .int v1), (2, .int v2), (3, .int v3)] [] := by
  unfold b_X10_parts_0 at hf
  refine r_aload_n hc 0 (dc_at dX10_parts 0 rfl) rfl ?_
  refine r_iconst (0 : Int32) hc (dc_at dX10_parts 1 rfl) (by decide) ?_
  refine r_putI hc he (dc_at dX10_parts 2 rfl) fp_X10_1 (fun q => by cases q) hf fun h1 hf => ?_
  refine r_aload_n hc 0 (dc_at dX10_parts 3 rfl) rfl ?_
  refine r_iload_n hc 1 (dc_at dX10_parts 4 rfl) rfl ?_
  refine r_i2l hc (dc_at dX10_parts 5 rfl) ?_
  refine r_iload_n hc 2 (dc_at dX10_parts 6 rfl) rfl ?_
  refine r_i2l hc (dc_at dX10_parts 7 rfl) ?_
  obtain ⟨ho, hf⟩ := cO_some hf
  refine ob2 hf fun x2 h3 ex hf => ?_
  refine r_callVi (As := [.long ((Int32.toInt64 v1)), .long ((Int32.toInt64 v2))]) (ci := 10) hc hr (dc_at dX10_parts 8 rfl) ml_X10_282 mv_X10_asks vi_X10_asks rfl ho rfl (mt_X10_asks ex) (by first | exact Nat.le_of_ble_eq_true rfl | omega) (by first | exact Nat.le_of_ble_eq_true rfl | omega) (by first | exact Nat.le_of_ble_eq_true rfl | omega) hm hs ?_
  refine r_if_ne (tgt := 19) hc (dc_at dX10_parts 9 rfl) (by decide) hf (fun hf => ?_) (fun hf => ?_)
  · refine r_aload_n hc 0 (dc_at dX10_parts 12 rfl) rfl ?_
    refine r_aload_n hc 0 (dc_at dX10_parts 13 rfl) rfl ?_
    refine r_getL hc (dc_at dX10_parts 14 rfl) fl_X10_180 hf fun x4 hf => ?_
    refine r_aload_n hc 0 (dc_at dX10_parts 15 rfl) rfl ?_
    refine r_getL hc (dc_at dX10_parts 16 rfl) fl_X10_184 hf fun x5 hf => ?_
    obtain ⟨ho, hf⟩ := cO_some hf
    refine ob2 hf fun x6 h7 ex hf => ?_
    refine r_callVi (As := [.long x4, .long x5]) (ci := 10) hc hr (dc_at dX10_parts 17 rfl) ml_X10_448 mv_X10_laysParts vi_X10_laysParts rfl ho rfl (mt_X10_laysParts ex) (by first | exact Nat.le_of_ble_eq_true rfl | omega) (by first | exact Nat.le_of_ble_eq_true rfl | omega) (by first | exact Nat.le_of_ble_eq_true rfl | omega) hm hs ?_
    refine r_istore [(4, .int x6), (0, .ref (X.1 + v0)), (1, .int v1), (2, .int v2), (3, .int v3)] hc hr (dc_at dX10_parts 18 rfl) (by decide) rfl ?_
    refine r_iload hc 0 (dc_at dX10_parts 19 rfl) rfl ?_
    refine r_if_lt (tgt := 43) hc (dc_at dX10_parts 20 rfl) (by decide) hf (fun hf => ?_) (fun hf => ?_)
    · refine r_iload hc 0 (dc_at dX10_parts 24 rfl) rfl ?_
      refine r_goto (tgt := 72) hc (dc_at dX10_parts 25 rfl) (by decide) ?_
      exact r_iret hc he (hm) (hs) (dc_at dX10_parts 41 rfl) hf
    · refine r_iload_n hc 4 (dc_at dX10_parts 21 rfl) rfl ?_
      refine r_iconst (-1 : Int32) hc (dc_at dX10_parts 22 rfl) (by decide) ?_
      refine r_icmp_ne (tgt := 48) hc (dc_at dX10_parts 23 rfl) (by decide) hf (fun hf => ?_) (fun hf => ?_)
      · refine r_iload_n hc 4 (dc_at dX10_parts 26 rfl) rfl ?_
        refine r_i2l hc (dc_at dX10_parts 27 rfl) ?_
        refine r_lconst (0 : Int64) hc (dc_at dX10_parts 28 rfl) (by decide) ?_
        refine r_iload hc 0 (dc_at dX10_parts 29 rfl) rfl ?_
        refine r_iconst (1 : Int32) hc (dc_at dX10_parts 30 rfl) (by decide) ?_
        refine r_isub hc (dc_at dX10_parts 31 rfl) ?_
        refine r_i2l hc (dc_at dX10_parts 32 rfl) ?_
        refine ob hf fun x8 ex hf => ?_
        refine r_callSi (As := [.long ((Int32.toInt64 v3)), .long ((0 : Int64)), .long ((Int32.toInt64 ((x6 - (1 : Int32)))))]) hc hr (dc_at dX10_parts 33 rfl) ml_X10_172 mv_X10_within st_X10_within rfl (mt_X10_within ex) (by first | exact Nat.le_of_ble_eq_true rfl | omega) (by first | exact Nat.le_of_ble_eq_true rfl | omega) (by first | exact Nat.le_of_ble_eq_true rfl | omega) hm hs ?_
        refine r_if_eq (tgt := 71) hc (dc_at dX10_parts 34 rfl) (by decide) hf (fun hf => ?_) (fun hf => ?_)
        · refine r_iconst (-1 : Int32) hc (dc_at dX10_parts 40 rfl) (by decide) ?_
          exact r_iret hc he (hm) (hs) (dc_at dX10_parts 41 rfl) hf
        · refine r_aload_n hc 1 (dc_at dX10_parts 35 rfl) rfl ?_
          refine r_getR hc (dc_at dX10_parts 36 rfl) fl_X10_76 hf fun a9 hf => ?_
          refine r_iload_n hc 4 (dc_at dX10_parts 37 rfl) rfl ?_
          refine r_iaload hc (dc_at dX10_parts 38 rfl) hf fun x10 hf => ?_
          refine r_goto (tgt := 72) hc (dc_at dX10_parts 39 rfl) (by decide) ?_
          exact r_iret hc he (hm) (hs) (dc_at dX10_parts 41 rfl) hf
      · refine r_iload hc 0 (dc_at dX10_parts 24 rfl) rfl ?_
        refine r_goto (tgt := 72) hc (dc_at dX10_parts 25 rfl) (by decide) ?_
        exact r_iret hc he (hm) (hs) (dc_at dX10_parts 41 rfl) hf
  · refine r_bipush (-3 : Int32) hc (dc_at dX10_parts 10 rfl) (by decide) ?_
    exact r_iret hc he (hm) (hs) (dc_at dX10_parts 11 rfl) hf
def m_X10_parts (F : Nat) (h : PH) (p0 : Nat) (p1 : Int32) (p2 : Int32) (p3 : Int32) : Option (Int32 × PH) := b_X10_parts_0 F h p0 p1 p2 p3
theorem mt_X10_parts {l : Launch} {X : XT} {F : Nat} {h hz : PH} {p0 : Nat} {p1 : Int32} {p2 : Int32} {p3 : Int32} {r : Int32} (ex : m_X10_parts F h p0 p1 p2 p3 = some (r, hz)) : MT l X yX10_parts cX10_parts 5 (some .int) 134 7774 0 0 [.ref (X.1 + p0), .int p1, .int p2, .int p3] h (some (.int r)) hz := MT.of (by decide) (Nat.le_of_ble_eq_true rfl) fun M hl hc hr he => by
  subst hl
  exact gg_sub [0, 1, 2, 3] rfl (t_X10_parts_0  hc hr he (Nat.zero_le _) (Nat.zero_le _) ex)
/-! FractionLiftModel.laysRent(I)V -/
def lX10_laysRentL : List (Nat × Instr × Nat × Nat) := [(0, .aload_n 0, 1, 1), (1, .iconst 0, 1, 2), (2, .iconst 3, 1, 3), (3, .aload_n 0, 1, 4), (4, .getfield 13, 3, 7), (7, .bipush 49, 2, 9), (9, .iload_n 1, 1, 10), (10, .iadd, 1, 11), (11, .iaload, 1, 12), (12, .i2l, 1, 13), (13, .aload_n 0, 1, 14), (14, .getfield 13, 3, 17), (17, .bipush 55, 2, 19), (19, .iload_n 1, 1, 20), (20, .iadd, 1, 21), (21, .iaload, 1, 22), (22, .i2l, 1, 23), (23, .invokevirtual 324, 3, 26), (26, .return_, 1, 27)]
set_option maxRecDepth 20000 in
theorem dX10_laysRent : dcL cX10_laysRent lX10_laysRentL = true := by decide +kernel
def b_X10_laysRent_0 (F : Nat) (h : PH) (v0 : Nat) (v1 : Int32) : Option (Unit × PH) := (gR 10 1 h v0).bind fun a1 => ((aI 0 h a1 (((49 : Int32) + v1))).bind fun x2 => ((gR 10 1 h v0).bind fun a3 => ((aI 0 h a3 (((55 : Int32) + v1))).bind fun x4 => (cO 10 h v0 (bind2 (m_X10_laysStuff F h v0 (0 : Int32) (3 : Int32) (Int32.toInt64 x2) (Int32.toInt64 x4)) fun _ h6 => (some ((), h6)))))))
set_option maxRecDepth 20000 in
theorem t_X10_laysRent_0 {M : MV} {X : XT} {F : Nat} {h hz : PH} {r : Unit} {ce sl mc ms : Nat} {v0 : Nat} {v1 : Int32} (hc : Cx M X RX10 cX10_laysRent) (hr : Rx M 134 7774 mc ms 2) (he : Ex M X none "laysRent" none hz mc ms) (hm : ce ≤ mc) (hs : sl ≤ ms) (hf : b_X10_laysRent_0 F h v0 v1 = some (r, hz)) : GG M X h ce sl 0 [(0, .ref (X.1 + v0)), (1, .int v1)] [] := by
  unfold b_X10_laysRent_0 at hf
  refine r_aload_n hc 0 (dc_at dX10_laysRent 0 rfl) rfl ?_
  refine r_iconst (0 : Int32) hc (dc_at dX10_laysRent 1 rfl) (by decide) ?_
  refine r_iconst (3 : Int32) hc (dc_at dX10_laysRent 2 rfl) (by decide) ?_
  refine r_aload_n hc 0 (dc_at dX10_laysRent 3 rfl) rfl ?_
  refine r_getR hc (dc_at dX10_laysRent 4 rfl) fl_X10_13 hf fun a1 hf => ?_
  refine r_bipush (49 : Int32) hc (dc_at dX10_laysRent 5 rfl) (by decide) ?_
  refine r_iload_n hc 1 (dc_at dX10_laysRent 6 rfl) rfl ?_
  refine r_iadd hc (dc_at dX10_laysRent 7 rfl) ?_
  refine r_iaload hc (dc_at dX10_laysRent 8 rfl) hf fun x2 hf => ?_
  refine r_i2l hc (dc_at dX10_laysRent 9 rfl) ?_
  refine r_aload_n hc 0 (dc_at dX10_laysRent 10 rfl) rfl ?_
  refine r_getR hc (dc_at dX10_laysRent 11 rfl) fl_X10_13 hf fun a3 hf => ?_
  refine r_bipush (55 : Int32) hc (dc_at dX10_laysRent 12 rfl) (by decide) ?_
  refine r_iload_n hc 1 (dc_at dX10_laysRent 13 rfl) rfl ?_
  refine r_iadd hc (dc_at dX10_laysRent 14 rfl) ?_
  refine r_iaload hc (dc_at dX10_laysRent 15 rfl) hf fun x4 hf => ?_
  refine r_i2l hc (dc_at dX10_laysRent 16 rfl) ?_
  obtain ⟨ho, hf⟩ := cO_some hf
  refine ob2 hf fun u h6 ex hf => ?_
  refine r_callVv (As := [.int ((0 : Int32)), .int ((3 : Int32)), .long ((Int32.toInt64 x2)), .long ((Int32.toInt64 x4))]) (ci := 10) hc hr (dc_at dX10_laysRent 17 rfl) ml_X10_324 mv_X10_laysStuff vi_X10_laysStuff rfl ho rfl (mt_X10_laysStuff ex) (by first | exact Nat.le_of_ble_eq_true rfl | omega) (by first | exact Nat.le_of_ble_eq_true rfl | omega) (by first | exact Nat.le_of_ble_eq_true rfl | omega) hm hs ?_
  exact r_vret hc he (hm) (hs) (dc_at dX10_laysRent 18 rfl) hf
def m_X10_laysRent (F : Nat) (h : PH) (p0 : Nat) (p1 : Int32) : Option (Unit × PH) := b_X10_laysRent_0 F h p0 p1
theorem mt_X10_laysRent {l : Launch} {X : XT} {F : Nat} {h hz : PH} {p0 : Nat} {p1 : Int32} {r : Unit} (ex : m_X10_laysRent F h p0 p1 = some (r, hz)) : MT l X yX10_laysRent cX10_laysRent 2 none 134 7774 0 0 [.ref (X.1 + p0), .int p1] h none hz := MT.of (by decide) (Nat.le_of_ble_eq_true rfl) fun M hl hc hr he => by
  subst hl
  exact gg_sub [0, 1] rfl (t_X10_laysRent_0  hc hr he (Nat.zero_le _) (Nat.zero_le _) ex)
/-! FractionLiftModel.rent(II)J -/
def lX10_rentL : List (Nat × Instr × Nat × Nat) := [(0, .aload_n 0, 1, 1), (1, .iconst 0, 1, 2), (2, .putfield 1, 3, 5), (5, .aload_n 0, 1, 6), (6, .iload_n 1, 1, 7), (7, .invokevirtual 254, 3, 10), (10, .ifCond .eq 13, 3, 13), (13, .iload_n 2, 1, 14), (14, .i2l, 1, 15), (15, .lconst 0, 1, 16), (16, .lconst 1, 1, 17), (17, .invokestatic 172, 3, 20), (20, .ifCond .ne 7, 3, 23), (23, .ldc2_w 320, 3, 26), (26, .lreturn, 1, 27), (27, .aload_n 0, 1, 28), (28, .iload_n 1, 1, 29), (29, .invokevirtual 451, 3, 32), (32, .iload_n 2, 1, 33), (33, .ifCond .ne 10, 3, 36), (36, .aload_n 0, 1, 37), (37, .getfield 180, 3, 40), (40, .goto 7, 3, 43), (43, .aload_n 0, 1, 44), (44, .getfield 184, 3, 47), (47, .lreturn, 1, 48)]
set_option maxRecDepth 20000 in
theorem dX10_rent : dcL cX10_rent lX10_rentL = true := by decide +kernel
def b_X10_rent_0 (F : Nat) (h : PH) (v0 : Nat) (v1 : Int32) (v2 : Int32) : Option (Int64 × PH) := (pV 10 0 (.int (0 : Int32)) h v0).bind fun h1 => (cO 10 h1 v0 ((m_X10_isTenant h1 v0 v1).bind fun x2 => (if x2 = 0 then (some ((-2 : Int64), h1)) else ((m_X10_within (Int32.toInt64 v2) (0 : Int64) (1 : Int64)).bind fun x3 => (if x3 = 0 then (some ((-2 : Int64), h1)) else (cO 10 h1 v0 (bind2 (m_X10_laysRent F h1 v0 v1) fun _ h5 => (if v2 = 0 then ((gL 10 15 h5 v0).bind fun x7 => (some (x7, h5))) else ((gL 10 16 h5 v0).bind fun x6 => (some (x6, h5)))))))))))
set_option maxRecDepth 20000 in
theorem t_X10_rent_0 {M : MV} {X : XT} {F : Nat} {h hz : PH} {r : Int64} {ce sl mc ms : Nat} {v0 : Nat} {v1 : Int32} {v2 : Int32} (hc : Cx M X RX10 cX10_rent) (hr : Rx M 135 7832 mc ms 3) (he : Ex M X (some .long) "rent" (some (.long r)) hz mc ms) (hm : ce ≤ mc) (hs : sl ≤ ms) (hf : b_X10_rent_0 F h v0 v1 v2 = some (r, hz)) : GG M X h ce sl 0 [(0, .ref (X.1 + v0)), (1, .int v1), (2, .int v2)] [] := by
  unfold b_X10_rent_0 at hf
  refine r_aload_n hc 0 (dc_at dX10_rent 0 rfl) rfl ?_
  refine r_iconst (0 : Int32) hc (dc_at dX10_rent 1 rfl) (by decide) ?_
  refine r_putI hc he (dc_at dX10_rent 2 rfl) fp_X10_1 (fun q => by cases q) hf fun h1 hf => ?_
  refine r_aload_n hc 0 (dc_at dX10_rent 3 rfl) rfl ?_
  refine r_iload_n hc 1 (dc_at dX10_rent 4 rfl) rfl ?_
  obtain ⟨ho, hf⟩ := cO_some hf
  refine ob hf fun x2 ex hf => ?_
  refine r_callVi (As := [.int v1]) (ci := 10) hc hr (dc_at dX10_rent 5 rfl) ml_X10_254 mv_X10_isTenant vi_X10_isTenant rfl ho rfl (mt_X10_isTenant ex) (by first | exact Nat.le_of_ble_eq_true rfl | omega) (by first | exact Nat.le_of_ble_eq_true rfl | omega) (by first | exact Nat.le_of_ble_eq_true rfl | omega) hm hs ?_
  refine r_if_eq (tgt := 23) hc (dc_at dX10_rent 6 rfl) (by decide) hf (fun hf => ?_) (fun hf => ?_)
  · refine r_ldc2 hc (dc_at dX10_rent 13 rfl) cl2_X10_320 ?_
    exact r_lret hc he (hm) (hs) (dc_at dX10_rent 14 rfl) hf
  · refine r_iload_n hc 2 (dc_at dX10_rent 7 rfl) rfl ?_
    refine r_i2l hc (dc_at dX10_rent 8 rfl) ?_
    refine r_lconst (0 : Int64) hc (dc_at dX10_rent 9 rfl) (by decide) ?_
    refine r_lconst (1 : Int64) hc (dc_at dX10_rent 10 rfl) (by decide) ?_
    refine ob hf fun x3 ex hf => ?_
    refine r_callSi (As := [.long ((Int32.toInt64 v2)), .long ((0 : Int64)), .long ((1 : Int64))]) hc hr (dc_at dX10_rent 11 rfl) ml_X10_172 mv_X10_within st_X10_within rfl (mt_X10_within ex) (by first | exact Nat.le_of_ble_eq_true rfl | omega) (by first | exact Nat.le_of_ble_eq_true rfl | omega) (by first | exact Nat.le_of_ble_eq_true rfl | omega) hm hs ?_
    refine r_if_ne (tgt := 27) hc (dc_at dX10_rent 12 rfl) (by decide) hf (fun hf => ?_) (fun hf => ?_)
    · refine r_aload_n hc 0 (dc_at dX10_rent 15 rfl) rfl ?_
      refine r_iload_n hc 1 (dc_at dX10_rent 16 rfl) rfl ?_
      obtain ⟨ho, hf⟩ := cO_some hf
      refine ob2 hf fun u h5 ex hf => ?_
      refine r_callVv (As := [.int v1]) (ci := 10) hc hr (dc_at dX10_rent 17 rfl) ml_X10_451 mv_X10_laysRent vi_X10_laysRent rfl ho rfl (mt_X10_laysRent ex) (by first | exact Nat.le_of_ble_eq_true rfl | omega) (by first | exact Nat.le_of_ble_eq_true rfl | omega) (by first | exact Nat.le_of_ble_eq_true rfl | omega) hm hs ?_
      refine r_iload_n hc 2 (dc_at dX10_rent 18 rfl) rfl ?_
      refine r_if_ne (tgt := 43) hc (dc_at dX10_rent 19 rfl) (by decide) hf (fun hf => ?_) (fun hf => ?_)
      · refine r_aload_n hc 0 (dc_at dX10_rent 23 rfl) rfl ?_
        refine r_getL hc (dc_at dX10_rent 24 rfl) fl_X10_184 hf fun x6 hf => ?_
        exact r_lret hc he (hm) (hs) (dc_at dX10_rent 25 rfl) hf
      · refine r_aload_n hc 0 (dc_at dX10_rent 20 rfl) rfl ?_
        refine r_getL hc (dc_at dX10_rent 21 rfl) fl_X10_180 hf fun x7 hf => ?_
        refine r_goto (tgt := 47) hc (dc_at dX10_rent 22 rfl) (by decide) ?_
        exact r_lret hc he (hm) (hs) (dc_at dX10_rent 25 rfl) hf
    · refine r_ldc2 hc (dc_at dX10_rent 13 rfl) cl2_X10_320 ?_
      exact r_lret hc he (hm) (hs) (dc_at dX10_rent 14 rfl) hf
def m_X10_rent (F : Nat) (h : PH) (p0 : Nat) (p1 : Int32) (p2 : Int32) : Option (Int64 × PH) := b_X10_rent_0 F h p0 p1 p2
theorem mt_X10_rent {l : Launch} {X : XT} {F : Nat} {h hz : PH} {p0 : Nat} {p1 : Int32} {p2 : Int32} {r : Int64} (ex : m_X10_rent F h p0 p1 p2 = some (r, hz)) : MT l X yX10_rent cX10_rent 3 (some .long) 135 7832 0 0 [.ref (X.1 + p0), .int p1, .int p2] h (some (.long r)) hz := MT.of (by decide) (Nat.le_of_ble_eq_true rfl) fun M hl hc hr he => by
  subst hl
  exact gg_sub [0, 1, 2] rfl (t_X10_rent_0  hc hr he (Nat.zero_le _) (Nat.zero_le _) ex)
/-! FractionLiftModel.rents()I -/
def lX10_rentsL : List (Nat × Instr × Nat × Nat) := [(0, .aload_n 0, 1, 1), (1, .iconst 0, 1, 2), (2, .putfield 1, 3, 5), (5, .iconst 0, 1, 6), (6, .istore_n 1, 1, 7), (7, .iconst 0, 1, 8), (8, .istore_n 2, 1, 9), (9, .iload_n 2, 1, 10), (10, .aload_n 0, 1, 11), (11, .getfield 13, 3, 14), (14, .iconst 4, 1, 15), (15, .iaload, 1, 16), (16, .if_icmp .ge 31, 3, 19), (19, .aload_n 0, 1, 20), (20, .iload_n 2, 1, 21), (21, .invokevirtual 451, 3, 24), (24, .iload_n 1, 1, 25), (25, .ldc2_w 454, 3, 28), (28, .aload_n 0, 1, 29), (29, .getfield 180, 3, 32), (32, .lmul, 1, 33), (33, .aload_n 0, 1, 34), (34, .getfield 184, 3, 37), (37, .ldiv, 1, 38), (38, .l2i, 1, 39), (39, .iadd, 1, 40), (40, .istore_n 1, 1, 41), (41, .iinc 2 1, 3, 44), (44, .goto (-35), 3, 47), (47, .iload_n 1, 1, 48), (48, .ireturn, 1, 49)]
set_option maxRecDepth 20000 in
theorem dX10_rents : dcL cX10_rents lX10_rentsL = true := by decide +kernel
def b_X10_rents_9 (F : Nat) (self7 : PH → Nat → Int32 → Int32 → Option (Int32 × PH)) (h : PH) (v0 : Nat) (v1 : Int32) (v2 : Int32) : Option (Int32 × PH) := (gR 10 1 h v0).bind fun a1 => ((aI 0 h a1 (4 : Int32)).bind fun x2 => (if x2 ≤ v2 then (some (v1, h)) else (cO 10 h v0 (bind2 (m_X10_laysRent F h v0 v2) fun _ h4 => ((gL 10 15 h4 v0).bind fun x5 => ((gL 10 16 h4 v0).bind fun x6 => (if x6 = 0 then none else (bindv ((v1 + ((Int64.toInt32 (((((100 : Int64) * x5)) / x6)))))) fun x7 => (bindv (v2 + (1)) fun x8 => (self7 h4 v0 x7 x8))))))))))
set_option maxRecDepth 20000 in
theorem tb_X10_rents_9 {M : MV} {X : XT} {F : Nat} {self7 : PH → Nat → Int32 → Int32 → Option (Int32 × PH)} {h hz : PH} {r : Int32} {ce sl mc ms : Nat} {v0 : Nat} {v1 : Int32} {v2 : Int32} (hc : Cx M X RX10 cX10_rents) (hr : Rx M 135 7832 mc ms 3) (he : Ex M X (some .int) "rents" (some (.int r)) hz mc ms) (hm : ce ≤ mc) (hs : sl ≤ ms) (ih7 : ∀ (h : PH) (v0 : Nat) (v1 : Int32) (v2 : Int32), self7 h v0 v1 v2 = some (r, hz) → GG M X h ce sl 9 [(0, .ref (X.1 + v0)), (1, .int v1), (2, .int v2)] []) (hf : b_X10_rents_9 F self7 h v0 v1 v2 = some (r, hz)) : GG M X h ce sl 9 [(0, .ref (X.1 + v0)), (1, .int v1), (2, .int v2)] [] := by
  unfold b_X10_rents_9 at hf
  refine r_iload_n hc 2 (dc_at dX10_rents 7 rfl) rfl ?_
  refine r_aload_n hc 0 (dc_at dX10_rents 8 rfl) rfl ?_
  refine r_getR hc (dc_at dX10_rents 9 rfl) fl_X10_13 hf fun a1 hf => ?_
  refine r_iconst (4 : Int32) hc (dc_at dX10_rents 10 rfl) (by decide) ?_
  refine r_iaload hc (dc_at dX10_rents 11 rfl) hf fun x2 hf => ?_
  refine r_icmp_ge (tgt := 47) hc (dc_at dX10_rents 12 rfl) (by decide) hf (fun hf => ?_) (fun hf => ?_)
  · refine r_iload_n hc 1 (dc_at dX10_rents 29 rfl) rfl ?_
    exact r_iret hc he (hm) (hs) (dc_at dX10_rents 30 rfl) hf
  · refine r_aload_n hc 0 (dc_at dX10_rents 13 rfl) rfl ?_
    refine r_iload_n hc 2 (dc_at dX10_rents 14 rfl) rfl ?_
    obtain ⟨ho, hf⟩ := cO_some hf
    refine ob2 hf fun u h4 ex hf => ?_
    refine r_callVv (As := [.int v2]) (ci := 10) hc hr (dc_at dX10_rents 15 rfl) ml_X10_451 mv_X10_laysRent vi_X10_laysRent rfl ho rfl (mt_X10_laysRent ex) (by first | exact Nat.le_of_ble_eq_true rfl | omega) (by first | exact Nat.le_of_ble_eq_true rfl | omega) (by first | exact Nat.le_of_ble_eq_true rfl | omega) hm hs ?_
    refine r_iload_n hc 1 (dc_at dX10_rents 16 rfl) rfl ?_
    refine r_ldc2 hc (dc_at dX10_rents 17 rfl) cl2_X10_454 ?_
    refine r_aload_n hc 0 (dc_at dX10_rents 18 rfl) rfl ?_
    refine r_getL hc (dc_at dX10_rents 19 rfl) fl_X10_180 hf fun x5 hf => ?_
    refine r_lmul hc (dc_at dX10_rents 20 rfl) ?_
    refine r_aload_n hc 0 (dc_at dX10_rents 21 rfl) rfl ?_
    refine r_getL hc (dc_at dX10_rents 22 rfl) fl_X10_184 hf fun x6 hf => ?_
    refine r_ldiv hc (dc_at dX10_rents 23 rfl) hf (fun hf => ?_)
    refine r_l2i hc (dc_at dX10_rents 24 rfl) ?_
    refine r_iadd hc (dc_at dX10_rents 25 rfl) ?_
    refine r_nm (mk := Value.int) hf fun x7 hf => ?_
    refine r_istore_n [(1, .int x7), (0, .ref (X.1 + v0)), (2, .int v2)] hc hr (dc_at dX10_rents 26 rfl) (by decide) rfl ?_
    refine obv hf fun x8 e_x8 hf => ?_
    refine r_iinc 2 [(2, .int x8), (1, .int x7), (0, .ref (X.1 + v0))] hc hr (dc_at dX10_rents 27 rfl) rfl (by rw [e_x8]; rfl) (by decide) rfl ?_
    refine r_goto (tgt := 9) hc (dc_at dX10_rents 28 rfl) (by decide) ?_
    exact gg_sub [2, 1, 0] rfl (ih7 _ _ _ _ hf)
def l_X10_rents_9 (F : Nat) : Nat → PH → Nat → Int32 → Int32 → Option (Int32 × PH)
  | 0 => fun _ _ _ _ => none
  | n + 1 => fun h v0 v1 v2 => b_X10_rents_9 F (l_X10_rents_9 F n) h v0 v1 v2
theorem tl_X10_rents_9 {M : MV} {X : XT} {F : Nat} {hz : PH} {r : Int32} {ce sl mc ms : Nat} (hc : Cx M X RX10 cX10_rents) (hr : Rx M 135 7832 mc ms 3) (he : Ex M X (some .int) "rents" (some (.int r)) hz mc ms) (hm : ce ≤ mc) (hs : sl ≤ ms) (n : Nat) : ∀ (h : PH) (v0 : Nat) (v1 : Int32) (v2 : Int32), l_X10_rents_9 F n h v0 v1 v2 = some (r, hz) → GG M X h ce sl 9 [(0, .ref (X.1 + v0)), (1, .int v1), (2, .int v2)] [] := by
  induction n with
  | zero => intro h v0 v1 v2 hf; cases hf
  | succ n ih => intro h v0 v1 v2 hf; exact tb_X10_rents_9 (F := F) hc hr he hm hs  ih hf
def b_X10_rents_0 (F : Nat) (h : PH) (v0 : Nat) : Option (Int32 × PH) := (pV 10 0 (.int (0 : Int32)) h v0).bind fun h1 => (l_X10_rents_9 F F h1 v0 (0 : Int32) (0 : Int32))
set_option maxRecDepth 20000 in
theorem t_X10_rents_0 {M : MV} {X : XT} {F : Nat} {h hz : PH} {r : Int32} {ce sl mc ms : Nat} {v0 : Nat} (hc : Cx M X RX10 cX10_rents) (hr : Rx M 135 7832 mc ms 3) (he : Ex M X (some .int) "rents" (some (.int r)) hz mc ms) (hm : ce ≤ mc) (hs : sl ≤ ms) (hf : b_X10_rents_0 F h v0 = some (r, hz)) : GG M X h ce sl 0 [(0, .ref (X.1 + v0))] [] := by
  unfold b_X10_rents_0 at hf
  refine r_aload_n hc 0 (dc_at dX10_rents 0 rfl) rfl ?_
  refine r_iconst (0 : Int32) hc (dc_at dX10_rents 1 rfl) (by decide) ?_
  refine r_putI hc he (dc_at dX10_rents 2 rfl) fp_X10_1 (fun q => by cases q) hf fun h1 hf => ?_
  refine r_iconst (0 : Int32) hc (dc_at dX10_rents 3 rfl) (by decide) ?_
  refine r_istore_n [(1, .int ((0 : Int32))), (0, .ref (X.1 + v0))] hc hr (dc_at dX10_rents 4 rfl) (by decide) rfl ?_
  refine r_iconst (0 : Int32) hc (dc_at dX10_rents 5 rfl) (by decide) ?_
  refine r_istore_n [(2, .int ((0 : Int32))), (1, .int ((0 : Int32))), (0, .ref (X.1 + v0))] hc hr (dc_at dX10_rents 6 rfl) (by decide) rfl ?_
  exact gg_sub [2, 1, 0] rfl (tl_X10_rents_9 hc hr he hm hs  F _ _ _ _ hf)
def m_X10_rents (F : Nat) (h : PH) (p0 : Nat) : Option (Int32 × PH) := b_X10_rents_0 F h p0
theorem mt_X10_rents {l : Launch} {X : XT} {F : Nat} {h hz : PH} {p0 : Nat} {r : Int32} (ex : m_X10_rents F h p0 = some (r, hz)) : MT l X yX10_rents cX10_rents 3 (some .int) 135 7832 0 0 [.ref (X.1 + p0)] h (some (.int r)) hz := MT.of (by decide) (Nat.le_of_ble_eq_true rfl) fun M hl hc hr he => by
  subst hl
  exact gg_sub [0] rfl (t_X10_rents_0  hc hr he (Nat.zero_le _) (Nat.zero_le _) ex)
/-! FractionLiftModel.moves(III)I -/
def lX10_movesL : List (Nat × Instr × Nat × Nat) := [(0, .aload_n 0, 1, 1), (1, .iconst 0, 1, 2), (2, .putfield 1, 3, 5), (5, .aload_n 0, 1, 6), (6, .iload_n 1, 1, 7), (7, .invokevirtual 254, 3, 10), (10, .ifCond .ne 6, 3, 13), (13, .bipush (-2), 2, 15), (15, .ireturn, 1, 16), (16, .aload_n 0, 1, 17), (17, .iload_n 2, 1, 18), (18, .i2l, 1, 19), (19, .iload_n 3, 1, 20), (20, .i2l, 1, 21), (21, .invokevirtual 282, 3, 24), (24, .ifCond .eq 14, 3, 27), (27, .aload_n 0, 1, 28), (28, .getfield 184, 3, 31), (31, .ldc2_w 328, 3, 34), (34, .lcmp, 1, 35), (35, .ifCond .le 6, 3, 38), (38, .bipush (-3), 2, 40), (40, .ireturn, 1, 41), (41, .aload_n 0, 1, 42), (42, .getfield 180, 3, 45), (45, .l2i, 1, 46), (46, .istore 4, 2, 48), (48, .aload_n 0, 1, 49), (49, .getfield 184, 3, 52), (52, .l2i, 1, 53), (53, .istore 5, 2, 55), (55, .aload_n 0, 1, 56), (56, .iload_n 1, 1, 57), (57, .invokevirtual 451, 3, 60), (60, .aload_n 0, 1, 61), (61, .getfield 180, 3, 64), (64, .lstore 6, 2, 66), (66, .aload_n 0, 1, 67), (67, .getfield 184, 3, 70), (70, .lstore 8, 2, 72), (72, .aload_n 0, 1, 73), (73, .getfield 13, 3, 76), (76, .bipush 49, 2, 78), (78, .iload_n 1, 1, 79), (79, .iadd, 1, 80), (80, .iload 4, 2, 82), (82, .iastore, 1, 83), (83, .aload_n 0, 1, 84), (84, .getfield 13, 3, 87), (87, .bipush 55, 2, 89), (89, .iload_n 1, 1, 90), (90, .iadd, 1, 91), (91, .iload 5, 2, 93), (93, .iastore, 1, 94), (94, .aload_n 0, 1, 95), (95, .iload_n 1, 1, 96), (96, .invokevirtual 451, 3, 99), (99, .aload_n 0, 1, 100), (100, .getfield 180, 3, 103), (103, .aload_n 0, 1, 104), (104, .getfield 184, 3, 107), (107, .lload 6, 2, 109), (109, .lload 8, 2, 111), (111, .invokestatic 243, 3, 114), (114, .ireturn, 1, 115)]
set_option maxRecDepth 20000 in
theorem dX10_moves : dcL cX10_moves lX10_movesL = true := by decide +kernel
def b_X10_moves_0 (F : Nat) (h : PH) (v0 : Nat) (v1 : Int32) (v2 : Int32) (v3 : Int32) : Option (Int32 × PH) := (pV 10 0 (.int (0 : Int32)) h v0).bind fun h1 => (cO 10 h1 v0 ((m_X10_isTenant h1 v0 v1).bind fun x2 => (if x2 = 0 then (some ((-2 : Int32), h1)) else (cO 10 h1 v0 (bind2 (m_X10_asks h1 v0 (Int32.toInt64 v2) (Int32.toInt64 v3)) fun x3 h4 => (if x3 = 0 then (some ((-3 : Int32), h4)) else ((gL 10 16 h4 v0).bind fun x5 => (if x5 ≤ (99 : Int64) then ((gL 10 15 h4 v0).bind fun x6 => (bindv (Int64.toInt32 x6) fun x7 => ((gL 10 16 h4 v0).bind fun x8 => (bindv (Int64.toInt32 x8) fun x9 => (cO 10 h4 v0 (bind2 (m_X10_laysRent F h4 v0 v1) fun _ h11 => ((gL 10 15 h11 v0).bind fun x12 => ((gL 10 16 h11 v0).bind fun x13 => ((gR 10 1 h11 v0).bind fun a14 => ((sI 0 h11 a14 (((49 : Int32) + v1)) x7).bind fun h15 => ((gR 10 1 h15 v0).bind fun a16 => ((sI 0 h15 a16 (((55 : Int32) + v1)) x9).bind fun h17 => (cO 10 h17 v0 (bind2 (m_X10_laysRent F h17 v0 v1) fun _ h19 => ((gL 10 15 h19 v0).bind fun x20 => ((gL 10 16 h19 v0).bind fun x21 => ((m_X10_against x20 x21 x12 x13).bind fun x22 => (some (x22, h19))))))))))))))))))) else (some ((-3 : Int32), h4))))))))))
set_option maxRecDepth 20000 in
theorem t_X10_moves_0 {M : MV} {X : XT} {F : Nat} {h hz : PH} {r : Int32} {ce sl mc ms : Nat} {v0 : Nat} {v1 : Int32} {v2 : Int32} {v3 : Int32} (hc : Cx M X RX10 cX10_moves) (hr : Rx M 135 7832 mc ms 10) (he : Ex M X (some .int) "moves" (some (.int r)) hz mc ms) (hm : ce ≤ mc) (hs : sl ≤ ms) (hf : b_X10_moves_0 F h v0 v1 v2 v3 = some (r, hz)) : GG M X h ce sl 0 [(0, .ref (X.1 + v0)), (1, .int v1), (2, .int v2), (3, .int v3)] [] := by
  unfold b_X10_moves_0 at hf
  refine r_aload_n hc 0 (dc_at dX10_moves 0 rfl) rfl ?_
  refine r_iconst (0 : Int32) hc (dc_at dX10_moves 1 rfl) (by decide) ?_
  refine r_putI hc he (dc_at dX10_moves 2 rfl) fp_X10_1 (fun q => by cases q) hf fun h1 hf => ?_
  refine r_aload_n hc 0 (dc_at dX10_moves 3 rfl) rfl ?_
  refine r_iload_n hc 1 (dc_at dX10_moves 4 rfl) rfl ?_
  obtain ⟨ho, hf⟩ := cO_some hf
  refine ob hf fun x2 ex hf => ?_
  refine r_callVi (As := [.int v1]) (ci := 10) hc hr (dc_at dX10_moves 5 rfl) ml_X10_254 mv_X10_isTenant vi_X10_isTenant rfl ho rfl (mt_X10_isTenant ex) (by first | exact Nat.le_of_ble_eq_true rfl | omega) (by first | exact Nat.le_of_ble_eq_true rfl | omega) (by first | exact Nat.le_of_ble_eq_true rfl | omega) hm hs ?_
  refine r_if_ne (tgt := 16) hc (dc_at dX10_moves 6 rfl) (by decide) hf (fun hf => ?_) (fun hf => ?_)
  · refine r_aload_n hc 0 (dc_at dX10_moves 9 rfl) rfl ?_
    refine r_iload_n hc 2 (dc_at dX10_moves 10 rfl) rfl ?_
    refine r_i2l hc (dc_at dX10_moves 11 rfl) ?_
    refine r_iload_n hc 3 (dc_at dX10_moves 12 rfl) rfl ?_
    refine r_i2l hc (dc_at dX10_moves 13 rfl) ?_
    obtain ⟨ho, hf⟩ := cO_some hf
    refine ob2 hf fun x3 h4 ex hf => ?_
    refine r_callVi (As := [.long ((Int32.toInt64 v2)), .long ((Int32.toInt64 v3))]) (ci := 10) hc hr (dc_at dX10_moves 14 rfl) ml_X10_282 mv_X10_asks vi_X10_asks rfl ho rfl (mt_X10_asks ex) (by first | exact Nat.le_of_ble_eq_true rfl | omega) (by first | exact Nat.le_of_ble_eq_true rfl | omega) (by first | exact Nat.le_of_ble_eq_true rfl | omega) hm hs ?_
    refine r_if_eq (tgt := 38) hc (dc_at dX10_moves 15 rfl) (by decide) hf (fun hf => ?_) (fun hf => ?_)
    · refine r_bipush (-3 : Int32) hc (dc_at dX10_moves 21 rfl) (by decide) ?_
      exact r_iret hc he (hm) (hs) (dc_at dX10_moves 22 rfl) hf
    · refine r_aload_n hc 0 (dc_at dX10_moves 16 rfl) rfl ?_
      refine r_getL hc (dc_at dX10_moves 17 rfl) fl_X10_184 hf fun x5 hf => ?_
      refine r_ldc2 hc (dc_at dX10_moves 18 rfl) cl2_X10_328 ?_
      refine r_lcmp_le (tgt := 41) hc (dc_at dX10_moves 19 rfl) (dc_at dX10_moves 20 rfl) (by decide) hf (fun hf => ?_) (fun hf => ?_)
      · refine r_aload_n hc 0 (dc_at dX10_moves 23 rfl) rfl ?_
        refine r_getL hc (dc_at dX10_moves 24 rfl) fl_X10_180 hf fun x6 hf => ?_
        refine r_l2i hc (dc_at dX10_moves 25 rfl) ?_
        refine r_nm (mk := Value.int) hf fun x7 hf => ?_
        refine r_istore [(4, .int x7), (0, .ref (X.1 + v0)), (1, .int v1), (2, .int v2), (3, .int v3)] hc hr (dc_at dX10_moves 26 rfl) (by decide) rfl ?_
        refine r_aload_n hc 1 (dc_at dX10_moves 27 rfl) rfl ?_
        refine r_getL hc (dc_at dX10_moves 28 rfl) fl_X10_184 hf fun x8 hf => ?_
        refine r_l2i hc (dc_at dX10_moves 29 rfl) ?_
        refine r_nm (mk := Value.int) hf fun x9 hf => ?_
        refine r_istore [(5, .int x9), (4, .int x7), (0, .ref (X.1 + v0)), (1, .int v1), (2, .int v2), (3, .int v3)] hc hr (dc_at dX10_moves 30 rfl) (by decide) rfl ?_
        refine r_aload_n hc 2 (dc_at dX10_moves 31 rfl) rfl ?_
        refine r_iload_n hc 3 (dc_at dX10_moves 32 rfl) rfl ?_
        obtain ⟨ho, hf⟩ := cO_some hf
        refine ob2 hf fun u h11 ex hf => ?_
        refine r_callVv (As := [.int v1]) (ci := 10) hc hr (dc_at dX10_moves 33 rfl) ml_X10_451 mv_X10_laysRent vi_X10_laysRent rfl ho rfl (mt_X10_laysRent ex) (by first | exact Nat.le_of_ble_eq_true rfl | omega) (by first | exact Nat.le_of_ble_eq_true rfl | omega) (by first | exact Nat.le_of_ble_eq_true rfl | omega) hm hs ?_
        refine r_aload_n hc 2 (dc_at dX10_moves 34 rfl) rfl ?_
        refine r_getL hc (dc_at dX10_moves 35 rfl) fl_X10_180 hf fun x12 hf => ?_
        refine r_lstore [(6, .long x12), (5, .int x9), (4, .int x7), (0, .ref (X.1 + v0)), (1, .int v1), (2, .int v2), (3, .int v3)] hc hr (dc_at dX10_moves 36 rfl) (by decide) rfl ?_
        refine r_aload_n hc 3 (dc_at dX10_moves 37 rfl) rfl ?_
        refine r_getL hc (dc_at dX10_moves 38 rfl) fl_X10_184 hf fun x13 hf => ?_
        refine r_lstore [(8, .long x13), (6, .long x12), (5, .int x9), (4, .int x7), (0, .ref (X.1 + v0)), (1, .int v1), (2, .int v2), (3, .int v3)] hc hr (dc_at dX10_moves 39 rfl) (by decide) rfl ?_
        refine r_aload_n hc 4 (dc_at dX10_moves 40 rfl) rfl ?_
        refine r_getR hc (dc_at dX10_moves 41 rfl) fl_X10_13 hf fun a14 hf => ?_
        refine r_bipush (49 : Int32) hc (dc_at dX10_moves 42 rfl) (by decide) ?_
        refine r_iload_n hc 5 (dc_at dX10_moves 43 rfl) rfl ?_
        refine r_iadd hc (dc_at dX10_moves 44 rfl) ?_
        refine r_iload hc 3 (dc_at dX10_moves 45 rfl) rfl ?_
        refine r_iastore hc (dc_at dX10_moves 46 rfl) hf fun h15 hf => ?_
        refine r_aload_n hc 4 (dc_at dX10_moves 47 rfl) rfl ?_
        refine r_getR hc (dc_at dX10_moves 48 rfl) fl_X10_13 hf fun a16 hf => ?_
        refine r_bipush (55 : Int32) hc (dc_at dX10_moves 49 rfl) (by decide) ?_
        refine r_iload_n hc 5 (dc_at dX10_moves 50 rfl) rfl ?_
        refine r_iadd hc (dc_at dX10_moves 51 rfl) ?_
        refine r_iload hc 2 (dc_at dX10_moves 52 rfl) rfl ?_
        refine r_iastore hc (dc_at dX10_moves 53 rfl) hf fun h17 hf => ?_
        refine r_aload_n hc 4 (dc_at dX10_moves 54 rfl) rfl ?_
        refine r_iload_n hc 5 (dc_at dX10_moves 55 rfl) rfl ?_
        obtain ⟨ho, hf⟩ := cO_some hf
        refine ob2 hf fun u h19 ex hf => ?_
        refine r_callVv (As := [.int v1]) (ci := 10) hc hr (dc_at dX10_moves 56 rfl) ml_X10_451 mv_X10_laysRent vi_X10_laysRent rfl ho rfl (mt_X10_laysRent ex) (by first | exact Nat.le_of_ble_eq_true rfl | omega) (by first | exact Nat.le_of_ble_eq_true rfl | omega) (by first | exact Nat.le_of_ble_eq_true rfl | omega) hm hs ?_
        refine r_aload_n hc 4 (dc_at dX10_moves 57 rfl) rfl ?_
        refine r_getL hc (dc_at dX10_moves 58 rfl) fl_X10_180 hf fun x20 hf => ?_
        refine r_aload_n hc 4 (dc_at dX10_moves 59 rfl) rfl ?_
        refine r_getL hc (dc_at dX10_moves 60 rfl) fl_X10_184 hf fun x21 hf => ?_
        refine r_lload hc 1 (dc_at dX10_moves 61 rfl) rfl ?_
        refine r_lload hc 0 (dc_at dX10_moves 62 rfl) rfl ?_
        refine ob hf fun x22 ex hf => ?_
        refine r_callSi (As := [.long x20, .long x21, .long x12, .long x13]) hc hr (dc_at dX10_moves 63 rfl) ml_X10_243 mv_X10_against st_X10_against rfl (mt_X10_against ex) (by first | exact Nat.le_of_ble_eq_true rfl | omega) (by first | exact Nat.le_of_ble_eq_true rfl | omega) (by first | exact Nat.le_of_ble_eq_true rfl | omega) hm hs ?_
        exact r_iret hc he (hm) (hs) (dc_at dX10_moves 64 rfl) hf
      · refine r_bipush (-3 : Int32) hc (dc_at dX10_moves 21 rfl) (by decide) ?_
        exact r_iret hc he (hm) (hs) (dc_at dX10_moves 22 rfl) hf
  · refine r_bipush (-2 : Int32) hc (dc_at dX10_moves 7 rfl) (by decide) ?_
    exact r_iret hc he (hm) (hs) (dc_at dX10_moves 8 rfl) hf
def m_X10_moves (F : Nat) (h : PH) (p0 : Nat) (p1 : Int32) (p2 : Int32) (p3 : Int32) : Option (Int32 × PH) := b_X10_moves_0 F h p0 p1 p2 p3
theorem mt_X10_moves {l : Launch} {X : XT} {F : Nat} {h hz : PH} {p0 : Nat} {p1 : Int32} {p2 : Int32} {p3 : Int32} {r : Int32} (ex : m_X10_moves F h p0 p1 p2 p3 = some (r, hz)) : MT l X yX10_moves cX10_moves 10 (some .int) 135 7832 0 0 [.ref (X.1 + p0), .int p1, .int p2, .int p3] h (some (.int r)) hz := MT.of (by decide) (Nat.le_of_ble_eq_true rfl) fun M hl hc hr he => by
  subst hl
  exact gg_sub [0, 1, 2, 3] rfl (t_X10_moves_0  hc hr he (Nat.zero_le _) (Nat.zero_le _) ex)
/-! FractionLiftModel.farOf(IJJJ)J -/
def lX10_farOfL : List (Nat × Instr × Nat × Nat) := [(0, .lconst 0, 1, 1), (1, .lstore 8, 2, 3), (3, .iconst 0, 1, 4), (4, .istore 10, 2, 6), (6, .iload 10, 2, 8), (8, .aload_n 0, 1, 9), (9, .getfield 13, 3, 12), (12, .iconst 4, 1, 13), (13, .iaload, 1, 14), (14, .if_icmp .ge 83, 3, 17), (17, .iload 10, 2, 19), (19, .iload_n 1, 1, 20), (20, .if_icmp .ne 6, 3, 23), (23, .goto 68, 3, 26), (26, .lload_n 2, 1, 27), (27, .aload_n 0, 1, 28), (28, .getfield 13, 3, 31), (31, .bipush 55, 2, 33), (33, .iload 10, 2, 35), (35, .iadd, 1, 36), (36, .iaload, 1, 37), (37, .i2l, 1, 38), (38, .lmul, 1, 39), (39, .aload_n 0, 1, 40), (40, .getfield 13, 3, 43), (43, .bipush 49, 2, 45), (45, .iload 10, 2, 47), (47, .iadd, 1, 48), (48, .iaload, 1, 49), (49, .i2l, 1, 50), (50, .lload 4, 2, 52), (52, .lmul, 1, 53), (53, .lsub, 1, 54), (54, .lstore 11, 2, 56), (56, .lload 8, 2, 58), (58, .lload 11, 2, 60), (60, .lconst 0, 1, 61), (61, .lcmp, 1, 62), (62, .ifCond .ge 9, 3, 65), (65, .lload 11, 2, 67), (67, .lneg, 1, 68), (68, .goto 5, 3, 71), (71, .lload 11, 2, 73), (73, .lload 6, 2, 75), (75, .aload_n 0, 1, 76), (76, .getfield 13, 3, 79), (79, .bipush 55, 2, 81), (81, .iload 10, 2, 83), (83, .iadd, 1, 84), (84, .iaload, 1, 85), (85, .i2l, 1, 86), (86, .ldiv, 1, 87), (87, .lmul, 1, 88), (88, .ladd, 1, 89), (89, .lstore 8, 2, 91), (91, .iinc 10 1, 3, 94), (94, .goto (-88), 3, 97), (97, .lload 8, 2, 99), (99, .lreturn, 1, 100)]
set_option maxRecDepth 20000 in
theorem dX10_farOf : dcL cX10_farOf lX10_farOfL = true := by decide +kernel
def b_X10_farOf_91 (F : Nat) (self4 : Nat → Int32 → Int64 → Int64 → Int64 → Int64 → Int32 → Option Int64) (h : PH) (v0 : Nat) (v1 : Int32) (v2 : Int64) (v4 : Int64) (v6 : Int64) (v8 : Int64) (v10 : Int32) : Option Int64 := bindv (v10 + (1)) fun x1 => (self4 v0 v1 v2 v4 v6 v8 x1)
set_option maxRecDepth 20000 in
theorem t_X10_farOf_91 {M : MV} {X : XT} {F : Nat} {self4 : Nat → Int32 → Int64 → Int64 → Int64 → Int64 → Int32 → Option Int64} {h : PH} {r : Int64} {ce sl mc ms : Nat} {v0 : Nat} {v1 : Int32} {v2 : Int64} {v4 : Int64} {v6 : Int64} {v8 : Int64} {v10 : Int32} (hc : Cx M X RX10 cX10_farOf) (hr : Rx M 1 60 mc ms 13) (he : Ex M X (some .long) "farOf" (some (.long r)) h mc ms) (hm : ce ≤ mc) (hs : sl ≤ ms) (ih4 : ∀ (v0 : Nat) (v1 : Int32) (v2 : Int64) (v4 : Int64) (v6 : Int64) (v8 : Int64) (v10 : Int32), self4 v0 v1 v2 v4 v6 v8 v10 = some r → GG M X h ce sl 6 [(0, .ref (X.1 + v0)), (1, .int v1), (2, .long v2), (4, .long v4), (6, .long v6), (8, .long v8), (10, .int v10)] []) (hf : b_X10_farOf_91 F self4 h v0 v1 v2 v4 v6 v8 v10 = some r) : GG M X h ce sl 91 [(0, .ref (X.1 + v0)), (1, .int v1), (2, .long v2), (4, .long v4), (6, .long v6), (8, .long v8), (10, .int v10)] [] := by
  unfold b_X10_farOf_91 at hf
  refine obv hf fun x1 e_x1 hf => ?_
  refine r_iinc 6 [(10, .int x1), (0, .ref (X.1 + v0)), (1, .int v1), (2, .long v2), (4, .long v4), (6, .long v6), (8, .long v8)] hc hr (dc_at dX10_farOf 55 rfl) rfl (by rw [e_x1]; rfl) (by decide) rfl ?_
  refine r_goto (tgt := 6) hc (dc_at dX10_farOf 56 rfl) (by decide) ?_
  exact gg_sub [1, 2, 3, 4, 5, 6, 0] rfl (ih4 _ _ _ _ _ _ _ hf)
def b_X10_farOf_73 (F : Nat) (self4 : Nat → Int32 → Int64 → Int64 → Int64 → Int64 → Int32 → Option Int64) (h : PH) (v0 : Nat) (v1 : Int32) (v2 : Int64) (v4 : Int64) (v6 : Int64) (v10 : Int32) (s0 : Int64) (s1 : Int64) : Option Int64 := (gR 10 1 h v0).bind fun a1 => ((aI 0 h a1 (((55 : Int32) + v10))).bind fun x2 => (if (Int32.toInt64 x2) = 0 then none else (bindv ((s0 + ((s1 * ((v6 / (Int32.toInt64 x2))))))) fun x3 => (b_X10_farOf_91 F self4 h v0 v1 v2 v4 v6 x3 v10))))
set_option maxRecDepth 20000 in
theorem t_X10_farOf_73 {M : MV} {X : XT} {F : Nat} {self4 : Nat → Int32 → Int64 → Int64 → Int64 → Int64 → Int32 → Option Int64} {h : PH} {r : Int64} {ce sl mc ms : Nat} {v0 : Nat} {v1 : Int32} {v2 : Int64} {v4 : Int64} {v6 : Int64} {v10 : Int32} {s0 : Int64} {s1 : Int64} (hc : Cx M X RX10 cX10_farOf) (hr : Rx M 1 60 mc ms 13) (he : Ex M X (some .long) "farOf" (some (.long r)) h mc ms) (hm : ce ≤ mc) (hs : sl ≤ ms) (ih4 : ∀ (v0 : Nat) (v1 : Int32) (v2 : Int64) (v4 : Int64) (v6 : Int64) (v8 : Int64) (v10 : Int32), self4 v0 v1 v2 v4 v6 v8 v10 = some r → GG M X h ce sl 6 [(0, .ref (X.1 + v0)), (1, .int v1), (2, .long v2), (4, .long v4), (6, .long v6), (8, .long v8), (10, .int v10)] []) (hf : b_X10_farOf_73 F self4 h v0 v1 v2 v4 v6 v10 s0 s1 = some r) : GG M X h ce sl 73 [(0, .ref (X.1 + v0)), (1, .int v1), (2, .long v2), (4, .long v4), (6, .long v6), (10, .int v10)] [.long s1, .long s0] := by
  unfold b_X10_farOf_73 at hf
  refine r_lload hc 4 (dc_at dX10_farOf 43 rfl) rfl ?_
  refine r_aload_n hc 0 (dc_at dX10_farOf 44 rfl) rfl ?_
  refine r_getR hc (dc_at dX10_farOf 45 rfl) fl_X10_13 hf fun a1 hf => ?_
  refine r_bipush (55 : Int32) hc (dc_at dX10_farOf 46 rfl) (by decide) ?_
  refine r_iload hc 5 (dc_at dX10_farOf 47 rfl) rfl ?_
  refine r_iadd hc (dc_at dX10_farOf 48 rfl) ?_
  refine r_iaload hc (dc_at dX10_farOf 49 rfl) hf fun x2 hf => ?_
  refine r_i2l hc (dc_at dX10_farOf 50 rfl) ?_
  refine r_ldiv hc (dc_at dX10_farOf 51 rfl) hf (fun hf => ?_)
  refine r_lmul hc (dc_at dX10_farOf 52 rfl) ?_
  refine r_ladd hc (dc_at dX10_farOf 53 rfl) ?_
  refine r_nm (mk := Value.long) hf fun x3 hf => ?_
  refine r_lstore [(8, .long x3), (0, .ref (X.1 + v0)), (1, .int v1), (2, .long v2), (4, .long v4), (6, .long v6), (10, .int v10)] hc hr (dc_at dX10_farOf 54 rfl) (by decide) rfl ?_
  exact gg_sub [1, 2, 3, 4, 5, 0, 6] rfl (t_X10_farOf_91 hc hr he hm hs ih4 hf)
def b_X10_farOf_6 (F : Nat) (self4 : Nat → Int32 → Int64 → Int64 → Int64 → Int64 → Int32 → Option Int64) (h : PH) (v0 : Nat) (v1 : Int32) (v2 : Int64) (v4 : Int64) (v6 : Int64) (v8 : Int64) (v10 : Int32) : Option Int64 := (gR 10 1 h v0).bind fun a1 => ((aI 0 h a1 (4 : Int32)).bind fun x2 => (if x2 ≤ v10 then (some v8) else (if v10 = v1 then (b_X10_farOf_91 F self4 h v0 v1 v2 v4 v6 v8 v10) else ((gR 10 1 h v0).bind fun a3 => ((aI 0 h a3 (((55 : Int32) + v10))).bind fun x4 => ((gR 10 1 h v0).bind fun a5 => ((aI 0 h a5 (((49 : Int32) + v10))).bind fun x6 => (bindv ((((v2 * (Int32.toInt64 x4))) - (((Int32.toInt64 x6) * v4)))) fun x7 => (if (0 : Int64) ≤ x7 then (b_X10_farOf_73 F self4 h v0 v1 v2 v4 v6 v10 v8 x7) else (b_X10_farOf_73 F self4 h v0 v1 v2 v4 v6 v10 v8 (-x7)))))))))))
set_option maxRecDepth 20000 in
theorem tb_X10_farOf_6 {M : MV} {X : XT} {F : Nat} {self4 : Nat → Int32 → Int64 → Int64 → Int64 → Int64 → Int32 → Option Int64} {h : PH} {r : Int64} {ce sl mc ms : Nat} {v0 : Nat} {v1 : Int32} {v2 : Int64} {v4 : Int64} {v6 : Int64} {v8 : Int64} {v10 : Int32} (hc : Cx M X RX10 cX10_farOf) (hr : Rx M 1 60 mc ms 13) (he : Ex M X (some .long) "farOf" (some (.long r)) h mc ms) (hm : ce ≤ mc) (hs : sl ≤ ms) (ih4 : ∀ (v0 : Nat) (v1 : Int32) (v2 : Int64) (v4 : Int64) (v6 : Int64) (v8 : Int64) (v10 : Int32), self4 v0 v1 v2 v4 v6 v8 v10 = some r → GG M X h ce sl 6 [(0, .ref (X.1 + v0)), (1, .int v1), (2, .long v2), (4, .long v4), (6, .long v6), (8, .long v8), (10, .int v10)] []) (hf : b_X10_farOf_6 F self4 h v0 v1 v2 v4 v6 v8 v10 = some r) : GG M X h ce sl 6 [(0, .ref (X.1 + v0)), (1, .int v1), (2, .long v2), (4, .long v4), (6, .long v6), (8, .long v8), (10, .int v10)] [] := by
  unfold b_X10_farOf_6 at hf
  refine r_iload hc 6 (dc_at dX10_farOf 4 rfl) rfl ?_
  refine r_aload_n hc 0 (dc_at dX10_farOf 5 rfl) rfl ?_
  refine r_getR hc (dc_at dX10_farOf 6 rfl) fl_X10_13 hf fun a1 hf => ?_
  refine r_iconst (4 : Int32) hc (dc_at dX10_farOf 7 rfl) (by decide) ?_
  refine r_iaload hc (dc_at dX10_farOf 8 rfl) hf fun x2 hf => ?_
  refine r_icmp_ge (tgt := 97) hc (dc_at dX10_farOf 9 rfl) (by decide) hf (fun hf => ?_) (fun hf => ?_)
  · refine r_lload hc 5 (dc_at dX10_farOf 57 rfl) rfl ?_
    exact r_lretP hc he (hm) (hs) (dc_at dX10_farOf 58 rfl) hf
  · refine r_iload hc 6 (dc_at dX10_farOf 10 rfl) rfl ?_
    refine r_iload_n hc 1 (dc_at dX10_farOf 11 rfl) rfl ?_
    refine r_icmp_ne (tgt := 26) hc (dc_at dX10_farOf 12 rfl) (by decide) hf (fun hf => ?_) (fun hf => ?_)
    · refine r_lload_n hc 2 (dc_at dX10_farOf 14 rfl) rfl ?_
      refine r_aload_n hc 0 (dc_at dX10_farOf 15 rfl) rfl ?_
      refine r_getR hc (dc_at dX10_farOf 16 rfl) fl_X10_13 hf fun a3 hf => ?_
      refine r_bipush (55 : Int32) hc (dc_at dX10_farOf 17 rfl) (by decide) ?_
      refine r_iload hc 6 (dc_at dX10_farOf 18 rfl) rfl ?_
      refine r_iadd hc (dc_at dX10_farOf 19 rfl) ?_
      refine r_iaload hc (dc_at dX10_farOf 20 rfl) hf fun x4 hf => ?_
      refine r_i2l hc (dc_at dX10_farOf 21 rfl) ?_
      refine r_lmul hc (dc_at dX10_farOf 22 rfl) ?_
      refine r_aload_n hc 0 (dc_at dX10_farOf 23 rfl) rfl ?_
      refine r_getR hc (dc_at dX10_farOf 24 rfl) fl_X10_13 hf fun a5 hf => ?_
      refine r_bipush (49 : Int32) hc (dc_at dX10_farOf 25 rfl) (by decide) ?_
      refine r_iload hc 6 (dc_at dX10_farOf 26 rfl) rfl ?_
      refine r_iadd hc (dc_at dX10_farOf 27 rfl) ?_
      refine r_iaload hc (dc_at dX10_farOf 28 rfl) hf fun x6 hf => ?_
      refine r_i2l hc (dc_at dX10_farOf 29 rfl) ?_
      refine r_lload hc 3 (dc_at dX10_farOf 30 rfl) rfl ?_
      refine r_lmul hc (dc_at dX10_farOf 31 rfl) ?_
      refine r_lsub hc (dc_at dX10_farOf 32 rfl) ?_
      refine r_nm (mk := Value.long) hf fun x7 hf => ?_
      refine r_lstore [(11, .long x7), (0, .ref (X.1 + v0)), (1, .int v1), (2, .long v2), (4, .long v4), (6, .long v6), (8, .long v8), (10, .int v10)] hc hr (dc_at dX10_farOf 33 rfl) (by decide) rfl ?_
      refine r_lload hc 6 (dc_at dX10_farOf 34 rfl) rfl ?_
      refine r_lload hc 0 (dc_at dX10_farOf 35 rfl) rfl ?_
      refine r_lconst (0 : Int64) hc (dc_at dX10_farOf 36 rfl) (by decide) ?_
      refine r_lcmp_ge (tgt := 71) hc (dc_at dX10_farOf 37 rfl) (dc_at dX10_farOf 38 rfl) (by decide) hf (fun hf => ?_) (fun hf => ?_)
      · refine r_lload hc 0 (dc_at dX10_farOf 42 rfl) rfl ?_
        exact gg_sub [1, 2, 3, 4, 5, 7] rfl (t_X10_farOf_73 hc hr he hm hs ih4 hf)
      · refine r_lload hc 0 (dc_at dX10_farOf 39 rfl) rfl ?_
        refine r_lneg hc (dc_at dX10_farOf 40 rfl) ?_
        refine r_goto (tgt := 73) hc (dc_at dX10_farOf 41 rfl) (by decide) ?_
        exact gg_sub [1, 2, 3, 4, 5, 7] rfl (t_X10_farOf_73 hc hr he hm hs ih4 hf)
    · refine r_goto (tgt := 91) hc (dc_at dX10_farOf 13 rfl) (by decide) ?_
      exact gg_sub [0, 1, 2, 3, 4, 5, 6] rfl (t_X10_farOf_91 hc hr he hm hs ih4 hf)
def l_X10_farOf_6 (F : Nat) (h : PH) : Nat → Nat → Int32 → Int64 → Int64 → Int64 → Int64 → Int32 → Option Int64
  | 0 => fun _ _ _ _ _ _ _ => none
  | n + 1 => fun v0 v1 v2 v4 v6 v8 v10 => b_X10_farOf_6 F (l_X10_farOf_6 F h n) h v0 v1 v2 v4 v6 v8 v10
theorem tl_X10_farOf_6 {M : MV} {X : XT} {F : Nat} {h : PH} {r : Int64} {ce sl mc ms : Nat} (hc : Cx M X RX10 cX10_farOf) (hr : Rx M 1 60 mc ms 13) (he : Ex M X (some .long) "farOf" (some (.long r)) h mc ms) (hm : ce ≤ mc) (hs : sl ≤ ms) (n : Nat) : ∀ (v0 : Nat) (v1 : Int32) (v2 : Int64) (v4 : Int64) (v6 : Int64) (v8 : Int64) (v10 : Int32), l_X10_farOf_6 F h n v0 v1 v2 v4 v6 v8 v10 = some r → GG M X h ce sl 6 [(0, .ref (X.1 + v0)), (1, .int v1), (2, .long v2), (4, .long v4), (6, .long v6), (8, .long v8), (10, .int v10)] [] := by
  induction n with
  | zero => intro v0 v1 v2 v4 v6 v8 v10 hf; cases hf
  | succ n ih => intro v0 v1 v2 v4 v6 v8 v10 hf; exact tb_X10_farOf_6 (F := F) hc hr he hm hs  ih hf
def b_X10_farOf_0 (F : Nat) (h : PH) (v0 : Nat) (v1 : Int32) (v2 : Int64) (v4 : Int64) (v6 : Int64) : Option Int64 := l_X10_farOf_6 F h F v0 v1 v2 v4 v6 (0 : Int64) (0 : Int32)
set_option maxRecDepth 20000 in
theorem t_X10_farOf_0 {M : MV} {X : XT} {F : Nat} {h : PH} {r : Int64} {ce sl mc ms : Nat} {v0 : Nat} {v1 : Int32} {v2 : Int64} {v4 : Int64} {v6 : Int64} (hc : Cx M X RX10 cX10_farOf) (hr : Rx M 1 60 mc ms 13) (he : Ex M X (some .long) "farOf" (some (.long r)) h mc ms) (hm : ce ≤ mc) (hs : sl ≤ ms) (hf : b_X10_farOf_0 F h v0 v1 v2 v4 v6 = some r) : GG M X h ce sl 0 [(0, .ref (X.1 + v0)), (1, .int v1), (2, .long v2), (4, .long v4), (6, .long v6)] [] := by
  unfold b_X10_farOf_0 at hf
  refine r_lconst (0 : Int64) hc (dc_at dX10_farOf 0 rfl) (by decide) ?_
  refine r_lstore [(8, .long ((0 : Int64))), (0, .ref (X.1 + v0)), (1, .int v1), (2, .long v2), (4, .long v4), (6, .long v6)] hc hr (dc_at dX10_farOf 1 rfl) (by decide) rfl ?_
  refine r_iconst (0 : Int32) hc (dc_at dX10_farOf 2 rfl) (by decide) ?_
  refine r_istore [(10, .int ((0 : Int32))), (8, .long ((0 : Int64))), (0, .ref (X.1 + v0)), (1, .int v1), (2, .long v2), (4, .long v4), (6, .long v6)] hc hr (dc_at dX10_farOf 3 rfl) (by decide) rfl ?_
  exact gg_sub [2, 3, 4, 5, 6, 1, 0] rfl (tl_X10_farOf_6 hc hr he hm hs  F _ _ _ _ _ _ _ hf)
def m_X10_farOf (F : Nat) (h : PH) (p0 : Nat) (p1 : Int32) (p2 : Int64) (p4 : Int64) (p6 : Int64) : Option Int64 := b_X10_farOf_0 F h p0 p1 p2 p4 p6
theorem mt_X10_farOf {l : Launch} {X : XT} {F : Nat} {h : PH} {p0 : Nat} {p1 : Int32} {p2 : Int64} {p4 : Int64} {p6 : Int64} {r : Int64} (ex : m_X10_farOf F h p0 p1 p2 p4 p6 = some r) : MT l X yX10_farOf cX10_farOf 13 (some .long) 1 60 0 0 [.ref (X.1 + p0), .int p1, .long p2, .long p4, .long p6] h (some (.long r)) h := MT.of (by decide) (Nat.le_of_ble_eq_true rfl) fun M hl hc hr he => by
  subst hl
  exact gg_sub [0, 1, 2, 3, 4] rfl (t_X10_farOf_0  hc hr he (Nat.zero_le _) (Nat.zero_le _) ex)
/-! FractionLiftModel.fairest(II)J -/
def lX10_fairestL : List (Nat × Instr × Nat × Nat) := [(0, .aload_n 0, 1, 1), (1, .iconst 0, 1, 2), (2, .putfield 1, 3, 5), (5, .aload_n 0, 1, 6), (6, .iload_n 1, 1, 7), (7, .invokevirtual 254, 3, 10), (10, .ifCond .eq 15, 3, 13), (13, .iload_n 2, 1, 14), (14, .i2l, 1, 15), (15, .lconst 0, 1, 16), (16, .ldc2_w 290, 3, 19), (19, .invokestatic 172, 3, 22), (22, .ifCond .ne 7, 3, 25), (25, .ldc2_w 320, 3, 28), (28, .lreturn, 1, 29), (29, .aload_n 0, 1, 30), (30, .getfield 13, 3, 33), (33, .iconst 4, 1, 34), (34, .iaload, 1, 35), (35, .iconst 1, 1, 36), (36, .if_icmp .ne 7, 3, 39), (39, .ldc2_w 334, 3, 42), (42, .lreturn, 1, 43), (43, .lconst 1, 1, 44), (44, .lstore_n 3, 1, 45), (45, .iconst 0, 1, 46), (46, .istore 5, 2, 48), (48, .iload 5, 2, 50), (50, .aload_n 0, 1, 51), (51, .getfield 13, 3, 54), (54, .iconst 4, 1, 55), (55, .iaload, 1, 56), (56, .if_icmp .ge 45, 3, 59), (59, .iload 5, 2, 61), (61, .iload_n 1, 1, 62), (62, .if_icmp .eq 33, 3, 65), (65, .lload_n 3, 1, 66), (66, .lload_n 3, 1, 67), (67, .aload_n 0, 1, 68), (68, .getfield 13, 3, 71), (71, .bipush 55, 2, 73), (73, .iload 5, 2, 75), (75, .iadd, 1, 76), (76, .iaload, 1, 77), (77, .i2l, 1, 78), (78, .invokestatic 176, 3, 81), (81, .ldiv, 1, 82), (82, .aload_n 0, 1, 83), (83, .getfield 13, 3, 86), (86, .bipush 55, 2, 88), (88, .iload 5, 2, 90), (90, .iadd, 1, 91), (91, .iaload, 1, 92), (92, .i2l, 1, 93), (93, .lmul, 1, 94), (94, .lstore_n 3, 1, 95), (95, .iinc 5 1, 3, 98), (98, .goto (-50), 3, 101), (101, .ldc2_w 334, 3, 104), (104, .lstore 5, 2, 106), (106, .lconst 1, 1, 107), (107, .lstore 7, 2, 109), (109, .lconst 0, 1, 110), (110, .lstore 9, 2, 112), (112, .lconst 1, 1, 113), (113, .lstore 11, 2, 115), (115, .lload 11, 2, 117), (117, .ldc2_w 288, 3, 120), (120, .lcmp, 1, 121), (121, .ifCond .gt 132, 3, 124), (124, .lconst 0, 1, 125), (125, .lstore 13, 2, 127), (127, .lload 13, 2, 129), (129, .aload_n 0, 1, 130), (130, .getfield 13, 3, 133), (133, .iconst 1, 1, 134), (134, .iaload, 1, 135), (135, .i2l, 1, 136), (136, .lload 11, 2, 138), (138, .lmul, 1, 139), (139, .lcmp, 1, 140), (140, .ifCond .gt 104, 3, 143), (143, .lload 13, 2, 145), (145, .lload 11, 2, 147), (147, .invokestatic 176, 3, 150), (150, .lconst 1, 1, 151), (151, .lcmp, 1, 152), (152, .ifCond .eq 6, 3, 155), (155, .goto 80, 3, 158), (158, .aload_n 0, 1, 159), (159, .iload_n 1, 1, 160), (160, .lload 13, 2, 162), (162, .lload 11, 2, 164), (164, .lload_n 3, 1, 165), (165, .invokevirtual 456, 3, 168), (168, .lstore 15, 2, 170), (170, .lload 5, 2, 172), (172, .ldc2_w 334, 3, 175), (175, .lcmp, 1, 176), (176, .ifCond .ne 7, 3, 179), (179, .iconst (-1), 1, 180), (180, .goto 14, 3, 183), (183, .lload 15, 2, 185), (185, .lload 11, 2, 187), (187, .lload 9, 2, 189), (189, .lload 7, 2, 191), (191, .invokestatic 243, 3, 194), (194, .istore 17, 2, 196), (196, .iload 17, 2, 198), (198, .ifCond .gt 37, 3, 201), (201, .iload 17, 2, 203), (203, .ifCond .ne 20, 3, 206), (206, .lload 13, 2, 208), (208, .lload 11, 2, 210), (210, .lload 5, 2, 212), (212, .lload 7, 2, 214), (214, .invokestatic 243, 3, 217), (217, .ifCond .lt 6, 3, 220), (220, .goto 15, 3, 223), (223, .lload 13, 2, 225), (225, .lstore 5, 2, 227), (227, .lload 11, 2, 229), (229, .lstore 7, 2, 231), (231, .lload 15, 2, 233), (233, .lstore 9, 2, 235), (235, .lload 13, 2, 237), (237, .lconst 1, 1, 238), (238, .ladd, 1, 239), (239, .lstore 13, 2, 241), (241, .goto (-114), 3, 244), (244, .lload 11, 2, 246), (246, .lconst 1, 1, 247), (247, .ladd, 1, 248), (248, .lstore 11, 2, 250), (250, .goto (-135), 3, 253), (253, .iload_n 2, 1, 254), (254, .iconst 2, 1, 255), (255, .if_icmp .ge 15, 3, 258), (258, .iload_n 2, 1, 259), (259, .ifCond .ne 8, 3, 262), (262, .lload 5, 2, 264), (264, .goto 5, 3, 267), (267, .lload 7, 2, 269), (269, .lreturn, 1, 270), (270, .aload_n 0, 1, 271), (271, .lload 9, 2, 273), (273, .lload 7, 2, 275), (275, .lload_n 3, 1, 276), (276, .lmul, 1, 277), (277, .invokevirtual 194, 3, 280), (280, .iload_n 2, 1, 281), (281, .iconst 2, 1, 282), (282, .if_icmp .ne 10, 3, 285), (285, .aload_n 0, 1, 286), (286, .getfield 180, 3, 289), (289, .goto 7, 3, 292), (292, .aload_n 0, 1, 293), (293, .getfield 184, 3, 296), (296, .lreturn, 1, 297)]
set_option maxRecDepth 20000 in
theorem dX10_fairest : dcL cX10_fairest lX10_fairestL = true := by decide +kernel
def b_X10_fairest_95 (F : Nat) (self27 : PH → Nat → Int32 → Int32 → Int64 → Int32 → Option (Int64 × PH)) (h : PH) (v0 : Nat) (v1 : Int32) (v2 : Int32) (v3 : Int64) (v5 : Int32) : Option (Int64 × PH) := bindv (v5 + (1)) fun x1 => (self27 h v0 v1 v2 v3 x1)
set_option maxRecDepth 20000 in
theorem t_X10_fairest_95 {M : MV} {X : XT} {F : Nat} {self27 : PH → Nat → Int32 → Int32 → Int64 → Int32 → Option (Int64 × PH)} {h hz : PH} {r : Int64} {ce sl mc ms : Nat} {v0 : Nat} {v1 : Int32} {v2 : Int32} {v3 : Int64} {v5 : Int32} (hc : Cx M X RX10 cX10_fairest) (hr : Rx M 133 7716 mc ms 18) (he : Ex M X (some .long) "fairest" (some (.long r)) hz mc ms) (hm : ce ≤ mc) (hs : sl ≤ ms) (ih27 : ∀ (h : PH) (v0 : Nat) (v1 : Int32) (v2 : Int32) (v3 : Int64) (v5 : Int32), self27 h v0 v1 v2 v3 v5 = some (r, hz) → GG M X h ce sl 48 [(0, .ref (X.1 + v0)), (1, .int v1), (2, .int v2), (3, .long v3), (5, .int v5)] []) (hf : b_X10_fairest_95 F self27 h v0 v1 v2 v3 v5 = some (r, hz)) : GG M X h ce sl 95 [(0, .ref (X.1 + v0)), (1, .int v1), (2, .int v2), (3, .long v3), (5, .int v5)] [] := by
  unfold b_X10_fairest_95 at hf
  refine obv hf fun x1 e_x1 hf => ?_
  refine r_iinc 4 [(5, .int x1), (0, .ref (X.1 + v0)), (1, .int v1), (2, .int v2), (3, .long v3)] hc hr (dc_at dX10_fairest 56 rfl) rfl (by rw [e_x1]; rfl) (by decide) rfl ?_
  refine r_goto (tgt := 48) hc (dc_at dX10_fairest 57 rfl) (by decide) ?_
  exact gg_sub [1, 2, 3, 4, 0] rfl (ih27 _ _ _ _ _ _ hf)
def b_X10_fairest_235 (F : Nat) (self66 : PH → Nat → Int32 → Int32 → Int64 → Int64 → Int64 → Int64 → Int64 → Option (Int64 × PH)) (self72 : PH → Nat → Int32 → Int32 → Int64 → Int64 → Int64 → Int64 → Int64 → Int64 → Option (Int64 × PH)) (h : PH) (v0 : Nat) (v1 : Int32) (v2 : Int32) (v3 : Int64) (v5 : Int64) (v7 : Int64) (v9 : Int64) (v11 : Int64) (v13 : Int64) : Option (Int64 × PH) := bindv ((v13 + (1 : Int64))) fun x1 => (self72 h v0 v1 v2 v3 v5 v7 v9 v11 x1)
set_option maxRecDepth 20000 in
theorem t_X10_fairest_235 {M : MV} {X : XT} {F : Nat} {self66 : PH → Nat → Int32 → Int32 → Int64 → Int64 → Int64 → Int64 → Int64 → Option (Int64 × PH)} {self72 : PH → Nat → Int32 → Int32 → Int64 → Int64 → Int64 → Int64 → Int64 → Int64 → Option (Int64 × PH)} {h hz : PH} {r : Int64} {ce sl mc ms : Nat} {v0 : Nat} {v1 : Int32} {v2 : Int32} {v3 : Int64} {v5 : Int64} {v7 : Int64} {v9 : Int64} {v11 : Int64} {v13 : Int64} (hc : Cx M X RX10 cX10_fairest) (hr : Rx M 133 7716 mc ms 18) (he : Ex M X (some .long) "fairest" (some (.long r)) hz mc ms) (hm : ce ≤ mc) (hs : sl ≤ ms) (ih66 : ∀ (h : PH) (v0 : Nat) (v1 : Int32) (v2 : Int32) (v3 : Int64) (v5 : Int64) (v7 : Int64) (v9 : Int64) (v11 : Int64), self66 h v0 v1 v2 v3 v5 v7 v9 v11 = some (r, hz) → GG M X h ce sl 115 [(0, .ref (X.1 + v0)), (1, .int v1), (2, .int v2), (3, .long v3), (5, .long v5), (7, .long v7), (9, .long v9), (11, .long v11)] []) (ih72 : ∀ (h : PH) (v0 : Nat) (v1 : Int32) (v2 : Int32) (v3 : Int64) (v5 : Int64) (v7 : Int64) (v9 : Int64) (v11 : Int64) (v13 : Int64), self72 h v0 v1 v2 v3 v5 v7 v9 v11 v13 = some (r, hz) → GG M X h ce sl 127 [(0, .ref (X.1 + v0)), (1, .int v1), (2, .int v2), (3, .long v3), (5, .long v5), (7, .long v7), (9, .long v9), (11, .long v11), (13, .long v13)] []) (hf : b_X10_fairest_235 F self66 self72 h v0 v1 v2 v3 v5 v7 v9 v11 v13 = some (r, hz)) : GG M X h ce sl 235 [(0, .ref (X.1 + v0)), (1, .int v1), (2, .int v2), (3, .long v3), (5, .long v5), (7, .long v7), (9, .long v9), (11, .long v11), (13, .long v13)] [] := by
  unfold b_X10_fairest_235 at hf
  refine r_lload hc 8 (dc_at dX10_fairest 125 rfl) rfl ?_
  refine r_lconst (1 : Int64) hc (dc_at dX10_fairest 126 rfl) (by decide) ?_
  refine r_ladd hc (dc_at dX10_fairest 127 rfl) ?_
  refine r_nm (mk := Value.long) hf fun x1 hf => ?_
  refine r_lstore [(13, .long x1), (0, .ref (X.1 + v0)), (1, .int v1), (2, .int v2), (3, .long v3), (5, .long v5), (7, .long v7), (9, .long v9), (11, .long v11)] hc hr (dc_at dX10_fairest 128 rfl) (by decide) rfl ?_
  refine r_goto (tgt := 127) hc (dc_at dX10_fairest 129 rfl) (by decide) ?_
  exact gg_sub [1, 2, 3, 4, 5, 6, 7, 8, 0] rfl (ih72 _ _ _ _ _ _ _ _ _ _ hf)
def b_X10_fairest_223 (F : Nat) (self66 : PH → Nat → Int32 → Int32 → Int64 → Int64 → Int64 → Int64 → Int64 → Option (Int64 × PH)) (self72 : PH → Nat → Int32 → Int32 → Int64 → Int64 → Int64 → Int64 → Int64 → Int64 → Option (Int64 × PH)) (h : PH) (v0 : Nat) (v1 : Int32) (v2 : Int32) (v3 : Int64) (v11 : Int64) (v13 : Int64) (v15 : Int64) : Option (Int64 × PH) := b_X10_fairest_235 F self66 self72 h v0 v1 v2 v3 v13 v11 v15 v11 v13
set_option maxRecDepth 20000 in
theorem t_X10_fairest_223 {M : MV} {X : XT} {F : Nat} {self66 : PH → Nat → Int32 → Int32 → Int64 → Int64 → Int64 → Int64 → Int64 → Option (Int64 × PH)} {self72 : PH → Nat → Int32 → Int32 → Int64 → Int64 → Int64 → Int64 → Int64 → Int64 → Option (Int64 × PH)} {h hz : PH} {r : Int64} {ce sl mc ms : Nat} {v0 : Nat} {v1 : Int32} {v2 : Int32} {v3 : Int64} {v11 : Int64} {v13 : Int64} {v15 : Int64} (hc : Cx M X RX10 cX10_fairest) (hr : Rx M 133 7716 mc ms 18) (he : Ex M X (some .long) "fairest" (some (.long r)) hz mc ms) (hm : ce ≤ mc) (hs : sl ≤ ms) (ih66 : ∀ (h : PH) (v0 : Nat) (v1 : Int32) (v2 : Int32) (v3 : Int64) (v5 : Int64) (v7 : Int64) (v9 : Int64) (v11 : Int64), self66 h v0 v1 v2 v3 v5 v7 v9 v11 = some (r, hz) → GG M X h ce sl 115 [(0, .ref (X.1 + v0)), (1, .int v1), (2, .int v2), (3, .long v3), (5, .long v5), (7, .long v7), (9, .long v9), (11, .long v11)] []) (ih72 : ∀ (h : PH) (v0 : Nat) (v1 : Int32) (v2 : Int32) (v3 : Int64) (v5 : Int64) (v7 : Int64) (v9 : Int64) (v11 : Int64) (v13 : Int64), self72 h v0 v1 v2 v3 v5 v7 v9 v11 v13 = some (r, hz) → GG M X h ce sl 127 [(0, .ref (X.1 + v0)), (1, .int v1), (2, .int v2), (3, .long v3), (5, .long v5), (7, .long v7), (9, .long v9), (11, .long v11), (13, .long v13)] []) (hf : b_X10_fairest_223 F self66 self72 h v0 v1 v2 v3 v11 v13 v15 = some (r, hz)) : GG M X h ce sl 223 [(0, .ref (X.1 + v0)), (1, .int v1), (2, .int v2), (3, .long v3), (11, .long v11), (13, .long v13), (15, .long v15)] [] := by
  unfold b_X10_fairest_223 at hf
  refine r_lload hc 5 (dc_at dX10_fairest 119 rfl) rfl ?_
  refine r_lstore [(5, .long v13), (0, .ref (X.1 + v0)), (1, .int v1), (2, .int v2), (3, .long v3), (11, .long v11), (13, .long v13), (15, .long v15)] hc hr (dc_at dX10_fairest 120 rfl) (by decide) rfl ?_
  refine r_lload hc 5 (dc_at dX10_fairest 121 rfl) rfl ?_
  refine r_lstore [(7, .long v11), (5, .long v13), (0, .ref (X.1 + v0)), (1, .int v1), (2, .int v2), (3, .long v3), (11, .long v11), (13, .long v13), (15, .long v15)] hc hr (dc_at dX10_fairest 122 rfl) (by decide) rfl ?_
  refine r_lload hc 8 (dc_at dX10_fairest 123 rfl) rfl ?_
  refine r_lstore [(9, .long v15), (7, .long v11), (5, .long v13), (0, .ref (X.1 + v0)), (1, .int v1), (2, .int v2), (3, .long v3), (11, .long v11), (13, .long v13), (15, .long v15)] hc hr (dc_at dX10_fairest 124 rfl) (by decide) rfl ?_
  exact gg_sub [3, 4, 5, 6, 2, 1, 0, 7, 8] rfl (t_X10_fairest_235 hc hr he hm hs ih66 ih72 hf)
def b_X10_fairest_194 (F : Nat) (self66 : PH → Nat → Int32 → Int32 → Int64 → Int64 → Int64 → Int64 → Int64 → Option (Int64 × PH)) (self72 : PH → Nat → Int32 → Int32 → Int64 → Int64 → Int64 → Int64 → Int64 → Int64 → Option (Int64 × PH)) (h : PH) (v0 : Nat) (v1 : Int32) (v2 : Int32) (v3 : Int64) (v5 : Int64) (v7 : Int64) (v9 : Int64) (v11 : Int64) (v13 : Int64) (v15 : Int64) (s0 : Int32) : Option (Int64 × PH) := if 0 < s0 then (b_X10_fairest_235 F self66 self72 h v0 v1 v2 v3 v5 v7 v9 v11 v13) else (if s0 = 0 then ((m_X10_against v13 v11 v5 v7).bind fun x1 => (if x1 < 0 then (b_X10_fairest_223 F self66 self72 h v0 v1 v2 v3 v11 v13 v15) else (b_X10_fairest_235 F self66 self72 h v0 v1 v2 v3 v5 v7 v9 v11 v13))) else (b_X10_fairest_223 F self66 self72 h v0 v1 v2 v3 v11 v13 v15))
set_option maxRecDepth 20000 in
theorem t_X10_fairest_194 {M : MV} {X : XT} {F : Nat} {self66 : PH → Nat → Int32 → Int32 → Int64 → Int64 → Int64 → Int64 → Int64 → Option (Int64 × PH)} {self72 : PH → Nat → Int32 → Int32 → Int64 → Int64 → Int64 → Int64 → Int64 → Int64 → Option (Int64 × PH)} {h hz : PH} {r : Int64} {ce sl mc ms : Nat} {v0 : Nat} {v1 : Int32} {v2 : Int32} {v3 : Int64} {v5 : Int64} {v7 : Int64} {v9 : Int64} {v11 : Int64} {v13 : Int64} {v15 : Int64} {s0 : Int32} (hc : Cx M X RX10 cX10_fairest) (hr : Rx M 133 7716 mc ms 18) (he : Ex M X (some .long) "fairest" (some (.long r)) hz mc ms) (hm : ce ≤ mc) (hs : sl ≤ ms) (ih66 : ∀ (h : PH) (v0 : Nat) (v1 : Int32) (v2 : Int32) (v3 : Int64) (v5 : Int64) (v7 : Int64) (v9 : Int64) (v11 : Int64), self66 h v0 v1 v2 v3 v5 v7 v9 v11 = some (r, hz) → GG M X h ce sl 115 [(0, .ref (X.1 + v0)), (1, .int v1), (2, .int v2), (3, .long v3), (5, .long v5), (7, .long v7), (9, .long v9), (11, .long v11)] []) (ih72 : ∀ (h : PH) (v0 : Nat) (v1 : Int32) (v2 : Int32) (v3 : Int64) (v5 : Int64) (v7 : Int64) (v9 : Int64) (v11 : Int64) (v13 : Int64), self72 h v0 v1 v2 v3 v5 v7 v9 v11 v13 = some (r, hz) → GG M X h ce sl 127 [(0, .ref (X.1 + v0)), (1, .int v1), (2, .int v2), (3, .long v3), (5, .long v5), (7, .long v7), (9, .long v9), (11, .long v11), (13, .long v13)] []) (hf : b_X10_fairest_194 F self66 self72 h v0 v1 v2 v3 v5 v7 v9 v11 v13 v15 s0 = some (r, hz)) : GG M X h ce sl 194 [(0, .ref (X.1 + v0)), (1, .int v1), (2, .int v2), (3, .long v3), (5, .long v5), (7, .long v7), (9, .long v9), (11, .long v11), (13, .long v13), (15, .long v15)] [.int s0] := by
  unfold b_X10_fairest_194 at hf
  refine r_istore [(17, .int s0), (0, .ref (X.1 + v0)), (1, .int v1), (2, .int v2), (3, .long v3), (5, .long v5), (7, .long v7), (9, .long v9), (11, .long v11), (13, .long v13), (15, .long v15)] hc hr (dc_at dX10_fairest 107 rfl) (by decide) rfl ?_
  refine r_iload hc 0 (dc_at dX10_fairest 108 rfl) rfl ?_
  refine r_if_gt (tgt := 235) hc (dc_at dX10_fairest 109 rfl) (by decide) hf (fun hf => ?_) (fun hf => ?_)
  · exact gg_sub [1, 2, 3, 4, 5, 6, 7, 8, 9] rfl (t_X10_fairest_235 hc hr he hm hs ih66 ih72 hf)
  · refine r_iload hc 0 (dc_at dX10_fairest 110 rfl) rfl ?_
    refine r_if_ne (tgt := 223) hc (dc_at dX10_fairest 111 rfl) (by decide) hf (fun hf => ?_) (fun hf => ?_)
    · exact gg_sub [1, 2, 3, 4, 8, 9, 10] rfl (t_X10_fairest_223 hc hr he hm hs ih66 ih72 hf)
    · refine r_lload hc 9 (dc_at dX10_fairest 112 rfl) rfl ?_
      refine r_lload hc 8 (dc_at dX10_fairest 113 rfl) rfl ?_
      refine r_lload hc 5 (dc_at dX10_fairest 114 rfl) rfl ?_
      refine r_lload hc 6 (dc_at dX10_fairest 115 rfl) rfl ?_
      refine ob hf fun x1 ex hf => ?_
      refine r_callSi (As := [.long v13, .long v11, .long v5, .long v7]) hc hr (dc_at dX10_fairest 116 rfl) ml_X10_243 mv_X10_against st_X10_against rfl (mt_X10_against ex) (by first | exact Nat.le_of_ble_eq_true rfl | omega) (by first | exact Nat.le_of_ble_eq_true rfl | omega) (by first | exact Nat.le_of_ble_eq_true rfl | omega) hm hs ?_
      refine r_if_lt (tgt := 223) hc (dc_at dX10_fairest 117 rfl) (by decide) hf (fun hf => ?_) (fun hf => ?_)
      · exact gg_sub [1, 2, 3, 4, 8, 9, 10] rfl (t_X10_fairest_223 hc hr he hm hs ih66 ih72 hf)
      · refine r_goto (tgt := 235) hc (dc_at dX10_fairest 118 rfl) (by decide) ?_
        exact gg_sub [1, 2, 3, 4, 5, 6, 7, 8, 9] rfl (t_X10_fairest_235 hc hr he hm hs ih66 ih72 hf)
def b_X10_fairest_127 (F : Nat) (self66 : PH → Nat → Int32 → Int32 → Int64 → Int64 → Int64 → Int64 → Int64 → Option (Int64 × PH)) (self72 : PH → Nat → Int32 → Int32 → Int64 → Int64 → Int64 → Int64 → Int64 → Int64 → Option (Int64 × PH)) (h : PH) (v0 : Nat) (v1 : Int32) (v2 : Int32) (v3 : Int64) (v5 : Int64) (v7 : Int64) (v9 : Int64) (v11 : Int64) (v13 : Int64) : Option (Int64 × PH) := (gR 10 1 h v0).bind fun a1 => ((aI 0 h a1 (1 : Int32)).bind fun x2 => (if (((Int32.toInt64 x2) * v11)) < v13 then (bindv ((v11 + (1 : Int64))) fun x3 => (self66 h v0 v1 v2 v3 v5 v7 v9 x3)) else ((m_X10_common 130 v13 v11).bind fun x4 => (if x4 = (1 : Int64) then (cO 10 h v0 ((m_X10_farOf F h v0 v1 v13 v11 v3).bind fun x5 => (if v5 = (-1 : Int64) then (b_X10_fairest_194 F self66 self72 h v0 v1 v2 v3 v5 v7 v9 v11 v13 x5 (-1 : Int32)) else ((m_X10_against x5 v11 v9 v7).bind fun x6 => (b_X10_fairest_194 F self66 self72 h v0 v1 v2 v3 v5 v7 v9 v11 v13 x5 x6))))) else (b_X10_fairest_235 F self66 self72 h v0 v1 v2 v3 v5 v7 v9 v11 v13)))))
set_option maxRecDepth 20000 in
theorem tb_X10_fairest_127 {M : MV} {X : XT} {F : Nat} {self66 : PH → Nat → Int32 → Int32 → Int64 → Int64 → Int64 → Int64 → Int64 → Option (Int64 × PH)} {self72 : PH → Nat → Int32 → Int32 → Int64 → Int64 → Int64 → Int64 → Int64 → Int64 → Option (Int64 × PH)} {h hz : PH} {r : Int64} {ce sl mc ms : Nat} {v0 : Nat} {v1 : Int32} {v2 : Int32} {v3 : Int64} {v5 : Int64} {v7 : Int64} {v9 : Int64} {v11 : Int64} {v13 : Int64} (hc : Cx M X RX10 cX10_fairest) (hr : Rx M 133 7716 mc ms 18) (he : Ex M X (some .long) "fairest" (some (.long r)) hz mc ms) (hm : ce ≤ mc) (hs : sl ≤ ms) (ih66 : ∀ (h : PH) (v0 : Nat) (v1 : Int32) (v2 : Int32) (v3 : Int64) (v5 : Int64) (v7 : Int64) (v9 : Int64) (v11 : Int64), self66 h v0 v1 v2 v3 v5 v7 v9 v11 = some (r, hz) → GG M X h ce sl 115 [(0, .ref (X.1 + v0)), (1, .int v1), (2, .int v2), (3, .long v3), (5, .long v5), (7, .long v7), (9, .long v9), (11, .long v11)] []) (ih72 : ∀ (h : PH) (v0 : Nat) (v1 : Int32) (v2 : Int32) (v3 : Int64) (v5 : Int64) (v7 : Int64) (v9 : Int64) (v11 : Int64) (v13 : Int64), self72 h v0 v1 v2 v3 v5 v7 v9 v11 v13 = some (r, hz) → GG M X h ce sl 127 [(0, .ref (X.1 + v0)), (1, .int v1), (2, .int v2), (3, .long v3), (5, .long v5), (7, .long v7), (9, .long v9), (11, .long v11), (13, .long v13)] []) (hf : b_X10_fairest_127 F self66 self72 h v0 v1 v2 v3 v5 v7 v9 v11 v13 = some (r, hz)) : GG M X h ce sl 127 [(0, .ref (X.1 + v0)), (1, .int v1), (2, .int v2), (3, .long v3), (5, .long v5), (7, .long v7), (9, .long v9), (11, .long v11), (13, .long v13)] [] := by
  unfold b_X10_fairest_127 at hf
  refine r_lload hc 8 (dc_at dX10_fairest 72 rfl) rfl ?_
  refine r_aload_n hc 0 (dc_at dX10_fairest 73 rfl) rfl ?_
  refine r_getR hc (dc_at dX10_fairest 74 rfl) fl_X10_13 hf fun a1 hf => ?_
  refine r_iconst (1 : Int32) hc (dc_at dX10_fairest 75 rfl) (by decide) ?_
  refine r_iaload hc (dc_at dX10_fairest 76 rfl) hf fun x2 hf => ?_
  refine r_i2l hc (dc_at dX10_fairest 77 rfl) ?_
  refine r_lload hc 7 (dc_at dX10_fairest 78 rfl) rfl ?_
  refine r_lmul hc (dc_at dX10_fairest 79 rfl) ?_
  refine r_lcmp_gt (tgt := 244) hc (dc_at dX10_fairest 80 rfl) (dc_at dX10_fairest 81 rfl) (by decide) hf (fun hf => ?_) (fun hf => ?_)
  · refine r_lload hc 7 (dc_at dX10_fairest 130 rfl) rfl ?_
    refine r_lconst (1 : Int64) hc (dc_at dX10_fairest 131 rfl) (by decide) ?_
    refine r_ladd hc (dc_at dX10_fairest 132 rfl) ?_
    refine r_nm (mk := Value.long) hf fun x3 hf => ?_
    refine r_lstore [(11, .long x3), (0, .ref (X.1 + v0)), (1, .int v1), (2, .int v2), (3, .long v3), (5, .long v5), (7, .long v7), (9, .long v9), (13, .long v13)] hc hr (dc_at dX10_fairest 133 rfl) (by decide) rfl ?_
    refine r_goto (tgt := 115) hc (dc_at dX10_fairest 134 rfl) (by decide) ?_
    exact gg_sub [1, 2, 3, 4, 5, 6, 7, 0] rfl (ih66 _ _ _ _ _ _ _ _ _ hf)
  · refine r_lload hc 8 (dc_at dX10_fairest 82 rfl) rfl ?_
    refine r_lload hc 7 (dc_at dX10_fairest 83 rfl) rfl ?_
    refine ob hf fun x4 ex hf => ?_
    refine r_callSl (As := [.long v13, .long v11]) hc hr (dc_at dX10_fairest 84 rfl) ml_X10_176 mv_X10_common st_X10_common rfl (mt_X10_common ex) (by first | exact Nat.le_of_ble_eq_true rfl | omega) (by first | exact Nat.le_of_ble_eq_true rfl | omega) (by first | exact Nat.le_of_ble_eq_true rfl | omega) hm hs ?_
    refine r_lconst (1 : Int64) hc (dc_at dX10_fairest 85 rfl) (by decide) ?_
    refine r_lcmp_eq (tgt := 158) hc (dc_at dX10_fairest 86 rfl) (dc_at dX10_fairest 87 rfl) (by decide) hf (fun hf => ?_) (fun hf => ?_)
    · refine r_aload_n hc 0 (dc_at dX10_fairest 89 rfl) rfl ?_
      refine r_iload_n hc 1 (dc_at dX10_fairest 90 rfl) rfl ?_
      refine r_lload hc 8 (dc_at dX10_fairest 91 rfl) rfl ?_
      refine r_lload hc 7 (dc_at dX10_fairest 92 rfl) rfl ?_
      refine r_lload_n hc 3 (dc_at dX10_fairest 93 rfl) rfl ?_
      obtain ⟨ho, hf⟩ := cO_some hf
      refine ob hf fun x5 ex hf => ?_
      refine r_callVl (As := [.int v1, .long v13, .long v11, .long v3]) (ci := 10) hc hr (dc_at dX10_fairest 94 rfl) ml_X10_456 mv_X10_farOf vi_X10_farOf rfl ho rfl (mt_X10_farOf ex) (by first | exact Nat.le_of_ble_eq_true rfl | omega) (by first | exact Nat.le_of_ble_eq_true rfl | omega) (by first | exact Nat.le_of_ble_eq_true rfl | omega) hm hs ?_
      refine r_lstore [(15, .long x5), (0, .ref (X.1 + v0)), (1, .int v1), (2, .int v2), (3, .long v3), (5, .long v5), (7, .long v7), (9, .long v9), (11, .long v11), (13, .long v13)] hc hr (dc_at dX10_fairest 95 rfl) (by decide) rfl ?_
      refine r_lload hc 5 (dc_at dX10_fairest 96 rfl) rfl ?_
      refine r_ldc2 hc (dc_at dX10_fairest 97 rfl) cl2_X10_334 ?_
      refine r_lcmp_ne (tgt := 183) hc (dc_at dX10_fairest 98 rfl) (dc_at dX10_fairest 99 rfl) (by decide) hf (fun hf => ?_) (fun hf => ?_)
      · refine r_lload hc 0 (dc_at dX10_fairest 102 rfl) rfl ?_
        refine r_lload hc 8 (dc_at dX10_fairest 103 rfl) rfl ?_
        refine r_lload hc 7 (dc_at dX10_fairest 104 rfl) rfl ?_
        refine r_lload hc 6 (dc_at dX10_fairest 105 rfl) rfl ?_
        refine ob hf fun x6 ex hf => ?_
        refine r_callSi (As := [.long x5, .long v11, .long v9, .long v7]) hc hr (dc_at dX10_fairest 106 rfl) ml_X10_243 mv_X10_against st_X10_against rfl (mt_X10_against ex) (by first | exact Nat.le_of_ble_eq_true rfl | omega) (by first | exact Nat.le_of_ble_eq_true rfl | omega) (by first | exact Nat.le_of_ble_eq_true rfl | omega) hm hs ?_
        exact gg_sub [1, 2, 3, 4, 5, 6, 7, 8, 9, 0] rfl (t_X10_fairest_194 hc hr he hm hs ih66 ih72 hf)
      · refine r_iconst (-1 : Int32) hc (dc_at dX10_fairest 100 rfl) (by decide) ?_
        refine r_goto (tgt := 194) hc (dc_at dX10_fairest 101 rfl) (by decide) ?_
        exact gg_sub [1, 2, 3, 4, 5, 6, 7, 8, 9, 0] rfl (t_X10_fairest_194 hc hr he hm hs ih66 ih72 hf)
    · refine r_goto (tgt := 235) hc (dc_at dX10_fairest 88 rfl) (by decide) ?_
      exact gg_sub [0, 1, 2, 3, 4, 5, 6, 7, 8] rfl (t_X10_fairest_235 hc hr he hm hs ih66 ih72 hf)
def l_X10_fairest_127 (F : Nat) (self66 : PH → Nat → Int32 → Int32 → Int64 → Int64 → Int64 → Int64 → Int64 → Option (Int64 × PH)) : Nat → PH → Nat → Int32 → Int32 → Int64 → Int64 → Int64 → Int64 → Int64 → Int64 → Option (Int64 × PH)
  | 0 => fun _ _ _ _ _ _ _ _ _ _ => none
  | n + 1 => fun h v0 v1 v2 v3 v5 v7 v9 v11 v13 => b_X10_fairest_127 F self66 (l_X10_fairest_127 F self66 n) h v0 v1 v2 v3 v5 v7 v9 v11 v13
theorem tl_X10_fairest_127 {M : MV} {X : XT} {F : Nat} {self66 : PH → Nat → Int32 → Int32 → Int64 → Int64 → Int64 → Int64 → Int64 → Option (Int64 × PH)} {hz : PH} {r : Int64} {ce sl mc ms : Nat} (hc : Cx M X RX10 cX10_fairest) (hr : Rx M 133 7716 mc ms 18) (he : Ex M X (some .long) "fairest" (some (.long r)) hz mc ms) (hm : ce ≤ mc) (hs : sl ≤ ms) (ih66 : ∀ (h : PH) (v0 : Nat) (v1 : Int32) (v2 : Int32) (v3 : Int64) (v5 : Int64) (v7 : Int64) (v9 : Int64) (v11 : Int64), self66 h v0 v1 v2 v3 v5 v7 v9 v11 = some (r, hz) → GG M X h ce sl 115 [(0, .ref (X.1 + v0)), (1, .int v1), (2, .int v2), (3, .long v3), (5, .long v5), (7, .long v7), (9, .long v9), (11, .long v11)] []) (n : Nat) : ∀ (h : PH) (v0 : Nat) (v1 : Int32) (v2 : Int32) (v3 : Int64) (v5 : Int64) (v7 : Int64) (v9 : Int64) (v11 : Int64) (v13 : Int64), l_X10_fairest_127 F self66 n h v0 v1 v2 v3 v5 v7 v9 v11 v13 = some (r, hz) → GG M X h ce sl 127 [(0, .ref (X.1 + v0)), (1, .int v1), (2, .int v2), (3, .long v3), (5, .long v5), (7, .long v7), (9, .long v9), (11, .long v11), (13, .long v13)] [] := by
  induction n with
  | zero => intro h v0 v1 v2 v3 v5 v7 v9 v11 v13 hf; cases hf
  | succ n ih => intro h v0 v1 v2 v3 v5 v7 v9 v11 v13 hf; exact tb_X10_fairest_127 (F := F) hc hr he hm hs ih66 ih hf
def b_X10_fairest_115 (F : Nat) (self66 : PH → Nat → Int32 → Int32 → Int64 → Int64 → Int64 → Int64 → Int64 → Option (Int64 × PH)) (h : PH) (v0 : Nat) (v1 : Int32) (v2 : Int32) (v3 : Int64) (v5 : Int64) (v7 : Int64) (v9 : Int64) (v11 : Int64) : Option (Int64 × PH) := if (12 : Int64) < v11 then (if (2 : Int32) ≤ v2 then (cO 10 h v0 (bind2 (m_X10_lays h v0 v9 (v7 * v3)) fun _ h2 => (if v2 = (2 : Int32) then ((gL 10 15 h2 v0).bind fun x4 => (some (x4, h2))) else ((gL 10 16 h2 v0).bind fun x3 => (some (x3, h2)))))) else (if v2 = 0 then (some (v5, h)) else (some (v7, h)))) else (l_X10_fairest_127 F self66 F h v0 v1 v2 v3 v5 v7 v9 v11 (0 : Int64))
set_option maxRecDepth 20000 in
theorem tb_X10_fairest_115 {M : MV} {X : XT} {F : Nat} {self66 : PH → Nat → Int32 → Int32 → Int64 → Int64 → Int64 → Int64 → Int64 → Option (Int64 × PH)} {h hz : PH} {r : Int64} {ce sl mc ms : Nat} {v0 : Nat} {v1 : Int32} {v2 : Int32} {v3 : Int64} {v5 : Int64} {v7 : Int64} {v9 : Int64} {v11 : Int64} (hc : Cx M X RX10 cX10_fairest) (hr : Rx M 133 7716 mc ms 18) (he : Ex M X (some .long) "fairest" (some (.long r)) hz mc ms) (hm : ce ≤ mc) (hs : sl ≤ ms) (ih66 : ∀ (h : PH) (v0 : Nat) (v1 : Int32) (v2 : Int32) (v3 : Int64) (v5 : Int64) (v7 : Int64) (v9 : Int64) (v11 : Int64), self66 h v0 v1 v2 v3 v5 v7 v9 v11 = some (r, hz) → GG M X h ce sl 115 [(0, .ref (X.1 + v0)), (1, .int v1), (2, .int v2), (3, .long v3), (5, .long v5), (7, .long v7), (9, .long v9), (11, .long v11)] []) (hf : b_X10_fairest_115 F self66 h v0 v1 v2 v3 v5 v7 v9 v11 = some (r, hz)) : GG M X h ce sl 115 [(0, .ref (X.1 + v0)), (1, .int v1), (2, .int v2), (3, .long v3), (5, .long v5), (7, .long v7), (9, .long v9), (11, .long v11)] [] := by
  unfold b_X10_fairest_115 at hf
  refine r_lload hc 7 (dc_at dX10_fairest 66 rfl) rfl ?_
  refine r_ldc2 hc (dc_at dX10_fairest 67 rfl) cl2_X10_288 ?_
  refine r_lcmp_gt (tgt := 253) hc (dc_at dX10_fairest 68 rfl) (dc_at dX10_fairest 69 rfl) (by decide) hf (fun hf => ?_) (fun hf => ?_)
  · refine r_iload_n hc 2 (dc_at dX10_fairest 135 rfl) rfl ?_
    refine r_iconst (2 : Int32) hc (dc_at dX10_fairest 136 rfl) (by decide) ?_
    refine r_icmp_ge (tgt := 270) hc (dc_at dX10_fairest 137 rfl) (by decide) hf (fun hf => ?_) (fun hf => ?_)
    · refine r_aload_n hc 0 (dc_at dX10_fairest 144 rfl) rfl ?_
      refine r_lload hc 6 (dc_at dX10_fairest 145 rfl) rfl ?_
      refine r_lload hc 5 (dc_at dX10_fairest 146 rfl) rfl ?_
      refine r_lload_n hc 3 (dc_at dX10_fairest 147 rfl) rfl ?_
      refine r_lmul hc (dc_at dX10_fairest 148 rfl) ?_
      obtain ⟨ho, hf⟩ := cO_some hf
      refine ob2 hf fun u h2 ex hf => ?_
      refine r_callVv (As := [.long v9, .long ((v7 * v3))]) (ci := 10) hc hr (dc_at dX10_fairest 149 rfl) ml_X10_194 mv_X10_lays vi_X10_lays rfl ho rfl (mt_X10_lays ex) (by first | exact Nat.le_of_ble_eq_true rfl | omega) (by first | exact Nat.le_of_ble_eq_true rfl | omega) (by first | exact Nat.le_of_ble_eq_true rfl | omega) hm hs ?_
      refine r_iload_n hc 2 (dc_at dX10_fairest 150 rfl) rfl ?_
      refine r_iconst (2 : Int32) hc (dc_at dX10_fairest 151 rfl) (by decide) ?_
      refine r_icmp_ne (tgt := 292) hc (dc_at dX10_fairest 152 rfl) (by decide) hf (fun hf => ?_) (fun hf => ?_)
      · refine r_aload_n hc 0 (dc_at dX10_fairest 156 rfl) rfl ?_
        refine r_getL hc (dc_at dX10_fairest 157 rfl) fl_X10_184 hf fun x3 hf => ?_
        exact r_lret hc he (hm) (hs) (dc_at dX10_fairest 158 rfl) hf
      · refine r_aload_n hc 0 (dc_at dX10_fairest 153 rfl) rfl ?_
        refine r_getL hc (dc_at dX10_fairest 154 rfl) fl_X10_180 hf fun x4 hf => ?_
        refine r_goto (tgt := 296) hc (dc_at dX10_fairest 155 rfl) (by decide) ?_
        exact r_lret hc he (hm) (hs) (dc_at dX10_fairest 158 rfl) hf
    · refine r_iload_n hc 2 (dc_at dX10_fairest 138 rfl) rfl ?_
      refine r_if_ne (tgt := 267) hc (dc_at dX10_fairest 139 rfl) (by decide) hf (fun hf => ?_) (fun hf => ?_)
      · refine r_lload hc 5 (dc_at dX10_fairest 142 rfl) rfl ?_
        exact r_lret hc he (hm) (hs) (dc_at dX10_fairest 143 rfl) hf
      · refine r_lload hc 4 (dc_at dX10_fairest 140 rfl) rfl ?_
        refine r_goto (tgt := 269) hc (dc_at dX10_fairest 141 rfl) (by decide) ?_
        exact r_lret hc he (hm) (hs) (dc_at dX10_fairest 143 rfl) hf
  · refine r_lconst (0 : Int64) hc (dc_at dX10_fairest 70 rfl) (by decide) ?_
    refine r_lstore [(13, .long ((0 : Int64))), (0, .ref (X.1 + v0)), (1, .int v1), (2, .int v2), (3, .long v3), (5, .long v5), (7, .long v7), (9, .long v9), (11, .long v11)] hc hr (dc_at dX10_fairest 71 rfl) (by decide) rfl ?_
    exact gg_sub [1, 2, 3, 4, 5, 6, 7, 8, 0] rfl (tl_X10_fairest_127 hc hr he hm hs ih66 F _ _ _ _ _ _ _ _ _ _ hf)
def l_X10_fairest_115 (F : Nat) : Nat → PH → Nat → Int32 → Int32 → Int64 → Int64 → Int64 → Int64 → Int64 → Option (Int64 × PH)
  | 0 => fun _ _ _ _ _ _ _ _ _ => none
  | n + 1 => fun h v0 v1 v2 v3 v5 v7 v9 v11 => b_X10_fairest_115 F (l_X10_fairest_115 F n) h v0 v1 v2 v3 v5 v7 v9 v11
theorem tl_X10_fairest_115 {M : MV} {X : XT} {F : Nat} {hz : PH} {r : Int64} {ce sl mc ms : Nat} (hc : Cx M X RX10 cX10_fairest) (hr : Rx M 133 7716 mc ms 18) (he : Ex M X (some .long) "fairest" (some (.long r)) hz mc ms) (hm : ce ≤ mc) (hs : sl ≤ ms) (n : Nat) : ∀ (h : PH) (v0 : Nat) (v1 : Int32) (v2 : Int32) (v3 : Int64) (v5 : Int64) (v7 : Int64) (v9 : Int64) (v11 : Int64), l_X10_fairest_115 F n h v0 v1 v2 v3 v5 v7 v9 v11 = some (r, hz) → GG M X h ce sl 115 [(0, .ref (X.1 + v0)), (1, .int v1), (2, .int v2), (3, .long v3), (5, .long v5), (7, .long v7), (9, .long v9), (11, .long v11)] [] := by
  induction n with
  | zero => intro h v0 v1 v2 v3 v5 v7 v9 v11 hf; cases hf
  | succ n ih => intro h v0 v1 v2 v3 v5 v7 v9 v11 hf; exact tb_X10_fairest_115 (F := F) hc hr he hm hs  ih hf
def b_X10_fairest_48 (F : Nat) (self27 : PH → Nat → Int32 → Int32 → Int64 → Int32 → Option (Int64 × PH)) (h : PH) (v0 : Nat) (v1 : Int32) (v2 : Int32) (v3 : Int64) (v5 : Int32) : Option (Int64 × PH) := (gR 10 1 h v0).bind fun a1 => ((aI 0 h a1 (4 : Int32)).bind fun x2 => (if x2 ≤ v5 then (l_X10_fairest_115 F F h v0 v1 v2 v3 (-1 : Int64) (1 : Int64) (0 : Int64) (1 : Int64)) else (if v5 = v1 then (b_X10_fairest_95 F self27 h v0 v1 v2 v3 v5) else ((gR 10 1 h v0).bind fun a3 => ((aI 0 h a3 (((55 : Int32) + v5))).bind fun x4 => ((m_X10_common 130 v3 (Int32.toInt64 x4)).bind fun x5 => (if x5 = 0 then none else ((gR 10 1 h v0).bind fun a6 => ((aI 0 h a6 (((55 : Int32) + v5))).bind fun x7 => (bindv (((v3 / x5) * (Int32.toInt64 x7))) fun x8 => (b_X10_fairest_95 F self27 h v0 v1 v2 x8 v5)))))))))))
set_option maxRecDepth 20000 in
theorem tb_X10_fairest_48 {M : MV} {X : XT} {F : Nat} {self27 : PH → Nat → Int32 → Int32 → Int64 → Int32 → Option (Int64 × PH)} {h hz : PH} {r : Int64} {ce sl mc ms : Nat} {v0 : Nat} {v1 : Int32} {v2 : Int32} {v3 : Int64} {v5 : Int32} (hc : Cx M X RX10 cX10_fairest) (hr : Rx M 133 7716 mc ms 18) (he : Ex M X (some .long) "fairest" (some (.long r)) hz mc ms) (hm : ce ≤ mc) (hs : sl ≤ ms) (ih27 : ∀ (h : PH) (v0 : Nat) (v1 : Int32) (v2 : Int32) (v3 : Int64) (v5 : Int32), self27 h v0 v1 v2 v3 v5 = some (r, hz) → GG M X h ce sl 48 [(0, .ref (X.1 + v0)), (1, .int v1), (2, .int v2), (3, .long v3), (5, .int v5)] []) (hf : b_X10_fairest_48 F self27 h v0 v1 v2 v3 v5 = some (r, hz)) : GG M X h ce sl 48 [(0, .ref (X.1 + v0)), (1, .int v1), (2, .int v2), (3, .long v3), (5, .int v5)] [] := by
  unfold b_X10_fairest_48 at hf
  refine r_iload hc 4 (dc_at dX10_fairest 27 rfl) rfl ?_
  refine r_aload_n hc 0 (dc_at dX10_fairest 28 rfl) rfl ?_
  refine r_getR hc (dc_at dX10_fairest 29 rfl) fl_X10_13 hf fun a1 hf => ?_
  refine r_iconst (4 : Int32) hc (dc_at dX10_fairest 30 rfl) (by decide) ?_
  refine r_iaload hc (dc_at dX10_fairest 31 rfl) hf fun x2 hf => ?_
  refine r_icmp_ge (tgt := 101) hc (dc_at dX10_fairest 32 rfl) (by decide) hf (fun hf => ?_) (fun hf => ?_)
  · refine r_ldc2 hc (dc_at dX10_fairest 58 rfl) cl2_X10_334 ?_
    refine r_lstore [(5, .long ((-1 : Int64))), (0, .ref (X.1 + v0)), (1, .int v1), (2, .int v2), (3, .long v3)] hc hr (dc_at dX10_fairest 59 rfl) (by decide) rfl ?_
    refine r_lconst (1 : Int64) hc (dc_at dX10_fairest 60 rfl) (by decide) ?_
    refine r_lstore [(7, .long ((1 : Int64))), (5, .long ((-1 : Int64))), (0, .ref (X.1 + v0)), (1, .int v1), (2, .int v2), (3, .long v3)] hc hr (dc_at dX10_fairest 61 rfl) (by decide) rfl ?_
    refine r_lconst (0 : Int64) hc (dc_at dX10_fairest 62 rfl) (by decide) ?_
    refine r_lstore [(9, .long ((0 : Int64))), (7, .long ((1 : Int64))), (5, .long ((-1 : Int64))), (0, .ref (X.1 + v0)), (1, .int v1), (2, .int v2), (3, .long v3)] hc hr (dc_at dX10_fairest 63 rfl) (by decide) rfl ?_
    refine r_lconst (1 : Int64) hc (dc_at dX10_fairest 64 rfl) (by decide) ?_
    refine r_lstore [(11, .long ((1 : Int64))), (9, .long ((0 : Int64))), (7, .long ((1 : Int64))), (5, .long ((-1 : Int64))), (0, .ref (X.1 + v0)), (1, .int v1), (2, .int v2), (3, .long v3)] hc hr (dc_at dX10_fairest 65 rfl) (by decide) rfl ?_
    exact gg_sub [4, 5, 6, 7, 3, 2, 1, 0] rfl (tl_X10_fairest_115 hc hr he hm hs  F _ _ _ _ _ _ _ _ _ hf)
  · refine r_iload hc 4 (dc_at dX10_fairest 33 rfl) rfl ?_
    refine r_iload_n hc 1 (dc_at dX10_fairest 34 rfl) rfl ?_
    refine r_icmp_eq (tgt := 95) hc (dc_at dX10_fairest 35 rfl) (by decide) hf (fun hf => ?_) (fun hf => ?_)
    · exact gg_sub [0, 1, 2, 3, 4] rfl (t_X10_fairest_95 hc hr he hm hs ih27 hf)
    · refine r_lload_n hc 3 (dc_at dX10_fairest 36 rfl) rfl ?_
      refine r_lload_n hc 3 (dc_at dX10_fairest 37 rfl) rfl ?_
      refine r_aload_n hc 0 (dc_at dX10_fairest 38 rfl) rfl ?_
      refine r_getR hc (dc_at dX10_fairest 39 rfl) fl_X10_13 hf fun a3 hf => ?_
      refine r_bipush (55 : Int32) hc (dc_at dX10_fairest 40 rfl) (by decide) ?_
      refine r_iload hc 4 (dc_at dX10_fairest 41 rfl) rfl ?_
      refine r_iadd hc (dc_at dX10_fairest 42 rfl) ?_
      refine r_iaload hc (dc_at dX10_fairest 43 rfl) hf fun x4 hf => ?_
      refine r_i2l hc (dc_at dX10_fairest 44 rfl) ?_
      refine ob hf fun x5 ex hf => ?_
      refine r_callSl (As := [.long v3, .long ((Int32.toInt64 x4))]) hc hr (dc_at dX10_fairest 45 rfl) ml_X10_176 mv_X10_common st_X10_common rfl (mt_X10_common ex) (by first | exact Nat.le_of_ble_eq_true rfl | omega) (by first | exact Nat.le_of_ble_eq_true rfl | omega) (by first | exact Nat.le_of_ble_eq_true rfl | omega) hm hs ?_
      refine r_ldiv hc (dc_at dX10_fairest 46 rfl) hf (fun hf => ?_)
      refine r_aload_n hc 0 (dc_at dX10_fairest 47 rfl) rfl ?_
      refine r_getR hc (dc_at dX10_fairest 48 rfl) fl_X10_13 hf fun a6 hf => ?_
      refine r_bipush (55 : Int32) hc (dc_at dX10_fairest 49 rfl) (by decide) ?_
      refine r_iload hc 4 (dc_at dX10_fairest 50 rfl) rfl ?_
      refine r_iadd hc (dc_at dX10_fairest 51 rfl) ?_
      refine r_iaload hc (dc_at dX10_fairest 52 rfl) hf fun x7 hf => ?_
      refine r_i2l hc (dc_at dX10_fairest 53 rfl) ?_
      refine r_lmul hc (dc_at dX10_fairest 54 rfl) ?_
      refine r_nm (mk := Value.long) hf fun x8 hf => ?_
      refine r_lstore_n [(3, .long x8), (0, .ref (X.1 + v0)), (1, .int v1), (2, .int v2), (5, .int v5)] hc hr (dc_at dX10_fairest 55 rfl) (by decide) rfl ?_
      exact gg_sub [1, 2, 3, 0, 4] rfl (t_X10_fairest_95 hc hr he hm hs ih27 hf)
def l_X10_fairest_48 (F : Nat) : Nat → PH → Nat → Int32 → Int32 → Int64 → Int32 → Option (Int64 × PH)
  | 0 => fun _ _ _ _ _ _ => none
  | n + 1 => fun h v0 v1 v2 v3 v5 => b_X10_fairest_48 F (l_X10_fairest_48 F n) h v0 v1 v2 v3 v5
theorem tl_X10_fairest_48 {M : MV} {X : XT} {F : Nat} {hz : PH} {r : Int64} {ce sl mc ms : Nat} (hc : Cx M X RX10 cX10_fairest) (hr : Rx M 133 7716 mc ms 18) (he : Ex M X (some .long) "fairest" (some (.long r)) hz mc ms) (hm : ce ≤ mc) (hs : sl ≤ ms) (n : Nat) : ∀ (h : PH) (v0 : Nat) (v1 : Int32) (v2 : Int32) (v3 : Int64) (v5 : Int32), l_X10_fairest_48 F n h v0 v1 v2 v3 v5 = some (r, hz) → GG M X h ce sl 48 [(0, .ref (X.1 + v0)), (1, .int v1), (2, .int v2), (3, .long v3), (5, .int v5)] [] := by
  induction n with
  | zero => intro h v0 v1 v2 v3 v5 hf; cases hf
  | succ n ih => intro h v0 v1 v2 v3 v5 hf; exact tb_X10_fairest_48 (F := F) hc hr he hm hs  ih hf
def b_X10_fairest_0 (F : Nat) (h : PH) (v0 : Nat) (v1 : Int32) (v2 : Int32) : Option (Int64 × PH) := (pV 10 0 (.int (0 : Int32)) h v0).bind fun h1 => (cO 10 h1 v0 ((m_X10_isTenant h1 v0 v1).bind fun x2 => (if x2 = 0 then (some ((-2 : Int64), h1)) else ((m_X10_within (Int32.toInt64 v2) (0 : Int64) (3 : Int64)).bind fun x3 => (if x3 = 0 then (some ((-2 : Int64), h1)) else ((gR 10 1 h1 v0).bind fun a4 => ((aI 0 h1 a4 (4 : Int32)).bind fun x5 => (if x5 = (1 : Int32) then (some ((-1 : Int64), h1)) else (l_X10_fairest_48 F F h1 v0 v1 v2 (1 : Int64) (0 : Int32))))))))))
set_option maxRecDepth 20000 in
theorem t_X10_fairest_0 {M : MV} {X : XT} {F : Nat} {h hz : PH} {r : Int64} {ce sl mc ms : Nat} {v0 : Nat} {v1 : Int32} {v2 : Int32} (hc : Cx M X RX10 cX10_fairest) (hr : Rx M 133 7716 mc ms 18) (he : Ex M X (some .long) "fairest" (some (.long r)) hz mc ms) (hm : ce ≤ mc) (hs : sl ≤ ms) (hf : b_X10_fairest_0 F h v0 v1 v2 = some (r, hz)) : GG M X h ce sl 0 [(0, .ref (X.1 + v0)), (1, .int v1), (2, .int v2)] [] := by
  unfold b_X10_fairest_0 at hf
  refine r_aload_n hc 0 (dc_at dX10_fairest 0 rfl) rfl ?_
  refine r_iconst (0 : Int32) hc (dc_at dX10_fairest 1 rfl) (by decide) ?_
  refine r_putI hc he (dc_at dX10_fairest 2 rfl) fp_X10_1 (fun q => by cases q) hf fun h1 hf => ?_
  refine r_aload_n hc 0 (dc_at dX10_fairest 3 rfl) rfl ?_
  refine r_iload_n hc 1 (dc_at dX10_fairest 4 rfl) rfl ?_
  obtain ⟨ho, hf⟩ := cO_some hf
  refine ob hf fun x2 ex hf => ?_
  refine r_callVi (As := [.int v1]) (ci := 10) hc hr (dc_at dX10_fairest 5 rfl) ml_X10_254 mv_X10_isTenant vi_X10_isTenant rfl ho rfl (mt_X10_isTenant ex) (by first | exact Nat.le_of_ble_eq_true rfl | omega) (by first | exact Nat.le_of_ble_eq_true rfl | omega) (by first | exact Nat.le_of_ble_eq_true rfl | omega) hm hs ?_
  refine r_if_eq (tgt := 25) hc (dc_at dX10_fairest 6 rfl) (by decide) hf (fun hf => ?_) (fun hf => ?_)
  · refine r_ldc2 hc (dc_at dX10_fairest 13 rfl) cl2_X10_320 ?_
    exact r_lret hc he (hm) (hs) (dc_at dX10_fairest 14 rfl) hf
  · refine r_iload_n hc 2 (dc_at dX10_fairest 7 rfl) rfl ?_
    refine r_i2l hc (dc_at dX10_fairest 8 rfl) ?_
    refine r_lconst (0 : Int64) hc (dc_at dX10_fairest 9 rfl) (by decide) ?_
    refine r_ldc2 hc (dc_at dX10_fairest 10 rfl) cl2_X10_290 ?_
    refine ob hf fun x3 ex hf => ?_
    refine r_callSi (As := [.long ((Int32.toInt64 v2)), .long ((0 : Int64)), .long ((3 : Int64))]) hc hr (dc_at dX10_fairest 11 rfl) ml_X10_172 mv_X10_within st_X10_within rfl (mt_X10_within ex) (by first | exact Nat.le_of_ble_eq_true rfl | omega) (by first | exact Nat.le_of_ble_eq_true rfl | omega) (by first | exact Nat.le_of_ble_eq_true rfl | omega) hm hs ?_
    refine r_if_ne (tgt := 29) hc (dc_at dX10_fairest 12 rfl) (by decide) hf (fun hf => ?_) (fun hf => ?_)
    · refine r_aload_n hc 0 (dc_at dX10_fairest 15 rfl) rfl ?_
      refine r_getR hc (dc_at dX10_fairest 16 rfl) fl_X10_13 hf fun a4 hf => ?_
      refine r_iconst (4 : Int32) hc (dc_at dX10_fairest 17 rfl) (by decide) ?_
      refine r_iaload hc (dc_at dX10_fairest 18 rfl) hf fun x5 hf => ?_
      refine r_iconst (1 : Int32) hc (dc_at dX10_fairest 19 rfl) (by decide) ?_
      refine r_icmp_ne (tgt := 43) hc (dc_at dX10_fairest 20 rfl) (by decide) hf (fun hf => ?_) (fun hf => ?_)
      · refine r_lconst (1 : Int64) hc (dc_at dX10_fairest 23 rfl) (by decide) ?_
        refine r_lstore_n [(3, .long ((1 : Int64))), (0, .ref (X.1 + v0)), (1, .int v1), (2, .int v2)] hc hr (dc_at dX10_fairest 24 rfl) (by decide) rfl ?_
        refine r_iconst (0 : Int32) hc (dc_at dX10_fairest 25 rfl) (by decide) ?_
        refine r_istore [(5, .int ((0 : Int32))), (3, .long ((1 : Int64))), (0, .ref (X.1 + v0)), (1, .int v1), (2, .int v2)] hc hr (dc_at dX10_fairest 26 rfl) (by decide) rfl ?_
        exact gg_sub [2, 3, 4, 1, 0] rfl (tl_X10_fairest_48 hc hr he hm hs  F _ _ _ _ _ _ hf)
      · refine r_ldc2 hc (dc_at dX10_fairest 21 rfl) cl2_X10_334 ?_
        exact r_lret hc he (hm) (hs) (dc_at dX10_fairest 22 rfl) hf
    · refine r_ldc2 hc (dc_at dX10_fairest 13 rfl) cl2_X10_320 ?_
      exact r_lret hc he (hm) (hs) (dc_at dX10_fairest 14 rfl) hf
def m_X10_fairest (F : Nat) (h : PH) (p0 : Nat) (p1 : Int32) (p2 : Int32) : Option (Int64 × PH) := b_X10_fairest_0 F h p0 p1 p2
theorem mt_X10_fairest {l : Launch} {X : XT} {F : Nat} {h hz : PH} {p0 : Nat} {p1 : Int32} {p2 : Int32} {r : Int64} (ex : m_X10_fairest F h p0 p1 p2 = some (r, hz)) : MT l X yX10_fairest cX10_fairest 18 (some .long) 133 7716 0 0 [.ref (X.1 + p0), .int p1, .int p2] h (some (.long r)) hz := MT.of (by decide) (Nat.le_of_ble_eq_true rfl) fun M hl hc hr he => by
  subst hl
  exact gg_sub [0, 1, 2] rfl (t_X10_fairest_0  hc hr he (Nat.zero_le _) (Nat.zero_le _) ex)
/-! FractionLiftModel.richest()I -/
def lX10_richestL : List (Nat × Instr × Nat × Nat) := [(0, .aload_n 0, 1, 1), (1, .iconst 0, 1, 2), (2, .putfield 1, 3, 5), (5, .iconst (-1), 1, 6), (6, .istore_n 1, 1, 7), (7, .lconst 0, 1, 8), (8, .lstore_n 2, 1, 9), (9, .lconst 1, 1, 10), (10, .lstore 4, 2, 12), (12, .iconst 0, 1, 13), (13, .istore 6, 2, 15), (15, .iload 6, 2, 17), (17, .aload_n 0, 1, 18), (18, .getfield 13, 3, 21), (21, .iconst 4, 1, 22), (22, .iaload, 1, 23), (23, .if_icmp .ge 54, 3, 26), (26, .aload_n 0, 1, 27), (27, .iload 6, 2, 29), (29, .invokevirtual 451, 3, 32), (32, .iload_n 1, 1, 33), (33, .iconst (-1), 1, 34), (34, .if_icmp .eq 23, 3, 37), (37, .aload_n 0, 1, 38), (38, .getfield 180, 3, 41), (41, .aload_n 0, 1, 42), (42, .getfield 184, 3, 45), (45, .lload_n 2, 1, 46), (46, .lload 4, 2, 48), (48, .invokestatic 243, 3, 51), (51, .ifCond .gt 6, 3, 54), (54, .goto 17, 3, 57), (57, .iload 6, 2, 59), (59, .istore_n 1, 1, 60), (60, .aload_n 0, 1, 61), (61, .getfield 180, 3, 64), (64, .lstore_n 2, 1, 65), (65, .aload_n 0, 1, 66), (66, .getfield 184, 3, 69), (69, .lstore 4, 2, 71), (71, .iinc 6 1, 3, 74), (74, .goto (-59), 3, 77), (77, .iload_n 1, 1, 78), (78, .ireturn, 1, 79)]
set_option maxRecDepth 20000 in
theorem dX10_richest : dcL cX10_richest lX10_richestL = true := by decide +kernel
def b_X10_richest_71 (F : Nat) (self11 : PH → Nat → Int32 → Int64 → Int64 → Int32 → Option (Int32 × PH)) (h : PH) (v0 : Nat) (v1 : Int32) (v2 : Int64) (v4 : Int64) (v6 : Int32) : Option (Int32 × PH) := bindv (v6 + (1)) fun x1 => (self11 h v0 v1 v2 v4 x1)
set_option maxRecDepth 20000 in
theorem t_X10_richest_71 {M : MV} {X : XT} {F : Nat} {self11 : PH → Nat → Int32 → Int64 → Int64 → Int32 → Option (Int32 × PH)} {h hz : PH} {r : Int32} {ce sl mc ms : Nat} {v0 : Nat} {v1 : Int32} {v2 : Int64} {v4 : Int64} {v6 : Int32} (hc : Cx M X RX10 cX10_richest) (hr : Rx M 135 7832 mc ms 7) (he : Ex M X (some .int) "richest" (some (.int r)) hz mc ms) (hm : ce ≤ mc) (hs : sl ≤ ms) (ih11 : ∀ (h : PH) (v0 : Nat) (v1 : Int32) (v2 : Int64) (v4 : Int64) (v6 : Int32), self11 h v0 v1 v2 v4 v6 = some (r, hz) → GG M X h ce sl 15 [(0, .ref (X.1 + v0)), (1, .int v1), (2, .long v2), (4, .long v4), (6, .int v6)] []) (hf : b_X10_richest_71 F self11 h v0 v1 v2 v4 v6 = some (r, hz)) : GG M X h ce sl 71 [(0, .ref (X.1 + v0)), (1, .int v1), (2, .long v2), (4, .long v4), (6, .int v6)] [] := by
  unfold b_X10_richest_71 at hf
  refine obv hf fun x1 e_x1 hf => ?_
  refine r_iinc 4 [(6, .int x1), (0, .ref (X.1 + v0)), (1, .int v1), (2, .long v2), (4, .long v4)] hc hr (dc_at dX10_richest 40 rfl) rfl (by rw [e_x1]; rfl) (by decide) rfl ?_
  refine r_goto (tgt := 15) hc (dc_at dX10_richest 41 rfl) (by decide) ?_
  exact gg_sub [1, 2, 3, 4, 0] rfl (ih11 _ _ _ _ _ _ hf)
def b_X10_richest_57 (F : Nat) (self11 : PH → Nat → Int32 → Int64 → Int64 → Int32 → Option (Int32 × PH)) (h : PH) (v0 : Nat) (v6 : Int32) : Option (Int32 × PH) := (gL 10 15 h v0).bind fun x1 => ((gL 10 16 h v0).bind fun x2 => (b_X10_richest_71 F self11 h v0 v6 x1 x2 v6))
set_option maxRecDepth 20000 in
theorem t_X10_richest_57 {M : MV} {X : XT} {F : Nat} {self11 : PH → Nat → Int32 → Int64 → Int64 → Int32 → Option (Int32 × PH)} {h hz : PH} {r : Int32} {ce sl mc ms : Nat} {v0 : Nat} {v6 : Int32} (hc : Cx M X RX10 cX10_richest) (hr : Rx M 135 7832 mc ms 7) (he : Ex M X (some .int) "richest" (some (.int r)) hz mc ms) (hm : ce ≤ mc) (hs : sl ≤ ms) (ih11 : ∀ (h : PH) (v0 : Nat) (v1 : Int32) (v2 : Int64) (v4 : Int64) (v6 : Int32), self11 h v0 v1 v2 v4 v6 = some (r, hz) → GG M X h ce sl 15 [(0, .ref (X.1 + v0)), (1, .int v1), (2, .long v2), (4, .long v4), (6, .int v6)] []) (hf : b_X10_richest_57 F self11 h v0 v6 = some (r, hz)) : GG M X h ce sl 57 [(0, .ref (X.1 + v0)), (6, .int v6)] [] := by
  unfold b_X10_richest_57 at hf
  refine r_iload hc 1 (dc_at dX10_richest 32 rfl) rfl ?_
  refine r_istore_n [(1, .int v6), (0, .ref (X.1 + v0)), (6, .int v6)] hc hr (dc_at dX10_richest 33 rfl) (by decide) rfl ?_
  refine r_aload_n hc 1 (dc_at dX10_richest 34 rfl) rfl ?_
  refine r_getL hc (dc_at dX10_richest 35 rfl) fl_X10_180 hf fun x1 hf => ?_
  refine r_lstore_n [(2, .long x1), (1, .int v6), (0, .ref (X.1 + v0)), (6, .int v6)] hc hr (dc_at dX10_richest 36 rfl) (by decide) rfl ?_
  refine r_aload_n hc 2 (dc_at dX10_richest 37 rfl) rfl ?_
  refine r_getL hc (dc_at dX10_richest 38 rfl) fl_X10_184 hf fun x2 hf => ?_
  refine r_lstore [(4, .long x2), (2, .long x1), (1, .int v6), (0, .ref (X.1 + v0)), (6, .int v6)] hc hr (dc_at dX10_richest 39 rfl) (by decide) rfl ?_
  exact gg_sub [3, 2, 1, 0, 4] rfl (t_X10_richest_71 hc hr he hm hs ih11 hf)
def b_X10_richest_15 (F : Nat) (self11 : PH → Nat → Int32 → Int64 → Int64 → Int32 → Option (Int32 × PH)) (h : PH) (v0 : Nat) (v1 : Int32) (v2 : Int64) (v4 : Int64) (v6 : Int32) : Option (Int32 × PH) := (gR 10 1 h v0).bind fun a1 => ((aI 0 h a1 (4 : Int32)).bind fun x2 => (if x2 ≤ v6 then (some (v1, h)) else (cO 10 h v0 (bind2 (m_X10_laysRent F h v0 v6) fun _ h4 => (if v1 = (-1 : Int32) then (b_X10_richest_57 F self11 h4 v0 v6) else ((gL 10 15 h4 v0).bind fun x5 => ((gL 10 16 h4 v0).bind fun x6 => ((m_X10_against x5 x6 v2 v4).bind fun x7 => (if 0 < x7 then (b_X10_richest_57 F self11 h4 v0 v6) else (b_X10_richest_71 F self11 h4 v0 v1 v2 v4 v6))))))))))
set_option maxRecDepth 20000 in
theorem tb_X10_richest_15 {M : MV} {X : XT} {F : Nat} {self11 : PH → Nat → Int32 → Int64 → Int64 → Int32 → Option (Int32 × PH)} {h hz : PH} {r : Int32} {ce sl mc ms : Nat} {v0 : Nat} {v1 : Int32} {v2 : Int64} {v4 : Int64} {v6 : Int32} (hc : Cx M X RX10 cX10_richest) (hr : Rx M 135 7832 mc ms 7) (he : Ex M X (some .int) "richest" (some (.int r)) hz mc ms) (hm : ce ≤ mc) (hs : sl ≤ ms) (ih11 : ∀ (h : PH) (v0 : Nat) (v1 : Int32) (v2 : Int64) (v4 : Int64) (v6 : Int32), self11 h v0 v1 v2 v4 v6 = some (r, hz) → GG M X h ce sl 15 [(0, .ref (X.1 + v0)), (1, .int v1), (2, .long v2), (4, .long v4), (6, .int v6)] []) (hf : b_X10_richest_15 F self11 h v0 v1 v2 v4 v6 = some (r, hz)) : GG M X h ce sl 15 [(0, .ref (X.1 + v0)), (1, .int v1), (2, .long v2), (4, .long v4), (6, .int v6)] [] := by
  unfold b_X10_richest_15 at hf
  refine r_iload hc 4 (dc_at dX10_richest 11 rfl) rfl ?_
  refine r_aload_n hc 0 (dc_at dX10_richest 12 rfl) rfl ?_
  refine r_getR hc (dc_at dX10_richest 13 rfl) fl_X10_13 hf fun a1 hf => ?_
  refine r_iconst (4 : Int32) hc (dc_at dX10_richest 14 rfl) (by decide) ?_
  refine r_iaload hc (dc_at dX10_richest 15 rfl) hf fun x2 hf => ?_
  refine r_icmp_ge (tgt := 77) hc (dc_at dX10_richest 16 rfl) (by decide) hf (fun hf => ?_) (fun hf => ?_)
  · refine r_iload_n hc 1 (dc_at dX10_richest 42 rfl) rfl ?_
    exact r_iret hc he (hm) (hs) (dc_at dX10_richest 43 rfl) hf
  · refine r_aload_n hc 0 (dc_at dX10_richest 17 rfl) rfl ?_
    refine r_iload hc 4 (dc_at dX10_richest 18 rfl) rfl ?_
    obtain ⟨ho, hf⟩ := cO_some hf
    refine ob2 hf fun u h4 ex hf => ?_
    refine r_callVv (As := [.int v6]) (ci := 10) hc hr (dc_at dX10_richest 19 rfl) ml_X10_451 mv_X10_laysRent vi_X10_laysRent rfl ho rfl (mt_X10_laysRent ex) (by first | exact Nat.le_of_ble_eq_true rfl | omega) (by first | exact Nat.le_of_ble_eq_true rfl | omega) (by first | exact Nat.le_of_ble_eq_true rfl | omega) hm hs ?_
    refine r_iload_n hc 1 (dc_at dX10_richest 20 rfl) rfl ?_
    refine r_iconst (-1 : Int32) hc (dc_at dX10_richest 21 rfl) (by decide) ?_
    refine r_icmp_eq (tgt := 57) hc (dc_at dX10_richest 22 rfl) (by decide) hf (fun hf => ?_) (fun hf => ?_)
    · exact gg_sub [0, 4] rfl (t_X10_richest_57 hc hr he hm hs ih11 hf)
    · refine r_aload_n hc 0 (dc_at dX10_richest 23 rfl) rfl ?_
      refine r_getL hc (dc_at dX10_richest 24 rfl) fl_X10_180 hf fun x5 hf => ?_
      refine r_aload_n hc 0 (dc_at dX10_richest 25 rfl) rfl ?_
      refine r_getL hc (dc_at dX10_richest 26 rfl) fl_X10_184 hf fun x6 hf => ?_
      refine r_lload_n hc 2 (dc_at dX10_richest 27 rfl) rfl ?_
      refine r_lload hc 3 (dc_at dX10_richest 28 rfl) rfl ?_
      refine ob hf fun x7 ex hf => ?_
      refine r_callSi (As := [.long x5, .long x6, .long v2, .long v4]) hc hr (dc_at dX10_richest 29 rfl) ml_X10_243 mv_X10_against st_X10_against rfl (mt_X10_against ex) (by first | exact Nat.le_of_ble_eq_true rfl | omega) (by first | exact Nat.le_of_ble_eq_true rfl | omega) (by first | exact Nat.le_of_ble_eq_true rfl | omega) hm hs ?_
      refine r_if_gt (tgt := 57) hc (dc_at dX10_richest 30 rfl) (by decide) hf (fun hf => ?_) (fun hf => ?_)
      · exact gg_sub [0, 4] rfl (t_X10_richest_57 hc hr he hm hs ih11 hf)
      · refine r_goto (tgt := 71) hc (dc_at dX10_richest 31 rfl) (by decide) ?_
        exact gg_sub [0, 1, 2, 3, 4] rfl (t_X10_richest_71 hc hr he hm hs ih11 hf)
def l_X10_richest_15 (F : Nat) : Nat → PH → Nat → Int32 → Int64 → Int64 → Int32 → Option (Int32 × PH)
  | 0 => fun _ _ _ _ _ _ => none
  | n + 1 => fun h v0 v1 v2 v4 v6 => b_X10_richest_15 F (l_X10_richest_15 F n) h v0 v1 v2 v4 v6
theorem tl_X10_richest_15 {M : MV} {X : XT} {F : Nat} {hz : PH} {r : Int32} {ce sl mc ms : Nat} (hc : Cx M X RX10 cX10_richest) (hr : Rx M 135 7832 mc ms 7) (he : Ex M X (some .int) "richest" (some (.int r)) hz mc ms) (hm : ce ≤ mc) (hs : sl ≤ ms) (n : Nat) : ∀ (h : PH) (v0 : Nat) (v1 : Int32) (v2 : Int64) (v4 : Int64) (v6 : Int32), l_X10_richest_15 F n h v0 v1 v2 v4 v6 = some (r, hz) → GG M X h ce sl 15 [(0, .ref (X.1 + v0)), (1, .int v1), (2, .long v2), (4, .long v4), (6, .int v6)] [] := by
  induction n with
  | zero => intro h v0 v1 v2 v4 v6 hf; cases hf
  | succ n ih => intro h v0 v1 v2 v4 v6 hf; exact tb_X10_richest_15 (F := F) hc hr he hm hs  ih hf
def b_X10_richest_0 (F : Nat) (h : PH) (v0 : Nat) : Option (Int32 × PH) := (pV 10 0 (.int (0 : Int32)) h v0).bind fun h1 => (l_X10_richest_15 F F h1 v0 (-1 : Int32) (0 : Int64) (1 : Int64) (0 : Int32))
set_option maxRecDepth 20000 in
theorem t_X10_richest_0 {M : MV} {X : XT} {F : Nat} {h hz : PH} {r : Int32} {ce sl mc ms : Nat} {v0 : Nat} (hc : Cx M X RX10 cX10_richest) (hr : Rx M 135 7832 mc ms 7) (he : Ex M X (some .int) "richest" (some (.int r)) hz mc ms) (hm : ce ≤ mc) (hs : sl ≤ ms) (hf : b_X10_richest_0 F h v0 = some (r, hz)) : GG M X h ce sl 0 [(0, .ref (X.1 + v0))] [] := by
  unfold b_X10_richest_0 at hf
  refine r_aload_n hc 0 (dc_at dX10_richest 0 rfl) rfl ?_
  refine r_iconst (0 : Int32) hc (dc_at dX10_richest 1 rfl) (by decide) ?_
  refine r_putI hc he (dc_at dX10_richest 2 rfl) fp_X10_1 (fun q => by cases q) hf fun h1 hf => ?_
  refine r_iconst (-1 : Int32) hc (dc_at dX10_richest 3 rfl) (by decide) ?_
  refine r_istore_n [(1, .int ((-1 : Int32))), (0, .ref (X.1 + v0))] hc hr (dc_at dX10_richest 4 rfl) (by decide) rfl ?_
  refine r_lconst (0 : Int64) hc (dc_at dX10_richest 5 rfl) (by decide) ?_
  refine r_lstore_n [(2, .long ((0 : Int64))), (1, .int ((-1 : Int32))), (0, .ref (X.1 + v0))] hc hr (dc_at dX10_richest 6 rfl) (by decide) rfl ?_
  refine r_lconst (1 : Int64) hc (dc_at dX10_richest 7 rfl) (by decide) ?_
  refine r_lstore [(4, .long ((1 : Int64))), (2, .long ((0 : Int64))), (1, .int ((-1 : Int32))), (0, .ref (X.1 + v0))] hc hr (dc_at dX10_richest 8 rfl) (by decide) rfl ?_
  refine r_iconst (0 : Int32) hc (dc_at dX10_richest 9 rfl) (by decide) ?_
  refine r_istore [(6, .int ((0 : Int32))), (4, .long ((1 : Int64))), (2, .long ((0 : Int64))), (1, .int ((-1 : Int32))), (0, .ref (X.1 + v0))] hc hr (dc_at dX10_richest 10 rfl) (by decide) rfl ?_
  exact gg_sub [4, 3, 2, 1, 0] rfl (tl_X10_richest_15 hc hr he hm hs  F _ _ _ _ _ _ hf)
def m_X10_richest (F : Nat) (h : PH) (p0 : Nat) : Option (Int32 × PH) := b_X10_richest_0 F h p0
theorem mt_X10_richest {l : Launch} {X : XT} {F : Nat} {h hz : PH} {p0 : Nat} {r : Int32} (ex : m_X10_richest F h p0 = some (r, hz)) : MT l X yX10_richest cX10_richest 7 (some .int) 135 7832 0 0 [.ref (X.1 + p0)] h (some (.int r)) hz := MT.of (by decide) (Nat.le_of_ble_eq_true rfl) fun M hl hc hr he => by
  subst hl
  exact gg_sub [0] rfl (t_X10_richest_0  hc hr he (Nat.zero_le _) (Nat.zero_le _) ex)
/-! FractionLiftModel.goesFit(IIJJ)V -/
def lX10_goesFitL : List (Nat × Instr × Nat × Nat) := [(0, .iload_n 2, 1, 1), (1, .aload_n 0, 1, 2), (2, .getfield 100, 3, 5), (5, .iload_n 1, 1, 6), (6, .iaload, 1, 7), (7, .if_icmp .ne 86, 3, 10), (10, .iconst 0, 1, 11), (11, .istore 7, 2, 13), (13, .iload 7, 2, 15), (15, .iload_n 2, 1, 16), (16, .if_icmp .ge 66, 3, 19), (19, .aload_n 0, 1, 20), (20, .getfield 85, 3, 23), (23, .bipush 6, 2, 25), (25, .iload 7, 2, 27), (27, .imul, 1, 28), (28, .aload_n 0, 1, 29), (29, .getfield 79, 3, 32), (32, .iload 7, 2, 34), (34, .iaload, 1, 35), (35, .iadd, 1, 36), (36, .dup2, 1, 37), (37, .iaload, 1, 38), (38, .iconst 1, 1, 39), (39, .iadd, 1, 40), (40, .iastore, 1, 41), (41, .aload_n 0, 1, 42), (42, .getfield 82, 3, 45), (45, .iload 7, 2, 47), (47, .aload_n 0, 1, 48), (48, .getfield 460, 3, 51), (51, .aload_n 0, 1, 52), (52, .getfield 463, 3, 55), (55, .if_icmp .ne 13, 3, 58), (58, .aload_n 0, 1, 59), (59, .getfield 79, 3, 62), (62, .iload 7, 2, 64), (64, .iaload, 1, 65), (65, .goto 10, 3, 68), (68, .aload_n 0, 1, 69), (69, .getfield 82, 3, 72), (72, .iload 7, 2, 74), (74, .iaload, 1, 75), (75, .iastore, 1, 76), (76, .iinc 7 1, 3, 79), (79, .goto (-66), 3, 82), (82, .aload_n 0, 1, 83), (83, .dup, 1, 84), (84, .getfield 460, 3, 87), (87, .iconst 1, 1, 88), (88, .iadd, 1, 89), (89, .putfield 460, 3, 92), (92, .return_, 1, 93), (93, .aload_n 0, 1, 94), (94, .getfield 103, 3, 97), (97, .bipush 40, 2, 99), (99, .iload_n 1, 1, 100), (100, .imul, 1, 101), (101, .iload_n 2, 1, 102), (102, .iadd, 1, 103), (103, .laload, 1, 104), (104, .lstore 7, 2, 106), (106, .iconst 0, 1, 107), (107, .istore 9, 2, 109), (109, .iload 9, 2, 111), (111, .aload_n 0, 1, 112), (112, .getfield 13, 3, 115), (115, .iconst 2, 1, 116), (116, .iaload, 1, 117), (117, .if_icmp .ge 100, 3, 120), (120, .aload_n 0, 1, 121), (121, .iload 9, 2, 123), (123, .lload_n 3, 1, 124), (124, .lload 5, 2, 126), (126, .invokevirtual 275, 3, 129), (129, .ifCond .eq 6, 3, 132), (132, .goto 79, 3, 135), (135, .lload 7, 2, 137), (137, .ldc2_w 334, 3, 140), (140, .lcmp, 1, 141), (141, .ifCond .eq 46, 3, 144), (144, .aload_n 0, 1, 145), (145, .getfield 13, 3, 148), (148, .bipush 9, 2, 150), (150, .lload 7, 2, 152), (152, .l2i, 1, 153), (153, .iadd, 1, 154), (154, .iaload, 1, 155), (155, .i2l, 1, 156), (156, .aload_n 0, 1, 157), (157, .getfield 180, 3, 160), (160, .lcmp, 1, 161), (161, .ifCond .ne 50, 3, 164), (164, .aload_n 0, 1, 165), (165, .getfield 13, 3, 168), (168, .bipush 17, 2, 170), (170, .lload 7, 2, 172), (172, .l2i, 1, 173), (173, .iadd, 1, 174), (174, .iaload, 1, 175), (175, .i2l, 1, 176), (176, .aload_n 0, 1, 177), (177, .getfield 184, 3, 180), (180, .lcmp, 1, 181), (181, .ifCond .eq 6, 3, 184), (184, .goto 27, 3, 187), (187, .aload_n 0, 1, 188), (188, .getfield 79, 3, 191), (191, .iload_n 2, 1, 192), (192, .iload 9, 2, 194), (194, .iastore, 1, 195), (195, .aload_n 0, 1, 196), (196, .iload_n 1, 1, 197), (197, .iload_n 2, 1, 198), (198, .iconst 1, 1, 199), (199, .iadd, 1, 200), (200, .aload_n 0, 1, 201), (201, .getfield 180, 3, 204), (204, .aload_n 0, 1, 205), (205, .getfield 184, 3, 208), (208, .invokevirtual 466, 3, 211), (211, .iinc 9 1, 3, 214), (214, .goto (-105), 3, 217), (217, .return_, 1, 218)]
set_option maxRecDepth 20000 in
theorem dX10_goesFit : dcL cX10_goesFit lX10_goesFitL = true := by decide +kernel
def b_X10_goesFit_211 (rc : PH → Nat → Int32 → Int32 → Int64 → Int64 → Option (Unit × PH)) (F : Nat) (self64 : PH → Nat → Int32 → Int32 → Int64 → Int64 → Int64 → Int32 → Option (Unit × PH)) (h : PH) (v0 : Nat) (v1 : Int32) (v2 : Int32) (v3 : Int64) (v5 : Int64) (v7 : Int64) (v9 : Int32) : Option (Unit × PH) := bindv (v9 + (1)) fun x1 => (self64 h v0 v1 v2 v3 v5 v7 x1)
set_option maxRecDepth 20000 in
theorem t_X10_goesFit_211 {M : MV} {X : XT} {rc : PH → Nat → Int32 → Int32 → Int64 → Int64 → Option (Unit × PH)} {d : Nat} {F : Nat} {self64 : PH → Nat → Int32 → Int32 → Int64 → Int64 → Int64 → Int32 → Option (Unit × PH)} {h hz : PH} {r : Unit} {ce sl mc ms : Nat} {v0 : Nat} {v1 : Int32} {v2 : Int32} {v3 : Int64} {v5 : Int64} {v7 : Int64} {v9 : Int32} (hrc : ∀ {h hz : PH} {p0 : Nat} {p1 : Int32} {p2 : Int32} {p3 : Int64} {p5 : Int64} {r : Unit}, rc h p0 p1 p2 p3 p5 = some (r, hz) → MT M.2.1 X yX10_goesFit cX10_goesFit 10 none (1 * d + 136) (58 * d + 7890) 0 0 [.ref (X.1 + p0), .int p1, .int p2, .long p3, .long p5] h none hz) (hc : Cx M X RX10 cX10_goesFit) (hr : Rx M (1 * d + 137) (58 * d + 7948) mc ms 10) (he : Ex M X none "goesFit" none hz mc ms) (hm : ce ≤ mc) (hs : sl ≤ ms) (ih64 : ∀ (h : PH) (v0 : Nat) (v1 : Int32) (v2 : Int32) (v3 : Int64) (v5 : Int64) (v7 : Int64) (v9 : Int32), self64 h v0 v1 v2 v3 v5 v7 v9 = some (r, hz) → GG M X h ce sl 109 [(0, .ref (X.1 + v0)), (1, .int v1), (2, .int v2), (3, .long v3), (5, .long v5), (7, .long v7), (9, .int v9)] []) (hf : b_X10_goesFit_211 rc F self64 h v0 v1 v2 v3 v5 v7 v9 = some (r, hz)) : GG M X h ce sl 211 [(0, .ref (X.1 + v0)), (1, .int v1), (2, .int v2), (3, .long v3), (5, .long v5), (7, .long v7), (9, .int v9)] [] := by
  unfold b_X10_goesFit_211 at hf
  refine obv hf fun x1 e_x1 hf => ?_
  refine r_iinc 6 [(9, .int x1), (0, .ref (X.1 + v0)), (1, .int v1), (2, .int v2), (3, .long v3), (5, .long v5), (7, .long v7)] hc hr (dc_at dX10_goesFit 121 rfl) rfl (by rw [e_x1]; rfl) (by decide) rfl ?_
  refine r_goto (tgt := 109) hc (dc_at dX10_goesFit 122 rfl) (by decide) ?_
  exact gg_sub [1, 2, 3, 4, 5, 6, 0] rfl (ih64 _ _ _ _ _ _ _ _ hf)
def b_X10_goesFit_187 (rc : PH → Nat → Int32 → Int32 → Int64 → Int64 → Option (Unit × PH)) (F : Nat) (self64 : PH → Nat → Int32 → Int32 → Int64 → Int64 → Int64 → Int32 → Option (Unit × PH)) (h : PH) (v0 : Nat) (v1 : Int32) (v2 : Int32) (v3 : Int64) (v5 : Int64) (v7 : Int64) (v9 : Int32) : Option (Unit × PH) := (gR 10 43 h v0).bind fun a1 => ((sI 0 h a1 v2 v9).bind fun h2 => ((gL 10 15 h2 v0).bind fun x3 => ((gL 10 16 h2 v0).bind fun x4 => (cO 10 h2 v0 (bind2 (rc h2 v0 v1 ((v2 + (1 : Int32))) x3 x4) fun _ h6 => (b_X10_goesFit_211 rc F self64 h6 v0 v1 v2 v3 v5 v7 v9))))))
set_option maxRecDepth 20000 in
theorem t_X10_goesFit_187 {M : MV} {X : XT} {rc : PH → Nat → Int32 → Int32 → Int64 → Int64 → Option (Unit × PH)} {d : Nat} {F : Nat} {self64 : PH → Nat → Int32 → Int32 → Int64 → Int64 → Int64 → Int32 → Option (Unit × PH)} {h hz : PH} {r : Unit} {ce sl mc ms : Nat} {v0 : Nat} {v1 : Int32} {v2 : Int32} {v3 : Int64} {v5 : Int64} {v7 : Int64} {v9 : Int32} (hrc : ∀ {h hz : PH} {p0 : Nat} {p1 : Int32} {p2 : Int32} {p3 : Int64} {p5 : Int64} {r : Unit}, rc h p0 p1 p2 p3 p5 = some (r, hz) → MT M.2.1 X yX10_goesFit cX10_goesFit 10 none (1 * d + 136) (58 * d + 7890) 0 0 [.ref (X.1 + p0), .int p1, .int p2, .long p3, .long p5] h none hz) (hc : Cx M X RX10 cX10_goesFit) (hr : Rx M (1 * d + 137) (58 * d + 7948) mc ms 10) (he : Ex M X none "goesFit" none hz mc ms) (hm : ce ≤ mc) (hs : sl ≤ ms) (ih64 : ∀ (h : PH) (v0 : Nat) (v1 : Int32) (v2 : Int32) (v3 : Int64) (v5 : Int64) (v7 : Int64) (v9 : Int32), self64 h v0 v1 v2 v3 v5 v7 v9 = some (r, hz) → GG M X h ce sl 109 [(0, .ref (X.1 + v0)), (1, .int v1), (2, .int v2), (3, .long v3), (5, .long v5), (7, .long v7), (9, .int v9)] []) (hf : b_X10_goesFit_187 rc F self64 h v0 v1 v2 v3 v5 v7 v9 = some (r, hz)) : GG M X h ce sl 187 [(0, .ref (X.1 + v0)), (1, .int v1), (2, .int v2), (3, .long v3), (5, .long v5), (7, .long v7), (9, .int v9)] [] := by
  unfold b_X10_goesFit_187 at hf
  refine r_aload_n hc 0 (dc_at dX10_goesFit 106 rfl) rfl ?_
  refine r_getR hc (dc_at dX10_goesFit 107 rfl) fl_X10_79 hf fun a1 hf => ?_
  refine r_iload_n hc 2 (dc_at dX10_goesFit 108 rfl) rfl ?_
  refine r_iload hc 6 (dc_at dX10_goesFit 109 rfl) rfl ?_
  refine r_iastore hc (dc_at dX10_goesFit 110 rfl) hf fun h2 hf => ?_
  refine r_aload_n hc 0 (dc_at dX10_goesFit 111 rfl) rfl ?_
  refine r_iload_n hc 1 (dc_at dX10_goesFit 112 rfl) rfl ?_
  refine r_iload_n hc 2 (dc_at dX10_goesFit 113 rfl) rfl ?_
  refine r_iconst (1 : Int32) hc (dc_at dX10_goesFit 114 rfl) (by decide) ?_
  refine r_iadd hc (dc_at dX10_goesFit 115 rfl) ?_
  refine r_aload_n hc 0 (dc_at dX10_goesFit 116 rfl) rfl ?_
  refine r_getL hc (dc_at dX10_goesFit 117 rfl) fl_X10_180 hf fun x3 hf => ?_
  refine r_aload_n hc 0 (dc_at dX10_goesFit 118 rfl) rfl ?_
  refine r_getL hc (dc_at dX10_goesFit 119 rfl) fl_X10_184 hf fun x4 hf => ?_
  obtain ⟨ho, hf⟩ := cO_some hf
  refine ob2 hf fun u h6 ex hf => ?_
  refine r_callVv (As := [.int v1, .int ((v2 + (1 : Int32))), .long x3, .long x4]) (ci := 10) hc hr (dc_at dX10_goesFit 120 rfl) ml_X10_466 mv_X10_goesFit vi_X10_goesFit rfl ho rfl (hrc  ex) (by first | exact Nat.le_of_ble_eq_true rfl | omega) (by first | exact Nat.le_of_ble_eq_true rfl | omega) (by first | exact Nat.le_of_ble_eq_true rfl | omega) hm hs ?_
  exact gg_sub [0, 1, 2, 3, 4, 5, 6] rfl (t_X10_goesFit_211 hrc hc hr he hm hs ih64 hf)
def b_X10_goesFit_109 (rc : PH → Nat → Int32 → Int32 → Int64 → Int64 → Option (Unit × PH)) (F : Nat) (self64 : PH → Nat → Int32 → Int32 → Int64 → Int64 → Int64 → Int32 → Option (Unit × PH)) (h : PH) (v0 : Nat) (v1 : Int32) (v2 : Int32) (v3 : Int64) (v5 : Int64) (v7 : Int64) (v9 : Int32) : Option (Unit × PH) := (gR 10 1 h v0).bind fun a1 => ((aI 0 h a1 (2 : Int32)).bind fun x2 => (if x2 ≤ v9 then (some ((), h)) else (cO 10 h v0 (bind2 (m_X10_leadsFrom F h v0 v9 v3 v5) fun x3 h4 => (if x3 = 0 then (if v7 = (-1 : Int64) then (b_X10_goesFit_187 rc F self64 h4 v0 v1 v2 v3 v5 v7 v9) else ((gR 10 1 h4 v0).bind fun a5 => ((aI 0 h4 a5 (((9 : Int32) + (Int64.toInt32 v7)))).bind fun x6 => ((gL 10 15 h4 v0).bind fun x7 => (if (Int32.toInt64 x6) = x7 then ((gR 10 1 h4 v0).bind fun a8 => ((aI 0 h4 a8 (((17 : Int32) + (Int64.toInt32 v7)))).bind fun x9 => ((gL 10 16 h4 v0).bind fun x10 => (if (Int32.toInt64 x9) = x10 then (b_X10_goesFit_187 rc F self64 h4 v0 v1 v2 v3 v5 v7 v9) else (b_X10_goesFit_211 rc F self64 h4 v0 v1 v2 v3 v5 v7 v9))))) else (b_X10_goesFit_211 rc F self64 h4 v0 v1 v2 v3 v5 v7 v9)))))) else (b_X10_goesFit_211 rc F self64 h4 v0 v1 v2 v3 v5 v7 v9))))))
set_option maxRecDepth 20000 in
theorem tb_X10_goesFit_109 {M : MV} {X : XT} {rc : PH → Nat → Int32 → Int32 → Int64 → Int64 → Option (Unit × PH)} {d : Nat} {F : Nat} {self64 : PH → Nat → Int32 → Int32 → Int64 → Int64 → Int64 → Int32 → Option (Unit × PH)} {h hz : PH} {r : Unit} {ce sl mc ms : Nat} {v0 : Nat} {v1 : Int32} {v2 : Int32} {v3 : Int64} {v5 : Int64} {v7 : Int64} {v9 : Int32} (hrc : ∀ {h hz : PH} {p0 : Nat} {p1 : Int32} {p2 : Int32} {p3 : Int64} {p5 : Int64} {r : Unit}, rc h p0 p1 p2 p3 p5 = some (r, hz) → MT M.2.1 X yX10_goesFit cX10_goesFit 10 none (1 * d + 136) (58 * d + 7890) 0 0 [.ref (X.1 + p0), .int p1, .int p2, .long p3, .long p5] h none hz) (hc : Cx M X RX10 cX10_goesFit) (hr : Rx M (1 * d + 137) (58 * d + 7948) mc ms 10) (he : Ex M X none "goesFit" none hz mc ms) (hm : ce ≤ mc) (hs : sl ≤ ms) (ih64 : ∀ (h : PH) (v0 : Nat) (v1 : Int32) (v2 : Int32) (v3 : Int64) (v5 : Int64) (v7 : Int64) (v9 : Int32), self64 h v0 v1 v2 v3 v5 v7 v9 = some (r, hz) → GG M X h ce sl 109 [(0, .ref (X.1 + v0)), (1, .int v1), (2, .int v2), (3, .long v3), (5, .long v5), (7, .long v7), (9, .int v9)] []) (hf : b_X10_goesFit_109 rc F self64 h v0 v1 v2 v3 v5 v7 v9 = some (r, hz)) : GG M X h ce sl 109 [(0, .ref (X.1 + v0)), (1, .int v1), (2, .int v2), (3, .long v3), (5, .long v5), (7, .long v7), (9, .int v9)] [] := by
  unfold b_X10_goesFit_109 at hf
  refine r_iload hc 6 (dc_at dX10_goesFit 64 rfl) rfl ?_
  refine r_aload_n hc 0 (dc_at dX10_goesFit 65 rfl) rfl ?_
  refine r_getR hc (dc_at dX10_goesFit 66 rfl) fl_X10_13 hf fun a1 hf => ?_
  refine r_iconst (2 : Int32) hc (dc_at dX10_goesFit 67 rfl) (by decide) ?_
  refine r_iaload hc (dc_at dX10_goesFit 68 rfl) hf fun x2 hf => ?_
  refine r_icmp_ge (tgt := 217) hc (dc_at dX10_goesFit 69 rfl) (by decide) hf (fun hf => ?_) (fun hf => ?_)
  · exact r_vret hc he (hm) (hs) (dc_at dX10_goesFit 123 rfl) hf
  · refine r_aload_n hc 0 (dc_at dX10_goesFit 70 rfl) rfl ?_
    refine r_iload hc 6 (dc_at dX10_goesFit 71 rfl) rfl ?_
    refine r_lload_n hc 3 (dc_at dX10_goesFit 72 rfl) rfl ?_
    refine r_lload hc 4 (dc_at dX10_goesFit 73 rfl) rfl ?_
    obtain ⟨ho, hf⟩ := cO_some hf
    refine ob2 hf fun x3 h4 ex hf => ?_
    refine r_callVi (As := [.int v9, .long v3, .long v5]) (ci := 10) hc hr (dc_at dX10_goesFit 74 rfl) ml_X10_275 mv_X10_leadsFrom vi_X10_leadsFrom rfl ho rfl (mt_X10_leadsFrom ex) (by first | exact Nat.le_of_ble_eq_true rfl | omega) (by first | exact Nat.le_of_ble_eq_true rfl | omega) (by first | exact Nat.le_of_ble_eq_true rfl | omega) hm hs ?_
    refine r_if_eq (tgt := 135) hc (dc_at dX10_goesFit 75 rfl) (by decide) hf (fun hf => ?_) (fun hf => ?_)
    · refine r_lload hc 5 (dc_at dX10_goesFit 77 rfl) rfl ?_
      refine r_ldc2 hc (dc_at dX10_goesFit 78 rfl) cl2_X10_334 ?_
      refine r_lcmp_eq (tgt := 187) hc (dc_at dX10_goesFit 79 rfl) (dc_at dX10_goesFit 80 rfl) (by decide) hf (fun hf => ?_) (fun hf => ?_)
      · exact gg_sub [0, 1, 2, 3, 4, 5, 6] rfl (t_X10_goesFit_187 hrc hc hr he hm hs ih64 hf)
      · refine r_aload_n hc 0 (dc_at dX10_goesFit 81 rfl) rfl ?_
        refine r_getR hc (dc_at dX10_goesFit 82 rfl) fl_X10_13 hf fun a5 hf => ?_
        refine r_bipush (9 : Int32) hc (dc_at dX10_goesFit 83 rfl) (by decide) ?_
        refine r_lload hc 5 (dc_at dX10_goesFit 84 rfl) rfl ?_
        refine r_l2i hc (dc_at dX10_goesFit 85 rfl) ?_
        refine r_iadd hc (dc_at dX10_goesFit 86 rfl) ?_
        refine r_iaload hc (dc_at dX10_goesFit 87 rfl) hf fun x6 hf => ?_
        refine r_i2l hc (dc_at dX10_goesFit 88 rfl) ?_
        refine r_aload_n hc 0 (dc_at dX10_goesFit 89 rfl) rfl ?_
        refine r_getL hc (dc_at dX10_goesFit 90 rfl) fl_X10_180 hf fun x7 hf => ?_
        refine r_lcmp_ne (tgt := 211) hc (dc_at dX10_goesFit 91 rfl) (dc_at dX10_goesFit 92 rfl) (by decide) hf (fun hf => ?_) (fun hf => ?_)
        · exact gg_sub [0, 1, 2, 3, 4, 5, 6] rfl (t_X10_goesFit_211 hrc hc hr he hm hs ih64 hf)
        · refine r_aload_n hc 0 (dc_at dX10_goesFit 93 rfl) rfl ?_
          refine r_getR hc (dc_at dX10_goesFit 94 rfl) fl_X10_13 hf fun a8 hf => ?_
          refine r_bipush (17 : Int32) hc (dc_at dX10_goesFit 95 rfl) (by decide) ?_
          refine r_lload hc 5 (dc_at dX10_goesFit 96 rfl) rfl ?_
          refine r_l2i hc (dc_at dX10_goesFit 97 rfl) ?_
          refine r_iadd hc (dc_at dX10_goesFit 98 rfl) ?_
          refine r_iaload hc (dc_at dX10_goesFit 99 rfl) hf fun x9 hf => ?_
          refine r_i2l hc (dc_at dX10_goesFit 100 rfl) ?_
          refine r_aload_n hc 0 (dc_at dX10_goesFit 101 rfl) rfl ?_
          refine r_getL hc (dc_at dX10_goesFit 102 rfl) fl_X10_184 hf fun x10 hf => ?_
          refine r_lcmp_eq (tgt := 187) hc (dc_at dX10_goesFit 103 rfl) (dc_at dX10_goesFit 104 rfl) (by decide) hf (fun hf => ?_) (fun hf => ?_)
          · exact gg_sub [0, 1, 2, 3, 4, 5, 6] rfl (t_X10_goesFit_187 hrc hc hr he hm hs ih64 hf)
          · refine r_goto (tgt := 211) hc (dc_at dX10_goesFit 105 rfl) (by decide) ?_
            exact gg_sub [0, 1, 2, 3, 4, 5, 6] rfl (t_X10_goesFit_211 hrc hc hr he hm hs ih64 hf)
    · refine r_goto (tgt := 211) hc (dc_at dX10_goesFit 76 rfl) (by decide) ?_
      exact gg_sub [0, 1, 2, 3, 4, 5, 6] rfl (t_X10_goesFit_211 hrc hc hr he hm hs ih64 hf)
def l_X10_goesFit_109 (rc : PH → Nat → Int32 → Int32 → Int64 → Int64 → Option (Unit × PH)) (F : Nat) : Nat → PH → Nat → Int32 → Int32 → Int64 → Int64 → Int64 → Int32 → Option (Unit × PH)
  | 0 => fun _ _ _ _ _ _ _ _ => none
  | n + 1 => fun h v0 v1 v2 v3 v5 v7 v9 => b_X10_goesFit_109 rc F (l_X10_goesFit_109 rc F n) h v0 v1 v2 v3 v5 v7 v9
theorem tl_X10_goesFit_109 {M : MV} {X : XT} {rc : PH → Nat → Int32 → Int32 → Int64 → Int64 → Option (Unit × PH)} {d : Nat} {F : Nat} {hz : PH} {r : Unit} {ce sl mc ms : Nat} (hrc : ∀ {h hz : PH} {p0 : Nat} {p1 : Int32} {p2 : Int32} {p3 : Int64} {p5 : Int64} {r : Unit}, rc h p0 p1 p2 p3 p5 = some (r, hz) → MT M.2.1 X yX10_goesFit cX10_goesFit 10 none (1 * d + 136) (58 * d + 7890) 0 0 [.ref (X.1 + p0), .int p1, .int p2, .long p3, .long p5] h none hz) (hc : Cx M X RX10 cX10_goesFit) (hr : Rx M (1 * d + 137) (58 * d + 7948) mc ms 10) (he : Ex M X none "goesFit" none hz mc ms) (hm : ce ≤ mc) (hs : sl ≤ ms) (n : Nat) : ∀ (h : PH) (v0 : Nat) (v1 : Int32) (v2 : Int32) (v3 : Int64) (v5 : Int64) (v7 : Int64) (v9 : Int32), l_X10_goesFit_109 rc F n h v0 v1 v2 v3 v5 v7 v9 = some (r, hz) → GG M X h ce sl 109 [(0, .ref (X.1 + v0)), (1, .int v1), (2, .int v2), (3, .long v3), (5, .long v5), (7, .long v7), (9, .int v9)] [] := by
  induction n with
  | zero => intro h v0 v1 v2 v3 v5 v7 v9 hf; cases hf
  | succ n ih => intro h v0 v1 v2 v3 v5 v7 v9 hf; exact tb_X10_goesFit_109 (F := F) hrc hc hr he hm hs  ih hf
def b_X10_goesFit_75 (rc : PH → Nat → Int32 → Int32 → Int64 → Int64 → Option (Unit × PH)) (F : Nat) (self8 : PH → Nat → Int32 → Int32 → Option (Unit × PH)) (h : PH) (v0 : Nat) (v2 : Int32) (v7 : Int32) (s0 : Nat) (s1 : Int32) (s2 : Int32) : Option (Unit × PH) := (sI 0 h s0 s1 s2).bind fun h1 => (bindv (v7 + (1)) fun x2 => (self8 h1 v0 v2 x2))
set_option maxRecDepth 20000 in
theorem t_X10_goesFit_75 {M : MV} {X : XT} {rc : PH → Nat → Int32 → Int32 → Int64 → Int64 → Option (Unit × PH)} {d : Nat} {F : Nat} {self8 : PH → Nat → Int32 → Int32 → Option (Unit × PH)} {h hz : PH} {r : Unit} {ce sl mc ms : Nat} {v0 : Nat} {v2 : Int32} {v7 : Int32} {s0 : Nat} {s1 : Int32} {s2 : Int32} (hrc : ∀ {h hz : PH} {p0 : Nat} {p1 : Int32} {p2 : Int32} {p3 : Int64} {p5 : Int64} {r : Unit}, rc h p0 p1 p2 p3 p5 = some (r, hz) → MT M.2.1 X yX10_goesFit cX10_goesFit 10 none (1 * d + 136) (58 * d + 7890) 0 0 [.ref (X.1 + p0), .int p1, .int p2, .long p3, .long p5] h none hz) (hc : Cx M X RX10 cX10_goesFit) (hr : Rx M (1 * d + 137) (58 * d + 7948) mc ms 10) (he : Ex M X none "goesFit" none hz mc ms) (hm : ce ≤ mc) (hs : sl ≤ ms) (ih8 : ∀ (h : PH) (v0 : Nat) (v2 : Int32) (v7 : Int32), self8 h v0 v2 v7 = some (r, hz) → GG M X h ce sl 13 [(0, .ref (X.1 + v0)), (2, .int v2), (7, .int v7)] []) (hf : b_X10_goesFit_75 rc F self8 h v0 v2 v7 s0 s1 s2 = some (r, hz)) : GG M X h ce sl 75 [(0, .ref (X.1 + v0)), (2, .int v2), (7, .int v7)] [.int s2, .int s1, .ref (X.1 + s0)] := by
  unfold b_X10_goesFit_75 at hf
  refine r_iastore hc (dc_at dX10_goesFit 43 rfl) hf fun h1 hf => ?_
  refine obv hf fun x2 e_x2 hf => ?_
  refine r_iinc 2 [(7, .int x2), (0, .ref (X.1 + v0)), (2, .int v2)] hc hr (dc_at dX10_goesFit 44 rfl) rfl (by rw [e_x2]; rfl) (by decide) rfl ?_
  refine r_goto (tgt := 13) hc (dc_at dX10_goesFit 45 rfl) (by decide) ?_
  exact gg_sub [1, 2, 0] rfl (ih8 _ _ _ _ hf)
def b_X10_goesFit_13 (rc : PH → Nat → Int32 → Int32 → Int64 → Int64 → Option (Unit × PH)) (F : Nat) (self8 : PH → Nat → Int32 → Int32 → Option (Unit × PH)) (h : PH) (v0 : Nat) (v2 : Int32) (v7 : Int32) : Option (Unit × PH) := if v2 ≤ v7 then ((gI 10 46 h v0).bind fun x1 => ((pV 10 46 (.int ((x1 + (1 : Int32)))) h v0).bind fun h2 => (some ((), h2)))) else ((gR 10 45 h v0).bind fun a3 => ((gR 10 43 h v0).bind fun a4 => ((aI 0 h a4 v7).bind fun x5 => ((aI 0 h a3 (((((6 : Int32) * v7)) + x5))).bind fun x6 => ((sI 0 h a3 (((((6 : Int32) * v7)) + x5)) ((x6 + (1 : Int32)))).bind fun h7 => ((gR 10 44 h7 v0).bind fun a8 => ((gI 10 46 h7 v0).bind fun x9 => ((gI 10 47 h7 v0).bind fun x10 => (if x9 = x10 then ((gR 10 43 h7 v0).bind fun a13 => ((aI 0 h7 a13 v7).bind fun x14 => (b_X10_goesFit_75 rc F self8 h7 v0 v2 v7 a8 v7 x14))) else ((gR 10 44 h7 v0).bind fun a11 => ((aI 0 h7 a11 v7).bind fun x12 => (b_X10_goesFit_75 rc F self8 h7 v0 v2 v7 a8 v7 x12))))))))))))
set_option maxRecDepth 20000 in
theorem tb_X10_goesFit_13 {M : MV} {X : XT} {rc : PH → Nat → Int32 → Int32 → Int64 → Int64 → Option (Unit × PH)} {d : Nat} {F : Nat} {self8 : PH → Nat → Int32 → Int32 → Option (Unit × PH)} {h hz : PH} {r : Unit} {ce sl mc ms : Nat} {v0 : Nat} {v2 : Int32} {v7 : Int32} (hrc : ∀ {h hz : PH} {p0 : Nat} {p1 : Int32} {p2 : Int32} {p3 : Int64} {p5 : Int64} {r : Unit}, rc h p0 p1 p2 p3 p5 = some (r, hz) → MT M.2.1 X yX10_goesFit cX10_goesFit 10 none (1 * d + 136) (58 * d + 7890) 0 0 [.ref (X.1 + p0), .int p1, .int p2, .long p3, .long p5] h none hz) (hc : Cx M X RX10 cX10_goesFit) (hr : Rx M (1 * d + 137) (58 * d + 7948) mc ms 10) (he : Ex M X none "goesFit" none hz mc ms) (hm : ce ≤ mc) (hs : sl ≤ ms) (ih8 : ∀ (h : PH) (v0 : Nat) (v2 : Int32) (v7 : Int32), self8 h v0 v2 v7 = some (r, hz) → GG M X h ce sl 13 [(0, .ref (X.1 + v0)), (2, .int v2), (7, .int v7)] []) (hf : b_X10_goesFit_13 rc F self8 h v0 v2 v7 = some (r, hz)) : GG M X h ce sl 13 [(0, .ref (X.1 + v0)), (2, .int v2), (7, .int v7)] [] := by
  unfold b_X10_goesFit_13 at hf
  refine r_iload hc 2 (dc_at dX10_goesFit 8 rfl) rfl ?_
  refine r_iload_n hc 1 (dc_at dX10_goesFit 9 rfl) rfl ?_
  refine r_icmp_ge (tgt := 82) hc (dc_at dX10_goesFit 10 rfl) (by decide) hf (fun hf => ?_) (fun hf => ?_)
  · refine r_aload_n hc 0 (dc_at dX10_goesFit 46 rfl) rfl ?_
    refine r_dup hc (dc_at dX10_goesFit 47 rfl) rfl ?_
    refine r_getI hc (dc_at dX10_goesFit 48 rfl) fl_X10_460 hf fun x1 hf => ?_
    refine r_iconst (1 : Int32) hc (dc_at dX10_goesFit 49 rfl) (by decide) ?_
    refine r_iadd hc (dc_at dX10_goesFit 50 rfl) ?_
    refine r_putI hc he (dc_at dX10_goesFit 51 rfl) fp_X10_460 (fun q => by cases q) hf fun h2 hf => ?_
    exact r_vret hc he (hm) (hs) (dc_at dX10_goesFit 52 rfl) hf
  · refine r_aload_n hc 0 (dc_at dX10_goesFit 11 rfl) rfl ?_
    refine r_getR hc (dc_at dX10_goesFit 12 rfl) fl_X10_85 hf fun a3 hf => ?_
    refine r_bipush (6 : Int32) hc (dc_at dX10_goesFit 13 rfl) (by decide) ?_
    refine r_iload hc 2 (dc_at dX10_goesFit 14 rfl) rfl ?_
    refine r_imul hc (dc_at dX10_goesFit 15 rfl) ?_
    refine r_aload_n hc 0 (dc_at dX10_goesFit 16 rfl) rfl ?_
    refine r_getR hc (dc_at dX10_goesFit 17 rfl) fl_X10_79 hf fun a4 hf => ?_
    refine r_iload hc 2 (dc_at dX10_goesFit 18 rfl) rfl ?_
    refine r_iaload hc (dc_at dX10_goesFit 19 rfl) hf fun x5 hf => ?_
    refine r_iadd hc (dc_at dX10_goesFit 20 rfl) ?_
    refine r_dup2 hc (dc_at dX10_goesFit 21 rfl) rfl rfl ?_
    refine r_iaload hc (dc_at dX10_goesFit 22 rfl) hf fun x6 hf => ?_
    refine r_iconst (1 : Int32) hc (dc_at dX10_goesFit 23 rfl) (by decide) ?_
    refine r_iadd hc (dc_at dX10_goesFit 24 rfl) ?_
    refine r_iastore hc (dc_at dX10_goesFit 25 rfl) hf fun h7 hf => ?_
    refine r_aload_n hc 0 (dc_at dX10_goesFit 26 rfl) rfl ?_
    refine r_getR hc (dc_at dX10_goesFit 27 rfl) fl_X10_82 hf fun a8 hf => ?_
    refine r_iload hc 2 (dc_at dX10_goesFit 28 rfl) rfl ?_
    refine r_aload_n hc 0 (dc_at dX10_goesFit 29 rfl) rfl ?_
    refine r_getI hc (dc_at dX10_goesFit 30 rfl) fl_X10_460 hf fun x9 hf => ?_
    refine r_aload_n hc 0 (dc_at dX10_goesFit 31 rfl) rfl ?_
    refine r_getI hc (dc_at dX10_goesFit 32 rfl) fl_X10_463 hf fun x10 hf => ?_
    refine r_icmp_ne (tgt := 68) hc (dc_at dX10_goesFit 33 rfl) (by decide) hf (fun hf => ?_) (fun hf => ?_)
    · refine r_aload_n hc 0 (dc_at dX10_goesFit 39 rfl) rfl ?_
      refine r_getR hc (dc_at dX10_goesFit 40 rfl) fl_X10_82 hf fun a11 hf => ?_
      refine r_iload hc 2 (dc_at dX10_goesFit 41 rfl) rfl ?_
      refine r_iaload hc (dc_at dX10_goesFit 42 rfl) hf fun x12 hf => ?_
      exact gg_sub [0, 1, 2] rfl (t_X10_goesFit_75 hrc hc hr he hm hs ih8 hf)
    · refine r_aload_n hc 0 (dc_at dX10_goesFit 34 rfl) rfl ?_
      refine r_getR hc (dc_at dX10_goesFit 35 rfl) fl_X10_79 hf fun a13 hf => ?_
      refine r_iload hc 2 (dc_at dX10_goesFit 36 rfl) rfl ?_
      refine r_iaload hc (dc_at dX10_goesFit 37 rfl) hf fun x14 hf => ?_
      refine r_goto (tgt := 75) hc (dc_at dX10_goesFit 38 rfl) (by decide) ?_
      exact gg_sub [0, 1, 2] rfl (t_X10_goesFit_75 hrc hc hr he hm hs ih8 hf)
def l_X10_goesFit_13 (rc : PH → Nat → Int32 → Int32 → Int64 → Int64 → Option (Unit × PH)) (F : Nat) : Nat → PH → Nat → Int32 → Int32 → Option (Unit × PH)
  | 0 => fun _ _ _ _ => none
  | n + 1 => fun h v0 v2 v7 => b_X10_goesFit_13 rc F (l_X10_goesFit_13 rc F n) h v0 v2 v7
theorem tl_X10_goesFit_13 {M : MV} {X : XT} {rc : PH → Nat → Int32 → Int32 → Int64 → Int64 → Option (Unit × PH)} {d : Nat} {F : Nat} {hz : PH} {r : Unit} {ce sl mc ms : Nat} (hrc : ∀ {h hz : PH} {p0 : Nat} {p1 : Int32} {p2 : Int32} {p3 : Int64} {p5 : Int64} {r : Unit}, rc h p0 p1 p2 p3 p5 = some (r, hz) → MT M.2.1 X yX10_goesFit cX10_goesFit 10 none (1 * d + 136) (58 * d + 7890) 0 0 [.ref (X.1 + p0), .int p1, .int p2, .long p3, .long p5] h none hz) (hc : Cx M X RX10 cX10_goesFit) (hr : Rx M (1 * d + 137) (58 * d + 7948) mc ms 10) (he : Ex M X none "goesFit" none hz mc ms) (hm : ce ≤ mc) (hs : sl ≤ ms) (n : Nat) : ∀ (h : PH) (v0 : Nat) (v2 : Int32) (v7 : Int32), l_X10_goesFit_13 rc F n h v0 v2 v7 = some (r, hz) → GG M X h ce sl 13 [(0, .ref (X.1 + v0)), (2, .int v2), (7, .int v7)] [] := by
  induction n with
  | zero => intro h v0 v2 v7 hf; cases hf
  | succ n ih => intro h v0 v2 v7 hf; exact tb_X10_goesFit_13 (F := F) hrc hc hr he hm hs  ih hf
def b_X10_goesFit_0 (rc : PH → Nat → Int32 → Int32 → Int64 → Int64 → Option (Unit × PH)) (F : Nat) (h : PH) (v0 : Nat) (v1 : Int32) (v2 : Int32) (v3 : Int64) (v5 : Int64) : Option (Unit × PH) := (gR 10 53 h v0).bind fun a1 => ((aI 0 h a1 v1).bind fun x2 => (if v2 = x2 then (l_X10_goesFit_13 rc F F h v0 v2 (0 : Int32)) else ((gR 10 54 h v0).bind fun a3 => ((aL h a3 (((((40 : Int32) * v1)) + v2))).bind fun x4 => (l_X10_goesFit_109 rc F F h v0 v1 v2 v3 v5 x4 (0 : Int32))))))
set_option maxRecDepth 20000 in
theorem t_X10_goesFit_0 {M : MV} {X : XT} {rc : PH → Nat → Int32 → Int32 → Int64 → Int64 → Option (Unit × PH)} {d : Nat} {F : Nat} {h hz : PH} {r : Unit} {ce sl mc ms : Nat} {v0 : Nat} {v1 : Int32} {v2 : Int32} {v3 : Int64} {v5 : Int64} (hrc : ∀ {h hz : PH} {p0 : Nat} {p1 : Int32} {p2 : Int32} {p3 : Int64} {p5 : Int64} {r : Unit}, rc h p0 p1 p2 p3 p5 = some (r, hz) → MT M.2.1 X yX10_goesFit cX10_goesFit 10 none (1 * d + 136) (58 * d + 7890) 0 0 [.ref (X.1 + p0), .int p1, .int p2, .long p3, .long p5] h none hz) (hc : Cx M X RX10 cX10_goesFit) (hr : Rx M (1 * d + 137) (58 * d + 7948) mc ms 10) (he : Ex M X none "goesFit" none hz mc ms) (hm : ce ≤ mc) (hs : sl ≤ ms) (hf : b_X10_goesFit_0 rc F h v0 v1 v2 v3 v5 = some (r, hz)) : GG M X h ce sl 0 [(0, .ref (X.1 + v0)), (1, .int v1), (2, .int v2), (3, .long v3), (5, .long v5)] [] := by
  unfold b_X10_goesFit_0 at hf
  refine r_iload_n hc 2 (dc_at dX10_goesFit 0 rfl) rfl ?_
  refine r_aload_n hc 0 (dc_at dX10_goesFit 1 rfl) rfl ?_
  refine r_getR hc (dc_at dX10_goesFit 2 rfl) fl_X10_100 hf fun a1 hf => ?_
  refine r_iload_n hc 1 (dc_at dX10_goesFit 3 rfl) rfl ?_
  refine r_iaload hc (dc_at dX10_goesFit 4 rfl) hf fun x2 hf => ?_
  refine r_icmp_ne (tgt := 93) hc (dc_at dX10_goesFit 5 rfl) (by decide) hf (fun hf => ?_) (fun hf => ?_)
  · refine r_aload_n hc 0 (dc_at dX10_goesFit 53 rfl) rfl ?_
    refine r_getR hc (dc_at dX10_goesFit 54 rfl) fl_X10_103 hf fun a3 hf => ?_
    refine r_bipush (40 : Int32) hc (dc_at dX10_goesFit 55 rfl) (by decide) ?_
    refine r_iload_n hc 1 (dc_at dX10_goesFit 56 rfl) rfl ?_
    refine r_imul hc (dc_at dX10_goesFit 57 rfl) ?_
    refine r_iload_n hc 2 (dc_at dX10_goesFit 58 rfl) rfl ?_
    refine r_iadd hc (dc_at dX10_goesFit 59 rfl) ?_
    refine r_laload hc (dc_at dX10_goesFit 60 rfl) hf fun x4 hf => ?_
    refine r_lstore [(7, .long x4), (0, .ref (X.1 + v0)), (1, .int v1), (2, .int v2), (3, .long v3), (5, .long v5)] hc hr (dc_at dX10_goesFit 61 rfl) (by decide) rfl ?_
    refine r_iconst (0 : Int32) hc (dc_at dX10_goesFit 62 rfl) (by decide) ?_
    refine r_istore [(9, .int ((0 : Int32))), (7, .long x4), (0, .ref (X.1 + v0)), (1, .int v1), (2, .int v2), (3, .long v3), (5, .long v5)] hc hr (dc_at dX10_goesFit 63 rfl) (by decide) rfl ?_
    exact gg_sub [2, 3, 4, 5, 6, 1, 0] rfl (tl_X10_goesFit_109 hrc hc hr he hm hs  F _ _ _ _ _ _ _ _ hf)
  · refine r_iconst (0 : Int32) hc (dc_at dX10_goesFit 6 rfl) (by decide) ?_
    refine r_istore [(7, .int ((0 : Int32))), (0, .ref (X.1 + v0)), (1, .int v1), (2, .int v2), (3, .long v3), (5, .long v5)] hc hr (dc_at dX10_goesFit 7 rfl) (by decide) rfl ?_
    exact gg_sub [1, 3, 0] rfl (tl_X10_goesFit_13 hrc hc hr he hm hs  F _ _ _ _ hf)
def g_X10_goesFit (rc : PH → Nat → Int32 → Int32 → Int64 → Int64 → Option (Unit × PH)) (F : Nat) (h : PH) (p0 : Nat) (p1 : Int32) (p2 : Int32) (p3 : Int64) (p5 : Int64) : Option (Unit × PH) := b_X10_goesFit_0 rc F h p0 p1 p2 p3 p5
theorem mg_X10_goesFit {l : Launch} {X : XT} {rc : PH → Nat → Int32 → Int32 → Int64 → Int64 → Option (Unit × PH)} {d : Nat} {F : Nat} {h hz : PH} {p0 : Nat} {p1 : Int32} {p2 : Int32} {p3 : Int64} {p5 : Int64} {r : Unit} (hrc : ∀ {h hz : PH} {p0 : Nat} {p1 : Int32} {p2 : Int32} {p3 : Int64} {p5 : Int64} {r : Unit}, rc h p0 p1 p2 p3 p5 = some (r, hz) → MT l X yX10_goesFit cX10_goesFit 10 none (1 * d + 136) (58 * d + 7890) 0 0 [.ref (X.1 + p0), .int p1, .int p2, .long p3, .long p5] h none hz) (ex : g_X10_goesFit rc F h p0 p1 p2 p3 p5 = some (r, hz)) : MT l X yX10_goesFit cX10_goesFit 10 none (1 * d + 137) (58 * d + 7948) 0 0 [.ref (X.1 + p0), .int p1, .int p2, .long p3, .long p5] h none hz := MT.of (by decide) (Nat.le_of_ble_eq_true rfl) fun M hl hc hr he => by
  subst hl
  exact gg_sub [0, 1, 2, 3, 4] rfl (t_X10_goesFit_0 hrc hc hr he (Nat.zero_le _) (Nat.zero_le _) ex)
def m_X10_goesFit (F : Nat) : Nat → PH → Nat → Int32 → Int32 → Int64 → Int64 → Option (Unit × PH)
  | 0 => fun _ _ _ _ _ _ => none
  | d + 1 => fun h p0 p1 p2 p3 p5 => g_X10_goesFit (m_X10_goesFit F d) F h p0 p1 p2 p3 p5
theorem mr_X10_goesFit {l : Launch} {X : XT} {F : Nat} (d : Nat) : ∀ {h hz : PH} {p0 : Nat} {p1 : Int32} {p2 : Int32} {p3 : Int64} {p5 : Int64} {r : Unit}, m_X10_goesFit F d h p0 p1 p2 p3 p5 = some (r, hz) → MT l X yX10_goesFit cX10_goesFit 10 none (1 * d + 136) (58 * d + 7890) 0 0 [.ref (X.1 + p0), .int p1, .int p2, .long p3, .long p5] h none hz := by
  induction d with
  | zero => intro _ _ _ _ _ _ _ _ hf; cases hf
  | succ d ih => intro _ _ _ _ _ _ _ _ hf; exact (show 1 * (d + 1) + 136 = 1 * d + 137 by omega) ▸ (show 58 * (d + 1) + 7890 = 58 * d + 7948 by omega) ▸ mg_X10_goesFit ih hf
theorem mt_X10_goesFit {l : Launch} {X : XT} {F : Nat} {h hz : PH} {p0 : Nat} {p1 : Int32} {p2 : Int32} {p3 : Int64} {p5 : Int64} {r : Unit} (ex : m_X10_goesFit F 10 h p0 p1 p2 p3 p5 = some (r, hz)) : MT l X yX10_goesFit cX10_goesFit 10 none 146 8470 0 0 [.ref (X.1 + p0), .int p1, .int p2, .long p3, .long p5] h none hz := mr_X10_goesFit 10 ex
/-! FractionLiftModel.laysFits(IIZ)I -/
def lX10_laysFitsL : List (Nat × Instr × Nat × Nat) := [(0, .aload_n 0, 1, 1), (1, .iload_n 1, 1, 2), (2, .iconst 2, 1, 3), (3, .invokevirtual 296, 3, 6), (6, .istore 4, 2, 8), (8, .iload 4, 2, 10), (10, .ifCond .eq 6, 3, 13), (13, .iload 4, 2, 15), (15, .ireturn, 1, 16), (16, .iconst 0, 1, 17), (17, .istore 5, 2, 19), (19, .iload 5, 2, 21), (21, .aload_n 0, 1, 22), (22, .getfield 100, 3, 25), (25, .iload_n 1, 1, 26), (26, .iaload, 1, 27), (27, .if_icmp .ge 50, 3, 30), (30, .aload_n 0, 1, 31), (31, .getfield 103, 3, 34), (34, .bipush 40, 2, 36), (36, .iload_n 1, 1, 37), (37, .imul, 1, 38), (38, .iload 5, 2, 40), (40, .iadd, 1, 41), (41, .laload, 1, 42), (42, .ldc2_w 334, 3, 45), (45, .lcmp, 1, 46), (46, .ifCond .eq 25, 3, 49), (49, .aload_n 0, 1, 50), (50, .aload_n 0, 1, 51), (51, .getfield 103, 3, 54), (54, .bipush 40, 2, 56), (56, .iload_n 1, 1, 57), (57, .imul, 1, 58), (58, .iload 5, 2, 60), (60, .iadd, 1, 61), (61, .laload, 1, 62), (62, .invokevirtual 247, 3, 65), (65, .ifCond .ne 6, 3, 68), (68, .bipush (-3), 2, 70), (70, .ireturn, 1, 71), (71, .iinc 5 1, 3, 74), (74, .goto (-55), 3, 77), (77, .iload_n 3, 1, 78), (78, .ifCond .ne 6, 3, 81), (81, .bipush (-3), 2, 83), (83, .ireturn, 1, 84), (84, .lconst 1, 1, 85), (85, .lstore 5, 2, 87), (87, .iconst 0, 1, 88), (88, .istore 7, 2, 90), (90, .iload 7, 2, 92), (92, .aload_n 0, 1, 93), (93, .getfield 100, 3, 96), (96, .iload_n 1, 1, 97), (97, .iaload, 1, 98), (98, .if_icmp .ge 21, 3, 101), (101, .lload 5, 2, 103), (103, .aload_n 0, 1, 104), (104, .getfield 13, 3, 107), (107, .iconst 2, 1, 108), (108, .iaload, 1, 109), (109, .i2l, 1, 110), (110, .lmul, 1, 111), (111, .lstore 5, 2, 113), (113, .iinc 7 1, 3, 116), (116, .goto (-26), 3, 119), (119, .lload 5, 2, 121), (121, .ldc2_w 469, 3, 124), (124, .lcmp, 1, 125), (125, .ifCond .le 7, 3, 128), (128, .sipush (-1000), 3, 131), (131, .ireturn, 1, 132), (132, .iconst 0, 1, 133), (133, .istore 7, 2, 135), (135, .iload 7, 2, 137), (137, .bipush 48, 2, 139), (139, .if_icmp .ge 17, 3, 142), (142, .aload_n 0, 1, 143), (143, .getfield 85, 3, 146), (146, .iload 7, 2, 148), (148, .iconst 0, 1, 149), (149, .iastore, 1, 150), (150, .iinc 7 1, 3, 153), (153, .goto (-18), 3, 156), (156, .aload_n 0, 1, 157), (157, .iconst 0, 1, 158), (158, .putfield 460, 3, 161), (161, .aload_n 0, 1, 162), (162, .iload_n 2, 1, 163), (163, .putfield 463, 3, 166), (166, .aload_n 0, 1, 167), (167, .iload_n 1, 1, 168), (168, .iconst 0, 1, 169), (169, .aload_n 0, 1, 170), (170, .getfield 13, 3, 173), (173, .bipush 7, 2, 175), (175, .iaload, 1, 176), (176, .i2l, 1, 177), (177, .aload_n 0, 1, 178), (178, .getfield 13, 3, 181), (181, .bipush 8, 2, 183), (183, .iaload, 1, 184), (184, .i2l, 1, 185), (185, .invokevirtual 466, 3, 188), (188, .iconst 0, 1, 189), (189, .ireturn, 1, 190)]
set_option maxRecDepth 20000 in
theorem dX10_laysFits : dcL cX10_laysFits lX10_laysFitsL = true := by decide +kernel
def b_X10_laysFits_71 (F : Nat) (self11 : PH → Nat → Int32 → Int32 → Int32 → Int32 → Option (Int32 × PH)) (h : PH) (v0 : Nat) (v1 : Int32) (v2 : Int32) (v3 : Int32) (v5 : Int32) : Option (Int32 × PH) := bindv (v5 + (1)) fun x1 => (self11 h v0 v1 v2 v3 x1)
set_option maxRecDepth 20000 in
theorem t_X10_laysFits_71 {M : MV} {X : XT} {F : Nat} {self11 : PH → Nat → Int32 → Int32 → Int32 → Int32 → Option (Int32 × PH)} {h hz : PH} {r : Int32} {ce sl mc ms : Nat} {v0 : Nat} {v1 : Int32} {v2 : Int32} {v3 : Int32} {v5 : Int32} (hc : Cx M X RX10 cX10_laysFits) (hr : Rx M 147 8528 mc ms 8) (he : Ex M X (some .int) "laysFits" (some (.int r)) hz mc ms) (hm : ce ≤ mc) (hs : sl ≤ ms) (ih11 : ∀ (h : PH) (v0 : Nat) (v1 : Int32) (v2 : Int32) (v3 : Int32) (v5 : Int32), self11 h v0 v1 v2 v3 v5 = some (r, hz) → GG M X h ce sl 19 [(0, .ref (X.1 + v0)), (1, .int v1), (2, .int v2), (3, .int v3), (5, .int v5)] []) (hf : b_X10_laysFits_71 F self11 h v0 v1 v2 v3 v5 = some (r, hz)) : GG M X h ce sl 71 [(0, .ref (X.1 + v0)), (1, .int v1), (2, .int v2), (3, .int v3), (5, .int v5)] [] := by
  unfold b_X10_laysFits_71 at hf
  refine obv hf fun x1 e_x1 hf => ?_
  refine r_iinc 4 [(5, .int x1), (0, .ref (X.1 + v0)), (1, .int v1), (2, .int v2), (3, .int v3)] hc hr (dc_at dX10_laysFits 41 rfl) rfl (by rw [e_x1]; rfl) (by decide) rfl ?_
  refine r_goto (tgt := 19) hc (dc_at dX10_laysFits 42 rfl) (by decide) ?_
  exact gg_sub [1, 2, 3, 4, 0] rfl (ih11 _ _ _ _ _ _ hf)
def b_X10_laysFits_135 (F : Nat) (self75 : PH → Nat → Int32 → Int32 → Int32 → Option (Int32 × PH)) (h : PH) (v0 : Nat) (v1 : Int32) (v2 : Int32) (v7 : Int32) : Option (Int32 × PH) := if (48 : Int32) ≤ v7 then ((pV 10 46 (.int (0 : Int32)) h v0).bind fun h1 => ((pV 10 47 (.int v2) h1 v0).bind fun h2 => ((gR 10 1 h2 v0).bind fun a3 => ((aI 0 h2 a3 (7 : Int32)).bind fun x4 => ((gR 10 1 h2 v0).bind fun a5 => ((aI 0 h2 a5 (8 : Int32)).bind fun x6 => (cO 10 h2 v0 (bind2 (m_X10_goesFit F 10 h2 v0 v1 (0 : Int32) (Int32.toInt64 x4) (Int32.toInt64 x6)) fun _ h8 => (some ((0 : Int32), h8)))))))))) else ((gR 10 45 h v0).bind fun a9 => ((sI 0 h a9 v7 (0 : Int32)).bind fun h10 => (bindv (v7 + (1)) fun x11 => (self75 h10 v0 v1 v2 x11))))
set_option maxRecDepth 20000 in
theorem tb_X10_laysFits_135 {M : MV} {X : XT} {F : Nat} {self75 : PH → Nat → Int32 → Int32 → Int32 → Option (Int32 × PH)} {h hz : PH} {r : Int32} {ce sl mc ms : Nat} {v0 : Nat} {v1 : Int32} {v2 : Int32} {v7 : Int32} (hc : Cx M X RX10 cX10_laysFits) (hr : Rx M 147 8528 mc ms 8) (he : Ex M X (some .int) "laysFits" (some (.int r)) hz mc ms) (hm : ce ≤ mc) (hs : sl ≤ ms) (ih75 : ∀ (h : PH) (v0 : Nat) (v1 : Int32) (v2 : Int32) (v7 : Int32), self75 h v0 v1 v2 v7 = some (r, hz) → GG M X h ce sl 135 [(0, .ref (X.1 + v0)), (1, .int v1), (2, .int v2), (7, .int v7)] []) (hf : b_X10_laysFits_135 F self75 h v0 v1 v2 v7 = some (r, hz)) : GG M X h ce sl 135 [(0, .ref (X.1 + v0)), (1, .int v1), (2, .int v2), (7, .int v7)] [] := by
  unfold b_X10_laysFits_135 at hf
  refine r_iload hc 3 (dc_at dX10_laysFits 75 rfl) rfl ?_
  refine r_bipush (48 : Int32) hc (dc_at dX10_laysFits 76 rfl) (by decide) ?_
  refine r_icmp_ge (tgt := 156) hc (dc_at dX10_laysFits 77 rfl) (by decide) hf (fun hf => ?_) (fun hf => ?_)
  · refine r_aload_n hc 0 (dc_at dX10_laysFits 85 rfl) rfl ?_
    refine r_iconst (0 : Int32) hc (dc_at dX10_laysFits 86 rfl) (by decide) ?_
    refine r_putI hc he (dc_at dX10_laysFits 87 rfl) fp_X10_460 (fun q => by cases q) hf fun h1 hf => ?_
    refine r_aload_n hc 0 (dc_at dX10_laysFits 88 rfl) rfl ?_
    refine r_iload_n hc 2 (dc_at dX10_laysFits 89 rfl) rfl ?_
    refine r_putI hc he (dc_at dX10_laysFits 90 rfl) fp_X10_463 (fun q => by cases q) hf fun h2 hf => ?_
    refine r_aload_n hc 0 (dc_at dX10_laysFits 91 rfl) rfl ?_
    refine r_iload_n hc 1 (dc_at dX10_laysFits 92 rfl) rfl ?_
    refine r_iconst (0 : Int32) hc (dc_at dX10_laysFits 93 rfl) (by decide) ?_
    refine r_aload_n hc 0 (dc_at dX10_laysFits 94 rfl) rfl ?_
    refine r_getR hc (dc_at dX10_laysFits 95 rfl) fl_X10_13 hf fun a3 hf => ?_
    refine r_bipush (7 : Int32) hc (dc_at dX10_laysFits 96 rfl) (by decide) ?_
    refine r_iaload hc (dc_at dX10_laysFits 97 rfl) hf fun x4 hf => ?_
    refine r_i2l hc (dc_at dX10_laysFits 98 rfl) ?_
    refine r_aload_n hc 0 (dc_at dX10_laysFits 99 rfl) rfl ?_
    refine r_getR hc (dc_at dX10_laysFits 100 rfl) fl_X10_13 hf fun a5 hf => ?_
    refine r_bipush (8 : Int32) hc (dc_at dX10_laysFits 101 rfl) (by decide) ?_
    refine r_iaload hc (dc_at dX10_laysFits 102 rfl) hf fun x6 hf => ?_
    refine r_i2l hc (dc_at dX10_laysFits 103 rfl) ?_
    obtain ⟨ho, hf⟩ := cO_some hf
    refine ob2 hf fun u h8 ex hf => ?_
    refine r_callVv (As := [.int v1, .int ((0 : Int32)), .long ((Int32.toInt64 x4)), .long ((Int32.toInt64 x6))]) (ci := 10) hc hr (dc_at dX10_laysFits 104 rfl) ml_X10_466 mv_X10_goesFit vi_X10_goesFit rfl ho rfl (mt_X10_goesFit ex) (by first | exact Nat.le_of_ble_eq_true rfl | omega) (by first | exact Nat.le_of_ble_eq_true rfl | omega) (by first | exact Nat.le_of_ble_eq_true rfl | omega) hm hs ?_
    refine r_iconst (0 : Int32) hc (dc_at dX10_laysFits 105 rfl) (by decide) ?_
    exact r_iret hc he (hm) (hs) (dc_at dX10_laysFits 106 rfl) hf
  · refine r_aload_n hc 0 (dc_at dX10_laysFits 78 rfl) rfl ?_
    refine r_getR hc (dc_at dX10_laysFits 79 rfl) fl_X10_85 hf fun a9 hf => ?_
    refine r_iload hc 3 (dc_at dX10_laysFits 80 rfl) rfl ?_
    refine r_iconst (0 : Int32) hc (dc_at dX10_laysFits 81 rfl) (by decide) ?_
    refine r_iastore hc (dc_at dX10_laysFits 82 rfl) hf fun h10 hf => ?_
    refine obv hf fun x11 e_x11 hf => ?_
    refine r_iinc 3 [(7, .int x11), (0, .ref (X.1 + v0)), (1, .int v1), (2, .int v2)] hc hr (dc_at dX10_laysFits 83 rfl) rfl (by rw [e_x11]; rfl) (by decide) rfl ?_
    refine r_goto (tgt := 135) hc (dc_at dX10_laysFits 84 rfl) (by decide) ?_
    exact gg_sub [1, 2, 3, 0] rfl (ih75 _ _ _ _ _ hf)
def l_X10_laysFits_135 (F : Nat) : Nat → PH → Nat → Int32 → Int32 → Int32 → Option (Int32 × PH)
  | 0 => fun _ _ _ _ _ => none
  | n + 1 => fun h v0 v1 v2 v7 => b_X10_laysFits_135 F (l_X10_laysFits_135 F n) h v0 v1 v2 v7
theorem tl_X10_laysFits_135 {M : MV} {X : XT} {F : Nat} {hz : PH} {r : Int32} {ce sl mc ms : Nat} (hc : Cx M X RX10 cX10_laysFits) (hr : Rx M 147 8528 mc ms 8) (he : Ex M X (some .int) "laysFits" (some (.int r)) hz mc ms) (hm : ce ≤ mc) (hs : sl ≤ ms) (n : Nat) : ∀ (h : PH) (v0 : Nat) (v1 : Int32) (v2 : Int32) (v7 : Int32), l_X10_laysFits_135 F n h v0 v1 v2 v7 = some (r, hz) → GG M X h ce sl 135 [(0, .ref (X.1 + v0)), (1, .int v1), (2, .int v2), (7, .int v7)] [] := by
  induction n with
  | zero => intro h v0 v1 v2 v7 hf; cases hf
  | succ n ih => intro h v0 v1 v2 v7 hf; exact tb_X10_laysFits_135 (F := F) hc hr he hm hs  ih hf
def b_X10_laysFits_90 (F : Nat) (self51 : PH → Nat → Int32 → Int32 → Int64 → Int32 → Option (Int32 × PH)) (h : PH) (v0 : Nat) (v1 : Int32) (v2 : Int32) (v5 : Int64) (v7 : Int32) : Option (Int32 × PH) := (gR 10 53 h v0).bind fun a1 => ((aI 0 h a1 v1).bind fun x2 => (if x2 ≤ v7 then (if v5 ≤ (200000 : Int64) then (l_X10_laysFits_135 F F h v0 v1 v2 (0 : Int32)) else (some ((-1000 : Int32), h))) else ((gR 10 1 h v0).bind fun a3 => ((aI 0 h a3 (2 : Int32)).bind fun x4 => (bindv ((v5 * (Int32.toInt64 x4))) fun x5 => (bindv (v7 + (1)) fun x6 => (self51 h v0 v1 v2 x5 x6)))))))
set_option maxRecDepth 20000 in
theorem tb_X10_laysFits_90 {M : MV} {X : XT} {F : Nat} {self51 : PH → Nat → Int32 → Int32 → Int64 → Int32 → Option (Int32 × PH)} {h hz : PH} {r : Int32} {ce sl mc ms : Nat} {v0 : Nat} {v1 : Int32} {v2 : Int32} {v5 : Int64} {v7 : Int32} (hc : Cx M X RX10 cX10_laysFits) (hr : Rx M 147 8528 mc ms 8) (he : Ex M X (some .int) "laysFits" (some (.int r)) hz mc ms) (hm : ce ≤ mc) (hs : sl ≤ ms) (ih51 : ∀ (h : PH) (v0 : Nat) (v1 : Int32) (v2 : Int32) (v5 : Int64) (v7 : Int32), self51 h v0 v1 v2 v5 v7 = some (r, hz) → GG M X h ce sl 90 [(0, .ref (X.1 + v0)), (1, .int v1), (2, .int v2), (5, .long v5), (7, .int v7)] []) (hf : b_X10_laysFits_90 F self51 h v0 v1 v2 v5 v7 = some (r, hz)) : GG M X h ce sl 90 [(0, .ref (X.1 + v0)), (1, .int v1), (2, .int v2), (5, .long v5), (7, .int v7)] [] := by
  unfold b_X10_laysFits_90 at hf
  refine r_iload hc 4 (dc_at dX10_laysFits 51 rfl) rfl ?_
  refine r_aload_n hc 0 (dc_at dX10_laysFits 52 rfl) rfl ?_
  refine r_getR hc (dc_at dX10_laysFits 53 rfl) fl_X10_100 hf fun a1 hf => ?_
  refine r_iload_n hc 1 (dc_at dX10_laysFits 54 rfl) rfl ?_
  refine r_iaload hc (dc_at dX10_laysFits 55 rfl) hf fun x2 hf => ?_
  refine r_icmp_ge (tgt := 119) hc (dc_at dX10_laysFits 56 rfl) (by decide) hf (fun hf => ?_) (fun hf => ?_)
  · refine r_lload hc 3 (dc_at dX10_laysFits 67 rfl) rfl ?_
    refine r_ldc2 hc (dc_at dX10_laysFits 68 rfl) cl2_X10_469 ?_
    refine r_lcmp_le (tgt := 132) hc (dc_at dX10_laysFits 69 rfl) (dc_at dX10_laysFits 70 rfl) (by decide) hf (fun hf => ?_) (fun hf => ?_)
    · refine r_iconst (0 : Int32) hc (dc_at dX10_laysFits 73 rfl) (by decide) ?_
      refine r_istore [(7, .int ((0 : Int32))), (0, .ref (X.1 + v0)), (1, .int v1), (2, .int v2), (5, .long v5)] hc hr (dc_at dX10_laysFits 74 rfl) (by decide) rfl ?_
      exact gg_sub [1, 2, 3, 0] rfl (tl_X10_laysFits_135 hc hr he hm hs  F _ _ _ _ _ hf)
    · refine r_sipush (-1000 : Int32) hc (dc_at dX10_laysFits 71 rfl) (by decide) ?_
      exact r_iret hc he (hm) (hs) (dc_at dX10_laysFits 72 rfl) hf
  · refine r_lload hc 3 (dc_at dX10_laysFits 57 rfl) rfl ?_
    refine r_aload_n hc 0 (dc_at dX10_laysFits 58 rfl) rfl ?_
    refine r_getR hc (dc_at dX10_laysFits 59 rfl) fl_X10_13 hf fun a3 hf => ?_
    refine r_iconst (2 : Int32) hc (dc_at dX10_laysFits 60 rfl) (by decide) ?_
    refine r_iaload hc (dc_at dX10_laysFits 61 rfl) hf fun x4 hf => ?_
    refine r_i2l hc (dc_at dX10_laysFits 62 rfl) ?_
    refine r_lmul hc (dc_at dX10_laysFits 63 rfl) ?_
    refine r_nm (mk := Value.long) hf fun x5 hf => ?_
    refine r_lstore [(5, .long x5), (0, .ref (X.1 + v0)), (1, .int v1), (2, .int v2), (7, .int v7)] hc hr (dc_at dX10_laysFits 64 rfl) (by decide) rfl ?_
    refine obv hf fun x6 e_x6 hf => ?_
    refine r_iinc 4 [(7, .int x6), (5, .long x5), (0, .ref (X.1 + v0)), (1, .int v1), (2, .int v2)] hc hr (dc_at dX10_laysFits 65 rfl) rfl (by rw [e_x6]; rfl) (by decide) rfl ?_
    refine r_goto (tgt := 90) hc (dc_at dX10_laysFits 66 rfl) (by decide) ?_
    exact gg_sub [2, 3, 4, 1, 0] rfl (ih51 _ _ _ _ _ _ hf)
def l_X10_laysFits_90 (F : Nat) : Nat → PH → Nat → Int32 → Int32 → Int64 → Int32 → Option (Int32 × PH)
  | 0 => fun _ _ _ _ _ _ => none
  | n + 1 => fun h v0 v1 v2 v5 v7 => b_X10_laysFits_90 F (l_X10_laysFits_90 F n) h v0 v1 v2 v5 v7
theorem tl_X10_laysFits_90 {M : MV} {X : XT} {F : Nat} {hz : PH} {r : Int32} {ce sl mc ms : Nat} (hc : Cx M X RX10 cX10_laysFits) (hr : Rx M 147 8528 mc ms 8) (he : Ex M X (some .int) "laysFits" (some (.int r)) hz mc ms) (hm : ce ≤ mc) (hs : sl ≤ ms) (n : Nat) : ∀ (h : PH) (v0 : Nat) (v1 : Int32) (v2 : Int32) (v5 : Int64) (v7 : Int32), l_X10_laysFits_90 F n h v0 v1 v2 v5 v7 = some (r, hz) → GG M X h ce sl 90 [(0, .ref (X.1 + v0)), (1, .int v1), (2, .int v2), (5, .long v5), (7, .int v7)] [] := by
  induction n with
  | zero => intro h v0 v1 v2 v5 v7 hf; cases hf
  | succ n ih => intro h v0 v1 v2 v5 v7 hf; exact tb_X10_laysFits_90 (F := F) hc hr he hm hs  ih hf
def b_X10_laysFits_19 (F : Nat) (self11 : PH → Nat → Int32 → Int32 → Int32 → Int32 → Option (Int32 × PH)) (h : PH) (v0 : Nat) (v1 : Int32) (v2 : Int32) (v3 : Int32) (v5 : Int32) : Option (Int32 × PH) := (gR 10 53 h v0).bind fun a1 => ((aI 0 h a1 v1).bind fun x2 => (if x2 ≤ v5 then (if v3 = 0 then (some ((-3 : Int32), h)) else (l_X10_laysFits_90 F F h v0 v1 v2 (1 : Int64) (0 : Int32))) else ((gR 10 54 h v0).bind fun a3 => ((aL h a3 (((((40 : Int32) * v1)) + v5))).bind fun x4 => (if x4 = (-1 : Int64) then (b_X10_laysFits_71 F self11 h v0 v1 v2 v3 v5) else ((gR 10 54 h v0).bind fun a5 => ((aL h a5 (((((40 : Int32) * v1)) + v5))).bind fun x6 => (cO 10 h v0 ((m_X10_isTold h v0 x6).bind fun x7 => (if x7 = 0 then (some ((-3 : Int32), h)) else (b_X10_laysFits_71 F self11 h v0 v1 v2 v3 v5)))))))))))
set_option maxRecDepth 20000 in
theorem tb_X10_laysFits_19 {M : MV} {X : XT} {F : Nat} {self11 : PH → Nat → Int32 → Int32 → Int32 → Int32 → Option (Int32 × PH)} {h hz : PH} {r : Int32} {ce sl mc ms : Nat} {v0 : Nat} {v1 : Int32} {v2 : Int32} {v3 : Int32} {v5 : Int32} (hc : Cx M X RX10 cX10_laysFits) (hr : Rx M 147 8528 mc ms 8) (he : Ex M X (some .int) "laysFits" (some (.int r)) hz mc ms) (hm : ce ≤ mc) (hs : sl ≤ ms) (ih11 : ∀ (h : PH) (v0 : Nat) (v1 : Int32) (v2 : Int32) (v3 : Int32) (v5 : Int32), self11 h v0 v1 v2 v3 v5 = some (r, hz) → GG M X h ce sl 19 [(0, .ref (X.1 + v0)), (1, .int v1), (2, .int v2), (3, .int v3), (5, .int v5)] []) (hf : b_X10_laysFits_19 F self11 h v0 v1 v2 v3 v5 = some (r, hz)) : GG M X h ce sl 19 [(0, .ref (X.1 + v0)), (1, .int v1), (2, .int v2), (3, .int v3), (5, .int v5)] [] := by
  unfold b_X10_laysFits_19 at hf
  refine r_iload hc 4 (dc_at dX10_laysFits 11 rfl) rfl ?_
  refine r_aload_n hc 0 (dc_at dX10_laysFits 12 rfl) rfl ?_
  refine r_getR hc (dc_at dX10_laysFits 13 rfl) fl_X10_100 hf fun a1 hf => ?_
  refine r_iload_n hc 1 (dc_at dX10_laysFits 14 rfl) rfl ?_
  refine r_iaload hc (dc_at dX10_laysFits 15 rfl) hf fun x2 hf => ?_
  refine r_icmp_ge (tgt := 77) hc (dc_at dX10_laysFits 16 rfl) (by decide) hf (fun hf => ?_) (fun hf => ?_)
  · refine r_iload_n hc 3 (dc_at dX10_laysFits 43 rfl) rfl ?_
    refine r_if_ne (tgt := 84) hc (dc_at dX10_laysFits 44 rfl) (by decide) hf (fun hf => ?_) (fun hf => ?_)
    · refine r_lconst (1 : Int64) hc (dc_at dX10_laysFits 47 rfl) (by decide) ?_
      refine r_lstore [(5, .long ((1 : Int64))), (0, .ref (X.1 + v0)), (1, .int v1), (2, .int v2), (3, .int v3)] hc hr (dc_at dX10_laysFits 48 rfl) (by decide) rfl ?_
      refine r_iconst (0 : Int32) hc (dc_at dX10_laysFits 49 rfl) (by decide) ?_
      refine r_istore [(7, .int ((0 : Int32))), (5, .long ((1 : Int64))), (0, .ref (X.1 + v0)), (1, .int v1), (2, .int v2), (3, .int v3)] hc hr (dc_at dX10_laysFits 50 rfl) (by decide) rfl ?_
      exact gg_sub [2, 3, 4, 1, 0] rfl (tl_X10_laysFits_90 hc hr he hm hs  F _ _ _ _ _ _ hf)
    · refine r_bipush (-3 : Int32) hc (dc_at dX10_laysFits 45 rfl) (by decide) ?_
      exact r_iret hc he (hm) (hs) (dc_at dX10_laysFits 46 rfl) hf
  · refine r_aload_n hc 0 (dc_at dX10_laysFits 17 rfl) rfl ?_
    refine r_getR hc (dc_at dX10_laysFits 18 rfl) fl_X10_103 hf fun a3 hf => ?_
    refine r_bipush (40 : Int32) hc (dc_at dX10_laysFits 19 rfl) (by decide) ?_
    refine r_iload_n hc 1 (dc_at dX10_laysFits 20 rfl) rfl ?_
    refine r_imul hc (dc_at dX10_laysFits 21 rfl) ?_
    refine r_iload hc 4 (dc_at dX10_laysFits 22 rfl) rfl ?_
    refine r_iadd hc (dc_at dX10_laysFits 23 rfl) ?_
    refine r_laload hc (dc_at dX10_laysFits 24 rfl) hf fun x4 hf => ?_
    refine r_ldc2 hc (dc_at dX10_laysFits 25 rfl) cl2_X10_334 ?_
    refine r_lcmp_eq (tgt := 71) hc (dc_at dX10_laysFits 26 rfl) (dc_at dX10_laysFits 27 rfl) (by decide) hf (fun hf => ?_) (fun hf => ?_)
    · exact gg_sub [0, 1, 2, 3, 4] rfl (t_X10_laysFits_71 hc hr he hm hs ih11 hf)
    · refine r_aload_n hc 0 (dc_at dX10_laysFits 28 rfl) rfl ?_
      refine r_aload_n hc 0 (dc_at dX10_laysFits 29 rfl) rfl ?_
      refine r_getR hc (dc_at dX10_laysFits 30 rfl) fl_X10_103 hf fun a5 hf => ?_
      refine r_bipush (40 : Int32) hc (dc_at dX10_laysFits 31 rfl) (by decide) ?_
      refine r_iload_n hc 1 (dc_at dX10_laysFits 32 rfl) rfl ?_
      refine r_imul hc (dc_at dX10_laysFits 33 rfl) ?_
      refine r_iload hc 4 (dc_at dX10_laysFits 34 rfl) rfl ?_
      refine r_iadd hc (dc_at dX10_laysFits 35 rfl) ?_
      refine r_laload hc (dc_at dX10_laysFits 36 rfl) hf fun x6 hf => ?_
      obtain ⟨ho, hf⟩ := cO_some hf
      refine ob hf fun x7 ex hf => ?_
      refine r_callVi (As := [.long x6]) (ci := 10) hc hr (dc_at dX10_laysFits 37 rfl) ml_X10_247 mv_X10_isTold vi_X10_isTold rfl ho rfl (mt_X10_isTold ex) (by first | exact Nat.le_of_ble_eq_true rfl | omega) (by first | exact Nat.le_of_ble_eq_true rfl | omega) (by first | exact Nat.le_of_ble_eq_true rfl | omega) hm hs ?_
      refine r_if_ne (tgt := 71) hc (dc_at dX10_laysFits 38 rfl) (by decide) hf (fun hf => ?_) (fun hf => ?_)
      · exact gg_sub [0, 1, 2, 3, 4] rfl (t_X10_laysFits_71 hc hr he hm hs ih11 hf)
      · refine r_bipush (-3 : Int32) hc (dc_at dX10_laysFits 39 rfl) (by decide) ?_
        exact r_iret hc he (hm) (hs) (dc_at dX10_laysFits 40 rfl) hf
def l_X10_laysFits_19 (F : Nat) : Nat → PH → Nat → Int32 → Int32 → Int32 → Int32 → Option (Int32 × PH)
  | 0 => fun _ _ _ _ _ _ => none
  | n + 1 => fun h v0 v1 v2 v3 v5 => b_X10_laysFits_19 F (l_X10_laysFits_19 F n) h v0 v1 v2 v3 v5
theorem tl_X10_laysFits_19 {M : MV} {X : XT} {F : Nat} {hz : PH} {r : Int32} {ce sl mc ms : Nat} (hc : Cx M X RX10 cX10_laysFits) (hr : Rx M 147 8528 mc ms 8) (he : Ex M X (some .int) "laysFits" (some (.int r)) hz mc ms) (hm : ce ≤ mc) (hs : sl ≤ ms) (n : Nat) : ∀ (h : PH) (v0 : Nat) (v1 : Int32) (v2 : Int32) (v3 : Int32) (v5 : Int32), l_X10_laysFits_19 F n h v0 v1 v2 v3 v5 = some (r, hz) → GG M X h ce sl 19 [(0, .ref (X.1 + v0)), (1, .int v1), (2, .int v2), (3, .int v3), (5, .int v5)] [] := by
  induction n with
  | zero => intro h v0 v1 v2 v3 v5 hf; cases hf
  | succ n ih => intro h v0 v1 v2 v3 v5 hf; exact tb_X10_laysFits_19 (F := F) hc hr he hm hs  ih hf
def b_X10_laysFits_0 (F : Nat) (h : PH) (v0 : Nat) (v1 : Int32) (v2 : Int32) (v3 : Int32) : Option (Int32 × PH) := cO 10 h v0 ((m_X10_noRow h v0 v1 (2 : Int32)).bind fun x1 => (if x1 = 0 then (l_X10_laysFits_19 F F h v0 v1 v2 v3 (0 : Int32)) else (some (x1, h))))
set_option maxRecDepth 20000 in
theorem t_X10_laysFits_0 {M : MV} {X : XT} {F : Nat} {h hz : PH} {r : Int32} {ce sl mc ms : Nat} {v0 : Nat} {v1 : Int32} {v2 : Int32} {v3 : Int32} (hc : Cx M X RX10 cX10_laysFits) (hr : Rx M 147 8528 mc ms 8) (he : Ex M X (some .int) "laysFits" (some (.int r)) hz mc ms) (hm : ce ≤ mc) (hs : sl ≤ ms) (hf : b_X10_laysFits_0 F h v0 v1 v2 v3 = some (r, hz)) : GG M X h ce sl 0 [(0, .ref (X.1 + v0)), (1, .int v1), (2, .int v2), (3, .int v3)] [] := by
  unfold b_X10_laysFits_0 at hf
  refine r_aload_n hc 0 (dc_at dX10_laysFits 0 rfl) rfl ?_
  refine r_iload_n hc 1 (dc_at dX10_laysFits 1 rfl) rfl ?_
  refine r_iconst (2 : Int32) hc (dc_at dX10_laysFits 2 rfl) (by decide) ?_
  obtain ⟨ho, hf⟩ := cO_some hf
  refine ob hf fun x1 ex hf => ?_
  refine r_callVi (As := [.int v1, .int ((2 : Int32))]) (ci := 10) hc hr (dc_at dX10_laysFits 3 rfl) ml_X10_296 mv_X10_noRow vi_X10_noRow rfl ho rfl (mt_X10_noRow ex) (by first | exact Nat.le_of_ble_eq_true rfl | omega) (by first | exact Nat.le_of_ble_eq_true rfl | omega) (by first | exact Nat.le_of_ble_eq_true rfl | omega) hm hs ?_
  refine r_istore [(4, .int x1), (0, .ref (X.1 + v0)), (1, .int v1), (2, .int v2), (3, .int v3)] hc hr (dc_at dX10_laysFits 4 rfl) (by decide) rfl ?_
  refine r_iload hc 0 (dc_at dX10_laysFits 5 rfl) rfl ?_
  refine r_if_eq (tgt := 16) hc (dc_at dX10_laysFits 6 rfl) (by decide) hf (fun hf => ?_) (fun hf => ?_)
  · refine r_iconst (0 : Int32) hc (dc_at dX10_laysFits 9 rfl) (by decide) ?_
    refine r_istore [(5, .int ((0 : Int32))), (4, .int x1), (0, .ref (X.1 + v0)), (1, .int v1), (2, .int v2), (3, .int v3)] hc hr (dc_at dX10_laysFits 10 rfl) (by decide) rfl ?_
    exact gg_sub [2, 3, 4, 5, 0] rfl (tl_X10_laysFits_19 hc hr he hm hs  F _ _ _ _ _ _ hf)
  · refine r_iload hc 0 (dc_at dX10_laysFits 7 rfl) rfl ?_
    exact r_iret hc he (hm) (hs) (dc_at dX10_laysFits 8 rfl) hf
def m_X10_laysFits (F : Nat) (h : PH) (p0 : Nat) (p1 : Int32) (p2 : Int32) (p3 : Int32) : Option (Int32 × PH) := b_X10_laysFits_0 F h p0 p1 p2 p3
theorem mt_X10_laysFits {l : Launch} {X : XT} {F : Nat} {h hz : PH} {p0 : Nat} {p1 : Int32} {p2 : Int32} {p3 : Int32} {r : Int32} (ex : m_X10_laysFits F h p0 p1 p2 p3 = some (r, hz)) : MT l X yX10_laysFits cX10_laysFits 8 (some .int) 147 8528 0 0 [.ref (X.1 + p0), .int p1, .int p2, .int p3] h (some (.int r)) hz := MT.of (by decide) (Nat.le_of_ble_eq_true rfl) fun M hl hc hr he => by
  subst hl
  exact gg_sub [0, 1, 2, 3] rfl (t_X10_laysFits_0  hc hr he (Nat.zero_le _) (Nat.zero_le _) ex)
/-! FractionLiftModel.fits(II)I -/
def lX10_fitsL : List (Nat × Instr × Nat × Nat) := [(0, .aload_n 0, 1, 1), (1, .iconst 0, 1, 2), (2, .putfield 1, 3, 5), (5, .aload_n 0, 1, 6), (6, .iload_n 1, 1, 7), (7, .iload_n 2, 1, 8), (8, .iconst 1, 1, 9), (9, .invokevirtual 471, 3, 12), (12, .istore_n 3, 1, 13), (13, .iload_n 3, 1, 14), (14, .ifCond .eq 5, 3, 17), (17, .iload_n 3, 1, 18), (18, .ireturn, 1, 19), (19, .iload_n 2, 1, 20), (20, .iconst (-1), 1, 21), (21, .if_icmp .ne 8, 3, 24), (24, .aload_n 0, 1, 25), (25, .getfield 460, 3, 28), (28, .ireturn, 1, 29), (29, .iload_n 2, 1, 30), (30, .i2l, 1, 31), (31, .lconst 0, 1, 32), (32, .aload_n 0, 1, 33), (33, .getfield 460, 3, 36), (36, .iconst 1, 1, 37), (37, .isub, 1, 38), (38, .i2l, 1, 39), (39, .invokestatic 172, 3, 42), (42, .ifCond .ne 5, 3, 45), (45, .iconst (-1), 1, 46), (46, .ireturn, 1, 47), (47, .iconst 0, 1, 48), (48, .istore 4, 2, 50), (50, .iconst 0, 1, 51), (51, .istore 5, 2, 53), (53, .iload 5, 2, 55), (55, .aload_n 0, 1, 56), (56, .getfield 100, 3, 59), (59, .iload_n 1, 1, 60), (60, .iaload, 1, 61), (61, .if_icmp .ge 24, 3, 64), (64, .bipush 6, 2, 66), (66, .iload 4, 2, 68), (68, .imul, 1, 69), (69, .aload_n 0, 1, 70), (70, .getfield 82, 3, 73), (73, .iload 5, 2, 75), (75, .iaload, 1, 76), (76, .iadd, 1, 77), (77, .istore 4, 2, 79), (79, .iinc 5 1, 3, 82), (82, .goto (-29), 3, 85), (85, .iload 4, 2, 87), (87, .ireturn, 1, 88)]
set_option maxRecDepth 20000 in
theorem dX10_fits : dcL cX10_fits lX10_fitsL = true := by decide +kernel
def b_X10_fits_53 (F : Nat) (self35 : PH → Nat → Int32 → Int32 → Int32 → Option (Int32 × PH)) (h : PH) (v0 : Nat) (v1 : Int32) (v4 : Int32) (v5 : Int32) : Option (Int32 × PH) := (gR 10 53 h v0).bind fun a1 => ((aI 0 h a1 v1).bind fun x2 => (if x2 ≤ v5 then (some (v4, h)) else ((gR 10 44 h v0).bind fun a3 => ((aI 0 h a3 v5).bind fun x4 => (bindv (((((6 : Int32) * v4)) + x4)) fun x5 => (bindv (v5 + (1)) fun x6 => (self35 h v0 v1 x5 x6)))))))
set_option maxRecDepth 20000 in
theorem tb_X10_fits_53 {M : MV} {X : XT} {F : Nat} {self35 : PH → Nat → Int32 → Int32 → Int32 → Option (Int32 × PH)} {h hz : PH} {r : Int32} {ce sl mc ms : Nat} {v0 : Nat} {v1 : Int32} {v4 : Int32} {v5 : Int32} (hc : Cx M X RX10 cX10_fits) (hr : Rx M 148 8586 mc ms 6) (he : Ex M X (some .int) "fits" (some (.int r)) hz mc ms) (hm : ce ≤ mc) (hs : sl ≤ ms) (ih35 : ∀ (h : PH) (v0 : Nat) (v1 : Int32) (v4 : Int32) (v5 : Int32), self35 h v0 v1 v4 v5 = some (r, hz) → GG M X h ce sl 53 [(0, .ref (X.1 + v0)), (1, .int v1), (4, .int v4), (5, .int v5)] []) (hf : b_X10_fits_53 F self35 h v0 v1 v4 v5 = some (r, hz)) : GG M X h ce sl 53 [(0, .ref (X.1 + v0)), (1, .int v1), (4, .int v4), (5, .int v5)] [] := by
  unfold b_X10_fits_53 at hf
  refine r_iload hc 3 (dc_at dX10_fits 35 rfl) rfl ?_
  refine r_aload_n hc 0 (dc_at dX10_fits 36 rfl) rfl ?_
  refine r_getR hc (dc_at dX10_fits 37 rfl) fl_X10_100 hf fun a1 hf => ?_
  refine r_iload_n hc 1 (dc_at dX10_fits 38 rfl) rfl ?_
  refine r_iaload hc (dc_at dX10_fits 39 rfl) hf fun x2 hf => ?_
  refine r_icmp_ge (tgt := 85) hc (dc_at dX10_fits 40 rfl) (by decide) hf (fun hf => ?_) (fun hf => ?_)
  · refine r_iload hc 2 (dc_at dX10_fits 52 rfl) rfl ?_
    exact r_iret hc he (hm) (hs) (dc_at dX10_fits 53 rfl) hf
  · refine r_bipush (6 : Int32) hc (dc_at dX10_fits 41 rfl) (by decide) ?_
    refine r_iload hc 2 (dc_at dX10_fits 42 rfl) rfl ?_
    refine r_imul hc (dc_at dX10_fits 43 rfl) ?_
    refine r_aload_n hc 0 (dc_at dX10_fits 44 rfl) rfl ?_
    refine r_getR hc (dc_at dX10_fits 45 rfl) fl_X10_82 hf fun a3 hf => ?_
    refine r_iload hc 3 (dc_at dX10_fits 46 rfl) rfl ?_
    refine r_iaload hc (dc_at dX10_fits 47 rfl) hf fun x4 hf => ?_
    refine r_iadd hc (dc_at dX10_fits 48 rfl) ?_
    refine r_nm (mk := Value.int) hf fun x5 hf => ?_
    refine r_istore [(4, .int x5), (0, .ref (X.1 + v0)), (1, .int v1), (5, .int v5)] hc hr (dc_at dX10_fits 49 rfl) (by decide) rfl ?_
    refine obv hf fun x6 e_x6 hf => ?_
    refine r_iinc 3 [(5, .int x6), (4, .int x5), (0, .ref (X.1 + v0)), (1, .int v1)] hc hr (dc_at dX10_fits 50 rfl) rfl (by rw [e_x6]; rfl) (by decide) rfl ?_
    refine r_goto (tgt := 53) hc (dc_at dX10_fits 51 rfl) (by decide) ?_
    exact gg_sub [2, 3, 1, 0] rfl (ih35 _ _ _ _ _ hf)
def l_X10_fits_53 (F : Nat) : Nat → PH → Nat → Int32 → Int32 → Int32 → Option (Int32 × PH)
  | 0 => fun _ _ _ _ _ => none
  | n + 1 => fun h v0 v1 v4 v5 => b_X10_fits_53 F (l_X10_fits_53 F n) h v0 v1 v4 v5
theorem tl_X10_fits_53 {M : MV} {X : XT} {F : Nat} {hz : PH} {r : Int32} {ce sl mc ms : Nat} (hc : Cx M X RX10 cX10_fits) (hr : Rx M 148 8586 mc ms 6) (he : Ex M X (some .int) "fits" (some (.int r)) hz mc ms) (hm : ce ≤ mc) (hs : sl ≤ ms) (n : Nat) : ∀ (h : PH) (v0 : Nat) (v1 : Int32) (v4 : Int32) (v5 : Int32), l_X10_fits_53 F n h v0 v1 v4 v5 = some (r, hz) → GG M X h ce sl 53 [(0, .ref (X.1 + v0)), (1, .int v1), (4, .int v4), (5, .int v5)] [] := by
  induction n with
  | zero => intro h v0 v1 v4 v5 hf; cases hf
  | succ n ih => intro h v0 v1 v4 v5 hf; exact tb_X10_fits_53 (F := F) hc hr he hm hs  ih hf
def b_X10_fits_0 (F : Nat) (h : PH) (v0 : Nat) (v1 : Int32) (v2 : Int32) : Option (Int32 × PH) := (pV 10 0 (.int (0 : Int32)) h v0).bind fun h1 => (cO 10 h1 v0 (bind2 (m_X10_laysFits F h1 v0 v1 v2 (1 : Int32)) fun x2 h3 => (if x2 = 0 then (if v2 = (-1 : Int32) then ((gI 10 46 h3 v0).bind fun x6 => (some (x6, h3))) else ((gI 10 46 h3 v0).bind fun x4 => ((m_X10_within (Int32.toInt64 v2) (0 : Int64) ((Int32.toInt64 ((x4 - (1 : Int32)))))).bind fun x5 => (if x5 = 0 then (some ((-1 : Int32), h3)) else (l_X10_fits_53 F F h3 v0 v1 (0 : Int32) (0 : Int32)))))) else (some (x2, h3)))))
set_option maxRecDepth 20000 in
theorem t_X10_fits_0 {M : MV} {X : XT} {F : Nat} {h hz : PH} {r : Int32} {ce sl mc ms : Nat} {v0 : Nat} {v1 : Int32} {v2 : Int32} (hc : Cx M X RX10 cX10_fits) (hr : Rx M 148 8586 mc ms 6) (he : Ex M X (some .int) "fits" (some (.int r)) hz mc ms) (hm : ce ≤ mc) (hs : sl ≤ ms) (hf : b_X10_fits_0 F h v0 v1 v2 = some (r, hz)) : GG M X h ce sl 0 [(0, .ref (X.1 + v0)), (1, .int v1), (2, .int v2)] [] := by
  unfold b_X10_fits_0 at hf
  refine r_aload_n hc 0 (dc_at dX10_fits 0 rfl) rfl ?_
  refine r_iconst (0 : Int32) hc (dc_at dX10_fits 1 rfl) (by decide) ?_
  refine r_putI hc he (dc_at dX10_fits 2 rfl) fp_X10_1 (fun q => by cases q) hf fun h1 hf => ?_
  refine r_aload_n hc 0 (dc_at dX10_fits 3 rfl) rfl ?_
  refine r_iload_n hc 1 (dc_at dX10_fits 4 rfl) rfl ?_
  refine r_iload_n hc 2 (dc_at dX10_fits 5 rfl) rfl ?_
  refine r_iconst (1 : Int32) hc (dc_at dX10_fits 6 rfl) (by decide) ?_
  obtain ⟨ho, hf⟩ := cO_some hf
  refine ob2 hf fun x2 h3 ex hf => ?_
  refine r_callVi (As := [.int v1, .int v2, .int ((1 : Int32))]) (ci := 10) hc hr (dc_at dX10_fits 7 rfl) ml_X10_471 mv_X10_laysFits vi_X10_laysFits rfl ho rfl (mt_X10_laysFits ex) (by first | exact Nat.le_of_ble_eq_true rfl | omega) (by first | exact Nat.le_of_ble_eq_true rfl | omega) (by first | exact Nat.le_of_ble_eq_true rfl | omega) hm hs ?_
  refine r_istore_n [(3, .int x2), (0, .ref (X.1 + v0)), (1, .int v1), (2, .int v2)] hc hr (dc_at dX10_fits 8 rfl) (by decide) rfl ?_
  refine r_iload_n hc 0 (dc_at dX10_fits 9 rfl) rfl ?_
  refine r_if_eq (tgt := 19) hc (dc_at dX10_fits 10 rfl) (by decide) hf (fun hf => ?_) (fun hf => ?_)
  · refine r_iload_n hc 3 (dc_at dX10_fits 13 rfl) rfl ?_
    refine r_iconst (-1 : Int32) hc (dc_at dX10_fits 14 rfl) (by decide) ?_
    refine r_icmp_ne (tgt := 29) hc (dc_at dX10_fits 15 rfl) (by decide) hf (fun hf => ?_) (fun hf => ?_)
    · refine r_iload_n hc 3 (dc_at dX10_fits 19 rfl) rfl ?_
      refine r_i2l hc (dc_at dX10_fits 20 rfl) ?_
      refine r_lconst (0 : Int64) hc (dc_at dX10_fits 21 rfl) (by decide) ?_
      refine r_aload_n hc 1 (dc_at dX10_fits 22 rfl) rfl ?_
      refine r_getI hc (dc_at dX10_fits 23 rfl) fl_X10_460 hf fun x4 hf => ?_
      refine r_iconst (1 : Int32) hc (dc_at dX10_fits 24 rfl) (by decide) ?_
      refine r_isub hc (dc_at dX10_fits 25 rfl) ?_
      refine r_i2l hc (dc_at dX10_fits 26 rfl) ?_
      refine ob hf fun x5 ex hf => ?_
      refine r_callSi (As := [.long ((Int32.toInt64 v2)), .long ((0 : Int64)), .long ((Int32.toInt64 ((x4 - (1 : Int32)))))]) hc hr (dc_at dX10_fits 27 rfl) ml_X10_172 mv_X10_within st_X10_within rfl (mt_X10_within ex) (by first | exact Nat.le_of_ble_eq_true rfl | omega) (by first | exact Nat.le_of_ble_eq_true rfl | omega) (by first | exact Nat.le_of_ble_eq_true rfl | omega) hm hs ?_
      refine r_if_ne (tgt := 47) hc (dc_at dX10_fits 28 rfl) (by decide) hf (fun hf => ?_) (fun hf => ?_)
      · refine r_iconst (0 : Int32) hc (dc_at dX10_fits 31 rfl) (by decide) ?_
        refine r_istore [(4, .int ((0 : Int32))), (3, .int x2), (0, .ref (X.1 + v0)), (1, .int v1), (2, .int v2)] hc hr (dc_at dX10_fits 32 rfl) (by decide) rfl ?_
        refine r_iconst (0 : Int32) hc (dc_at dX10_fits 33 rfl) (by decide) ?_
        refine r_istore [(5, .int ((0 : Int32))), (4, .int ((0 : Int32))), (3, .int x2), (0, .ref (X.1 + v0)), (1, .int v1), (2, .int v2)] hc hr (dc_at dX10_fits 34 rfl) (by decide) rfl ?_
        exact gg_sub [3, 4, 1, 0] rfl (tl_X10_fits_53 hc hr he hm hs  F _ _ _ _ _ hf)
      · refine r_iconst (-1 : Int32) hc (dc_at dX10_fits 29 rfl) (by decide) ?_
        exact r_iret hc he (hm) (hs) (dc_at dX10_fits 30 rfl) hf
    · refine r_aload_n hc 1 (dc_at dX10_fits 16 rfl) rfl ?_
      refine r_getI hc (dc_at dX10_fits 17 rfl) fl_X10_460 hf fun x6 hf => ?_
      exact r_iret hc he (hm) (hs) (dc_at dX10_fits 18 rfl) hf
  · refine r_iload_n hc 0 (dc_at dX10_fits 11 rfl) rfl ?_
    exact r_iret hc he (hm) (hs) (dc_at dX10_fits 12 rfl) hf
def m_X10_fits (F : Nat) (h : PH) (p0 : Nat) (p1 : Int32) (p2 : Int32) : Option (Int32 × PH) := b_X10_fits_0 F h p0 p1 p2
theorem mt_X10_fits {l : Launch} {X : XT} {F : Nat} {h hz : PH} {p0 : Nat} {p1 : Int32} {p2 : Int32} {r : Int32} (ex : m_X10_fits F h p0 p1 p2 = some (r, hz)) : MT l X yX10_fits cX10_fits 6 (some .int) 148 8586 0 0 [.ref (X.1 + p0), .int p1, .int p2] h (some (.int r)) hz := MT.of (by decide) (Nat.le_of_ble_eq_true rfl) fun M hl hc hr he => by
  subst hl
  exact gg_sub [0, 1, 2] rfl (t_X10_fits_0  hc hr he (Nat.zero_le _) (Nat.zero_le _) ex)
/-! FractionLiftModel.sure(II)I -/
def lX10_sureL : List (Nat × Instr × Nat × Nat) := [(0, .aload_n 0, 1, 1), (1, .iconst 0, 1, 2), (2, .putfield 1, 3, 5), (5, .aload_n 0, 1, 6), (6, .iload_n 1, 1, 7), (7, .iconst (-1), 1, 8), (8, .iload_n 1, 1, 9), (9, .i2l, 1, 10), (10, .lconst 0, 1, 11), (11, .ldc2_w 290, 3, 14), (14, .invokestatic 172, 3, 17), (17, .ifCond .eq 21, 3, 20), (20, .iload_n 2, 1, 21), (21, .i2l, 1, 22), (22, .lconst 0, 1, 23), (23, .aload_n 0, 1, 24), (24, .getfield 100, 3, 27), (27, .iload_n 1, 1, 28), (28, .iaload, 1, 29), (29, .iconst 1, 1, 30), (30, .isub, 1, 31), (31, .i2l, 1, 32), (32, .invokestatic 172, 3, 35), (35, .ifCond .eq 7, 3, 38), (38, .iconst 1, 1, 39), (39, .goto 4, 3, 42), (42, .iconst 0, 1, 43), (43, .invokevirtual 471, 3, 46), (46, .istore_n 3, 1, 47), (47, .iload_n 3, 1, 48), (48, .ifCond .eq 5, 3, 51), (51, .iload_n 3, 1, 52), (52, .ireturn, 1, 53), (53, .iconst 0, 1, 54), (54, .istore 4, 2, 56), (56, .iload 4, 2, 58), (58, .aload_n 0, 1, 59), (59, .getfield 13, 3, 62), (62, .iconst 2, 1, 63), (63, .iaload, 1, 64), (64, .if_icmp .ge 38, 3, 67), (67, .aload_n 0, 1, 68), (68, .getfield 460, 3, 71), (71, .ifCond .le 25, 3, 74), (74, .aload_n 0, 1, 75), (75, .getfield 85, 3, 78), (78, .bipush 6, 2, 80), (80, .iload_n 2, 1, 81), (81, .imul, 1, 82), (82, .iload 4, 2, 84), (84, .iadd, 1, 85), (85, .iaload, 1, 86), (86, .aload_n 0, 1, 87), (87, .getfield 460, 3, 90), (90, .if_icmp .ne 6, 3, 93), (93, .iload 4, 2, 95), (95, .ireturn, 1, 96), (96, .iinc 4 1, 3, 99), (99, .goto (-43), 3, 102), (102, .iconst (-1), 1, 103), (103, .ireturn, 1, 104)]
set_option maxRecDepth 20000 in
theorem dX10_sure : dcL cX10_sure lX10_sureL = true := by decide +kernel
def b_X10_sure_96 (F : Nat) (self35 : PH → Nat → Int32 → Int32 → Option (Int32 × PH)) (h : PH) (v0 : Nat) (v2 : Int32) (v4 : Int32) : Option (Int32 × PH) := bindv (v4 + (1)) fun x1 => (self35 h v0 v2 x1)
set_option maxRecDepth 20000 in
theorem t_X10_sure_96 {M : MV} {X : XT} {F : Nat} {self35 : PH → Nat → Int32 → Int32 → Option (Int32 × PH)} {h hz : PH} {r : Int32} {ce sl mc ms : Nat} {v0 : Nat} {v2 : Int32} {v4 : Int32} (hc : Cx M X RX10 cX10_sure) (hr : Rx M 148 8586 mc ms 5) (he : Ex M X (some .int) "sure" (some (.int r)) hz mc ms) (hm : ce ≤ mc) (hs : sl ≤ ms) (ih35 : ∀ (h : PH) (v0 : Nat) (v2 : Int32) (v4 : Int32), self35 h v0 v2 v4 = some (r, hz) → GG M X h ce sl 56 [(0, .ref (X.1 + v0)), (2, .int v2), (4, .int v4)] []) (hf : b_X10_sure_96 F self35 h v0 v2 v4 = some (r, hz)) : GG M X h ce sl 96 [(0, .ref (X.1 + v0)), (2, .int v2), (4, .int v4)] [] := by
  unfold b_X10_sure_96 at hf
  refine obv hf fun x1 e_x1 hf => ?_
  refine r_iinc 2 [(4, .int x1), (0, .ref (X.1 + v0)), (2, .int v2)] hc hr (dc_at dX10_sure 57 rfl) rfl (by rw [e_x1]; rfl) (by decide) rfl ?_
  refine r_goto (tgt := 56) hc (dc_at dX10_sure 58 rfl) (by decide) ?_
  exact gg_sub [1, 2, 0] rfl (ih35 _ _ _ _ hf)
def b_X10_sure_56 (F : Nat) (self35 : PH → Nat → Int32 → Int32 → Option (Int32 × PH)) (h : PH) (v0 : Nat) (v2 : Int32) (v4 : Int32) : Option (Int32 × PH) := (gR 10 1 h v0).bind fun a1 => ((aI 0 h a1 (2 : Int32)).bind fun x2 => (if x2 ≤ v4 then (some ((-1 : Int32), h)) else ((gI 10 46 h v0).bind fun x3 => (if x3 ≤ 0 then (b_X10_sure_96 F self35 h v0 v2 v4) else ((gR 10 45 h v0).bind fun a4 => ((aI 0 h a4 (((((6 : Int32) * v2)) + v4))).bind fun x5 => ((gI 10 46 h v0).bind fun x6 => (if x5 = x6 then (some (v4, h)) else (b_X10_sure_96 F self35 h v0 v2 v4)))))))))
set_option maxRecDepth 20000 in
theorem tb_X10_sure_56 {M : MV} {X : XT} {F : Nat} {self35 : PH → Nat → Int32 → Int32 → Option (Int32 × PH)} {h hz : PH} {r : Int32} {ce sl mc ms : Nat} {v0 : Nat} {v2 : Int32} {v4 : Int32} (hc : Cx M X RX10 cX10_sure) (hr : Rx M 148 8586 mc ms 5) (he : Ex M X (some .int) "sure" (some (.int r)) hz mc ms) (hm : ce ≤ mc) (hs : sl ≤ ms) (ih35 : ∀ (h : PH) (v0 : Nat) (v2 : Int32) (v4 : Int32), self35 h v0 v2 v4 = some (r, hz) → GG M X h ce sl 56 [(0, .ref (X.1 + v0)), (2, .int v2), (4, .int v4)] []) (hf : b_X10_sure_56 F self35 h v0 v2 v4 = some (r, hz)) : GG M X h ce sl 56 [(0, .ref (X.1 + v0)), (2, .int v2), (4, .int v4)] [] := by
  unfold b_X10_sure_56 at hf
  refine r_iload hc 2 (dc_at dX10_sure 35 rfl) rfl ?_
  refine r_aload_n hc 0 (dc_at dX10_sure 36 rfl) rfl ?_
  refine r_getR hc (dc_at dX10_sure 37 rfl) fl_X10_13 hf fun a1 hf => ?_
  refine r_iconst (2 : Int32) hc (dc_at dX10_sure 38 rfl) (by decide) ?_
  refine r_iaload hc (dc_at dX10_sure 39 rfl) hf fun x2 hf => ?_
  refine r_icmp_ge (tgt := 102) hc (dc_at dX10_sure 40 rfl) (by decide) hf (fun hf => ?_) (fun hf => ?_)
  · refine r_iconst (-1 : Int32) hc (dc_at dX10_sure 59 rfl) (by decide) ?_
    exact r_iret hc he (hm) (hs) (dc_at dX10_sure 60 rfl) hf
  · refine r_aload_n hc 0 (dc_at dX10_sure 41 rfl) rfl ?_
    refine r_getI hc (dc_at dX10_sure 42 rfl) fl_X10_460 hf fun x3 hf => ?_
    refine r_if_le (tgt := 96) hc (dc_at dX10_sure 43 rfl) (by decide) hf (fun hf => ?_) (fun hf => ?_)
    · exact gg_sub [0, 1, 2] rfl (t_X10_sure_96 hc hr he hm hs ih35 hf)
    · refine r_aload_n hc 0 (dc_at dX10_sure 44 rfl) rfl ?_
      refine r_getR hc (dc_at dX10_sure 45 rfl) fl_X10_85 hf fun a4 hf => ?_
      refine r_bipush (6 : Int32) hc (dc_at dX10_sure 46 rfl) (by decide) ?_
      refine r_iload_n hc 1 (dc_at dX10_sure 47 rfl) rfl ?_
      refine r_imul hc (dc_at dX10_sure 48 rfl) ?_
      refine r_iload hc 2 (dc_at dX10_sure 49 rfl) rfl ?_
      refine r_iadd hc (dc_at dX10_sure 50 rfl) ?_
      refine r_iaload hc (dc_at dX10_sure 51 rfl) hf fun x5 hf => ?_
      refine r_aload_n hc 0 (dc_at dX10_sure 52 rfl) rfl ?_
      refine r_getI hc (dc_at dX10_sure 53 rfl) fl_X10_460 hf fun x6 hf => ?_
      refine r_icmp_ne (tgt := 96) hc (dc_at dX10_sure 54 rfl) (by decide) hf (fun hf => ?_) (fun hf => ?_)
      · exact gg_sub [0, 1, 2] rfl (t_X10_sure_96 hc hr he hm hs ih35 hf)
      · refine r_iload hc 2 (dc_at dX10_sure 55 rfl) rfl ?_
        exact r_iret hc he (hm) (hs) (dc_at dX10_sure 56 rfl) hf
def l_X10_sure_56 (F : Nat) : Nat → PH → Nat → Int32 → Int32 → Option (Int32 × PH)
  | 0 => fun _ _ _ _ => none
  | n + 1 => fun h v0 v2 v4 => b_X10_sure_56 F (l_X10_sure_56 F n) h v0 v2 v4
theorem tl_X10_sure_56 {M : MV} {X : XT} {F : Nat} {hz : PH} {r : Int32} {ce sl mc ms : Nat} (hc : Cx M X RX10 cX10_sure) (hr : Rx M 148 8586 mc ms 5) (he : Ex M X (some .int) "sure" (some (.int r)) hz mc ms) (hm : ce ≤ mc) (hs : sl ≤ ms) (n : Nat) : ∀ (h : PH) (v0 : Nat) (v2 : Int32) (v4 : Int32), l_X10_sure_56 F n h v0 v2 v4 = some (r, hz) → GG M X h ce sl 56 [(0, .ref (X.1 + v0)), (2, .int v2), (4, .int v4)] [] := by
  induction n with
  | zero => intro h v0 v2 v4 hf; cases hf
  | succ n ih => intro h v0 v2 v4 hf; exact tb_X10_sure_56 (F := F) hc hr he hm hs  ih hf
def b_X10_sure_43 (F : Nat) (h : PH) (v0 : Nat) (v2 : Int32) (s0 : Nat) (s1 : Int32) (s2 : Int32) (s3 : Int32) : Option (Int32 × PH) := cO 10 h s0 (bind2 (m_X10_laysFits F h s0 s1 s2 s3) fun x1 h2 => (if x1 = 0 then (l_X10_sure_56 F F h2 v0 v2 (0 : Int32)) else (some (x1, h2))))
set_option maxRecDepth 20000 in
theorem t_X10_sure_43 {M : MV} {X : XT} {F : Nat} {h hz : PH} {r : Int32} {ce sl mc ms : Nat} {v0 : Nat} {v2 : Int32} {s0 : Nat} {s1 : Int32} {s2 : Int32} {s3 : Int32} (hc : Cx M X RX10 cX10_sure) (hr : Rx M 148 8586 mc ms 5) (he : Ex M X (some .int) "sure" (some (.int r)) hz mc ms) (hm : ce ≤ mc) (hs : sl ≤ ms) (hf : b_X10_sure_43 F h v0 v2 s0 s1 s2 s3 = some (r, hz)) : GG M X h ce sl 43 [(0, .ref (X.1 + v0)), (2, .int v2)] [.int s3, .int s2, .int s1, .ref (X.1 + s0)] := by
  unfold b_X10_sure_43 at hf
  obtain ⟨ho, hf⟩ := cO_some hf
  refine ob2 hf fun x1 h2 ex hf => ?_
  refine r_callVi (As := [.int s1, .int s2, .int s3]) (ci := 10) hc hr (dc_at dX10_sure 27 rfl) ml_X10_471 mv_X10_laysFits vi_X10_laysFits rfl ho rfl (mt_X10_laysFits ex) (by first | exact Nat.le_of_ble_eq_true rfl | omega) (by first | exact Nat.le_of_ble_eq_true rfl | omega) (by first | exact Nat.le_of_ble_eq_true rfl | omega) hm hs ?_
  refine r_istore_n [(3, .int x1), (0, .ref (X.1 + v0)), (2, .int v2)] hc hr (dc_at dX10_sure 28 rfl) (by decide) rfl ?_
  refine r_iload_n hc 0 (dc_at dX10_sure 29 rfl) rfl ?_
  refine r_if_eq (tgt := 53) hc (dc_at dX10_sure 30 rfl) (by decide) hf (fun hf => ?_) (fun hf => ?_)
  · refine r_iconst (0 : Int32) hc (dc_at dX10_sure 33 rfl) (by decide) ?_
    refine r_istore [(4, .int ((0 : Int32))), (3, .int x1), (0, .ref (X.1 + v0)), (2, .int v2)] hc hr (dc_at dX10_sure 34 rfl) (by decide) rfl ?_
    exact gg_sub [2, 3, 0] rfl (tl_X10_sure_56 hc hr he hm hs  F _ _ _ _ hf)
  · refine r_iload_n hc 0 (dc_at dX10_sure 31 rfl) rfl ?_
    exact r_iret hc he (hm) (hs) (dc_at dX10_sure 32 rfl) hf
def b_X10_sure_38 (F : Nat) (h : PH) (v0 : Nat) (v2 : Int32) (s0 : Nat) (s1 : Int32) (s2 : Int32) : Option (Int32 × PH) := b_X10_sure_43 F h v0 v2 s0 s1 s2 (1 : Int32)
set_option maxRecDepth 20000 in
theorem t_X10_sure_38 {M : MV} {X : XT} {F : Nat} {h hz : PH} {r : Int32} {ce sl mc ms : Nat} {v0 : Nat} {v2 : Int32} {s0 : Nat} {s1 : Int32} {s2 : Int32} (hc : Cx M X RX10 cX10_sure) (hr : Rx M 148 8586 mc ms 5) (he : Ex M X (some .int) "sure" (some (.int r)) hz mc ms) (hm : ce ≤ mc) (hs : sl ≤ ms) (hf : b_X10_sure_38 F h v0 v2 s0 s1 s2 = some (r, hz)) : GG M X h ce sl 38 [(0, .ref (X.1 + v0)), (2, .int v2)] [.int s2, .int s1, .ref (X.1 + s0)] := by
  unfold b_X10_sure_38 at hf
  refine r_iconst (1 : Int32) hc (dc_at dX10_sure 24 rfl) (by decide) ?_
  refine r_goto (tgt := 43) hc (dc_at dX10_sure 25 rfl) (by decide) ?_
  exact gg_sub [0, 1] rfl (t_X10_sure_43 hc hr he hm hs  hf)
def b_X10_sure_0 (F : Nat) (h : PH) (v0 : Nat) (v1 : Int32) (v2 : Int32) : Option (Int32 × PH) := (pV 10 0 (.int (0 : Int32)) h v0).bind fun h1 => ((m_X10_within (Int32.toInt64 v1) (0 : Int64) (3 : Int64)).bind fun x2 => (if x2 = 0 then (b_X10_sure_38 F h1 v0 v2 v0 v1 (-1 : Int32)) else ((gR 10 53 h1 v0).bind fun a3 => ((aI 0 h1 a3 v1).bind fun x4 => ((m_X10_within (Int32.toInt64 v2) (0 : Int64) ((Int32.toInt64 ((x4 - (1 : Int32)))))).bind fun x5 => (if x5 = 0 then (b_X10_sure_43 F h1 v0 v2 v0 v1 (-1 : Int32) (0 : Int32)) else (b_X10_sure_38 F h1 v0 v2 v0 v1 (-1 : Int32))))))))
set_option maxRecDepth 20000 in
theorem t_X10_sure_0 {M : MV} {X : XT} {F : Nat} {h hz : PH} {r : Int32} {ce sl mc ms : Nat} {v0 : Nat} {v1 : Int32} {v2 : Int32} (hc : Cx M X RX10 cX10_sure) (hr : Rx M 148 8586 mc ms 5) (he : Ex M X (some .int) "sure" (some (.int r)) hz mc ms) (hm : ce ≤ mc) (hs : sl ≤ ms) (hf : b_X10_sure_0 F h v0 v1 v2 = some (r, hz)) : GG M X h ce sl 0 [(0, .ref (X.1 + v0)), (1, .int v1), (2, .int v2)] [] := by
  unfold b_X10_sure_0 at hf
  refine r_aload_n hc 0 (dc_at dX10_sure 0 rfl) rfl ?_
  refine r_iconst (0 : Int32) hc (dc_at dX10_sure 1 rfl) (by decide) ?_
  refine r_putI hc he (dc_at dX10_sure 2 rfl) fp_X10_1 (fun q => by cases q) hf fun h1 hf => ?_
  refine r_aload_n hc 0 (dc_at dX10_sure 3 rfl) rfl ?_
  refine r_iload_n hc 1 (dc_at dX10_sure 4 rfl) rfl ?_
  refine r_iconst (-1 : Int32) hc (dc_at dX10_sure 5 rfl) (by decide) ?_
  refine r_iload_n hc 1 (dc_at dX10_sure 6 rfl) rfl ?_
  refine r_i2l hc (dc_at dX10_sure 7 rfl) ?_
  refine r_lconst (0 : Int64) hc (dc_at dX10_sure 8 rfl) (by decide) ?_
  refine r_ldc2 hc (dc_at dX10_sure 9 rfl) cl2_X10_290 ?_
  refine ob hf fun x2 ex hf => ?_
  refine r_callSi (As := [.long ((Int32.toInt64 v1)), .long ((0 : Int64)), .long ((3 : Int64))]) hc hr (dc_at dX10_sure 10 rfl) ml_X10_172 mv_X10_within st_X10_within rfl (mt_X10_within ex) (by first | exact Nat.le_of_ble_eq_true rfl | omega) (by first | exact Nat.le_of_ble_eq_true rfl | omega) (by first | exact Nat.le_of_ble_eq_true rfl | omega) hm hs ?_
  refine r_if_eq (tgt := 38) hc (dc_at dX10_sure 11 rfl) (by decide) hf (fun hf => ?_) (fun hf => ?_)
  · exact gg_sub [0, 2] rfl (t_X10_sure_38 hc hr he hm hs  hf)
  · refine r_iload_n hc 2 (dc_at dX10_sure 12 rfl) rfl ?_
    refine r_i2l hc (dc_at dX10_sure 13 rfl) ?_
    refine r_lconst (0 : Int64) hc (dc_at dX10_sure 14 rfl) (by decide) ?_
    refine r_aload_n hc 0 (dc_at dX10_sure 15 rfl) rfl ?_
    refine r_getR hc (dc_at dX10_sure 16 rfl) fl_X10_100 hf fun a3 hf => ?_
    refine r_iload_n hc 1 (dc_at dX10_sure 17 rfl) rfl ?_
    refine r_iaload hc (dc_at dX10_sure 18 rfl) hf fun x4 hf => ?_
    refine r_iconst (1 : Int32) hc (dc_at dX10_sure 19 rfl) (by decide) ?_
    refine r_isub hc (dc_at dX10_sure 20 rfl) ?_
    refine r_i2l hc (dc_at dX10_sure 21 rfl) ?_
    refine ob hf fun x5 ex hf => ?_
    refine r_callSi (As := [.long ((Int32.toInt64 v2)), .long ((0 : Int64)), .long ((Int32.toInt64 ((x4 - (1 : Int32)))))]) hc hr (dc_at dX10_sure 22 rfl) ml_X10_172 mv_X10_within st_X10_within rfl (mt_X10_within ex) (by first | exact Nat.le_of_ble_eq_true rfl | omega) (by first | exact Nat.le_of_ble_eq_true rfl | omega) (by first | exact Nat.le_of_ble_eq_true rfl | omega) hm hs ?_
    refine r_if_eq (tgt := 42) hc (dc_at dX10_sure 23 rfl) (by decide) hf (fun hf => ?_) (fun hf => ?_)
    · refine r_iconst (0 : Int32) hc (dc_at dX10_sure 26 rfl) (by decide) ?_
      exact gg_sub [0, 2] rfl (t_X10_sure_43 hc hr he hm hs  hf)
    · exact gg_sub [0, 2] rfl (t_X10_sure_38 hc hr he hm hs  hf)
def m_X10_sure (F : Nat) (h : PH) (p0 : Nat) (p1 : Int32) (p2 : Int32) : Option (Int32 × PH) := b_X10_sure_0 F h p0 p1 p2
theorem mt_X10_sure {l : Launch} {X : XT} {F : Nat} {h hz : PH} {p0 : Nat} {p1 : Int32} {p2 : Int32} {r : Int32} (ex : m_X10_sure F h p0 p1 p2 = some (r, hz)) : MT l X yX10_sure cX10_sure 5 (some .int) 148 8586 0 0 [.ref (X.1 + p0), .int p1, .int p2] h (some (.int r)) hz := MT.of (by decide) (Nat.le_of_ble_eq_true rfl) fun M hl hc hr he => by
  subst hl
  exact gg_sub [0, 1, 2] rfl (t_X10_sure_0  hc hr he (Nat.zero_le _) (Nat.zero_le _) ex)
/-! FractionLiftModel.comes(JJJ)V -/
def lX10_comesL : List (Nat × Instr × Nat × Nat) := [(0, .lload 5, 2, 2), (2, .lconst 0, 1, 3), (3, .lcmp, 1, 4), (4, .ifCond .ne 4, 3, 7), (7, .return_, 1, 8), (8, .iconst 0, 1, 9), (9, .istore 7, 2, 11), (11, .iload 7, 2, 13), (13, .aload_n 0, 1, 14), (14, .getfield 475, 3, 17), (17, .if_icmp .ge 35, 3, 20), (20, .aload_n 0, 1, 21), (21, .getfield 88, 3, 24), (24, .iload 7, 2, 26), (26, .iaload, 1, 27), (27, .i2l, 1, 28), (28, .lload_n 1, 1, 29), (29, .lcmp, 1, 30), (30, .ifCond .ne 16, 3, 33), (33, .aload_n 0, 1, 34), (34, .getfield 91, 3, 37), (37, .iload 7, 2, 39), (39, .iaload, 1, 40), (40, .i2l, 1, 41), (41, .lload_n 3, 1, 42), (42, .lcmp, 1, 43), (43, .ifCond .eq 9, 3, 46), (46, .iinc 7 1, 3, 49), (49, .goto (-38), 3, 52), (52, .iload 7, 2, 54), (54, .aload_n 0, 1, 55), (55, .getfield 475, 3, 58), (58, .if_icmp .ne 39, 3, 61), (61, .aload_n 0, 1, 62), (62, .getfield 88, 3, 65), (65, .iload 7, 2, 67), (67, .lload_n 1, 1, 68), (68, .l2i, 1, 69), (69, .iastore, 1, 70), (70, .aload_n 0, 1, 71), (71, .getfield 91, 3, 74), (74, .iload 7, 2, 76), (76, .lload_n 3, 1, 77), (77, .l2i, 1, 78), (78, .iastore, 1, 79), (79, .aload_n 0, 1, 80), (80, .getfield 94, 3, 83), (83, .iload 7, 2, 85), (85, .lconst 0, 1, 86), (86, .lastore, 1, 87), (87, .aload_n 0, 1, 88), (88, .dup, 1, 89), (89, .getfield 475, 3, 92), (92, .iconst 1, 1, 93), (93, .iadd, 1, 94), (94, .putfield 475, 3, 97), (97, .aload_n 0, 1, 98), (98, .getfield 94, 3, 101), (101, .iload 7, 2, 103), (103, .dup2, 1, 104), (104, .laload, 1, 105), (105, .lload 5, 2, 107), (107, .ladd, 1, 108), (108, .lastore, 1, 109), (109, .return_, 1, 110)]
set_option maxRecDepth 20000 in
theorem dX10_comes : dcL cX10_comes lX10_comesL = true := by decide +kernel
def b_X10_comes_46 (F : Nat) (self7 : PH → Nat → Int64 → Int64 → Int64 → Int32 → Option (Unit × PH)) (h : PH) (v0 : Nat) (v1 : Int64) (v3 : Int64) (v5 : Int64) (v7 : Int32) : Option (Unit × PH) := bindv (v7 + (1)) fun x1 => (self7 h v0 v1 v3 v5 x1)
set_option maxRecDepth 20000 in
theorem t_X10_comes_46 {M : MV} {X : XT} {F : Nat} {self7 : PH → Nat → Int64 → Int64 → Int64 → Int32 → Option (Unit × PH)} {h hz : PH} {r : Unit} {ce sl mc ms : Nat} {v0 : Nat} {v1 : Int64} {v3 : Int64} {v5 : Int64} {v7 : Int32} (hc : Cx M X RX10 cX10_comes) (hr : Rx M 1 60 mc ms 8) (he : Ex M X none "comes" none hz mc ms) (hm : ce ≤ mc) (hs : sl ≤ ms) (ih7 : ∀ (h : PH) (v0 : Nat) (v1 : Int64) (v3 : Int64) (v5 : Int64) (v7 : Int32), self7 h v0 v1 v3 v5 v7 = some (r, hz) → GG M X h ce sl 11 [(0, .ref (X.1 + v0)), (1, .long v1), (3, .long v3), (5, .long v5), (7, .int v7)] []) (hf : b_X10_comes_46 F self7 h v0 v1 v3 v5 v7 = some (r, hz)) : GG M X h ce sl 46 [(0, .ref (X.1 + v0)), (1, .long v1), (3, .long v3), (5, .long v5), (7, .int v7)] [] := by
  unfold b_X10_comes_46 at hf
  refine obv hf fun x1 e_x1 hf => ?_
  refine r_iinc 4 [(7, .int x1), (0, .ref (X.1 + v0)), (1, .long v1), (3, .long v3), (5, .long v5)] hc hr (dc_at dX10_comes 27 rfl) rfl (by rw [e_x1]; rfl) (by decide) rfl ?_
  refine r_goto (tgt := 11) hc (dc_at dX10_comes 28 rfl) (by decide) ?_
  exact gg_sub [1, 2, 3, 4, 0] rfl (ih7 _ _ _ _ _ _ hf)
def b_X10_comes_97 (F : Nat) (h : PH) (v0 : Nat) (v5 : Int64) (v7 : Int32) : Option (Unit × PH) := (gR 10 50 h v0).bind fun a1 => ((aL h a1 v7).bind fun x2 => ((sL h a1 v7 (x2 + v5)).bind fun h3 => (some ((), h3))))
set_option maxRecDepth 20000 in
theorem t_X10_comes_97 {M : MV} {X : XT} {F : Nat} {h hz : PH} {r : Unit} {ce sl mc ms : Nat} {v0 : Nat} {v5 : Int64} {v7 : Int32} (hc : Cx M X RX10 cX10_comes) (hr : Rx M 1 60 mc ms 8) (he : Ex M X none "comes" none hz mc ms) (hm : ce ≤ mc) (hs : sl ≤ ms) (hf : b_X10_comes_97 F h v0 v5 v7 = some (r, hz)) : GG M X h ce sl 97 [(0, .ref (X.1 + v0)), (5, .long v5), (7, .int v7)] [] := by
  unfold b_X10_comes_97 at hf
  refine r_aload_n hc 0 (dc_at dX10_comes 56 rfl) rfl ?_
  refine r_getR hc (dc_at dX10_comes 57 rfl) fl_X10_94 hf fun a1 hf => ?_
  refine r_iload hc 2 (dc_at dX10_comes 58 rfl) rfl ?_
  refine r_dup2 hc (dc_at dX10_comes 59 rfl) rfl rfl ?_
  refine r_laload hc (dc_at dX10_comes 60 rfl) hf fun x2 hf => ?_
  refine r_lload hc 1 (dc_at dX10_comes 61 rfl) rfl ?_
  refine r_ladd hc (dc_at dX10_comes 62 rfl) ?_
  refine r_lastore hc (dc_at dX10_comes 63 rfl) hf fun h3 hf => ?_
  exact r_vret hc he (hm) (hs) (dc_at dX10_comes 64 rfl) hf
def b_X10_comes_52 (F : Nat) (h : PH) (v0 : Nat) (v1 : Int64) (v3 : Int64) (v5 : Int64) (v7 : Int32) : Option (Unit × PH) := (gI 10 51 h v0).bind fun x1 => (if v7 = x1 then ((gR 10 48 h v0).bind fun a2 => ((sI 0 h a2 v7 (Int64.toInt32 v1)).bind fun h3 => ((gR 10 49 h3 v0).bind fun a4 => ((sI 0 h3 a4 v7 (Int64.toInt32 v3)).bind fun h5 => ((gR 10 50 h5 v0).bind fun a6 => ((sL h5 a6 v7 (0 : Int64)).bind fun h7 => ((gI 10 51 h7 v0).bind fun x8 => ((pV 10 51 (.int ((x8 + (1 : Int32)))) h7 v0).bind fun h9 => (b_X10_comes_97 F h9 v0 v5 v7))))))))) else (b_X10_comes_97 F h v0 v5 v7))
set_option maxRecDepth 20000 in
theorem t_X10_comes_52 {M : MV} {X : XT} {F : Nat} {h hz : PH} {r : Unit} {ce sl mc ms : Nat} {v0 : Nat} {v1 : Int64} {v3 : Int64} {v5 : Int64} {v7 : Int32} (hc : Cx M X RX10 cX10_comes) (hr : Rx M 1 60 mc ms 8) (he : Ex M X none "comes" none hz mc ms) (hm : ce ≤ mc) (hs : sl ≤ ms) (hf : b_X10_comes_52 F h v0 v1 v3 v5 v7 = some (r, hz)) : GG M X h ce sl 52 [(0, .ref (X.1 + v0)), (1, .long v1), (3, .long v3), (5, .long v5), (7, .int v7)] [] := by
  unfold b_X10_comes_52 at hf
  refine r_iload hc 4 (dc_at dX10_comes 29 rfl) rfl ?_
  refine r_aload_n hc 0 (dc_at dX10_comes 30 rfl) rfl ?_
  refine r_getI hc (dc_at dX10_comes 31 rfl) fl_X10_475 hf fun x1 hf => ?_
  refine r_icmp_ne (tgt := 97) hc (dc_at dX10_comes 32 rfl) (by decide) hf (fun hf => ?_) (fun hf => ?_)
  · exact gg_sub [0, 3, 4] rfl (t_X10_comes_97 hc hr he hm hs  hf)
  · refine r_aload_n hc 0 (dc_at dX10_comes 33 rfl) rfl ?_
    refine r_getR hc (dc_at dX10_comes 34 rfl) fl_X10_88 hf fun a2 hf => ?_
    refine r_iload hc 4 (dc_at dX10_comes 35 rfl) rfl ?_
    refine r_lload_n hc 1 (dc_at dX10_comes 36 rfl) rfl ?_
    refine r_l2i hc (dc_at dX10_comes 37 rfl) ?_
    refine r_iastore hc (dc_at dX10_comes 38 rfl) hf fun h3 hf => ?_
    refine r_aload_n hc 0 (dc_at dX10_comes 39 rfl) rfl ?_
    refine r_getR hc (dc_at dX10_comes 40 rfl) fl_X10_91 hf fun a4 hf => ?_
    refine r_iload hc 4 (dc_at dX10_comes 41 rfl) rfl ?_
    refine r_lload_n hc 2 (dc_at dX10_comes 42 rfl) rfl ?_
    refine r_l2i hc (dc_at dX10_comes 43 rfl) ?_
    refine r_iastore hc (dc_at dX10_comes 44 rfl) hf fun h5 hf => ?_
    refine r_aload_n hc 0 (dc_at dX10_comes 45 rfl) rfl ?_
    refine r_getR hc (dc_at dX10_comes 46 rfl) fl_X10_94 hf fun a6 hf => ?_
    refine r_iload hc 4 (dc_at dX10_comes 47 rfl) rfl ?_
    refine r_lconst (0 : Int64) hc (dc_at dX10_comes 48 rfl) (by decide) ?_
    refine r_lastore hc (dc_at dX10_comes 49 rfl) hf fun h7 hf => ?_
    refine r_aload_n hc 0 (dc_at dX10_comes 50 rfl) rfl ?_
    refine r_dup hc (dc_at dX10_comes 51 rfl) rfl ?_
    refine r_getI hc (dc_at dX10_comes 52 rfl) fl_X10_475 hf fun x8 hf => ?_
    refine r_iconst (1 : Int32) hc (dc_at dX10_comes 53 rfl) (by decide) ?_
    refine r_iadd hc (dc_at dX10_comes 54 rfl) ?_
    refine r_putI hc he (dc_at dX10_comes 55 rfl) fp_X10_475 (fun q => by cases q) hf fun h9 hf => ?_
    exact gg_sub [0, 3, 4] rfl (t_X10_comes_97 hc hr he hm hs  hf)
def b_X10_comes_11 (F : Nat) (self7 : PH → Nat → Int64 → Int64 → Int64 → Int32 → Option (Unit × PH)) (h : PH) (v0 : Nat) (v1 : Int64) (v3 : Int64) (v5 : Int64) (v7 : Int32) : Option (Unit × PH) := (gI 10 51 h v0).bind fun x1 => (if x1 ≤ v7 then (b_X10_comes_52 F h v0 v1 v3 v5 v7) else ((gR 10 48 h v0).bind fun a2 => ((aI 0 h a2 v7).bind fun x3 => (if (Int32.toInt64 x3) = v1 then ((gR 10 49 h v0).bind fun a4 => ((aI 0 h a4 v7).bind fun x5 => (if (Int32.toInt64 x5) = v3 then (b_X10_comes_52 F h v0 v1 v3 v5 v7) else (b_X10_comes_46 F self7 h v0 v1 v3 v5 v7)))) else (b_X10_comes_46 F self7 h v0 v1 v3 v5 v7)))))
set_option maxRecDepth 20000 in
theorem tb_X10_comes_11 {M : MV} {X : XT} {F : Nat} {self7 : PH → Nat → Int64 → Int64 → Int64 → Int32 → Option (Unit × PH)} {h hz : PH} {r : Unit} {ce sl mc ms : Nat} {v0 : Nat} {v1 : Int64} {v3 : Int64} {v5 : Int64} {v7 : Int32} (hc : Cx M X RX10 cX10_comes) (hr : Rx M 1 60 mc ms 8) (he : Ex M X none "comes" none hz mc ms) (hm : ce ≤ mc) (hs : sl ≤ ms) (ih7 : ∀ (h : PH) (v0 : Nat) (v1 : Int64) (v3 : Int64) (v5 : Int64) (v7 : Int32), self7 h v0 v1 v3 v5 v7 = some (r, hz) → GG M X h ce sl 11 [(0, .ref (X.1 + v0)), (1, .long v1), (3, .long v3), (5, .long v5), (7, .int v7)] []) (hf : b_X10_comes_11 F self7 h v0 v1 v3 v5 v7 = some (r, hz)) : GG M X h ce sl 11 [(0, .ref (X.1 + v0)), (1, .long v1), (3, .long v3), (5, .long v5), (7, .int v7)] [] := by
  unfold b_X10_comes_11 at hf
  refine r_iload hc 4 (dc_at dX10_comes 7 rfl) rfl ?_
  refine r_aload_n hc 0 (dc_at dX10_comes 8 rfl) rfl ?_
  refine r_getI hc (dc_at dX10_comes 9 rfl) fl_X10_475 hf fun x1 hf => ?_
  refine r_icmp_ge (tgt := 52) hc (dc_at dX10_comes 10 rfl) (by decide) hf (fun hf => ?_) (fun hf => ?_)
  · exact gg_sub [0, 1, 2, 3, 4] rfl (t_X10_comes_52 hc hr he hm hs  hf)
  · refine r_aload_n hc 0 (dc_at dX10_comes 11 rfl) rfl ?_
    refine r_getR hc (dc_at dX10_comes 12 rfl) fl_X10_88 hf fun a2 hf => ?_
    refine r_iload hc 4 (dc_at dX10_comes 13 rfl) rfl ?_
    refine r_iaload hc (dc_at dX10_comes 14 rfl) hf fun x3 hf => ?_
    refine r_i2l hc (dc_at dX10_comes 15 rfl) ?_
    refine r_lload_n hc 1 (dc_at dX10_comes 16 rfl) rfl ?_
    refine r_lcmp_ne (tgt := 46) hc (dc_at dX10_comes 17 rfl) (dc_at dX10_comes 18 rfl) (by decide) hf (fun hf => ?_) (fun hf => ?_)
    · exact gg_sub [0, 1, 2, 3, 4] rfl (t_X10_comes_46 hc hr he hm hs ih7 hf)
    · refine r_aload_n hc 0 (dc_at dX10_comes 19 rfl) rfl ?_
      refine r_getR hc (dc_at dX10_comes 20 rfl) fl_X10_91 hf fun a4 hf => ?_
      refine r_iload hc 4 (dc_at dX10_comes 21 rfl) rfl ?_
      refine r_iaload hc (dc_at dX10_comes 22 rfl) hf fun x5 hf => ?_
      refine r_i2l hc (dc_at dX10_comes 23 rfl) ?_
      refine r_lload_n hc 2 (dc_at dX10_comes 24 rfl) rfl ?_
      refine r_lcmp_eq (tgt := 52) hc (dc_at dX10_comes 25 rfl) (dc_at dX10_comes 26 rfl) (by decide) hf (fun hf => ?_) (fun hf => ?_)
      · exact gg_sub [0, 1, 2, 3, 4] rfl (t_X10_comes_52 hc hr he hm hs  hf)
      · exact gg_sub [0, 1, 2, 3, 4] rfl (t_X10_comes_46 hc hr he hm hs ih7 hf)
def l_X10_comes_11 (F : Nat) : Nat → PH → Nat → Int64 → Int64 → Int64 → Int32 → Option (Unit × PH)
  | 0 => fun _ _ _ _ _ _ => none
  | n + 1 => fun h v0 v1 v3 v5 v7 => b_X10_comes_11 F (l_X10_comes_11 F n) h v0 v1 v3 v5 v7
theorem tl_X10_comes_11 {M : MV} {X : XT} {F : Nat} {hz : PH} {r : Unit} {ce sl mc ms : Nat} (hc : Cx M X RX10 cX10_comes) (hr : Rx M 1 60 mc ms 8) (he : Ex M X none "comes" none hz mc ms) (hm : ce ≤ mc) (hs : sl ≤ ms) (n : Nat) : ∀ (h : PH) (v0 : Nat) (v1 : Int64) (v3 : Int64) (v5 : Int64) (v7 : Int32), l_X10_comes_11 F n h v0 v1 v3 v5 v7 = some (r, hz) → GG M X h ce sl 11 [(0, .ref (X.1 + v0)), (1, .long v1), (3, .long v3), (5, .long v5), (7, .int v7)] [] := by
  induction n with
  | zero => intro h v0 v1 v3 v5 v7 hf; cases hf
  | succ n ih => intro h v0 v1 v3 v5 v7 hf; exact tb_X10_comes_11 (F := F) hc hr he hm hs  ih hf
def b_X10_comes_0 (F : Nat) (h : PH) (v0 : Nat) (v1 : Int64) (v3 : Int64) (v5 : Int64) : Option (Unit × PH) := if v5 = (0 : Int64) then (some ((), h)) else (l_X10_comes_11 F F h v0 v1 v3 v5 (0 : Int32))
set_option maxRecDepth 20000 in
theorem t_X10_comes_0 {M : MV} {X : XT} {F : Nat} {h hz : PH} {r : Unit} {ce sl mc ms : Nat} {v0 : Nat} {v1 : Int64} {v3 : Int64} {v5 : Int64} (hc : Cx M X RX10 cX10_comes) (hr : Rx M 1 60 mc ms 8) (he : Ex M X none "comes" none hz mc ms) (hm : ce ≤ mc) (hs : sl ≤ ms) (hf : b_X10_comes_0 F h v0 v1 v3 v5 = some (r, hz)) : GG M X h ce sl 0 [(0, .ref (X.1 + v0)), (1, .long v1), (3, .long v3), (5, .long v5)] [] := by
  unfold b_X10_comes_0 at hf
  refine r_lload hc 3 (dc_at dX10_comes 0 rfl) rfl ?_
  refine r_lconst (0 : Int64) hc (dc_at dX10_comes 1 rfl) (by decide) ?_
  refine r_lcmp_ne (tgt := 8) hc (dc_at dX10_comes 2 rfl) (dc_at dX10_comes 3 rfl) (by decide) hf (fun hf => ?_) (fun hf => ?_)
  · refine r_iconst (0 : Int32) hc (dc_at dX10_comes 5 rfl) (by decide) ?_
    refine r_istore [(7, .int ((0 : Int32))), (0, .ref (X.1 + v0)), (1, .long v1), (3, .long v3), (5, .long v5)] hc hr (dc_at dX10_comes 6 rfl) (by decide) rfl ?_
    exact gg_sub [1, 2, 3, 4, 0] rfl (tl_X10_comes_11 hc hr he hm hs  F _ _ _ _ _ _ hf)
  · exact r_vret hc he (hm) (hs) (dc_at dX10_comes 4 rfl) hf
def m_X10_comes (F : Nat) (h : PH) (p0 : Nat) (p1 : Int64) (p3 : Int64) (p5 : Int64) : Option (Unit × PH) := b_X10_comes_0 F h p0 p1 p3 p5
theorem mt_X10_comes {l : Launch} {X : XT} {F : Nat} {h hz : PH} {p0 : Nat} {p1 : Int64} {p3 : Int64} {p5 : Int64} {r : Unit} (ex : m_X10_comes F h p0 p1 p3 p5 = some (r, hz)) : MT l X yX10_comes cX10_comes 8 none 1 60 0 0 [.ref (X.1 + p0), .long p1, .long p3, .long p5] h none hz := MT.of (by decide) (Nat.le_of_ble_eq_true rfl) fun M hl hc hr he => by
  subst hl
  exact gg_sub [0, 1, 2, 3] rfl (t_X10_comes_0  hc hr he (Nat.zero_le _) (Nat.zero_le _) ex)
