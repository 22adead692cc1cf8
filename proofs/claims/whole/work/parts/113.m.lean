/-! FractionLiftModel.goesOdds(IIJJJ)V -/
def lX10_goesOddsL : List (Nat × Instr × Nat × Nat) := [(0, .lload 7, 2, 2), (2, .lconst 0, 1, 3), (3, .lcmp, 1, 4), (4, .ifCond .eq 13, 3, 7), (7, .iload_n 2, 1, 8), (8, .aload_n 0, 1, 9), (9, .getfield 100, 3, 12), (12, .iload_n 1, 1, 13), (13, .iaload, 1, 14), (14, .if_icmp .ne 13, 3, 17), (17, .aload_n 0, 1, 18), (18, .lload_n 3, 1, 19), (19, .lload 5, 2, 21), (21, .lload 7, 2, 23), (23, .invokevirtual 478, 3, 26), (26, .return_, 1, 27), (27, .aload_n 0, 1, 28), (28, .aload_n 0, 1, 29), (29, .iload_n 1, 1, 30), (30, .iload_n 2, 1, 31), (31, .invokevirtual 299, 3, 34), (34, .lload_n 3, 1, 35), (35, .lload 5, 2, 37), (37, .invokevirtual 275, 3, 40), (40, .ifCond .eq 21, 3, 43), (43, .aload_n 0, 1, 44), (44, .iload_n 1, 1, 45), (45, .iload_n 2, 1, 46), (46, .iconst 1, 1, 47), (47, .iadd, 1, 48), (48, .lload_n 3, 1, 49), (49, .lload 5, 2, 51), (51, .ldc2_w 358, 3, 54), (54, .lload 7, 2, 56), (56, .lmul, 1, 57), (57, .invokevirtual 482, 3, 60), (60, .return_, 1, 61), (61, .aload_n 0, 1, 62), (62, .getfield 180, 3, 65), (65, .lstore 9, 2, 67), (67, .aload_n 0, 1, 68), (68, .getfield 184, 3, 71), (71, .lstore 11, 2, 73), (73, .aload_n 0, 1, 74), (74, .iload_n 1, 1, 75), (75, .iload_n 2, 1, 76), (76, .iconst 1, 1, 77), (77, .iadd, 1, 78), (78, .lload_n 3, 1, 79), (79, .lload 5, 2, 81), (81, .lload 7, 2, 83), (83, .aload_n 0, 1, 84), (84, .getfield 13, 3, 87), (87, .iconst 5, 1, 88), (88, .iaload, 1, 89), (89, .i2l, 1, 90), (90, .lmul, 1, 91), (91, .invokevirtual 482, 3, 94), (94, .aload_n 0, 1, 95), (95, .iload_n 1, 1, 96), (96, .iload_n 2, 1, 97), (97, .iconst 1, 1, 98), (98, .iadd, 1, 99), (99, .lload 9, 2, 101), (101, .lload 11, 2, 103), (103, .lload 7, 2, 105), (105, .bipush 10, 2, 107), (107, .aload_n 0, 1, 108), (108, .getfield 13, 3, 111), (111, .iconst 5, 1, 112), (112, .iaload, 1, 113), (113, .isub, 1, 114), (114, .i2l, 1, 115), (115, .lmul, 1, 116), (116, .invokevirtual 482, 3, 119), (119, .return_, 1, 120)]
set_option maxRecDepth 20000 in
theorem dX10_goesOdds : dcL cX10_goesOdds lX10_goesOddsL = true := by decide +kernel
def b_X10_goesOdds_17 (rc : PH → Nat → Int32 → Int32 → Int64 → Int64 → Int64 → Option (Unit × PH)) (F : Nat) (h : PH) (v0 : Nat) (v3 : Int64) (v5 : Int64) (v7 : Int64) : Option (Unit × PH) := cO 10 h v0 (bind2 (m_X10_comes F h v0 v3 v5 v7) fun _ h2 => (some ((), h2)))
set_option maxRecDepth 20000 in
theorem t_X10_goesOdds_17 {M : MV} {X : XT} {rc : PH → Nat → Int32 → Int32 → Int64 → Int64 → Int64 → Option (Unit × PH)} {d : Nat} {F : Nat} {h hz : PH} {r : Unit} {ce sl mc ms : Nat} {v0 : Nat} {v3 : Int64} {v5 : Int64} {v7 : Int64} (hrc : ∀ {h hz : PH} {p0 : Nat} {p1 : Int32} {p2 : Int32} {p3 : Int64} {p5 : Int64} {p7 : Int64} {r : Unit}, rc h p0 p1 p2 p3 p5 p7 = some (r, hz) → MT M.2.1 X yX10_goesOdds cX10_goesOdds 13 none (1 * d + 136) (58 * d + 7890) 0 0 [.ref (X.1 + p0), .int p1, .int p2, .long p3, .long p5, .long p7] h none hz) (hc : Cx M X RX10 cX10_goesOdds) (hr : Rx M (1 * d + 137) (58 * d + 7948) mc ms 13) (he : Ex M X none "goesOdds" none hz mc ms) (hm : ce ≤ mc) (hs : sl ≤ ms) (hf : b_X10_goesOdds_17 rc F h v0 v3 v5 v7 = some (r, hz)) : GG M X h ce sl 17 [(0, .ref (X.1 + v0)), (3, .long v3), (5, .long v5), (7, .long v7)] [] := by
  unfold b_X10_goesOdds_17 at hf
  refine r_aload_n hc 0 (dc_at dX10_goesOdds 10 rfl) rfl ?_
  refine r_lload_n hc 1 (dc_at dX10_goesOdds 11 rfl) rfl ?_
  refine r_lload hc 2 (dc_at dX10_goesOdds 12 rfl) rfl ?_
  refine r_lload hc 3 (dc_at dX10_goesOdds 13 rfl) rfl ?_
  obtain ⟨ho, hf⟩ := cO_some hf
  refine ob2 hf fun u h2 ex hf => ?_
  refine r_callVv (As := [.long v3, .long v5, .long v7]) (ci := 10) hc hr (dc_at dX10_goesOdds 14 rfl) ml_X10_478 mv_X10_comes vi_X10_comes rfl ho rfl (mt_X10_comes ex) (by first | exact Nat.le_of_ble_eq_true rfl | omega) (by first | exact Nat.le_of_ble_eq_true rfl | omega) (by first | exact Nat.le_of_ble_eq_true rfl | omega) hm hs ?_
  exact r_vret hc he (hm) (hs) (dc_at dX10_goesOdds 15 rfl) hf
def b_X10_goesOdds_0 (rc : PH → Nat → Int32 → Int32 → Int64 → Int64 → Int64 → Option (Unit × PH)) (F : Nat) (h : PH) (v0 : Nat) (v1 : Int32) (v2 : Int32) (v3 : Int64) (v5 : Int64) (v7 : Int64) : Option (Unit × PH) := if v7 = (0 : Int64) then (b_X10_goesOdds_17 rc F h v0 v3 v5 v7) else ((gR 10 53 h v0).bind fun a1 => ((aI 0 h a1 v1).bind fun x2 => (if v2 = x2 then (b_X10_goesOdds_17 rc F h v0 v3 v5 v7) else (cO 10 h v0 ((m_X10_told h v0 v1 v2).bind fun x3 => (cO 10 h v0 (bind2 (m_X10_leadsFrom F h v0 x3 v3 v5) fun x4 h5 => (if x4 = 0 then ((gL 10 15 h5 v0).bind fun x6 => ((gL 10 16 h5 v0).bind fun x7 => ((gR 10 1 h5 v0).bind fun a8 => ((aI 0 h5 a8 (5 : Int32)).bind fun x9 => (cO 10 h5 v0 (bind2 (rc h5 v0 v1 ((v2 + (1 : Int32))) v3 v5 ((v7 * (Int32.toInt64 x9)))) fun _ h11 => ((gR 10 1 h11 v0).bind fun a12 => ((aI 0 h11 a12 (5 : Int32)).bind fun x13 => (cO 10 h11 v0 (bind2 (rc h11 v0 v1 ((v2 + (1 : Int32))) x6 x7 ((v7 * ((Int32.toInt64 (((10 : Int32) - x13))))))) fun _ h15 => (some ((), h15)))))))))))) else (cO 10 h5 v0 (bind2 (rc h5 v0 v1 ((v2 + (1 : Int32))) v3 v5 (((10 : Int64) * v7))) fun _ h17 => (some ((), h17))))))))))))
set_option maxRecDepth 20000 in
theorem t_X10_goesOdds_0 {M : MV} {X : XT} {rc : PH → Nat → Int32 → Int32 → Int64 → Int64 → Int64 → Option (Unit × PH)} {d : Nat} {F : Nat} {h hz : PH} {r : Unit} {ce sl mc ms : Nat} {v0 : Nat} {v1 : Int32} {v2 : Int32} {v3 : Int64} {v5 : Int64} {v7 : Int64} (hrc : ∀ {h hz : PH} {p0 : Nat} {p1 : Int32} {p2 : Int32} {p3 : Int64} {p5 : Int64} {p7 : Int64} {r : Unit}, rc h p0 p1 p2 p3 p5 p7 = some (r, hz) → MT M.2.1 X yX10_goesOdds cX10_goesOdds 13 none (1 * d + 136) (58 * d + 7890) 0 0 [.ref (X.1 + p0), .int p1, .int p2, .long p3, .long p5, .long p7] h none hz) (hc : Cx M X RX10 cX10_goesOdds) (hr : Rx M (1 * d + 137) (58 * d + 7948) mc ms 13) (he : Ex M X none "goesOdds" none hz mc ms) (hm : ce ≤ mc) (hs : sl ≤ ms) (hf : b_X10_goesOdds_0 rc F h v0 v1 v2 v3 v5 v7 = some (r, hz)) : GG M X h ce sl 0 [(0, .ref (X.1 + v0)), (1, .int v1), (2, .int v2), (3, .long v3), (5, .long v5), (7, .long v7)] [] := by
  unfold b_X10_goesOdds_0 at hf
  refine r_lload hc 5 (dc_at dX10_goesOdds 0 rfl) rfl ?_
  refine r_lconst (0 : Int64) hc (dc_at dX10_goesOdds 1 rfl) (by decide) ?_
  refine r_lcmp_eq (tgt := 17) hc (dc_at dX10_goesOdds 2 rfl) (dc_at dX10_goesOdds 3 rfl) (by decide) hf (fun hf => ?_) (fun hf => ?_)
  · exact gg_sub [0, 3, 4, 5] rfl (t_X10_goesOdds_17 hrc hc hr he hm hs  hf)
  · refine r_iload_n hc 2 (dc_at dX10_goesOdds 4 rfl) rfl ?_
    refine r_aload_n hc 0 (dc_at dX10_goesOdds 5 rfl) rfl ?_
    refine r_getR hc (dc_at dX10_goesOdds 6 rfl) fl_X10_100 hf fun a1 hf => ?_
    refine r_iload_n hc 1 (dc_at dX10_goesOdds 7 rfl) rfl ?_
    refine r_iaload hc (dc_at dX10_goesOdds 8 rfl) hf fun x2 hf => ?_
    refine r_icmp_ne (tgt := 27) hc (dc_at dX10_goesOdds 9 rfl) (by decide) hf (fun hf => ?_) (fun hf => ?_)
    · refine r_aload_n hc 0 (dc_at dX10_goesOdds 16 rfl) rfl ?_
      refine r_aload_n hc 0 (dc_at dX10_goesOdds 17 rfl) rfl ?_
      refine r_iload_n hc 1 (dc_at dX10_goesOdds 18 rfl) rfl ?_
      refine r_iload_n hc 2 (dc_at dX10_goesOdds 19 rfl) rfl ?_
      obtain ⟨ho, hf⟩ := cO_some hf
      refine ob hf fun x3 ex hf => ?_
      refine r_callVi (As := [.int v1, .int v2]) (ci := 10) hc hr (dc_at dX10_goesOdds 20 rfl) ml_X10_299 mv_X10_told vi_X10_told rfl ho rfl (mt_X10_told ex) (by first | exact Nat.le_of_ble_eq_true rfl | omega) (by first | exact Nat.le_of_ble_eq_true rfl | omega) (by first | exact Nat.le_of_ble_eq_true rfl | omega) hm hs ?_
      refine r_lload_n hc 3 (dc_at dX10_goesOdds 21 rfl) rfl ?_
      refine r_lload hc 4 (dc_at dX10_goesOdds 22 rfl) rfl ?_
      obtain ⟨ho, hf⟩ := cO_some hf
      refine ob2 hf fun x4 h5 ex hf => ?_
      refine r_callVi (As := [.int x3, .long v3, .long v5]) (ci := 10) hc hr (dc_at dX10_goesOdds 23 rfl) ml_X10_275 mv_X10_leadsFrom vi_X10_leadsFrom rfl ho rfl (mt_X10_leadsFrom ex) (by first | exact Nat.le_of_ble_eq_true rfl | omega) (by first | exact Nat.le_of_ble_eq_true rfl | omega) (by first | exact Nat.le_of_ble_eq_true rfl | omega) hm hs ?_
      refine r_if_eq (tgt := 61) hc (dc_at dX10_goesOdds 24 rfl) (by decide) hf (fun hf => ?_) (fun hf => ?_)
      · refine r_aload_n hc 0 (dc_at dX10_goesOdds 37 rfl) rfl ?_
        refine r_getL hc (dc_at dX10_goesOdds 38 rfl) fl_X10_180 hf fun x6 hf => ?_
        refine r_lstore [(9, .long x6), (0, .ref (X.1 + v0)), (1, .int v1), (2, .int v2), (3, .long v3), (5, .long v5), (7, .long v7)] hc hr (dc_at dX10_goesOdds 39 rfl) (by decide) rfl ?_
        refine r_aload_n hc 1 (dc_at dX10_goesOdds 40 rfl) rfl ?_
        refine r_getL hc (dc_at dX10_goesOdds 41 rfl) fl_X10_184 hf fun x7 hf => ?_
        refine r_lstore [(11, .long x7), (9, .long x6), (0, .ref (X.1 + v0)), (1, .int v1), (2, .int v2), (3, .long v3), (5, .long v5), (7, .long v7)] hc hr (dc_at dX10_goesOdds 42 rfl) (by decide) rfl ?_
        refine r_aload_n hc 2 (dc_at dX10_goesOdds 43 rfl) rfl ?_
        refine r_iload_n hc 3 (dc_at dX10_goesOdds 44 rfl) rfl ?_
        refine r_iload_n hc 4 (dc_at dX10_goesOdds 45 rfl) rfl ?_
        refine r_iconst (1 : Int32) hc (dc_at dX10_goesOdds 46 rfl) (by decide) ?_
        refine r_iadd hc (dc_at dX10_goesOdds 47 rfl) ?_
        refine r_lload_n hc 5 (dc_at dX10_goesOdds 48 rfl) rfl ?_
        refine r_lload hc 6 (dc_at dX10_goesOdds 49 rfl) rfl ?_
        refine r_lload hc 7 (dc_at dX10_goesOdds 50 rfl) rfl ?_
        refine r_aload_n hc 2 (dc_at dX10_goesOdds 51 rfl) rfl ?_
        refine r_getR hc (dc_at dX10_goesOdds 52 rfl) fl_X10_13 hf fun a8 hf => ?_
        refine r_iconst (5 : Int32) hc (dc_at dX10_goesOdds 53 rfl) (by decide) ?_
        refine r_iaload hc (dc_at dX10_goesOdds 54 rfl) hf fun x9 hf => ?_
        refine r_i2l hc (dc_at dX10_goesOdds 55 rfl) ?_
        refine r_lmul hc (dc_at dX10_goesOdds 56 rfl) ?_
        obtain ⟨ho, hf⟩ := cO_some hf
        refine ob2 hf fun u h11 ex hf => ?_
        refine r_callVv (As := [.int v1, .int ((v2 + (1 : Int32))), .long v3, .long v5, .long ((v7 * (Int32.toInt64 x9)))]) (ci := 10) hc hr (dc_at dX10_goesOdds 57 rfl) ml_X10_482 mv_X10_goesOdds vi_X10_goesOdds rfl ho rfl (hrc  ex) (by first | exact Nat.le_of_ble_eq_true rfl | omega) (by first | exact Nat.le_of_ble_eq_true rfl | omega) (by first | exact Nat.le_of_ble_eq_true rfl | omega) hm hs ?_
        refine r_aload_n hc 2 (dc_at dX10_goesOdds 58 rfl) rfl ?_
        refine r_iload_n hc 3 (dc_at dX10_goesOdds 59 rfl) rfl ?_
        refine r_iload_n hc 4 (dc_at dX10_goesOdds 60 rfl) rfl ?_
        refine r_iconst (1 : Int32) hc (dc_at dX10_goesOdds 61 rfl) (by decide) ?_
        refine r_iadd hc (dc_at dX10_goesOdds 62 rfl) ?_
        refine r_lload hc 1 (dc_at dX10_goesOdds 63 rfl) rfl ?_
        refine r_lload hc 0 (dc_at dX10_goesOdds 64 rfl) rfl ?_
        refine r_lload hc 7 (dc_at dX10_goesOdds 65 rfl) rfl ?_
        refine r_bipush (10 : Int32) hc (dc_at dX10_goesOdds 66 rfl) (by decide) ?_
        refine r_aload_n hc 2 (dc_at dX10_goesOdds 67 rfl) rfl ?_
        refine r_getR hc (dc_at dX10_goesOdds 68 rfl) fl_X10_13 hf fun a12 hf => ?_
        refine r_iconst (5 : Int32) hc (dc_at dX10_goesOdds 69 rfl) (by decide) ?_
        refine r_iaload hc (dc_at dX10_goesOdds 70 rfl) hf fun x13 hf => ?_
        refine r_isub hc (dc_at dX10_goesOdds 71 rfl) ?_
        refine r_i2l hc (dc_at dX10_goesOdds 72 rfl) ?_
        refine r_lmul hc (dc_at dX10_goesOdds 73 rfl) ?_
        obtain ⟨ho, hf⟩ := cO_some hf
        refine ob2 hf fun u h15 ex hf => ?_
        refine r_callVv (As := [.int v1, .int ((v2 + (1 : Int32))), .long x6, .long x7, .long ((v7 * ((Int32.toInt64 (((10 : Int32) - x13))))))]) (ci := 10) hc hr (dc_at dX10_goesOdds 74 rfl) ml_X10_482 mv_X10_goesOdds vi_X10_goesOdds rfl ho rfl (hrc  ex) (by first | exact Nat.le_of_ble_eq_true rfl | omega) (by first | exact Nat.le_of_ble_eq_true rfl | omega) (by first | exact Nat.le_of_ble_eq_true rfl | omega) hm hs ?_
        exact r_vret hc he (hm) (hs) (dc_at dX10_goesOdds 75 rfl) hf
      · refine r_aload_n hc 0 (dc_at dX10_goesOdds 25 rfl) rfl ?_
        refine r_iload_n hc 1 (dc_at dX10_goesOdds 26 rfl) rfl ?_
        refine r_iload_n hc 2 (dc_at dX10_goesOdds 27 rfl) rfl ?_
        refine r_iconst (1 : Int32) hc (dc_at dX10_goesOdds 28 rfl) (by decide) ?_
        refine r_iadd hc (dc_at dX10_goesOdds 29 rfl) ?_
        refine r_lload_n hc 3 (dc_at dX10_goesOdds 30 rfl) rfl ?_
        refine r_lload hc 4 (dc_at dX10_goesOdds 31 rfl) rfl ?_
        refine r_ldc2 hc (dc_at dX10_goesOdds 32 rfl) cl2_X10_358 ?_
        refine r_lload hc 5 (dc_at dX10_goesOdds 33 rfl) rfl ?_
        refine r_lmul hc (dc_at dX10_goesOdds 34 rfl) ?_
        obtain ⟨ho, hf⟩ := cO_some hf
        refine ob2 hf fun u h17 ex hf => ?_
        refine r_callVv (As := [.int v1, .int ((v2 + (1 : Int32))), .long v3, .long v5, .long (((10 : Int64) * v7))]) (ci := 10) hc hr (dc_at dX10_goesOdds 35 rfl) ml_X10_482 mv_X10_goesOdds vi_X10_goesOdds rfl ho rfl (hrc  ex) (by first | exact Nat.le_of_ble_eq_true rfl | omega) (by first | exact Nat.le_of_ble_eq_true rfl | omega) (by first | exact Nat.le_of_ble_eq_true rfl | omega) hm hs ?_
        exact r_vret hc he (hm) (hs) (dc_at dX10_goesOdds 36 rfl) hf
    · exact gg_sub [0, 3, 4, 5] rfl (t_X10_goesOdds_17 hrc hc hr he hm hs  hf)
def g_X10_goesOdds (rc : PH → Nat → Int32 → Int32 → Int64 → Int64 → Int64 → Option (Unit × PH)) (F : Nat) (h : PH) (p0 : Nat) (p1 : Int32) (p2 : Int32) (p3 : Int64) (p5 : Int64) (p7 : Int64) : Option (Unit × PH) := b_X10_goesOdds_0 rc F h p0 p1 p2 p3 p5 p7
theorem mg_X10_goesOdds {l : Launch} {X : XT} {rc : PH → Nat → Int32 → Int32 → Int64 → Int64 → Int64 → Option (Unit × PH)} {d : Nat} {F : Nat} {h hz : PH} {p0 : Nat} {p1 : Int32} {p2 : Int32} {p3 : Int64} {p5 : Int64} {p7 : Int64} {r : Unit} (hrc : ∀ {h hz : PH} {p0 : Nat} {p1 : Int32} {p2 : Int32} {p3 : Int64} {p5 : Int64} {p7 : Int64} {r : Unit}, rc h p0 p1 p2 p3 p5 p7 = some (r, hz) → MT l X yX10_goesOdds cX10_goesOdds 13 none (1 * d + 136) (58 * d + 7890) 0 0 [.ref (X.1 + p0), .int p1, .int p2, .long p3, .long p5, .long p7] h none hz) (ex : g_X10_goesOdds rc F h p0 p1 p2 p3 p5 p7 = some (r, hz)) : MT l X yX10_goesOdds cX10_goesOdds 13 none (1 * d + 137) (58 * d + 7948) 0 0 [.ref (X.1 + p0), .int p1, .int p2, .long p3, .long p5, .long p7] h none hz := MT.of (by decide) (Nat.le_of_ble_eq_true rfl) fun M hl hc hr he => by
  subst hl
  exact gg_sub [0, 1, 2, 3, 4, 5] rfl (t_X10_goesOdds_0 hrc hc hr he (Nat.zero_le _) (Nat.zero_le _) ex)
def m_X10_goesOdds (F : Nat) : Nat → PH → Nat → Int32 → Int32 → Int64 → Int64 → Int64 → Option (Unit × PH)
  | 0 => fun _ _ _ _ _ _ _ => none
  | d + 1 => fun h p0 p1 p2 p3 p5 p7 => g_X10_goesOdds (m_X10_goesOdds F d) F h p0 p1 p2 p3 p5 p7
theorem mr_X10_goesOdds {l : Launch} {X : XT} {F : Nat} (d : Nat) : ∀ {h hz : PH} {p0 : Nat} {p1 : Int32} {p2 : Int32} {p3 : Int64} {p5 : Int64} {p7 : Int64} {r : Unit}, m_X10_goesOdds F d h p0 p1 p2 p3 p5 p7 = some (r, hz) → MT l X yX10_goesOdds cX10_goesOdds 13 none (1 * d + 136) (58 * d + 7890) 0 0 [.ref (X.1 + p0), .int p1, .int p2, .long p3, .long p5, .long p7] h none hz := by
  induction d with
  | zero => intro _ _ _ _ _ _ _ _ _ hf; cases hf
  | succ d ih => intro _ _ _ _ _ _ _ _ _ hf; exact (show 1 * (d + 1) + 136 = 1 * d + 137 by omega) ▸ (show 58 * (d + 1) + 7890 = 58 * d + 7948 by omega) ▸ mg_X10_goesOdds ih hf
theorem mt_X10_goesOdds {l : Launch} {X : XT} {F : Nat} {h hz : PH} {p0 : Nat} {p1 : Int32} {p2 : Int32} {p3 : Int64} {p5 : Int64} {p7 : Int64} {r : Unit} (ex : m_X10_goesOdds F 10 h p0 p1 p2 p3 p5 p7 = some (r, hz)) : MT l X yX10_goesOdds cX10_goesOdds 13 none 146 8470 0 0 [.ref (X.1 + p0), .int p1, .int p2, .long p3, .long p5, .long p7] h none hz := mr_X10_goesOdds 10 ex
/-! FractionLiftModel.noOdds(IZ)I -/
def lX10_noOddsL : List (Nat × Instr × Nat × Nat) := [(0, .aload_n 0, 1, 1), (1, .iload_n 1, 1, 2), (2, .bipush 8, 2, 4), (4, .invokevirtual 296, 3, 7), (7, .istore_n 3, 1, 8), (8, .iload_n 3, 1, 9), (9, .ifCond .eq 5, 3, 12), (12, .iload_n 3, 1, 13), (13, .ireturn, 1, 14), (14, .iload_n 2, 1, 15), (15, .ifCond .ne 6, 3, 18), (18, .bipush (-3), 2, 20), (20, .ireturn, 1, 21), (21, .iconst 0, 1, 22), (22, .istore 4, 2, 24), (24, .iload 4, 2, 26), (26, .aload_n 0, 1, 27), (27, .getfield 100, 3, 30), (30, .iload_n 1, 1, 31), (31, .iaload, 1, 32), (32, .if_icmp .ge 23, 3, 35), (35, .aload_n 0, 1, 36), (36, .iload_n 1, 1, 37), (37, .iload 4, 2, 39), (39, .invokevirtual 299, 3, 42), (42, .iconst (-1), 1, 43), (43, .if_icmp .ne 6, 3, 46), (46, .bipush (-3), 2, 48), (48, .ireturn, 1, 49), (49, .iinc 4 1, 3, 52), (52, .goto (-28), 3, 55), (55, .aload_n 0, 1, 56), (56, .iconst 0, 1, 57), (57, .putfield 475, 3, 60), (60, .aload_n 0, 1, 61), (61, .iload_n 1, 1, 62), (62, .iconst 0, 1, 63), (63, .aload_n 0, 1, 64), (64, .getfield 13, 3, 67), (67, .bipush 7, 2, 69), (69, .iaload, 1, 70), (70, .i2l, 1, 71), (71, .aload_n 0, 1, 72), (72, .getfield 13, 3, 75), (75, .bipush 8, 2, 77), (77, .iaload, 1, 78), (78, .i2l, 1, 79), (79, .lconst 1, 1, 80), (80, .invokevirtual 482, 3, 83), (83, .iconst 0, 1, 84), (84, .ireturn, 1, 85)]
set_option maxRecDepth 20000 in
theorem dX10_noOdds : dcL cX10_noOdds lX10_noOddsL = true := by decide +kernel
def b_X10_noOdds_24 (F : Nat) (self15 : PH → Nat → Int32 → Int32 → Option (Int32 × PH)) (h : PH) (v0 : Nat) (v1 : Int32) (v4 : Int32) : Option (Int32 × PH) := (gR 10 53 h v0).bind fun a1 => ((aI 0 h a1 v1).bind fun x2 => (if x2 ≤ v4 then ((pV 10 51 (.int (0 : Int32)) h v0).bind fun h3 => ((gR 10 1 h3 v0).bind fun a4 => ((aI 0 h3 a4 (7 : Int32)).bind fun x5 => ((gR 10 1 h3 v0).bind fun a6 => ((aI 0 h3 a6 (8 : Int32)).bind fun x7 => (cO 10 h3 v0 (bind2 (m_X10_goesOdds F 10 h3 v0 v1 (0 : Int32) (Int32.toInt64 x5) (Int32.toInt64 x7) (1 : Int64)) fun _ h9 => (some ((0 : Int32), h9))))))))) else (cO 10 h v0 ((m_X10_told h v0 v1 v4).bind fun x10 => (if x10 = (-1 : Int32) then (some ((-3 : Int32), h)) else (bindv (v4 + (1)) fun x11 => (self15 h v0 v1 x11)))))))
set_option maxRecDepth 20000 in
theorem tb_X10_noOdds_24 {M : MV} {X : XT} {F : Nat} {self15 : PH → Nat → Int32 → Int32 → Option (Int32 × PH)} {h hz : PH} {r : Int32} {ce sl mc ms : Nat} {v0 : Nat} {v1 : Int32} {v4 : Int32} (hc : Cx M X RX10 cX10_noOdds) (hr : Rx M 147 8528 mc ms 5) (he : Ex M X (some .int) "noOdds" (some (.int r)) hz mc ms) (hm : ce ≤ mc) (hs : sl ≤ ms) (ih15 : ∀ (h : PH) (v0 : Nat) (v1 : Int32) (v4 : Int32), self15 h v0 v1 v4 = some (r, hz) → GG M X h ce sl 24 [(0, .ref (X.1 + v0)), (1, .int v1), (4, .int v4)] []) (hf : b_X10_noOdds_24 F self15 h v0 v1 v4 = some (r, hz)) : GG M X h ce sl 24 [(0, .ref (X.1 + v0)), (1, .int v1), (4, .int v4)] [] := by
  unfold b_X10_noOdds_24 at hf
  refine r_iload hc 2 (dc_at dX10_noOdds 15 rfl) rfl ?_
  refine r_aload_n hc 0 (dc_at dX10_noOdds 16 rfl) rfl ?_
  refine r_getR hc (dc_at dX10_noOdds 17 rfl) fl_X10_100 hf fun a1 hf => ?_
  refine r_iload_n hc 1 (dc_at dX10_noOdds 18 rfl) rfl ?_
  refine r_iaload hc (dc_at dX10_noOdds 19 rfl) hf fun x2 hf => ?_
  refine r_icmp_ge (tgt := 55) hc (dc_at dX10_noOdds 20 rfl) (by decide) hf (fun hf => ?_) (fun hf => ?_)
  · refine r_aload_n hc 0 (dc_at dX10_noOdds 31 rfl) rfl ?_
    refine r_iconst (0 : Int32) hc (dc_at dX10_noOdds 32 rfl) (by decide) ?_
    refine r_putI hc he (dc_at dX10_noOdds 33 rfl) fp_X10_475 (fun q => by cases q) hf fun h3 hf => ?_
    refine r_aload_n hc 0 (dc_at dX10_noOdds 34 rfl) rfl ?_
    refine r_iload_n hc 1 (dc_at dX10_noOdds 35 rfl) rfl ?_
    refine r_iconst (0 : Int32) hc (dc_at dX10_noOdds 36 rfl) (by decide) ?_
    refine r_aload_n hc 0 (dc_at dX10_noOdds 37 rfl) rfl ?_
    refine r_getR hc (dc_at dX10_noOdds 38 rfl) fl_X10_13 hf fun a4 hf => ?_
    refine r_bipush (7 : Int32) hc (dc_at dX10_noOdds 39 rfl) (by decide) ?_
    refine r_iaload hc (dc_at dX10_noOdds 40 rfl) hf fun x5 hf => ?_
    refine r_i2l hc (dc_at dX10_noOdds 41 rfl) ?_
    refine r_aload_n hc 0 (dc_at dX10_noOdds 42 rfl) rfl ?_
    refine r_getR hc (dc_at dX10_noOdds 43 rfl) fl_X10_13 hf fun a6 hf => ?_
    refine r_bipush (8 : Int32) hc (dc_at dX10_noOdds 44 rfl) (by decide) ?_
    refine r_iaload hc (dc_at dX10_noOdds 45 rfl) hf fun x7 hf => ?_
    refine r_i2l hc (dc_at dX10_noOdds 46 rfl) ?_
    refine r_lconst (1 : Int64) hc (dc_at dX10_noOdds 47 rfl) (by decide) ?_
    obtain ⟨ho, hf⟩ := cO_some hf
    refine ob2 hf fun u h9 ex hf => ?_
    refine r_callVv (As := [.int v1, .int ((0 : Int32)), .long ((Int32.toInt64 x5)), .long ((Int32.toInt64 x7)), .long ((1 : Int64))]) (ci := 10) hc hr (dc_at dX10_noOdds 48 rfl) ml_X10_482 mv_X10_goesOdds vi_X10_goesOdds rfl ho rfl (mt_X10_goesOdds ex) (by first | exact Nat.le_of_ble_eq_true rfl | omega) (by first | exact Nat.le_of_ble_eq_true rfl | omega) (by first | exact Nat.le_of_ble_eq_true rfl | omega) hm hs ?_
    refine r_iconst (0 : Int32) hc (dc_at dX10_noOdds 49 rfl) (by decide) ?_
    exact r_iret hc he (hm) (hs) (dc_at dX10_noOdds 50 rfl) hf
  · refine r_aload_n hc 0 (dc_at dX10_noOdds 21 rfl) rfl ?_
    refine r_iload_n hc 1 (dc_at dX10_noOdds 22 rfl) rfl ?_
    refine r_iload hc 2 (dc_at dX10_noOdds 23 rfl) rfl ?_
    obtain ⟨ho, hf⟩ := cO_some hf
    refine ob hf fun x10 ex hf => ?_
    refine r_callVi (As := [.int v1, .int v4]) (ci := 10) hc hr (dc_at dX10_noOdds 24 rfl) ml_X10_299 mv_X10_told vi_X10_told rfl ho rfl (mt_X10_told ex) (by first | exact Nat.le_of_ble_eq_true rfl | omega) (by first | exact Nat.le_of_ble_eq_true rfl | omega) (by first | exact Nat.le_of_ble_eq_true rfl | omega) hm hs ?_
    refine r_iconst (-1 : Int32) hc (dc_at dX10_noOdds 25 rfl) (by decide) ?_
    refine r_icmp_ne (tgt := 49) hc (dc_at dX10_noOdds 26 rfl) (by decide) hf (fun hf => ?_) (fun hf => ?_)
    · refine obv hf fun x11 e_x11 hf => ?_
      refine r_iinc 2 [(4, .int x11), (0, .ref (X.1 + v0)), (1, .int v1)] hc hr (dc_at dX10_noOdds 29 rfl) rfl (by rw [e_x11]; rfl) (by decide) rfl ?_
      refine r_goto (tgt := 24) hc (dc_at dX10_noOdds 30 rfl) (by decide) ?_
      exact gg_sub [1, 2, 0] rfl (ih15 _ _ _ _ hf)
    · refine r_bipush (-3 : Int32) hc (dc_at dX10_noOdds 27 rfl) (by decide) ?_
      exact r_iret hc he (hm) (hs) (dc_at dX10_noOdds 28 rfl) hf
def l_X10_noOdds_24 (F : Nat) : Nat → PH → Nat → Int32 → Int32 → Option (Int32 × PH)
  | 0 => fun _ _ _ _ => none
  | n + 1 => fun h v0 v1 v4 => b_X10_noOdds_24 F (l_X10_noOdds_24 F n) h v0 v1 v4
theorem tl_X10_noOdds_24 {M : MV} {X : XT} {F : Nat} {hz : PH} {r : Int32} {ce sl mc ms : Nat} (hc : Cx M X RX10 cX10_noOdds) (hr : Rx M 147 8528 mc ms 5) (he : Ex M X (some .int) "noOdds" (some (.int r)) hz mc ms) (hm : ce ≤ mc) (hs : sl ≤ ms) (n : Nat) : ∀ (h : PH) (v0 : Nat) (v1 : Int32) (v4 : Int32), l_X10_noOdds_24 F n h v0 v1 v4 = some (r, hz) → GG M X h ce sl 24 [(0, .ref (X.1 + v0)), (1, .int v1), (4, .int v4)] [] := by
  induction n with
  | zero => intro h v0 v1 v4 hf; cases hf
  | succ n ih => intro h v0 v1 v4 hf; exact tb_X10_noOdds_24 (F := F) hc hr he hm hs  ih hf
def b_X10_noOdds_0 (F : Nat) (h : PH) (v0 : Nat) (v1 : Int32) (v2 : Int32) : Option (Int32 × PH) := cO 10 h v0 ((m_X10_noRow h v0 v1 (8 : Int32)).bind fun x1 => (if x1 = 0 then (if v2 = 0 then (some ((-3 : Int32), h)) else (l_X10_noOdds_24 F F h v0 v1 (0 : Int32))) else (some (x1, h))))
set_option maxRecDepth 20000 in
theorem t_X10_noOdds_0 {M : MV} {X : XT} {F : Nat} {h hz : PH} {r : Int32} {ce sl mc ms : Nat} {v0 : Nat} {v1 : Int32} {v2 : Int32} (hc : Cx M X RX10 cX10_noOdds) (hr : Rx M 147 8528 mc ms 5) (he : Ex M X (some .int) "noOdds" (some (.int r)) hz mc ms) (hm : ce ≤ mc) (hs : sl ≤ ms) (hf : b_X10_noOdds_0 F h v0 v1 v2 = some (r, hz)) : GG M X h ce sl 0 [(0, .ref (X.1 + v0)), (1, .int v1), (2, .int v2)] [] := by
  unfold b_X10_noOdds_0 at hf
  refine r_aload_n hc 0 (dc_at dX10_noOdds 0 rfl) rfl ?_
  refine r_iload_n hc 1 (dc_at dX10_noOdds 1 rfl) rfl ?_
  refine r_bipush (8 : Int32) hc (dc_at dX10_noOdds 2 rfl) (by decide) ?_
  obtain ⟨ho, hf⟩ := cO_some hf
  refine ob hf fun x1 ex hf => ?_
  refine r_callVi (As := [.int v1, .int ((8 : Int32))]) (ci := 10) hc hr (dc_at dX10_noOdds 3 rfl) ml_X10_296 mv_X10_noRow vi_X10_noRow rfl ho rfl (mt_X10_noRow ex) (by first | exact Nat.le_of_ble_eq_true rfl | omega) (by first | exact Nat.le_of_ble_eq_true rfl | omega) (by first | exact Nat.le_of_ble_eq_true rfl | omega) hm hs ?_
  refine r_istore_n [(3, .int x1), (0, .ref (X.1 + v0)), (1, .int v1), (2, .int v2)] hc hr (dc_at dX10_noOdds 4 rfl) (by decide) rfl ?_
  refine r_iload_n hc 0 (dc_at dX10_noOdds 5 rfl) rfl ?_
  refine r_if_eq (tgt := 14) hc (dc_at dX10_noOdds 6 rfl) (by decide) hf (fun hf => ?_) (fun hf => ?_)
  · refine r_iload_n hc 3 (dc_at dX10_noOdds 9 rfl) rfl ?_
    refine r_if_ne (tgt := 21) hc (dc_at dX10_noOdds 10 rfl) (by decide) hf (fun hf => ?_) (fun hf => ?_)
    · refine r_iconst (0 : Int32) hc (dc_at dX10_noOdds 13 rfl) (by decide) ?_
      refine r_istore [(4, .int ((0 : Int32))), (3, .int x1), (0, .ref (X.1 + v0)), (1, .int v1), (2, .int v2)] hc hr (dc_at dX10_noOdds 14 rfl) (by decide) rfl ?_
      exact gg_sub [2, 3, 0] rfl (tl_X10_noOdds_24 hc hr he hm hs  F _ _ _ _ hf)
    · refine r_bipush (-3 : Int32) hc (dc_at dX10_noOdds 11 rfl) (by decide) ?_
      exact r_iret hc he (hm) (hs) (dc_at dX10_noOdds 12 rfl) hf
  · refine r_iload_n hc 0 (dc_at dX10_noOdds 7 rfl) rfl ?_
    exact r_iret hc he (hm) (hs) (dc_at dX10_noOdds 8 rfl) hf
def m_X10_noOdds (F : Nat) (h : PH) (p0 : Nat) (p1 : Int32) (p2 : Int32) : Option (Int32 × PH) := b_X10_noOdds_0 F h p0 p1 p2
theorem mt_X10_noOdds {l : Launch} {X : XT} {F : Nat} {h hz : PH} {p0 : Nat} {p1 : Int32} {p2 : Int32} {r : Int32} (ex : m_X10_noOdds F h p0 p1 p2 = some (r, hz)) : MT l X yX10_noOdds cX10_noOdds 5 (some .int) 147 8528 0 0 [.ref (X.1 + p0), .int p1, .int p2] h (some (.int r)) hz := MT.of (by decide) (Nat.le_of_ble_eq_true rfl) fun M hl hc hr he => by
  subst hl
  exact gg_sub [0, 1, 2] rfl (t_X10_noOdds_0  hc hr he (Nat.zero_le _) (Nat.zero_le _) ex)
/-! FractionLiftModel.odds(III)J -/
def lX10_oddsL : List (Nat × Instr × Nat × Nat) := [(0, .aload_n 0, 1, 1), (1, .iconst 0, 1, 2), (2, .putfield 1, 3, 5), (5, .aload_n 0, 1, 6), (6, .iload_n 2, 1, 7), (7, .i2l, 1, 8), (8, .iload_n 3, 1, 9), (9, .i2l, 1, 10), (10, .invokevirtual 282, 3, 13), (13, .istore 4, 2, 15), (15, .aload_n 0, 1, 16), (16, .getfield 180, 3, 19), (19, .lstore 5, 2, 21), (21, .aload_n 0, 1, 22), (22, .getfield 184, 3, 25), (25, .lstore 7, 2, 27), (27, .aload_n 0, 1, 28), (28, .iload_n 1, 1, 29), (29, .iload 4, 2, 31), (31, .invokevirtual 486, 3, 34), (34, .istore 9, 2, 36), (36, .iload 9, 2, 38), (38, .ifCond .eq 7, 3, 41), (41, .iload 9, 2, 43), (43, .i2l, 1, 44), (44, .lreturn, 1, 45), (45, .iconst 0, 1, 46), (46, .istore 10, 2, 48), (48, .iload 10, 2, 50), (50, .aload_n 0, 1, 51), (51, .getfield 475, 3, 54), (54, .if_icmp .ge 45, 3, 57), (57, .aload_n 0, 1, 58), (58, .getfield 88, 3, 61), (61, .iload 10, 2, 63), (63, .iaload, 1, 64), (64, .i2l, 1, 65), (65, .lload 5, 2, 67), (67, .lcmp, 1, 68), (68, .ifCond .ne 25, 3, 71), (71, .aload_n 0, 1, 72), (72, .getfield 91, 3, 75), (75, .iload 10, 2, 77), (77, .iaload, 1, 78), (78, .i2l, 1, 79), (79, .lload 7, 2, 81), (81, .lcmp, 1, 82), (82, .ifCond .ne 11, 3, 85), (85, .aload_n 0, 1, 86), (86, .getfield 94, 3, 89), (89, .iload 10, 2, 91), (91, .laload, 1, 92), (92, .lreturn, 1, 93), (93, .iinc 10 1, 3, 96), (96, .goto (-48), 3, 99), (99, .lconst 0, 1, 100), (100, .lreturn, 1, 101)]
set_option maxRecDepth 20000 in
theorem dX10_odds : dcL cX10_odds lX10_oddsL = true := by decide +kernel
def b_X10_odds_93 (F : Nat) (self28 : PH → Nat → Int64 → Int64 → Int32 → Option (Int64 × PH)) (h : PH) (v0 : Nat) (v5 : Int64) (v7 : Int64) (v10 : Int32) : Option (Int64 × PH) := bindv (v10 + (1)) fun x1 => (self28 h v0 v5 v7 x1)
set_option maxRecDepth 20000 in
theorem t_X10_odds_93 {M : MV} {X : XT} {F : Nat} {self28 : PH → Nat → Int64 → Int64 → Int32 → Option (Int64 × PH)} {h hz : PH} {r : Int64} {ce sl mc ms : Nat} {v0 : Nat} {v5 : Int64} {v7 : Int64} {v10 : Int32} (hc : Cx M X RX10 cX10_odds) (hr : Rx M 148 8586 mc ms 11) (he : Ex M X (some .long) "odds" (some (.long r)) hz mc ms) (hm : ce ≤ mc) (hs : sl ≤ ms) (ih28 : ∀ (h : PH) (v0 : Nat) (v5 : Int64) (v7 : Int64) (v10 : Int32), self28 h v0 v5 v7 v10 = some (r, hz) → GG M X h ce sl 48 [(0, .ref (X.1 + v0)), (5, .long v5), (7, .long v7), (10, .int v10)] []) (hf : b_X10_odds_93 F self28 h v0 v5 v7 v10 = some (r, hz)) : GG M X h ce sl 93 [(0, .ref (X.1 + v0)), (5, .long v5), (7, .long v7), (10, .int v10)] [] := by
  unfold b_X10_odds_93 at hf
  refine obv hf fun x1 e_x1 hf => ?_
  refine r_iinc 3 [(10, .int x1), (0, .ref (X.1 + v0)), (5, .long v5), (7, .long v7)] hc hr (dc_at dX10_odds 53 rfl) rfl (by rw [e_x1]; rfl) (by decide) rfl ?_
  refine r_goto (tgt := 48) hc (dc_at dX10_odds 54 rfl) (by decide) ?_
  exact gg_sub [1, 2, 3, 0] rfl (ih28 _ _ _ _ _ hf)
def b_X10_odds_48 (F : Nat) (self28 : PH → Nat → Int64 → Int64 → Int32 → Option (Int64 × PH)) (h : PH) (v0 : Nat) (v5 : Int64) (v7 : Int64) (v10 : Int32) : Option (Int64 × PH) := (gI 10 51 h v0).bind fun x1 => (if x1 ≤ v10 then (some ((0 : Int64), h)) else ((gR 10 48 h v0).bind fun a2 => ((aI 0 h a2 v10).bind fun x3 => (if (Int32.toInt64 x3) = v5 then ((gR 10 49 h v0).bind fun a4 => ((aI 0 h a4 v10).bind fun x5 => (if (Int32.toInt64 x5) = v7 then ((gR 10 50 h v0).bind fun a6 => ((aL h a6 v10).bind fun x7 => (some (x7, h)))) else (b_X10_odds_93 F self28 h v0 v5 v7 v10)))) else (b_X10_odds_93 F self28 h v0 v5 v7 v10)))))
set_option maxRecDepth 20000 in
theorem tb_X10_odds_48 {M : MV} {X : XT} {F : Nat} {self28 : PH → Nat → Int64 → Int64 → Int32 → Option (Int64 × PH)} {h hz : PH} {r : Int64} {ce sl mc ms : Nat} {v0 : Nat} {v5 : Int64} {v7 : Int64} {v10 : Int32} (hc : Cx M X RX10 cX10_odds) (hr : Rx M 148 8586 mc ms 11) (he : Ex M X (some .long) "odds" (some (.long r)) hz mc ms) (hm : ce ≤ mc) (hs : sl ≤ ms) (ih28 : ∀ (h : PH) (v0 : Nat) (v5 : Int64) (v7 : Int64) (v10 : Int32), self28 h v0 v5 v7 v10 = some (r, hz) → GG M X h ce sl 48 [(0, .ref (X.1 + v0)), (5, .long v5), (7, .long v7), (10, .int v10)] []) (hf : b_X10_odds_48 F self28 h v0 v5 v7 v10 = some (r, hz)) : GG M X h ce sl 48 [(0, .ref (X.1 + v0)), (5, .long v5), (7, .long v7), (10, .int v10)] [] := by
  unfold b_X10_odds_48 at hf
  refine r_iload hc 3 (dc_at dX10_odds 28 rfl) rfl ?_
  refine r_aload_n hc 0 (dc_at dX10_odds 29 rfl) rfl ?_
  refine r_getI hc (dc_at dX10_odds 30 rfl) fl_X10_475 hf fun x1 hf => ?_
  refine r_icmp_ge (tgt := 99) hc (dc_at dX10_odds 31 rfl) (by decide) hf (fun hf => ?_) (fun hf => ?_)
  · refine r_lconst (0 : Int64) hc (dc_at dX10_odds 55 rfl) (by decide) ?_
    exact r_lret hc he (hm) (hs) (dc_at dX10_odds 56 rfl) hf
  · refine r_aload_n hc 0 (dc_at dX10_odds 32 rfl) rfl ?_
    refine r_getR hc (dc_at dX10_odds 33 rfl) fl_X10_88 hf fun a2 hf => ?_
    refine r_iload hc 3 (dc_at dX10_odds 34 rfl) rfl ?_
    refine r_iaload hc (dc_at dX10_odds 35 rfl) hf fun x3 hf => ?_
    refine r_i2l hc (dc_at dX10_odds 36 rfl) ?_
    refine r_lload hc 1 (dc_at dX10_odds 37 rfl) rfl ?_
    refine r_lcmp_ne (tgt := 93) hc (dc_at dX10_odds 38 rfl) (dc_at dX10_odds 39 rfl) (by decide) hf (fun hf => ?_) (fun hf => ?_)
    · exact gg_sub [0, 1, 2, 3] rfl (t_X10_odds_93 hc hr he hm hs ih28 hf)
    · refine r_aload_n hc 0 (dc_at dX10_odds 40 rfl) rfl ?_
      refine r_getR hc (dc_at dX10_odds 41 rfl) fl_X10_91 hf fun a4 hf => ?_
      refine r_iload hc 3 (dc_at dX10_odds 42 rfl) rfl ?_
      refine r_iaload hc (dc_at dX10_odds 43 rfl) hf fun x5 hf => ?_
      refine r_i2l hc (dc_at dX10_odds 44 rfl) ?_
      refine r_lload hc 2 (dc_at dX10_odds 45 rfl) rfl ?_
      refine r_lcmp_ne (tgt := 93) hc (dc_at dX10_odds 46 rfl) (dc_at dX10_odds 47 rfl) (by decide) hf (fun hf => ?_) (fun hf => ?_)
      · exact gg_sub [0, 1, 2, 3] rfl (t_X10_odds_93 hc hr he hm hs ih28 hf)
      · refine r_aload_n hc 0 (dc_at dX10_odds 48 rfl) rfl ?_
        refine r_getR hc (dc_at dX10_odds 49 rfl) fl_X10_94 hf fun a6 hf => ?_
        refine r_iload hc 3 (dc_at dX10_odds 50 rfl) rfl ?_
        refine r_laload hc (dc_at dX10_odds 51 rfl) hf fun x7 hf => ?_
        exact r_lret hc he (hm) (hs) (dc_at dX10_odds 52 rfl) hf
def l_X10_odds_48 (F : Nat) : Nat → PH → Nat → Int64 → Int64 → Int32 → Option (Int64 × PH)
  | 0 => fun _ _ _ _ _ => none
  | n + 1 => fun h v0 v5 v7 v10 => b_X10_odds_48 F (l_X10_odds_48 F n) h v0 v5 v7 v10
theorem tl_X10_odds_48 {M : MV} {X : XT} {F : Nat} {hz : PH} {r : Int64} {ce sl mc ms : Nat} (hc : Cx M X RX10 cX10_odds) (hr : Rx M 148 8586 mc ms 11) (he : Ex M X (some .long) "odds" (some (.long r)) hz mc ms) (hm : ce ≤ mc) (hs : sl ≤ ms) (n : Nat) : ∀ (h : PH) (v0 : Nat) (v5 : Int64) (v7 : Int64) (v10 : Int32), l_X10_odds_48 F n h v0 v5 v7 v10 = some (r, hz) → GG M X h ce sl 48 [(0, .ref (X.1 + v0)), (5, .long v5), (7, .long v7), (10, .int v10)] [] := by
  induction n with
  | zero => intro h v0 v5 v7 v10 hf; cases hf
  | succ n ih => intro h v0 v5 v7 v10 hf; exact tb_X10_odds_48 (F := F) hc hr he hm hs  ih hf
def b_X10_odds_0 (F : Nat) (h : PH) (v0 : Nat) (v1 : Int32) (v2 : Int32) (v3 : Int32) : Option (Int64 × PH) := (pV 10 0 (.int (0 : Int32)) h v0).bind fun h1 => (cO 10 h1 v0 (bind2 (m_X10_asks h1 v0 (Int32.toInt64 v2) (Int32.toInt64 v3)) fun x2 h3 => ((gL 10 15 h3 v0).bind fun x4 => ((gL 10 16 h3 v0).bind fun x5 => (cO 10 h3 v0 (bind2 (m_X10_noOdds F h3 v0 v1 x2) fun x6 h7 => (if x6 = 0 then (l_X10_odds_48 F F h7 v0 x4 x5 (0 : Int32)) else (some ((Int32.toInt64 x6), h7)))))))))
set_option maxRecDepth 20000 in
theorem t_X10_odds_0 {M : MV} {X : XT} {F : Nat} {h hz : PH} {r : Int64} {ce sl mc ms : Nat} {v0 : Nat} {v1 : Int32} {v2 : Int32} {v3 : Int32} (hc : Cx M X RX10 cX10_odds) (hr : Rx M 148 8586 mc ms 11) (he : Ex M X (some .long) "odds" (some (.long r)) hz mc ms) (hm : ce ≤ mc) (hs : sl ≤ ms) (hf : b_X10_odds_0 F h v0 v1 v2 v3 = some (r, hz)) : GG M X h ce sl 0 [(0, .ref (X.1 + v0)), (1, .int v1), (2, .int v2), (3, .int v3)] [] := by
  unfold b_X10_odds_0 at hf
  refine r_aload_n hc 0 (dc_at dX10_odds 0 rfl) rfl ?_
  refine r_iconst (0 : Int32) hc (dc_at dX10_odds 1 rfl) (by decide) ?_
  refine r_putI hc he (dc_at dX10_odds 2 rfl) fp_X10_1 (fun q => by cases q) hf fun h1 hf => ?_
  refine r_aload_n hc 0 (dc_at dX10_odds 3 rfl) rfl ?_
  refine r_iload_n hc 2 (dc_at dX10_odds 4 rfl) rfl ?_
  refine r_i2l hc (dc_at dX10_odds 5 rfl) ?_
  refine r_iload_n hc 3 (dc_at dX10_odds 6 rfl) rfl ?_
  refine r_i2l hc (dc_at dX10_odds 7 rfl) ?_
  obtain ⟨ho, hf⟩ := cO_some hf
  refine ob2 hf fun x2 h3 ex hf => ?_
  refine r_callVi (As := [.long ((Int32.toInt64 v2)), .long ((Int32.toInt64 v3))]) (ci := 10) hc hr (dc_at dX10_odds 8 rfl) ml_X10_282 mv_X10_asks vi_X10_asks rfl ho rfl (mt_X10_asks ex) (by first | exact Nat.le_of_ble_eq_true rfl | omega) (by first | exact Nat.le_of_ble_eq_true rfl | omega) (by first | exact Nat.le_of_ble_eq_true rfl | omega) hm hs ?_
  refine r_istore [(4, .int x2), (0, .ref (X.1 + v0)), (1, .int v1), (2, .int v2), (3, .int v3)] hc hr (dc_at dX10_odds 9 rfl) (by decide) rfl ?_
  refine r_aload_n hc 1 (dc_at dX10_odds 10 rfl) rfl ?_
  refine r_getL hc (dc_at dX10_odds 11 rfl) fl_X10_180 hf fun x4 hf => ?_
  refine r_lstore [(5, .long x4), (4, .int x2), (0, .ref (X.1 + v0)), (1, .int v1), (2, .int v2), (3, .int v3)] hc hr (dc_at dX10_odds 12 rfl) (by decide) rfl ?_
  refine r_aload_n hc 2 (dc_at dX10_odds 13 rfl) rfl ?_
  refine r_getL hc (dc_at dX10_odds 14 rfl) fl_X10_184 hf fun x5 hf => ?_
  refine r_lstore [(7, .long x5), (5, .long x4), (4, .int x2), (0, .ref (X.1 + v0)), (1, .int v1), (2, .int v2), (3, .int v3)] hc hr (dc_at dX10_odds 15 rfl) (by decide) rfl ?_
  refine r_aload_n hc 3 (dc_at dX10_odds 16 rfl) rfl ?_
  refine r_iload_n hc 4 (dc_at dX10_odds 17 rfl) rfl ?_
  refine r_iload hc 2 (dc_at dX10_odds 18 rfl) rfl ?_
  obtain ⟨ho, hf⟩ := cO_some hf
  refine ob2 hf fun x6 h7 ex hf => ?_
  refine r_callVi (As := [.int v1, .int x2]) (ci := 10) hc hr (dc_at dX10_odds 19 rfl) ml_X10_486 mv_X10_noOdds vi_X10_noOdds rfl ho rfl (mt_X10_noOdds ex) (by first | exact Nat.le_of_ble_eq_true rfl | omega) (by first | exact Nat.le_of_ble_eq_true rfl | omega) (by first | exact Nat.le_of_ble_eq_true rfl | omega) hm hs ?_
  refine r_istore [(9, .int x6), (7, .long x5), (5, .long x4), (4, .int x2), (0, .ref (X.1 + v0)), (1, .int v1), (2, .int v2), (3, .int v3)] hc hr (dc_at dX10_odds 20 rfl) (by decide) rfl ?_
  refine r_iload hc 0 (dc_at dX10_odds 21 rfl) rfl ?_
  refine r_if_eq (tgt := 45) hc (dc_at dX10_odds 22 rfl) (by decide) hf (fun hf => ?_) (fun hf => ?_)
  · refine r_iconst (0 : Int32) hc (dc_at dX10_odds 26 rfl) (by decide) ?_
    refine r_istore [(10, .int ((0 : Int32))), (9, .int x6), (7, .long x5), (5, .long x4), (4, .int x2), (0, .ref (X.1 + v0)), (1, .int v1), (2, .int v2), (3, .int v3)] hc hr (dc_at dX10_odds 27 rfl) (by decide) rfl ?_
    exact gg_sub [5, 3, 2, 0] rfl (tl_X10_odds_48 hc hr he hm hs  F _ _ _ _ _ hf)
  · refine r_iload hc 0 (dc_at dX10_odds 23 rfl) rfl ?_
    refine r_i2l hc (dc_at dX10_odds 24 rfl) ?_
    exact r_lret hc he (hm) (hs) (dc_at dX10_odds 25 rfl) hf
def m_X10_odds (F : Nat) (h : PH) (p0 : Nat) (p1 : Int32) (p2 : Int32) (p3 : Int32) : Option (Int64 × PH) := b_X10_odds_0 F h p0 p1 p2 p3
theorem mt_X10_odds {l : Launch} {X : XT} {F : Nat} {h hz : PH} {p0 : Nat} {p1 : Int32} {p2 : Int32} {p3 : Int32} {r : Int64} (ex : m_X10_odds F h p0 p1 p2 p3 = some (r, hz)) : MT l X yX10_odds cX10_odds 11 (some .long) 148 8586 0 0 [.ref (X.1 + p0), .int p1, .int p2, .int p3] h (some (.long r)) hz := MT.of (by decide) (Nat.le_of_ble_eq_true rfl) fun M hl hc hr he => by
  subst hl
  exact gg_sub [0, 1, 2, 3] rfl (t_X10_odds_0  hc hr he (Nat.zero_le _) (Nat.zero_le _) ex)
/-! FractionLiftModel.ends(I)I -/
def lX10_endsL : List (Nat × Instr × Nat × Nat) := [(0, .aload_n 0, 1, 1), (1, .iconst 0, 1, 2), (2, .putfield 1, 3, 5), (5, .aload_n 0, 1, 6), (6, .iload_n 1, 1, 7), (7, .iconst 1, 1, 8), (8, .invokevirtual 486, 3, 11), (11, .istore_n 2, 1, 12), (12, .iload_n 2, 1, 13), (13, .ifCond .eq 7, 3, 16), (16, .iload_n 2, 1, 17), (17, .goto 7, 3, 20), (20, .aload_n 0, 1, 21), (21, .getfield 475, 3, 24), (24, .ireturn, 1, 25)]
set_option maxRecDepth 20000 in
theorem dX10_ends : dcL cX10_ends lX10_endsL = true := by decide +kernel
def b_X10_ends_0 (F : Nat) (h : PH) (v0 : Nat) (v1 : Int32) : Option (Int32 × PH) := (pV 10 0 (.int (0 : Int32)) h v0).bind fun h1 => (cO 10 h1 v0 (bind2 (m_X10_noOdds F h1 v0 v1 (1 : Int32)) fun x2 h3 => (if x2 = 0 then ((gI 10 51 h3 v0).bind fun x4 => (some (x4, h3))) else (some (x2, h3)))))
set_option maxRecDepth 20000 in
theorem t_X10_ends_0 {M : MV} {X : XT} {F : Nat} {h hz : PH} {r : Int32} {ce sl mc ms : Nat} {v0 : Nat} {v1 : Int32} (hc : Cx M X RX10 cX10_ends) (hr : Rx M 148 8586 mc ms 3) (he : Ex M X (some .int) "ends" (some (.int r)) hz mc ms) (hm : ce ≤ mc) (hs : sl ≤ ms) (hf : b_X10_ends_0 F h v0 v1 = some (r, hz)) : GG M X h ce sl 0 [(0, .ref (X.1 + v0)), (1, .int v1)] [] := by
  unfold b_X10_ends_0 at hf
  refine r_aload_n hc 0 (dc_at dX10_ends 0 rfl) rfl ?_
  refine r_iconst (0 : Int32) hc (dc_at dX10_ends 1 rfl) (by decide) ?_
  refine r_putI hc he (dc_at dX10_ends 2 rfl) fp_X10_1 (fun q => by cases q) hf fun h1 hf => ?_
  refine r_aload_n hc 0 (dc_at dX10_ends 3 rfl) rfl ?_
  refine r_iload_n hc 1 (dc_at dX10_ends 4 rfl) rfl ?_
  refine r_iconst (1 : Int32) hc (dc_at dX10_ends 5 rfl) (by decide) ?_
  obtain ⟨ho, hf⟩ := cO_some hf
  refine ob2 hf fun x2 h3 ex hf => ?_
  refine r_callVi (As := [.int v1, .int ((1 : Int32))]) (ci := 10) hc hr (dc_at dX10_ends 6 rfl) ml_X10_486 mv_X10_noOdds vi_X10_noOdds rfl ho rfl (mt_X10_noOdds ex) (by first | exact Nat.le_of_ble_eq_true rfl | omega) (by first | exact Nat.le_of_ble_eq_true rfl | omega) (by first | exact Nat.le_of_ble_eq_true rfl | omega) hm hs ?_
  refine r_istore_n [(2, .int x2), (0, .ref (X.1 + v0)), (1, .int v1)] hc hr (dc_at dX10_ends 7 rfl) (by decide) rfl ?_
  refine r_iload_n hc 0 (dc_at dX10_ends 8 rfl) rfl ?_
  refine r_if_eq (tgt := 20) hc (dc_at dX10_ends 9 rfl) (by decide) hf (fun hf => ?_) (fun hf => ?_)
  · refine r_aload_n hc 1 (dc_at dX10_ends 12 rfl) rfl ?_
    refine r_getI hc (dc_at dX10_ends 13 rfl) fl_X10_475 hf fun x4 hf => ?_
    exact r_iret hc he (hm) (hs) (dc_at dX10_ends 14 rfl) hf
  · refine r_iload_n hc 0 (dc_at dX10_ends 10 rfl) rfl ?_
    refine r_goto (tgt := 24) hc (dc_at dX10_ends 11 rfl) (by decide) ?_
    exact r_iret hc he (hm) (hs) (dc_at dX10_ends 14 rfl) hf
def m_X10_ends (F : Nat) (h : PH) (p0 : Nat) (p1 : Int32) : Option (Int32 × PH) := b_X10_ends_0 F h p0 p1
theorem mt_X10_ends {l : Launch} {X : XT} {F : Nat} {h hz : PH} {p0 : Nat} {p1 : Int32} {r : Int32} (ex : m_X10_ends F h p0 p1 = some (r, hz)) : MT l X yX10_ends cX10_ends 3 (some .int) 148 8586 0 0 [.ref (X.1 + p0), .int p1] h (some (.int r)) hz := MT.of (by decide) (Nat.le_of_ble_eq_true rfl) fun M hl hc hr he => by
  subst hl
  exact gg_sub [0, 1] rfl (t_X10_ends_0  hc hr he (Nat.zero_le _) (Nat.zero_le _) ex)
/-! FractionLiftModel.cut(JI)J -/
def lX10_cutL : List (Nat × Instr × Nat × Nat) := [(0, .iload_n 2, 1, 1), (1, .ifCond .ne 10, 3, 4), (4, .lload_n 0, 1, 5), (5, .l2i, 1, 6), (6, .i2b, 1, 7), (7, .i2l, 1, 8), (8, .goto 27, 3, 11), (11, .iload_n 2, 1, 12), (12, .iconst 1, 1, 13), (13, .if_icmp .ne 10, 3, 16), (16, .lload_n 0, 1, 17), (17, .l2i, 1, 18), (18, .i2s, 1, 19), (19, .i2l, 1, 20), (20, .goto 15, 3, 23), (23, .iload_n 2, 1, 24), (24, .iconst 2, 1, 25), (25, .if_icmp .ne 9, 3, 28), (28, .lload_n 0, 1, 29), (29, .l2i, 1, 30), (30, .i2l, 1, 31), (31, .goto 4, 3, 34), (34, .lload_n 0, 1, 35), (35, .lreturn, 1, 36)]
set_option maxRecDepth 20000 in
theorem dX10_cut : dcL cX10_cut lX10_cutL = true := by decide +kernel
def b_X10_cut_0 (v0 : Int64) (v2 : Int32) : Option Int64 := if v2 = 0 then (some ((Int32.toInt64 (((Int32.toInt8 (Int64.toInt32 v0)).toInt32))))) else (if v2 = (1 : Int32) then (some ((Int32.toInt64 (((Int32.toInt16 (Int64.toInt32 v0)).toInt32))))) else (if v2 = (2 : Int32) then (some ((Int32.toInt64 (Int64.toInt32 v0)))) else (some v0)))
set_option maxRecDepth 20000 in
theorem t_X10_cut_0 {M : MV} {X : XT} {h : PH} {r : Int64} {ce sl mc ms : Nat} {v0 : Int64} {v2 : Int32} (hc : Cx M X RX10 cX10_cut) (hr : Rx M 1 60 mc ms 3) (he : Ex M X (some .long) "cut" (some (.long r)) h mc ms) (hm : ce ≤ mc) (hs : sl ≤ ms) (hf : b_X10_cut_0 v0 v2 = some r) : GG M X h ce sl 0 [(0, .long v0), (2, .int v2)] [] := by
  unfold b_X10_cut_0 at hf
  refine r_iload_n hc 1 (dc_at dX10_cut 0 rfl) rfl ?_
  refine r_if_ne (tgt := 11) hc (dc_at dX10_cut 1 rfl) (by decide) hf (fun hf => ?_) (fun hf => ?_)
  · refine r_iload_n hc 1 (dc_at dX10_cut 7 rfl) rfl ?_
    refine r_iconst (1 : Int32) hc (dc_at dX10_cut 8 rfl) (by decide) ?_
    refine r_icmp_ne (tgt := 23) hc (dc_at dX10_cut 9 rfl) (by decide) hf (fun hf => ?_) (fun hf => ?_)
    · refine r_iload_n hc 1 (dc_at dX10_cut 15 rfl) rfl ?_
      refine r_iconst (2 : Int32) hc (dc_at dX10_cut 16 rfl) (by decide) ?_
      refine r_icmp_ne (tgt := 34) hc (dc_at dX10_cut 17 rfl) (by decide) hf (fun hf => ?_) (fun hf => ?_)
      · refine r_lload_n hc 0 (dc_at dX10_cut 22 rfl) rfl ?_
        exact r_lretP hc he (hm) (hs) (dc_at dX10_cut 23 rfl) hf
      · refine r_lload_n hc 0 (dc_at dX10_cut 18 rfl) rfl ?_
        refine r_l2i hc (dc_at dX10_cut 19 rfl) ?_
        refine r_i2l hc (dc_at dX10_cut 20 rfl) ?_
        refine r_goto (tgt := 35) hc (dc_at dX10_cut 21 rfl) (by decide) ?_
        exact r_lretP hc he (hm) (hs) (dc_at dX10_cut 23 rfl) hf
    · refine r_lload_n hc 0 (dc_at dX10_cut 10 rfl) rfl ?_
      refine r_l2i hc (dc_at dX10_cut 11 rfl) ?_
      refine r_i2s hc (dc_at dX10_cut 12 rfl) ?_
      refine r_i2l hc (dc_at dX10_cut 13 rfl) ?_
      refine r_goto (tgt := 35) hc (dc_at dX10_cut 14 rfl) (by decide) ?_
      exact r_lretP hc he (hm) (hs) (dc_at dX10_cut 23 rfl) hf
  · refine r_lload_n hc 0 (dc_at dX10_cut 2 rfl) rfl ?_
    refine r_l2i hc (dc_at dX10_cut 3 rfl) ?_
    refine r_i2b hc (dc_at dX10_cut 4 rfl) ?_
    refine r_i2l hc (dc_at dX10_cut 5 rfl) ?_
    refine r_goto (tgt := 35) hc (dc_at dX10_cut 6 rfl) (by decide) ?_
    exact r_lretP hc he (hm) (hs) (dc_at dX10_cut 23 rfl) hf
def m_X10_cut (p0 : Int64) (p2 : Int32) : Option Int64 := b_X10_cut_0 p0 p2
theorem mt_X10_cut {l : Launch} {X : XT} {h : PH} {p0 : Int64} {p2 : Int32} {r : Int64} (ex : m_X10_cut p0 p2 = some r) : MT l X yX10_cut cX10_cut 3 (some .long) 1 60 0 0 [.long p0, .int p2] h (some (.long r)) h := MT.of (by decide) (Nat.le_of_ble_eq_true rfl) fun M hl hc hr he => by
  subst hl
  exact gg_sub [0, 1] rfl (t_X10_cut_0  hc hr he (Nat.zero_le _) (Nat.zero_le _) ex)
/-! FractionLiftModel.numbers(III)I -/
def lX10_numbersL : List (Nat × Instr × Nat × Nat) := [(0, .aload_n 0, 1, 1), (1, .iconst 0, 1, 2), (2, .putfield 1, 3, 5), (5, .iload_n 1, 1, 6), (6, .i2l, 1, 7), (7, .lconst 0, 1, 8), (8, .ldc2_w 290, 3, 11), (11, .invokestatic 172, 3, 14), (14, .ifCond .eq 15, 3, 17), (17, .iload_n 2, 1, 18), (18, .i2l, 1, 19), (19, .lconst 0, 1, 20), (20, .ldc2_w 290, 3, 23), (23, .invokestatic 172, 3, 26), (26, .ifCond .ne 6, 3, 29), (29, .bipush (-2), 2, 31), (31, .ireturn, 1, 32), (32, .iload_n 3, 1, 33), (33, .i2l, 1, 34), (34, .lconst 0, 1, 35), (35, .ldc2_w 490, 3, 38), (38, .invokestatic 172, 3, 41), (41, .ifCond .ne 6, 3, 44), (44, .bipush (-3), 2, 46), (46, .ireturn, 1, 47), (47, .aload_n 0, 1, 48), (48, .getfield 97, 3, 51), (51, .iload_n 1, 1, 52), (52, .iload_n 2, 1, 53), (53, .iastore, 1, 54), (54, .aload_n 0, 1, 55), (55, .getfield 100, 3, 58), (58, .iload_n 1, 1, 59), (59, .iload_n 3, 1, 60), (60, .iastore, 1, 61), (61, .iconst 0, 1, 62), (62, .istore 4, 2, 64), (64, .iload 4, 2, 66), (66, .iload_n 3, 1, 67), (67, .if_icmp .ge 22, 3, 70), (70, .aload_n 0, 1, 71), (71, .getfield 103, 3, 74), (74, .bipush 40, 2, 76), (76, .iload_n 1, 1, 77), (77, .imul, 1, 78), (78, .iload 4, 2, 80), (80, .iadd, 1, 81), (81, .lconst 0, 1, 82), (82, .lastore, 1, 83), (83, .iinc 4 1, 3, 86), (86, .goto (-22), 3, 89), (89, .iconst 0, 1, 90), (90, .ireturn, 1, 91)]
set_option maxRecDepth 20000 in
theorem dX10_numbers : dcL cX10_numbers lX10_numbersL = true := by decide +kernel
def b_X10_numbers_64 (F : Nat) (self37 : PH → Nat → Int32 → Int32 → Int32 → Option (Int32 × PH)) (h : PH) (v0 : Nat) (v1 : Int32) (v3 : Int32) (v4 : Int32) : Option (Int32 × PH) := if v3 ≤ v4 then (some ((0 : Int32), h)) else ((gR 10 54 h v0).bind fun a1 => ((sL h a1 (((((40 : Int32) * v1)) + v4)) (0 : Int64)).bind fun h2 => (bindv (v4 + (1)) fun x3 => (self37 h2 v0 v1 v3 x3))))
set_option maxRecDepth 20000 in
theorem tb_X10_numbers_64 {M : MV} {X : XT} {F : Nat} {self37 : PH → Nat → Int32 → Int32 → Int32 → Option (Int32 × PH)} {h hz : PH} {r : Int32} {ce sl mc ms : Nat} {v0 : Nat} {v1 : Int32} {v3 : Int32} {v4 : Int32} (hc : Cx M X RX10 cX10_numbers) (hr : Rx M 2 118 mc ms 5) (he : Ex M X (some .int) "numbers" (some (.int r)) hz mc ms) (hm : ce ≤ mc) (hs : sl ≤ ms) (ih37 : ∀ (h : PH) (v0 : Nat) (v1 : Int32) (v3 : Int32) (v4 : Int32), self37 h v0 v1 v3 v4 = some (r, hz) → GG M X h ce sl 64 [(0, .ref (X.1 + v0)), (1, .int v1), (3, .int v3), (4, .int v4)] []) (hf : b_X10_numbers_64 F self37 h v0 v1 v3 v4 = some (r, hz)) : GG M X h ce sl 64 [(0, .ref (X.1 + v0)), (1, .int v1), (3, .int v3), (4, .int v4)] [] := by
  unfold b_X10_numbers_64 at hf
  refine r_iload hc 3 (dc_at dX10_numbers 37 rfl) rfl ?_
  refine r_iload_n hc 2 (dc_at dX10_numbers 38 rfl) rfl ?_
  refine r_icmp_ge (tgt := 89) hc (dc_at dX10_numbers 39 rfl) (by decide) hf (fun hf => ?_) (fun hf => ?_)
  · refine r_iconst (0 : Int32) hc (dc_at dX10_numbers 51 rfl) (by decide) ?_
    exact r_iret hc he (hm) (hs) (dc_at dX10_numbers 52 rfl) hf
  · refine r_aload_n hc 0 (dc_at dX10_numbers 40 rfl) rfl ?_
    refine r_getR hc (dc_at dX10_numbers 41 rfl) fl_X10_103 hf fun a1 hf => ?_
    refine r_bipush (40 : Int32) hc (dc_at dX10_numbers 42 rfl) (by decide) ?_
    refine r_iload_n hc 1 (dc_at dX10_numbers 43 rfl) rfl ?_
    refine r_imul hc (dc_at dX10_numbers 44 rfl) ?_
    refine r_iload hc 3 (dc_at dX10_numbers 45 rfl) rfl ?_
    refine r_iadd hc (dc_at dX10_numbers 46 rfl) ?_
    refine r_lconst (0 : Int64) hc (dc_at dX10_numbers 47 rfl) (by decide) ?_
    refine r_lastore hc (dc_at dX10_numbers 48 rfl) hf fun h2 hf => ?_
    refine obv hf fun x3 e_x3 hf => ?_
    refine r_iinc 3 [(4, .int x3), (0, .ref (X.1 + v0)), (1, .int v1), (3, .int v3)] hc hr (dc_at dX10_numbers 49 rfl) rfl (by rw [e_x3]; rfl) (by decide) rfl ?_
    refine r_goto (tgt := 64) hc (dc_at dX10_numbers 50 rfl) (by decide) ?_
    exact gg_sub [1, 2, 3, 0] rfl (ih37 _ _ _ _ _ hf)
def l_X10_numbers_64 (F : Nat) : Nat → PH → Nat → Int32 → Int32 → Int32 → Option (Int32 × PH)
  | 0 => fun _ _ _ _ _ => none
  | n + 1 => fun h v0 v1 v3 v4 => b_X10_numbers_64 F (l_X10_numbers_64 F n) h v0 v1 v3 v4
theorem tl_X10_numbers_64 {M : MV} {X : XT} {F : Nat} {hz : PH} {r : Int32} {ce sl mc ms : Nat} (hc : Cx M X RX10 cX10_numbers) (hr : Rx M 2 118 mc ms 5) (he : Ex M X (some .int) "numbers" (some (.int r)) hz mc ms) (hm : ce ≤ mc) (hs : sl ≤ ms) (n : Nat) : ∀ (h : PH) (v0 : Nat) (v1 : Int32) (v3 : Int32) (v4 : Int32), l_X10_numbers_64 F n h v0 v1 v3 v4 = some (r, hz) → GG M X h ce sl 64 [(0, .ref (X.1 + v0)), (1, .int v1), (3, .int v3), (4, .int v4)] [] := by
  induction n with
  | zero => intro h v0 v1 v3 v4 hf; cases hf
  | succ n ih => intro h v0 v1 v3 v4 hf; exact tb_X10_numbers_64 (F := F) hc hr he hm hs  ih hf
def b_X10_numbers_0 (F : Nat) (h : PH) (v0 : Nat) (v1 : Int32) (v2 : Int32) (v3 : Int32) : Option (Int32 × PH) := (pV 10 0 (.int (0 : Int32)) h v0).bind fun h1 => ((m_X10_within (Int32.toInt64 v1) (0 : Int64) (3 : Int64)).bind fun x2 => (if x2 = 0 then (some ((-2 : Int32), h1)) else ((m_X10_within (Int32.toInt64 v2) (0 : Int64) (3 : Int64)).bind fun x3 => (if x3 = 0 then (some ((-2 : Int32), h1)) else ((m_X10_within (Int32.toInt64 v3) (0 : Int64) (40 : Int64)).bind fun x4 => (if x4 = 0 then (some ((-3 : Int32), h1)) else ((gR 10 52 h1 v0).bind fun a5 => ((sI 0 h1 a5 v1 v2).bind fun h6 => ((gR 10 53 h6 v0).bind fun a7 => ((sI 0 h6 a7 v1 v3).bind fun h8 => (l_X10_numbers_64 F F h8 v0 v1 v3 (0 : Int32))))))))))))
set_option maxRecDepth 20000 in
theorem t_X10_numbers_0 {M : MV} {X : XT} {F : Nat} {h hz : PH} {r : Int32} {ce sl mc ms : Nat} {v0 : Nat} {v1 : Int32} {v2 : Int32} {v3 : Int32} (hc : Cx M X RX10 cX10_numbers) (hr : Rx M 2 118 mc ms 5) (he : Ex M X (some .int) "numbers" (some (.int r)) hz mc ms) (hm : ce ≤ mc) (hs : sl ≤ ms) (hf : b_X10_numbers_0 F h v0 v1 v2 v3 = some (r, hz)) : GG M X h ce sl 0 [(0, .ref (X.1 + v0)), (1, .int v1), (2, .int v2), (3, .int v3)] [] := by
  unfold b_X10_numbers_0 at hf
  refine r_aload_n hc 0 (dc_at dX10_numbers 0 rfl) rfl ?_
  refine r_iconst (0 : Int32) hc (dc_at dX10_numbers 1 rfl) (by decide) ?_
  refine r_putI hc he (dc_at dX10_numbers 2 rfl) fp_X10_1 (fun q => by cases q) hf fun h1 hf => ?_
  refine r_iload_n hc 1 (dc_at dX10_numbers 3 rfl) rfl ?_
  refine r_i2l hc (dc_at dX10_numbers 4 rfl) ?_
  refine r_lconst (0 : Int64) hc (dc_at dX10_numbers 5 rfl) (by decide) ?_
  refine r_ldc2 hc (dc_at dX10_numbers 6 rfl) cl2_X10_290 ?_
  refine ob hf fun x2 ex hf => ?_
  refine r_callSi (As := [.long ((Int32.toInt64 v1)), .long ((0 : Int64)), .long ((3 : Int64))]) hc hr (dc_at dX10_numbers 7 rfl) ml_X10_172 mv_X10_within st_X10_within rfl (mt_X10_within ex) (by first | exact Nat.le_of_ble_eq_true rfl | omega) (by first | exact Nat.le_of_ble_eq_true rfl | omega) (by first | exact Nat.le_of_ble_eq_true rfl | omega) hm hs ?_
  refine r_if_eq (tgt := 29) hc (dc_at dX10_numbers 8 rfl) (by decide) hf (fun hf => ?_) (fun hf => ?_)
  · refine r_bipush (-2 : Int32) hc (dc_at dX10_numbers 15 rfl) (by decide) ?_
    exact r_iret hc he (hm) (hs) (dc_at dX10_numbers 16 rfl) hf
  · refine r_iload_n hc 2 (dc_at dX10_numbers 9 rfl) rfl ?_
    refine r_i2l hc (dc_at dX10_numbers 10 rfl) ?_
    refine r_lconst (0 : Int64) hc (dc_at dX10_numbers 11 rfl) (by decide) ?_
    refine r_ldc2 hc (dc_at dX10_numbers 12 rfl) cl2_X10_290 ?_
    refine ob hf fun x3 ex hf => ?_
    refine r_callSi (As := [.long ((Int32.toInt64 v2)), .long ((0 : Int64)), .long ((3 : Int64))]) hc hr (dc_at dX10_numbers 13 rfl) ml_X10_172 mv_X10_within st_X10_within rfl (mt_X10_within ex) (by first | exact Nat.le_of_ble_eq_true rfl | omega) (by first | exact Nat.le_of_ble_eq_true rfl | omega) (by first | exact Nat.le_of_ble_eq_true rfl | omega) hm hs ?_
    refine r_if_ne (tgt := 32) hc (dc_at dX10_numbers 14 rfl) (by decide) hf (fun hf => ?_) (fun hf => ?_)
    · refine r_iload_n hc 3 (dc_at dX10_numbers 17 rfl) rfl ?_
      refine r_i2l hc (dc_at dX10_numbers 18 rfl) ?_
      refine r_lconst (0 : Int64) hc (dc_at dX10_numbers 19 rfl) (by decide) ?_
      refine r_ldc2 hc (dc_at dX10_numbers 20 rfl) cl2_X10_490 ?_
      refine ob hf fun x4 ex hf => ?_
      refine r_callSi (As := [.long ((Int32.toInt64 v3)), .long ((0 : Int64)), .long ((40 : Int64))]) hc hr (dc_at dX10_numbers 21 rfl) ml_X10_172 mv_X10_within st_X10_within rfl (mt_X10_within ex) (by first | exact Nat.le_of_ble_eq_true rfl | omega) (by first | exact Nat.le_of_ble_eq_true rfl | omega) (by first | exact Nat.le_of_ble_eq_true rfl | omega) hm hs ?_
      refine r_if_ne (tgt := 47) hc (dc_at dX10_numbers 22 rfl) (by decide) hf (fun hf => ?_) (fun hf => ?_)
      · refine r_aload_n hc 0 (dc_at dX10_numbers 25 rfl) rfl ?_
        refine r_getR hc (dc_at dX10_numbers 26 rfl) fl_X10_97 hf fun a5 hf => ?_
        refine r_iload_n hc 1 (dc_at dX10_numbers 27 rfl) rfl ?_
        refine r_iload_n hc 2 (dc_at dX10_numbers 28 rfl) rfl ?_
        refine r_iastore hc (dc_at dX10_numbers 29 rfl) hf fun h6 hf => ?_
        refine r_aload_n hc 0 (dc_at dX10_numbers 30 rfl) rfl ?_
        refine r_getR hc (dc_at dX10_numbers 31 rfl) fl_X10_100 hf fun a7 hf => ?_
        refine r_iload_n hc 1 (dc_at dX10_numbers 32 rfl) rfl ?_
        refine r_iload_n hc 3 (dc_at dX10_numbers 33 rfl) rfl ?_
        refine r_iastore hc (dc_at dX10_numbers 34 rfl) hf fun h8 hf => ?_
        refine r_iconst (0 : Int32) hc (dc_at dX10_numbers 35 rfl) (by decide) ?_
        refine r_istore [(4, .int ((0 : Int32))), (0, .ref (X.1 + v0)), (1, .int v1), (2, .int v2), (3, .int v3)] hc hr (dc_at dX10_numbers 36 rfl) (by decide) rfl ?_
        exact gg_sub [1, 2, 4, 0] rfl (tl_X10_numbers_64 hc hr he hm hs  F _ _ _ _ _ hf)
      · refine r_bipush (-3 : Int32) hc (dc_at dX10_numbers 23 rfl) (by decide) ?_
        exact r_iret hc he (hm) (hs) (dc_at dX10_numbers 24 rfl) hf
    · refine r_bipush (-2 : Int32) hc (dc_at dX10_numbers 15 rfl) (by decide) ?_
      exact r_iret hc he (hm) (hs) (dc_at dX10_numbers 16 rfl) hf
def m_X10_numbers (F : Nat) (h : PH) (p0 : Nat) (p1 : Int32) (p2 : Int32) (p3 : Int32) : Option (Int32 × PH) := b_X10_numbers_0 F h p0 p1 p2 p3
theorem mt_X10_numbers {l : Launch} {X : XT} {F : Nat} {h hz : PH} {p0 : Nat} {p1 : Int32} {p2 : Int32} {p3 : Int32} {r : Int32} (ex : m_X10_numbers F h p0 p1 p2 p3 = some (r, hz)) : MT l X yX10_numbers cX10_numbers 5 (some .int) 2 118 0 0 [.ref (X.1 + p0), .int p1, .int p2, .int p3] h (some (.int r)) hz := MT.of (by decide) (Nat.le_of_ble_eq_true rfl) fun M hl hc hr he => by
  subst hl
  exact gg_sub [0, 1, 2, 3] rfl (t_X10_numbers_0  hc hr he (Nat.zero_le _) (Nat.zero_le _) ex)
/-! FractionLiftModel.write(IIJ)J -/
def lX10_writeL : List (Nat × Instr × Nat × Nat) := [(0, .aload_n 0, 1, 1), (1, .iconst 0, 1, 2), (2, .putfield 1, 3, 5), (5, .iload_n 1, 1, 6), (6, .i2l, 1, 7), (7, .lconst 0, 1, 8), (8, .ldc2_w 290, 3, 11), (11, .invokestatic 172, 3, 14), (14, .ifCond .ne 7, 3, 17), (17, .ldc2_w 320, 3, 20), (20, .lreturn, 1, 21), (21, .aload_n 0, 1, 22), (22, .getfield 97, 3, 25), (25, .iload_n 1, 1, 26), (26, .iaload, 1, 27), (27, .iconst (-1), 1, 28), (28, .if_icmp .ne 7, 3, 31), (31, .ldc2_w 492, 3, 34), (34, .lreturn, 1, 35), (35, .iload_n 2, 1, 36), (36, .i2l, 1, 37), (37, .lconst 0, 1, 38), (38, .aload_n 0, 1, 39), (39, .getfield 100, 3, 42), (42, .iload_n 1, 1, 43), (43, .iaload, 1, 44), (44, .iconst 1, 1, 45), (45, .isub, 1, 46), (46, .i2l, 1, 47), (47, .invokestatic 172, 3, 50), (50, .ifCond .ne 7, 3, 53), (53, .ldc2_w 494, 3, 56), (56, .lreturn, 1, 57), (57, .aload_n 0, 1, 58), (58, .getfield 103, 3, 61), (61, .bipush 40, 2, 63), (63, .iload_n 1, 1, 64), (64, .imul, 1, 65), (65, .iload_n 2, 1, 66), (66, .iadd, 1, 67), (67, .lload_n 3, 1, 68), (68, .aload_n 0, 1, 69), (69, .getfield 97, 3, 72), (72, .iload_n 1, 1, 73), (73, .iaload, 1, 74), (74, .invokestatic 496, 3, 77), (77, .lastore, 1, 78), (78, .aload_n 0, 1, 79), (79, .getfield 103, 3, 82), (82, .bipush 40, 2, 84), (84, .iload_n 1, 1, 85), (85, .imul, 1, 86), (86, .iload_n 2, 1, 87), (87, .iadd, 1, 88), (88, .laload, 1, 89), (89, .lreturn, 1, 90)]
set_option maxRecDepth 20000 in
theorem dX10_write : dcL cX10_write lX10_writeL = true := by decide +kernel
def b_X10_write_0 (h : PH) (v0 : Nat) (v1 : Int32) (v2 : Int32) (v3 : Int64) : Option (Int64 × PH) := (pV 10 0 (.int (0 : Int32)) h v0).bind fun h1 => ((m_X10_within (Int32.toInt64 v1) (0 : Int64) (3 : Int64)).bind fun x2 => (if x2 = 0 then (some ((-2 : Int64), h1)) else ((gR 10 52 h1 v0).bind fun a3 => ((aI 0 h1 a3 v1).bind fun x4 => (if x4 = (-1 : Int32) then (some ((-6 : Int64), h1)) else ((gR 10 53 h1 v0).bind fun a5 => ((aI 0 h1 a5 v1).bind fun x6 => ((m_X10_within (Int32.toInt64 v2) (0 : Int64) ((Int32.toInt64 ((x6 - (1 : Int32)))))).bind fun x7 => (if x7 = 0 then (some ((-7 : Int64), h1)) else ((gR 10 54 h1 v0).bind fun a8 => ((gR 10 52 h1 v0).bind fun a9 => ((aI 0 h1 a9 v1).bind fun x10 => ((m_X10_cut v3 x10).bind fun x11 => ((sL h1 a8 (((((40 : Int32) * v1)) + v2)) x11).bind fun h12 => ((gR 10 54 h12 v0).bind fun a13 => ((aL h12 a13 (((((40 : Int32) * v1)) + v2))).bind fun x14 => (some (x14, h12))))))))))))))))))
set_option maxRecDepth 20000 in
theorem t_X10_write_0 {M : MV} {X : XT} {h hz : PH} {r : Int64} {ce sl mc ms : Nat} {v0 : Nat} {v1 : Int32} {v2 : Int32} {v3 : Int64} (hc : Cx M X RX10 cX10_write) (hr : Rx M 2 118 mc ms 5) (he : Ex M X (some .long) "write" (some (.long r)) hz mc ms) (hm : ce ≤ mc) (hs : sl ≤ ms) (hf : b_X10_write_0 h v0 v1 v2 v3 = some (r, hz)) : GG M X h ce sl 0 [(0, .ref (X.1 + v0)), (1, .int v1), (2, .int v2), (3, .long v3)] [] := by
  unfold b_X10_write_0 at hf
  refine r_aload_n hc 0 (dc_at dX10_write 0 rfl) rfl ?_
  refine r_iconst (0 : Int32) hc (dc_at dX10_write 1 rfl) (by decide) ?_
  refine r_putI hc he (dc_at dX10_write 2 rfl) fp_X10_1 (fun q => by cases q) hf fun h1 hf => ?_
  refine r_iload_n hc 1 (dc_at dX10_write 3 rfl) rfl ?_
  refine r_i2l hc (dc_at dX10_write 4 rfl) ?_
  refine r_lconst (0 : Int64) hc (dc_at dX10_write 5 rfl) (by decide) ?_
  refine r_ldc2 hc (dc_at dX10_write 6 rfl) cl2_X10_290 ?_
  refine ob hf fun x2 ex hf => ?_
  refine r_callSi (As := [.long ((Int32.toInt64 v1)), .long ((0 : Int64)), .long ((3 : Int64))]) hc hr (dc_at dX10_write 7 rfl) ml_X10_172 mv_X10_within st_X10_within rfl (mt_X10_within ex) (by first | exact Nat.le_of_ble_eq_true rfl | omega) (by first | exact Nat.le_of_ble_eq_true rfl | omega) (by first | exact Nat.le_of_ble_eq_true rfl | omega) hm hs ?_
  refine r_if_ne (tgt := 21) hc (dc_at dX10_write 8 rfl) (by decide) hf (fun hf => ?_) (fun hf => ?_)
  · refine r_aload_n hc 0 (dc_at dX10_write 11 rfl) rfl ?_
    refine r_getR hc (dc_at dX10_write 12 rfl) fl_X10_97 hf fun a3 hf => ?_
    refine r_iload_n hc 1 (dc_at dX10_write 13 rfl) rfl ?_
    refine r_iaload hc (dc_at dX10_write 14 rfl) hf fun x4 hf => ?_
    refine r_iconst (-1 : Int32) hc (dc_at dX10_write 15 rfl) (by decide) ?_
    refine r_icmp_ne (tgt := 35) hc (dc_at dX10_write 16 rfl) (by decide) hf (fun hf => ?_) (fun hf => ?_)
    · refine r_iload_n hc 2 (dc_at dX10_write 19 rfl) rfl ?_
      refine r_i2l hc (dc_at dX10_write 20 rfl) ?_
      refine r_lconst (0 : Int64) hc (dc_at dX10_write 21 rfl) (by decide) ?_
      refine r_aload_n hc 0 (dc_at dX10_write 22 rfl) rfl ?_
      refine r_getR hc (dc_at dX10_write 23 rfl) fl_X10_100 hf fun a5 hf => ?_
      refine r_iload_n hc 1 (dc_at dX10_write 24 rfl) rfl ?_
      refine r_iaload hc (dc_at dX10_write 25 rfl) hf fun x6 hf => ?_
      refine r_iconst (1 : Int32) hc (dc_at dX10_write 26 rfl) (by decide) ?_
      refine r_isub hc (dc_at dX10_write 27 rfl) ?_
      refine r_i2l hc (dc_at dX10_write 28 rfl) ?_
      refine ob hf fun x7 ex hf => ?_
      refine r_callSi (As := [.long ((Int32.toInt64 v2)), .long ((0 : Int64)), .long ((Int32.toInt64 ((x6 - (1 : Int32)))))]) hc hr (dc_at dX10_write 29 rfl) ml_X10_172 mv_X10_within st_X10_within rfl (mt_X10_within ex) (by first | exact Nat.le_of_ble_eq_true rfl | omega) (by first | exact Nat.le_of_ble_eq_true rfl | omega) (by first | exact Nat.le_of_ble_eq_true rfl | omega) hm hs ?_
      refine r_if_ne (tgt := 57) hc (dc_at dX10_write 30 rfl) (by decide) hf (fun hf => ?_) (fun hf => ?_)
      · refine r_aload_n hc 0 (dc_at dX10_write 33 rfl) rfl ?_
        refine r_getR hc (dc_at dX10_write 34 rfl) fl_X10_103 hf fun a8 hf => ?_
        refine r_bipush (40 : Int32) hc (dc_at dX10_write 35 rfl) (by decide) ?_
        refine r_iload_n hc 1 (dc_at dX10_write 36 rfl) rfl ?_
        refine r_imul hc (dc_at dX10_write 37 rfl) ?_
        refine r_iload_n hc 2 (dc_at dX10_write 38 rfl) rfl ?_
        refine r_iadd hc (dc_at dX10_write 39 rfl) ?_
        refine r_lload_n hc 3 (dc_at dX10_write 40 rfl) rfl ?_
        refine r_aload_n hc 0 (dc_at dX10_write 41 rfl) rfl ?_
        refine r_getR hc (dc_at dX10_write 42 rfl) fl_X10_97 hf fun a9 hf => ?_
        refine r_iload_n hc 1 (dc_at dX10_write 43 rfl) rfl ?_
        refine r_iaload hc (dc_at dX10_write 44 rfl) hf fun x10 hf => ?_
        refine ob hf fun x11 ex hf => ?_
        refine r_callSl (As := [.long v3, .int x10]) hc hr (dc_at dX10_write 45 rfl) ml_X10_496 mv_X10_cut st_X10_cut rfl (mt_X10_cut ex) (by first | exact Nat.le_of_ble_eq_true rfl | omega) (by first | exact Nat.le_of_ble_eq_true rfl | omega) (by first | exact Nat.le_of_ble_eq_true rfl | omega) hm hs ?_
        refine r_lastore hc (dc_at dX10_write 46 rfl) hf fun h12 hf => ?_
        refine r_aload_n hc 0 (dc_at dX10_write 47 rfl) rfl ?_
        refine r_getR hc (dc_at dX10_write 48 rfl) fl_X10_103 hf fun a13 hf => ?_
        refine r_bipush (40 : Int32) hc (dc_at dX10_write 49 rfl) (by decide) ?_
        refine r_iload_n hc 1 (dc_at dX10_write 50 rfl) rfl ?_
        refine r_imul hc (dc_at dX10_write 51 rfl) ?_
        refine r_iload_n hc 2 (dc_at dX10_write 52 rfl) rfl ?_
        refine r_iadd hc (dc_at dX10_write 53 rfl) ?_
        refine r_laload hc (dc_at dX10_write 54 rfl) hf fun x14 hf => ?_
        exact r_lret hc he (hm) (hs) (dc_at dX10_write 55 rfl) hf
      · refine r_ldc2 hc (dc_at dX10_write 31 rfl) cl2_X10_494 ?_
        exact r_lret hc he (hm) (hs) (dc_at dX10_write 32 rfl) hf
    · refine r_ldc2 hc (dc_at dX10_write 17 rfl) cl2_X10_492 ?_
      exact r_lret hc he (hm) (hs) (dc_at dX10_write 18 rfl) hf
  · refine r_ldc2 hc (dc_at dX10_write 9 rfl) cl2_X10_320 ?_
    exact r_lret hc he (hm) (hs) (dc_at dX10_write 10 rfl) hf
def m_X10_write (h : PH) (p0 : Nat) (p1 : Int32) (p2 : Int32) (p3 : Int64) : Option (Int64 × PH) := b_X10_write_0 h p0 p1 p2 p3
theorem mt_X10_write {l : Launch} {X : XT} {h hz : PH} {p0 : Nat} {p1 : Int32} {p2 : Int32} {p3 : Int64} {r : Int64} (ex : m_X10_write h p0 p1 p2 p3 = some (r, hz)) : MT l X yX10_write cX10_write 5 (some .long) 2 118 0 0 [.ref (X.1 + p0), .int p1, .int p2, .long p3] h (some (.long r)) hz := MT.of (by decide) (Nat.le_of_ble_eq_true rfl) fun M hl hc hr he => by
  subst hl
  exact gg_sub [0, 1, 2, 3] rfl (t_X10_write_0  hc hr he (Nat.zero_le _) (Nat.zero_le _) ex)
/-! FractionLiftModel.copy(I)I -/
def lX10_copyL : List (Nat × Instr × Nat × Nat) := [(0, .aload_n 0, 1, 1), (1, .iconst 0, 1, 2), (2, .putfield 1, 3, 5), (5, .iload_n 1, 1, 6), (6, .i2l, 1, 7), (7, .lconst 0, 1, 8), (8, .ldc2_w 290, 3, 11), (11, .invokestatic 172, 3, 14), (14, .ifCond .ne 6, 3, 17), (17, .bipush (-2), 2, 19), (19, .ireturn, 1, 20), (20, .aload_n 0, 1, 21), (21, .getfield 97, 3, 24), (24, .iload_n 1, 1, 25), (25, .iaload, 1, 26), (26, .iconst (-1), 1, 27), (27, .if_icmp .ne 6, 3, 30), (30, .bipush (-6), 2, 32), (32, .ireturn, 1, 33), (33, .aload_n 0, 1, 34), (34, .aload_n 0, 1, 35), (35, .getfield 13, 3, 38), (38, .bipush 7, 2, 40), (40, .iaload, 1, 41), (41, .i2l, 1, 42), (42, .aload_n 0, 1, 43), (43, .getfield 13, 3, 46), (46, .bipush 8, 2, 48), (48, .iaload, 1, 49), (49, .i2l, 1, 50), (50, .invokevirtual 438, 3, 53), (53, .istore_n 2, 1, 54), (54, .iload_n 2, 1, 55), (55, .aload_n 0, 1, 56), (56, .getfield 100, 3, 59), (59, .iload_n 1, 1, 60), (60, .iaload, 1, 61), (61, .if_icmp .ge 7, 3, 64), (64, .iload_n 2, 1, 65), (65, .goto 9, 3, 68), (68, .aload_n 0, 1, 69), (69, .getfield 100, 3, 72), (72, .iload_n 1, 1, 73), (73, .iaload, 1, 74), (74, .istore_n 3, 1, 75), (75, .iconst 0, 1, 76), (76, .istore 4, 2, 78), (78, .iload 4, 2, 80), (80, .iload_n 3, 1, 81), (81, .if_icmp .ge 38, 3, 84), (84, .aload_n 0, 1, 85), (85, .getfield 103, 3, 88), (88, .bipush 40, 2, 90), (90, .iload_n 1, 1, 91), (91, .imul, 1, 92), (92, .iload 4, 2, 94), (94, .iadd, 1, 95), (95, .aload_n 0, 1, 96), (96, .getfield 73, 3, 99), (99, .iload 4, 2, 101), (101, .iaload, 1, 102), (102, .i2l, 1, 103), (103, .aload_n 0, 1, 104), (104, .getfield 97, 3, 107), (107, .iload_n 1, 1, 108), (108, .iaload, 1, 109), (109, .invokestatic 496, 3, 112), (112, .lastore, 1, 113), (113, .iinc 4 1, 3, 116), (116, .goto (-38), 3, 119), (119, .iload_n 3, 1, 120), (120, .ireturn, 1, 121)]
set_option maxRecDepth 20000 in
theorem dX10_copy : dcL cX10_copy lX10_copyL = true := by decide +kernel
def b_X10_copy_78 (F : Nat) (self47 : PH → Nat → Int32 → Int32 → Int32 → Option (Int32 × PH)) (h : PH) (v0 : Nat) (v1 : Int32) (v3 : Int32) (v4 : Int32) : Option (Int32 × PH) := if v3 ≤ v4 then (some (v3, h)) else ((gR 10 54 h v0).bind fun a1 => ((gR 10 41 h v0).bind fun a2 => ((aI 0 h a2 v4).bind fun x3 => ((gR 10 52 h v0).bind fun a4 => ((aI 0 h a4 v1).bind fun x5 => ((m_X10_cut (Int32.toInt64 x3) x5).bind fun x6 => ((sL h a1 (((((40 : Int32) * v1)) + v4)) x6).bind fun h7 => (bindv (v4 + (1)) fun x8 => (self47 h7 v0 v1 v3 x8)))))))))
set_option maxRecDepth 20000 in
theorem tb_X10_copy_78 {M : MV} {X : XT} {F : Nat} {self47 : PH → Nat → Int32 → Int32 → Int32 → Option (Int32 × PH)} {h hz : PH} {r : Int32} {ce sl mc ms : Nat} {v0 : Nat} {v1 : Int32} {v3 : Int32} {v4 : Int32} (hc : Cx M X RX10 cX10_copy) (hr : Rx M 2 118 mc ms 5) (he : Ex M X (some .int) "copy" (some (.int r)) hz mc ms) (hm : ce ≤ mc) (hs : sl ≤ ms) (ih47 : ∀ (h : PH) (v0 : Nat) (v1 : Int32) (v3 : Int32) (v4 : Int32), self47 h v0 v1 v3 v4 = some (r, hz) → GG M X h ce sl 78 [(0, .ref (X.1 + v0)), (1, .int v1), (3, .int v3), (4, .int v4)] []) (hf : b_X10_copy_78 F self47 h v0 v1 v3 v4 = some (r, hz)) : GG M X h ce sl 78 [(0, .ref (X.1 + v0)), (1, .int v1), (3, .int v3), (4, .int v4)] [] := by
  unfold b_X10_copy_78 at hf
  refine r_iload hc 3 (dc_at dX10_copy 47 rfl) rfl ?_
  refine r_iload_n hc 2 (dc_at dX10_copy 48 rfl) rfl ?_
  refine r_icmp_ge (tgt := 119) hc (dc_at dX10_copy 49 rfl) (by decide) hf (fun hf => ?_) (fun hf => ?_)
  · refine r_iload_n hc 2 (dc_at dX10_copy 70 rfl) rfl ?_
    exact r_iret hc he (hm) (hs) (dc_at dX10_copy 71 rfl) hf
  · refine r_aload_n hc 0 (dc_at dX10_copy 50 rfl) rfl ?_
    refine r_getR hc (dc_at dX10_copy 51 rfl) fl_X10_103 hf fun a1 hf => ?_
    refine r_bipush (40 : Int32) hc (dc_at dX10_copy 52 rfl) (by decide) ?_
    refine r_iload_n hc 1 (dc_at dX10_copy 53 rfl) rfl ?_
    refine r_imul hc (dc_at dX10_copy 54 rfl) ?_
    refine r_iload hc 3 (dc_at dX10_copy 55 rfl) rfl ?_
    refine r_iadd hc (dc_at dX10_copy 56 rfl) ?_
    refine r_aload_n hc 0 (dc_at dX10_copy 57 rfl) rfl ?_
    refine r_getR hc (dc_at dX10_copy 58 rfl) fl_X10_73 hf fun a2 hf => ?_
    refine r_iload hc 3 (dc_at dX10_copy 59 rfl) rfl ?_
    refine r_iaload hc (dc_at dX10_copy 60 rfl) hf fun x3 hf => ?_
    refine r_i2l hc (dc_at dX10_copy 61 rfl) ?_
    refine r_aload_n hc 0 (dc_at dX10_copy 62 rfl) rfl ?_
    refine r_getR hc (dc_at dX10_copy 63 rfl) fl_X10_97 hf fun a4 hf => ?_
    refine r_iload_n hc 1 (dc_at dX10_copy 64 rfl) rfl ?_
    refine r_iaload hc (dc_at dX10_copy 65 rfl) hf fun x5 hf => ?_
    refine ob hf fun x6 ex hf => ?_
    refine r_callSl (As := [.long ((Int32.toInt64 x3)), .int x5]) hc hr (dc_at dX10_copy 66 rfl) ml_X10_496 mv_X10_cut st_X10_cut rfl (mt_X10_cut ex) (by first | exact Nat.le_of_ble_eq_true rfl | omega) (by first | exact Nat.le_of_ble_eq_true rfl | omega) (by first | exact Nat.le_of_ble_eq_true rfl | omega) hm hs ?_
    refine r_lastore hc (dc_at dX10_copy 67 rfl) hf fun h7 hf => ?_
    refine obv hf fun x8 e_x8 hf => ?_
    refine r_iinc 3 [(4, .int x8), (0, .ref (X.1 + v0)), (1, .int v1), (3, .int v3)] hc hr (dc_at dX10_copy 68 rfl) rfl (by rw [e_x8]; rfl) (by decide) rfl ?_
    refine r_goto (tgt := 78) hc (dc_at dX10_copy 69 rfl) (by decide) ?_
    exact gg_sub [1, 2, 3, 0] rfl (ih47 _ _ _ _ _ hf)
def l_X10_copy_78 (F : Nat) : Nat → PH → Nat → Int32 → Int32 → Int32 → Option (Int32 × PH)
  | 0 => fun _ _ _ _ _ => none
  | n + 1 => fun h v0 v1 v3 v4 => b_X10_copy_78 F (l_X10_copy_78 F n) h v0 v1 v3 v4
theorem tl_X10_copy_78 {M : MV} {X : XT} {F : Nat} {hz : PH} {r : Int32} {ce sl mc ms : Nat} (hc : Cx M X RX10 cX10_copy) (hr : Rx M 2 118 mc ms 5) (he : Ex M X (some .int) "copy" (some (.int r)) hz mc ms) (hm : ce ≤ mc) (hs : sl ≤ ms) (n : Nat) : ∀ (h : PH) (v0 : Nat) (v1 : Int32) (v3 : Int32) (v4 : Int32), l_X10_copy_78 F n h v0 v1 v3 v4 = some (r, hz) → GG M X h ce sl 78 [(0, .ref (X.1 + v0)), (1, .int v1), (3, .int v3), (4, .int v4)] [] := by
  induction n with
  | zero => intro h v0 v1 v3 v4 hf; cases hf
  | succ n ih => intro h v0 v1 v3 v4 hf; exact tb_X10_copy_78 (F := F) hc hr he hm hs  ih hf
def b_X10_copy_74 (F : Nat) (h : PH) (v0 : Nat) (v1 : Int32) (s0 : Int32) : Option (Int32 × PH) := l_X10_copy_78 F F h v0 v1 s0 (0 : Int32)
set_option maxRecDepth 20000 in
theorem t_X10_copy_74 {M : MV} {X : XT} {F : Nat} {h hz : PH} {r : Int32} {ce sl mc ms : Nat} {v0 : Nat} {v1 : Int32} {s0 : Int32} (hc : Cx M X RX10 cX10_copy) (hr : Rx M 2 118 mc ms 5) (he : Ex M X (some .int) "copy" (some (.int r)) hz mc ms) (hm : ce ≤ mc) (hs : sl ≤ ms) (hf : b_X10_copy_74 F h v0 v1 s0 = some (r, hz)) : GG M X h ce sl 74 [(0, .ref (X.1 + v0)), (1, .int v1)] [.int s0] := by
  unfold b_X10_copy_74 at hf
  refine r_istore_n [(3, .int s0), (0, .ref (X.1 + v0)), (1, .int v1)] hc hr (dc_at dX10_copy 44 rfl) (by decide) rfl ?_
  refine r_iconst (0 : Int32) hc (dc_at dX10_copy 45 rfl) (by decide) ?_
  refine r_istore [(4, .int ((0 : Int32))), (3, .int s0), (0, .ref (X.1 + v0)), (1, .int v1)] hc hr (dc_at dX10_copy 46 rfl) (by decide) rfl ?_
  exact gg_sub [2, 3, 1, 0] rfl (tl_X10_copy_78 hc hr he hm hs  F _ _ _ _ _ hf)
def b_X10_copy_0 (F : Nat) (h : PH) (v0 : Nat) (v1 : Int32) : Option (Int32 × PH) := (pV 10 0 (.int (0 : Int32)) h v0).bind fun h1 => ((m_X10_within (Int32.toInt64 v1) (0 : Int64) (3 : Int64)).bind fun x2 => (if x2 = 0 then (some ((-2 : Int32), h1)) else ((gR 10 52 h1 v0).bind fun a3 => ((aI 0 h1 a3 v1).bind fun x4 => (if x4 = (-1 : Int32) then (some ((-6 : Int32), h1)) else ((gR 10 1 h1 v0).bind fun a5 => ((aI 0 h1 a5 (7 : Int32)).bind fun x6 => ((gR 10 1 h1 v0).bind fun a7 => ((aI 0 h1 a7 (8 : Int32)).bind fun x8 => (cO 10 h1 v0 (bind2 (m_X10_laysAddress F h1 v0 (Int32.toInt64 x6) (Int32.toInt64 x8)) fun x9 h10 => ((gR 10 53 h10 v0).bind fun a11 => ((aI 0 h10 a11 v1).bind fun x12 => (if x12 ≤ x9 then ((gR 10 53 h10 v0).bind fun a13 => ((aI 0 h10 a13 v1).bind fun x14 => (b_X10_copy_74 F h10 v0 v1 x14))) else (b_X10_copy_74 F h10 v0 v1 x9)))))))))))))))
set_option maxRecDepth 20000 in
theorem t_X10_copy_0 {M : MV} {X : XT} {F : Nat} {h hz : PH} {r : Int32} {ce sl mc ms : Nat} {v0 : Nat} {v1 : Int32} (hc : Cx M X RX10 cX10_copy) (hr : Rx M 2 118 mc ms 5) (he : Ex M X (some .int) "copy" (some (.int r)) hz mc ms) (hm : ce ≤ mc) (hs : sl ≤ ms) (hf : b_X10_copy_0 F h v0 v1 = some (r, hz)) : GG M X h ce sl 0 [(0, .ref (X.1 + v0)), (1, .int v1)] [] := by
  unfold b_X10_copy_0 at hf
  refine r_aload_n hc 0 (dc_at dX10_copy 0 rfl) rfl ?_
  refine r_iconst (0 : Int32) hc (dc_at dX10_copy 1 rfl) (by decide) ?_
  refine r_putI hc he (dc_at dX10_copy 2 rfl) fp_X10_1 (fun q => by cases q) hf fun h1 hf => ?_
  refine r_iload_n hc 1 (dc_at dX10_copy 3 rfl) rfl ?_
  refine r_i2l hc (dc_at dX10_copy 4 rfl) ?_
  refine r_lconst (0 : Int64) hc (dc_at dX10_copy 5 rfl) (by decide) ?_
  refine r_ldc2 hc (dc_at dX10_copy 6 rfl) cl2_X10_290 ?_
  refine ob hf fun x2 ex hf => ?_
  refine r_callSi (As := [.long ((Int32.toInt64 v1)), .long ((0 : Int64)), .long ((3 : Int64))]) hc hr (dc_at dX10_copy 7 rfl) ml_X10_172 mv_X10_within st_X10_within rfl (mt_X10_within ex) (by first | exact Nat.le_of_ble_eq_true rfl | omega) (by first | exact Nat.le_of_ble_eq_true rfl | omega) (by first | exact Nat.le_of_ble_eq_true rfl | omega) hm hs ?_
  refine r_if_ne (tgt := 20) hc (dc_at dX10_copy 8 rfl) (by decide) hf (fun hf => ?_) (fun hf => ?_)
  · refine r_aload_n hc 0 (dc_at dX10_copy 11 rfl) rfl ?_
    refine r_getR hc (dc_at dX10_copy 12 rfl) fl_X10_97 hf fun a3 hf => ?_
    refine r_iload_n hc 1 (dc_at dX10_copy 13 rfl) rfl ?_
    refine r_iaload hc (dc_at dX10_copy 14 rfl) hf fun x4 hf => ?_
    refine r_iconst (-1 : Int32) hc (dc_at dX10_copy 15 rfl) (by decide) ?_
    refine r_icmp_ne (tgt := 33) hc (dc_at dX10_copy 16 rfl) (by decide) hf (fun hf => ?_) (fun hf => ?_)
    · refine r_aload_n hc 0 (dc_at dX10_copy 19 rfl) rfl ?_
      refine r_aload_n hc 0 (dc_at dX10_copy 20 rfl) rfl ?_
      refine r_getR hc (dc_at dX10_copy 21 rfl) fl_X10_13 hf fun a5 hf => ?_
      refine r_bipush (7 : Int32) hc (dc_at dX10_copy 22 rfl) (by decide) ?_
      refine r_iaload hc (dc_at dX10_copy 23 rfl) hf fun x6 hf => ?_
      refine r_i2l hc (dc_at dX10_copy 24 rfl) ?_
      refine r_aload_n hc 0 (dc_at dX10_copy 25 rfl) rfl ?_
      refine r_getR hc (dc_at dX10_copy 26 rfl) fl_X10_13 hf fun a7 hf => ?_
      refine r_bipush (8 : Int32) hc (dc_at dX10_copy 27 rfl) (by decide) ?_
      refine r_iaload hc (dc_at dX10_copy 28 rfl) hf fun x8 hf => ?_
      refine r_i2l hc (dc_at dX10_copy 29 rfl) ?_
      obtain ⟨ho, hf⟩ := cO_some hf
      refine ob2 hf fun x9 h10 ex hf => ?_
      refine r_callVi (As := [.long ((Int32.toInt64 x6)), .long ((Int32.toInt64 x8))]) (ci := 10) hc hr (dc_at dX10_copy 30 rfl) ml_X10_438 mv_X10_laysAddress vi_X10_laysAddress rfl ho rfl (mt_X10_laysAddress ex) (by first | exact Nat.le_of_ble_eq_true rfl | omega) (by first | exact Nat.le_of_ble_eq_true rfl | omega) (by first | exact Nat.le_of_ble_eq_true rfl | omega) hm hs ?_
      refine r_istore_n [(2, .int x9), (0, .ref (X.1 + v0)), (1, .int v1)] hc hr (dc_at dX10_copy 31 rfl) (by decide) rfl ?_
      refine r_iload_n hc 0 (dc_at dX10_copy 32 rfl) rfl ?_
      refine r_aload_n hc 1 (dc_at dX10_copy 33 rfl) rfl ?_
      refine r_getR hc (dc_at dX10_copy 34 rfl) fl_X10_100 hf fun a11 hf => ?_
      refine r_iload_n hc 2 (dc_at dX10_copy 35 rfl) rfl ?_
      refine r_iaload hc (dc_at dX10_copy 36 rfl) hf fun x12 hf => ?_
      refine r_icmp_ge (tgt := 68) hc (dc_at dX10_copy 37 rfl) (by decide) hf (fun hf => ?_) (fun hf => ?_)
      · refine r_aload_n hc 1 (dc_at dX10_copy 40 rfl) rfl ?_
        refine r_getR hc (dc_at dX10_copy 41 rfl) fl_X10_100 hf fun a13 hf => ?_
        refine r_iload_n hc 2 (dc_at dX10_copy 42 rfl) rfl ?_
        refine r_iaload hc (dc_at dX10_copy 43 rfl) hf fun x14 hf => ?_
        exact gg_sub [1, 2] rfl (t_X10_copy_74 hc hr he hm hs  hf)
      · refine r_iload_n hc 0 (dc_at dX10_copy 38 rfl) rfl ?_
        refine r_goto (tgt := 74) hc (dc_at dX10_copy 39 rfl) (by decide) ?_
        exact gg_sub [1, 2] rfl (t_X10_copy_74 hc hr he hm hs  hf)
    · refine r_bipush (-6 : Int32) hc (dc_at dX10_copy 17 rfl) (by decide) ?_
      exact r_iret hc he (hm) (hs) (dc_at dX10_copy 18 rfl) hf
  · refine r_bipush (-2 : Int32) hc (dc_at dX10_copy 9 rfl) (by decide) ?_
    exact r_iret hc he (hm) (hs) (dc_at dX10_copy 10 rfl) hf
def m_X10_copy (F : Nat) (h : PH) (p0 : Nat) (p1 : Int32) : Option (Int32 × PH) := b_X10_copy_0 F h p0 p1
theorem mt_X10_copy {l : Launch} {X : XT} {F : Nat} {h hz : PH} {p0 : Nat} {p1 : Int32} {r : Int32} (ex : m_X10_copy F h p0 p1 = some (r, hz)) : MT l X yX10_copy cX10_copy 5 (some .int) 2 118 0 0 [.ref (X.1 + p0), .int p1] h (some (.int r)) hz := MT.of (by decide) (Nat.le_of_ble_eq_true rfl) fun M hl hc hr he => by
  subst hl
  exact gg_sub [0, 1] rfl (t_X10_copy_0  hc hr he (Nat.zero_le _) (Nat.zero_le _) ex)
/-! FractionLiftModel.image(I)I -/
def lX10_imageL : List (Nat × Instr × Nat × Nat) := [(0, .aload_n 0, 1, 1), (1, .iconst 0, 1, 2), (2, .putfield 1, 3, 5), (5, .iload_n 1, 1, 6), (6, .i2l, 1, 7), (7, .lconst 0, 1, 8), (8, .lconst 1, 1, 9), (9, .invokestatic 172, 3, 12), (12, .ifCond .ne 6, 3, 15), (15, .bipush (-2), 2, 17), (17, .ireturn, 1, 18), (18, .iconst 0, 1, 19), (19, .istore_n 2, 1, 20), (20, .iload_n 2, 1, 21), (21, .sipush 999, 3, 24), (24, .if_icmp .ge 29, 3, 27), (27, .aload_n 0, 1, 28), (28, .getfield 13, 3, 31), (31, .sipush 999, 3, 34), (34, .iload_n 1, 1, 35), (35, .iconst 1, 1, 36), (36, .iadd, 1, 37), (37, .imul, 1, 38), (38, .iload_n 2, 1, 39), (39, .iadd, 1, 40), (40, .aload_n 0, 1, 41), (41, .getfield 13, 3, 44), (44, .iload_n 2, 1, 45), (45, .iaload, 1, 46), (46, .iastore, 1, 47), (47, .iinc 2 1, 3, 50), (50, .goto (-30), 3, 53), (53, .aload_n 0, 1, 54), (54, .getfield 17, 3, 57), (57, .iload_n 1, 1, 58), (58, .iconst 1, 1, 59), (59, .bastore, 1, 60), (60, .iconst 0, 1, 61), (61, .ireturn, 1, 62)]
set_option maxRecDepth 20000 in
theorem dX10_image : dcL cX10_image lX10_imageL = true := by decide +kernel
def b_X10_image_20 (F : Nat) (self13 : PH → Nat → Int32 → Int32 → Option (Int32 × PH)) (h : PH) (v0 : Nat) (v1 : Int32) (v2 : Int32) : Option (Int32 × PH) := if (999 : Int32) ≤ v2 then ((gR 10 2 h v0).bind fun a1 => ((sZ h a1 v1 (1 : Int32)).bind fun h2 => (some ((0 : Int32), h2)))) else ((gR 10 1 h v0).bind fun a3 => ((gR 10 1 h v0).bind fun a4 => ((aI 0 h a4 v2).bind fun x5 => ((sI 0 h a3 (((((999 : Int32) * ((v1 + (1 : Int32))))) + v2)) x5).bind fun h6 => (bindv (v2 + (1)) fun x7 => (self13 h6 v0 v1 x7))))))
set_option maxRecDepth 20000 in
theorem tb_X10_image_20 {M : MV} {X : XT} {F : Nat} {self13 : PH → Nat → Int32 → Int32 → Option (Int32 × PH)} {h hz : PH} {r : Int32} {ce sl mc ms : Nat} {v0 : Nat} {v1 : Int32} {v2 : Int32} (hc : Cx M X RX10 cX10_image) (hr : Rx M 2 118 mc ms 3) (he : Ex M X (some .int) "image" (some (.int r)) hz mc ms) (hm : ce ≤ mc) (hs : sl ≤ ms) (ih13 : ∀ (h : PH) (v0 : Nat) (v1 : Int32) (v2 : Int32), self13 h v0 v1 v2 = some (r, hz) → GG M X h ce sl 20 [(0, .ref (X.1 + v0)), (1, .int v1), (2, .int v2)] []) (hf : b_X10_image_20 F self13 h v0 v1 v2 = some (r, hz)) : GG M X h ce sl 20 [(0, .ref (X.1 + v0)), (1, .int v1), (2, .int v2)] [] := by
  unfold b_X10_image_20 at hf
  refine r_iload_n hc 2 (dc_at dX10_image 13 rfl) rfl ?_
  refine r_sipush (999 : Int32) hc (dc_at dX10_image 14 rfl) (by decide) ?_
  refine r_icmp_ge (tgt := 53) hc (dc_at dX10_image 15 rfl) (by decide) hf (fun hf => ?_) (fun hf => ?_)
  · refine r_aload_n hc 0 (dc_at dX10_image 32 rfl) rfl ?_
    refine r_getR hc (dc_at dX10_image 33 rfl) fl_X10_17 hf fun a1 hf => ?_
    refine r_iload_n hc 1 (dc_at dX10_image 34 rfl) rfl ?_
    refine r_iconst (1 : Int32) hc (dc_at dX10_image 35 rfl) (by decide) ?_
    refine r_zastore hc (dc_at dX10_image 36 rfl) hf fun h2 hf => ?_
    refine r_iconst (0 : Int32) hc (dc_at dX10_image 37 rfl) (by decide) ?_
    exact r_iret hc he (hm) (hs) (dc_at dX10_image 38 rfl) hf
  · refine r_aload_n hc 0 (dc_at dX10_image 16 rfl) rfl ?_
    refine r_getR hc (dc_at dX10_image 17 rfl) fl_X10_13 hf fun a3 hf => ?_
    refine r_sipush (999 : Int32) hc (dc_at dX10_image 18 rfl) (by decide) ?_
    refine r_iload_n hc 1 (dc_at dX10_image 19 rfl) rfl ?_
    refine r_iconst (1 : Int32) hc (dc_at dX10_image 20 rfl) (by decide) ?_
    refine r_iadd hc (dc_at dX10_image 21 rfl) ?_
    refine r_imul hc (dc_at dX10_image 22 rfl) ?_
    refine r_iload_n hc 2 (dc_at dX10_image 23 rfl) rfl ?_
    refine r_iadd hc (dc_at dX10_image 24 rfl) ?_
    refine r_aload_n hc 0 (dc_at dX10_image 25 rfl) rfl ?_
    refine r_getR hc (dc_at dX10_image 26 rfl) fl_X10_13 hf fun a4 hf => ?_
    refine r_iload_n hc 2 (dc_at dX10_image 27 rfl) rfl ?_
    refine r_iaload hc (dc_at dX10_image 28 rfl) hf fun x5 hf => ?_
    refine r_iastore hc (dc_at dX10_image 29 rfl) hf fun h6 hf => ?_
    refine obv hf fun x7 e_x7 hf => ?_
    refine r_iinc 2 [(2, .int x7), (0, .ref (X.1 + v0)), (1, .int v1)] hc hr (dc_at dX10_image 30 rfl) rfl (by rw [e_x7]; rfl) (by decide) rfl ?_
    refine r_goto (tgt := 20) hc (dc_at dX10_image 31 rfl) (by decide) ?_
    exact gg_sub [1, 2, 0] rfl (ih13 _ _ _ _ hf)
def l_X10_image_20 (F : Nat) : Nat → PH → Nat → Int32 → Int32 → Option (Int32 × PH)
  | 0 => fun _ _ _ _ => none
  | n + 1 => fun h v0 v1 v2 => b_X10_image_20 F (l_X10_image_20 F n) h v0 v1 v2
theorem tl_X10_image_20 {M : MV} {X : XT} {F : Nat} {hz : PH} {r : Int32} {ce sl mc ms : Nat} (hc : Cx M X RX10 cX10_image) (hr : Rx M 2 118 mc ms 3) (he : Ex M X (some .int) "image" (some (.int r)) hz mc ms) (hm : ce ≤ mc) (hs : sl ≤ ms) (n : Nat) : ∀ (h : PH) (v0 : Nat) (v1 : Int32) (v2 : Int32), l_X10_image_20 F n h v0 v1 v2 = some (r, hz) → GG M X h ce sl 20 [(0, .ref (X.1 + v0)), (1, .int v1), (2, .int v2)] [] := by
  induction n with
  | zero => intro h v0 v1 v2 hf; cases hf
  | succ n ih => intro h v0 v1 v2 hf; exact tb_X10_image_20 (F := F) hc hr he hm hs  ih hf
def b_X10_image_0 (F : Nat) (h : PH) (v0 : Nat) (v1 : Int32) : Option (Int32 × PH) := (pV 10 0 (.int (0 : Int32)) h v0).bind fun h1 => ((m_X10_within (Int32.toInt64 v1) (0 : Int64) (1 : Int64)).bind fun x2 => (if x2 = 0 then (some ((-2 : Int32), h1)) else (l_X10_image_20 F F h1 v0 v1 (0 : Int32))))
set_option maxRecDepth 20000 in
theorem t_X10_image_0 {M : MV} {X : XT} {F : Nat} {h hz : PH} {r : Int32} {ce sl mc ms : Nat} {v0 : Nat} {v1 : Int32} (hc : Cx M X RX10 cX10_image) (hr : Rx M 2 118 mc ms 3) (he : Ex M X (some .int) "image" (some (.int r)) hz mc ms) (hm : ce ≤ mc) (hs : sl ≤ ms) (hf : b_X10_image_0 F h v0 v1 = some (r, hz)) : GG M X h ce sl 0 [(0, .ref (X.1 + v0)), (1, .int v1)] [] := by
  unfold b_X10_image_0 at hf
  refine r_aload_n hc 0 (dc_at dX10_image 0 rfl) rfl ?_
  refine r_iconst (0 : Int32) hc (dc_at dX10_image 1 rfl) (by decide) ?_
  refine r_putI hc he (dc_at dX10_image 2 rfl) fp_X10_1 (fun q => by cases q) hf fun h1 hf => ?_
  refine r_iload_n hc 1 (dc_at dX10_image 3 rfl) rfl ?_
  refine r_i2l hc (dc_at dX10_image 4 rfl) ?_
  refine r_lconst (0 : Int64) hc (dc_at dX10_image 5 rfl) (by decide) ?_
  refine r_lconst (1 : Int64) hc (dc_at dX10_image 6 rfl) (by decide) ?_
  refine ob hf fun x2 ex hf => ?_
  refine r_callSi (As := [.long ((Int32.toInt64 v1)), .long ((0 : Int64)), .long ((1 : Int64))]) hc hr (dc_at dX10_image 7 rfl) ml_X10_172 mv_X10_within st_X10_within rfl (mt_X10_within ex) (by first | exact Nat.le_of_ble_eq_true rfl | omega) (by first | exact Nat.le_of_ble_eq_true rfl | omega) (by first | exact Nat.le_of_ble_eq_true rfl | omega) hm hs ?_
  refine r_if_ne (tgt := 18) hc (dc_at dX10_image 8 rfl) (by decide) hf (fun hf => ?_) (fun hf => ?_)
  · refine r_iconst (0 : Int32) hc (dc_at dX10_image 11 rfl) (by decide) ?_
    refine r_istore_n [(2, .int ((0 : Int32))), (0, .ref (X.1 + v0)), (1, .int v1)] hc hr (dc_at dX10_image 12 rfl) (by decide) rfl ?_
    exact gg_sub [1, 2, 0] rfl (tl_X10_image_20 hc hr he hm hs  F _ _ _ _ hf)
  · refine r_bipush (-2 : Int32) hc (dc_at dX10_image 9 rfl) (by decide) ?_
    exact r_iret hc he (hm) (hs) (dc_at dX10_image 10 rfl) hf
def m_X10_image (F : Nat) (h : PH) (p0 : Nat) (p1 : Int32) : Option (Int32 × PH) := b_X10_image_0 F h p0 p1
theorem mt_X10_image {l : Launch} {X : XT} {F : Nat} {h hz : PH} {p0 : Nat} {p1 : Int32} {r : Int32} (ex : m_X10_image F h p0 p1 = some (r, hz)) : MT l X yX10_image cX10_image 3 (some .int) 2 118 0 0 [.ref (X.1 + p0), .int p1] h (some (.int r)) hz := MT.of (by decide) (Nat.le_of_ble_eq_true rfl) fun M hl hc hr he => by
  subst hl
  exact gg_sub [0, 1] rfl (t_X10_image_0  hc hr he (Nat.zero_le _) (Nat.zero_le _) ex)
/-! FractionLiftModel.restore(I)I -/
def lX10_restoreL : List (Nat × Instr × Nat × Nat) := [(0, .aload_n 0, 1, 1), (1, .iconst 0, 1, 2), (2, .putfield 1, 3, 5), (5, .iload_n 1, 1, 6), (6, .i2l, 1, 7), (7, .lconst 0, 1, 8), (8, .lconst 1, 1, 9), (9, .invokestatic 172, 3, 12), (12, .ifCond .ne 6, 3, 15), (15, .bipush (-2), 2, 17), (17, .ireturn, 1, 18), (18, .aload_n 0, 1, 19), (19, .getfield 17, 3, 22), (22, .iload_n 1, 1, 23), (23, .baload, 1, 24), (24, .ifCond .ne 6, 3, 27), (27, .bipush (-5), 2, 29), (29, .ireturn, 1, 30), (30, .iconst 0, 1, 31), (31, .istore_n 2, 1, 32), (32, .iload_n 2, 1, 33), (33, .sipush 999, 3, 36), (36, .if_icmp .ge 29, 3, 39), (39, .aload_n 0, 1, 40), (40, .getfield 13, 3, 43), (43, .iload_n 2, 1, 44), (44, .aload_n 0, 1, 45), (45, .getfield 13, 3, 48), (48, .sipush 999, 3, 51), (51, .iload_n 1, 1, 52), (52, .iconst 1, 1, 53), (53, .iadd, 1, 54), (54, .imul, 1, 55), (55, .iload_n 2, 1, 56), (56, .iadd, 1, 57), (57, .iaload, 1, 58), (58, .iastore, 1, 59), (59, .iinc 2 1, 3, 62), (62, .goto (-30), 3, 65), (65, .aload_n 0, 1, 66), (66, .getfield 13, 3, 69), (69, .bipush 73, 2, 71), (71, .iconst 0, 1, 72), (72, .iastore, 1, 73), (73, .iconst 0, 1, 74), (74, .ireturn, 1, 75)]
set_option maxRecDepth 20000 in
theorem dX10_restore : dcL cX10_restore lX10_restoreL = true := by decide +kernel
def b_X10_restore_32 (F : Nat) (self20 : PH → Nat → Int32 → Int32 → Option (Int32 × PH)) (h : PH) (v0 : Nat) (v1 : Int32) (v2 : Int32) : Option (Int32 × PH) := if (999 : Int32) ≤ v2 then ((gR 10 1 h v0).bind fun a1 => ((sI 0 h a1 (73 : Int32) (0 : Int32)).bind fun h2 => (some ((0 : Int32), h2)))) else ((gR 10 1 h v0).bind fun a3 => ((gR 10 1 h v0).bind fun a4 => ((aI 0 h a4 (((((999 : Int32) * ((v1 + (1 : Int32))))) + v2))).bind fun x5 => ((sI 0 h a3 v2 x5).bind fun h6 => (bindv (v2 + (1)) fun x7 => (self20 h6 v0 v1 x7))))))
set_option maxRecDepth 20000 in
theorem tb_X10_restore_32 {M : MV} {X : XT} {F : Nat} {self20 : PH → Nat → Int32 → Int32 → Option (Int32 × PH)} {h hz : PH} {r : Int32} {ce sl mc ms : Nat} {v0 : Nat} {v1 : Int32} {v2 : Int32} (hc : Cx M X RX10 cX10_restore) (hr : Rx M 2 118 mc ms 3) (he : Ex M X (some .int) "restore" (some (.int r)) hz mc ms) (hm : ce ≤ mc) (hs : sl ≤ ms) (ih20 : ∀ (h : PH) (v0 : Nat) (v1 : Int32) (v2 : Int32), self20 h v0 v1 v2 = some (r, hz) → GG M X h ce sl 32 [(0, .ref (X.1 + v0)), (1, .int v1), (2, .int v2)] []) (hf : b_X10_restore_32 F self20 h v0 v1 v2 = some (r, hz)) : GG M X h ce sl 32 [(0, .ref (X.1 + v0)), (1, .int v1), (2, .int v2)] [] := by
  unfold b_X10_restore_32 at hf
  refine r_iload_n hc 2 (dc_at dX10_restore 20 rfl) rfl ?_
  refine r_sipush (999 : Int32) hc (dc_at dX10_restore 21 rfl) (by decide) ?_
  refine r_icmp_ge (tgt := 65) hc (dc_at dX10_restore 22 rfl) (by decide) hf (fun hf => ?_) (fun hf => ?_)
  · refine r_aload_n hc 0 (dc_at dX10_restore 39 rfl) rfl ?_
    refine r_getR hc (dc_at dX10_restore 40 rfl) fl_X10_13 hf fun a1 hf => ?_
    refine r_bipush (73 : Int32) hc (dc_at dX10_restore 41 rfl) (by decide) ?_
    refine r_iconst (0 : Int32) hc (dc_at dX10_restore 42 rfl) (by decide) ?_
    refine r_iastore hc (dc_at dX10_restore 43 rfl) hf fun h2 hf => ?_
    refine r_iconst (0 : Int32) hc (dc_at dX10_restore 44 rfl) (by decide) ?_
    exact r_iret hc he (hm) (hs) (dc_at dX10_restore 45 rfl) hf
  · refine r_aload_n hc 0 (dc_at dX10_restore 23 rfl) rfl ?_
    refine r_getR hc (dc_at dX10_restore 24 rfl) fl_X10_13 hf fun a3 hf => ?_
    refine r_iload_n hc 2 (dc_at dX10_restore 25 rfl) rfl ?_
    refine r_aload_n hc 0 (dc_at dX10_restore 26 rfl) rfl ?_
    refine r_getR hc (dc_at dX10_restore 27 rfl) fl_X10_13 hf fun a4 hf => ?_
    refine r_sipush (999 : Int32) hc (dc_at dX10_restore 28 rfl) (by decide) ?_
    refine r_iload_n hc 1 (dc_at dX10_restore 29 rfl) rfl ?_
    refine r_iconst (1 : Int32) hc (dc_at dX10_restore 30 rfl) (by decide) ?_
    refine r_iadd hc (dc_at dX10_restore 31 rfl) ?_
    refine r_imul hc (dc_at dX10_restore 32 rfl) ?_
    refine r_iload_n hc 2 (dc_at dX10_restore 33 rfl) rfl ?_
    refine r_iadd hc (dc_at dX10_restore 34 rfl) ?_
    refine r_iaload hc (dc_at dX10_restore 35 rfl) hf fun x5 hf => ?_
    refine r_iastore hc (dc_at dX10_restore 36 rfl) hf fun h6 hf => ?_
    refine obv hf fun x7 e_x7 hf => ?_
    refine r_iinc 2 [(2, .int x7), (0, .ref (X.1 + v0)), (1, .int v1)] hc hr (dc_at dX10_restore 37 rfl) rfl (by rw [e_x7]; rfl) (by decide) rfl ?_
    refine r_goto (tgt := 32) hc (dc_at dX10_restore 38 rfl) (by decide) ?_
    exact gg_sub [1, 2, 0] rfl (ih20 _ _ _ _ hf)
def l_X10_restore_32 (F : Nat) : Nat → PH → Nat → Int32 → Int32 → Option (Int32 × PH)
  | 0 => fun _ _ _ _ => none
  | n + 1 => fun h v0 v1 v2 => b_X10_restore_32 F (l_X10_restore_32 F n) h v0 v1 v2
theorem tl_X10_restore_32 {M : MV} {X : XT} {F : Nat} {hz : PH} {r : Int32} {ce sl mc ms : Nat} (hc : Cx M X RX10 cX10_restore) (hr : Rx M 2 118 mc ms 3) (he : Ex M X (some .int) "restore" (some (.int r)) hz mc ms) (hm : ce ≤ mc) (hs : sl ≤ ms) (n : Nat) : ∀ (h : PH) (v0 : Nat) (v1 : Int32) (v2 : Int32), l_X10_restore_32 F n h v0 v1 v2 = some (r, hz) → GG M X h ce sl 32 [(0, .ref (X.1 + v0)), (1, .int v1), (2, .int v2)] [] := by
  induction n with
  | zero => intro h v0 v1 v2 hf; cases hf
  | succ n ih => intro h v0 v1 v2 hf; exact tb_X10_restore_32 (F := F) hc hr he hm hs  ih hf
def b_X10_restore_0 (F : Nat) (h : PH) (v0 : Nat) (v1 : Int32) : Option (Int32 × PH) := (pV 10 0 (.int (0 : Int32)) h v0).bind fun h1 => ((m_X10_within (Int32.toInt64 v1) (0 : Int64) (1 : Int64)).bind fun x2 => (if x2 = 0 then (some ((-2 : Int32), h1)) else ((gR 10 2 h1 v0).bind fun a3 => ((aI 2 h1 a3 v1).bind fun x4 => (if x4 = 0 then (some ((-5 : Int32), h1)) else (l_X10_restore_32 F F h1 v0 v1 (0 : Int32)))))))
set_option maxRecDepth 20000 in
theorem t_X10_restore_0 {M : MV} {X : XT} {F : Nat} {h hz : PH} {r : Int32} {ce sl mc ms : Nat} {v0 : Nat} {v1 : Int32} (hc : Cx M X RX10 cX10_restore) (hr : Rx M 2 118 mc ms 3) (he : Ex M X (some .int) "restore" (some (.int r)) hz mc ms) (hm : ce ≤ mc) (hs : sl ≤ ms) (hf : b_X10_restore_0 F h v0 v1 = some (r, hz)) : GG M X h ce sl 0 [(0, .ref (X.1 + v0)), (1, .int v1)] [] := by
  unfold b_X10_restore_0 at hf
  refine r_aload_n hc 0 (dc_at dX10_restore 0 rfl) rfl ?_
  refine r_iconst (0 : Int32) hc (dc_at dX10_restore 1 rfl) (by decide) ?_
  refine r_putI hc he (dc_at dX10_restore 2 rfl) fp_X10_1 (fun q => by cases q) hf fun h1 hf => ?_
  refine r_iload_n hc 1 (dc_at dX10_restore 3 rfl) rfl ?_
  refine r_i2l hc (dc_at dX10_restore 4 rfl) ?_
  refine r_lconst (0 : Int64) hc (dc_at dX10_restore 5 rfl) (by decide) ?_
  refine r_lconst (1 : Int64) hc (dc_at dX10_restore 6 rfl) (by decide) ?_
  refine ob hf fun x2 ex hf => ?_
  refine r_callSi (As := [.long ((Int32.toInt64 v1)), .long ((0 : Int64)), .long ((1 : Int64))]) hc hr (dc_at dX10_restore 7 rfl) ml_X10_172 mv_X10_within st_X10_within rfl (mt_X10_within ex) (by first | exact Nat.le_of_ble_eq_true rfl | omega) (by first | exact Nat.le_of_ble_eq_true rfl | omega) (by first | exact Nat.le_of_ble_eq_true rfl | omega) hm hs ?_
  refine r_if_ne (tgt := 18) hc (dc_at dX10_restore 8 rfl) (by decide) hf (fun hf => ?_) (fun hf => ?_)
  · refine r_aload_n hc 0 (dc_at dX10_restore 11 rfl) rfl ?_
    refine r_getR hc (dc_at dX10_restore 12 rfl) fl_X10_17 hf fun a3 hf => ?_
    refine r_iload_n hc 1 (dc_at dX10_restore 13 rfl) rfl ?_
    refine r_zaload hc (dc_at dX10_restore 14 rfl) hf fun x4 hf => ?_
    refine r_if_ne (tgt := 30) hc (dc_at dX10_restore 15 rfl) (by decide) hf (fun hf => ?_) (fun hf => ?_)
    · refine r_iconst (0 : Int32) hc (dc_at dX10_restore 18 rfl) (by decide) ?_
      refine r_istore_n [(2, .int ((0 : Int32))), (0, .ref (X.1 + v0)), (1, .int v1)] hc hr (dc_at dX10_restore 19 rfl) (by decide) rfl ?_
      exact gg_sub [1, 2, 0] rfl (tl_X10_restore_32 hc hr he hm hs  F _ _ _ _ hf)
    · refine r_bipush (-5 : Int32) hc (dc_at dX10_restore 16 rfl) (by decide) ?_
      exact r_iret hc he (hm) (hs) (dc_at dX10_restore 17 rfl) hf
  · refine r_bipush (-2 : Int32) hc (dc_at dX10_restore 9 rfl) (by decide) ?_
    exact r_iret hc he (hm) (hs) (dc_at dX10_restore 10 rfl) hf
def m_X10_restore (F : Nat) (h : PH) (p0 : Nat) (p1 : Int32) : Option (Int32 × PH) := b_X10_restore_0 F h p0 p1
theorem mt_X10_restore {l : Launch} {X : XT} {F : Nat} {h hz : PH} {p0 : Nat} {p1 : Int32} {r : Int32} (ex : m_X10_restore F h p0 p1 = some (r, hz)) : MT l X yX10_restore cX10_restore 3 (some .int) 2 118 0 0 [.ref (X.1 + p0), .int p1] h (some (.int r)) hz := MT.of (by decide) (Nat.le_of_ble_eq_true rfl) fun M hl hc hr he => by
  subst hl
  exact gg_sub [0, 1] rfl (t_X10_restore_0  hc hr he (Nat.zero_le _) (Nat.zero_le _) ex)
/-! FractionLiftModel.count(I)I -/
def lX10_countL : List (Nat × Instr × Nat × Nat) := [(0, .aload_n 0, 1, 1), (1, .iconst 0, 1, 2), (2, .putfield 1, 3, 5), (5, .iload_n 1, 1, 6), (6, .tableswitch 113 0 8 #[50, 57, 64, 71, 78, 85, 93, 101, 106], 50, 56), (56, .aload_n 0, 1, 57), (57, .getfield 13, 3, 60), (60, .iconst 1, 1, 61), (61, .iaload, 1, 62), (62, .ireturn, 1, 63), (63, .aload_n 0, 1, 64), (64, .getfield 13, 3, 67), (67, .iconst 2, 1, 68), (68, .iaload, 1, 69), (69, .ireturn, 1, 70), (70, .aload_n 0, 1, 71), (71, .getfield 13, 3, 74), (74, .iconst 3, 1, 75), (75, .iaload, 1, 76), (76, .ireturn, 1, 77), (77, .aload_n 0, 1, 78), (78, .getfield 13, 3, 81), (81, .iconst 4, 1, 82), (82, .iaload, 1, 83), (83, .ireturn, 1, 84), (84, .aload_n 0, 1, 85), (85, .getfield 13, 3, 88), (88, .iconst 5, 1, 89), (89, .iaload, 1, 90), (90, .ireturn, 1, 91), (91, .aload_n 0, 1, 92), (92, .getfield 13, 3, 95), (95, .bipush 73, 2, 97), (97, .iaload, 1, 98), (98, .ireturn, 1, 99), (99, .aload_n 0, 1, 100), (100, .getfield 13, 3, 103), (103, .bipush 6, 2, 105), (105, .iaload, 1, 106), (106, .ireturn, 1, 107), (107, .aload_n 0, 1, 108), (108, .getfield 110, 3, 111), (111, .ireturn, 1, 112), (112, .aload_n 0, 1, 113), (113, .getfield 13, 3, 116), (116, .iconst 0, 1, 117), (117, .iaload, 1, 118), (118, .ireturn, 1, 119), (119, .iconst (-1), 1, 120), (120, .ireturn, 1, 121)]
set_option maxRecDepth 20000 in
theorem dX10_count : dcL cX10_count lX10_countL = true := by decide +kernel
def b_X10_count_0 (h : PH) (v0 : Nat) (v1 : Int32) : Option (Int32 × PH) := (pV 10 0 (.int (0 : Int32)) h v0).bind fun h1 => (swN v1 (0) [(gR 10 1 h1 v0).bind fun a2 => ((aI 0 h1 a2 (1 : Int32)).bind fun x3 => (some (x3, h1))), (gR 10 1 h1 v0).bind fun a4 => ((aI 0 h1 a4 (2 : Int32)).bind fun x5 => (some (x5, h1))), (gR 10 1 h1 v0).bind fun a6 => ((aI 0 h1 a6 (3 : Int32)).bind fun x7 => (some (x7, h1))), (gR 10 1 h1 v0).bind fun a8 => ((aI 0 h1 a8 (4 : Int32)).bind fun x9 => (some (x9, h1))), (gR 10 1 h1 v0).bind fun a10 => ((aI 0 h1 a10 (5 : Int32)).bind fun x11 => (some (x11, h1))), (gR 10 1 h1 v0).bind fun a12 => ((aI 0 h1 a12 (73 : Int32)).bind fun x13 => (some (x13, h1))), (gR 10 1 h1 v0).bind fun a14 => ((aI 0 h1 a14 (6 : Int32)).bind fun x15 => (some (x15, h1))), (gI 10 5 h1 v0).bind fun x16 => (some (x16, h1)), (gR 10 1 h1 v0).bind fun a17 => ((aI 0 h1 a17 (0 : Int32)).bind fun x18 => (some (x18, h1)))] (some ((-1 : Int32), h1)))
set_option maxRecDepth 20000 in
theorem t_X10_count_0 {M : MV} {X : XT} {h hz : PH} {r : Int32} {ce sl mc ms : Nat} {v0 : Nat} {v1 : Int32} (hc : Cx M X RX10 cX10_count) (hr : Rx M 1 60 mc ms 2) (he : Ex M X (some .int) "count" (some (.int r)) hz mc ms) (hm : ce ≤ mc) (hs : sl ≤ ms) (hf : b_X10_count_0 h v0 v1 = some (r, hz)) : GG M X h ce sl 0 [(0, .ref (X.1 + v0)), (1, .int v1)] [] := by
  unfold b_X10_count_0 at hf
  refine r_aload_n hc 0 (dc_at dX10_count 0 rfl) rfl ?_
  refine r_iconst (0 : Int32) hc (dc_at dX10_count 1 rfl) (by decide) ?_
  refine r_putI hc he (dc_at dX10_count 2 rfl) fp_X10_1 (fun q => by cases q) hf fun h1 hf => ?_
  refine r_iload_n hc 1 (dc_at dX10_count 3 rfl) rfl ?_
  rcases sw_cases hf with ⟨i, hi, hx, hf⟩ | ⟨hx, hf⟩
  · rcases (show i = 0 ∨ i = 1 ∨ i = 2 ∨ i = 3 ∨ i = 4 ∨ i = 5 ∨ i = 6 ∨ i = 7 ∨ i = 8 by simp only [List.length_cons, List.length_nil] at hi; omega) with rfl | rfl | rfl | rfl | rfl | rfl | rfl | rfl | rfl
    · have hf := gd_at hf rfl
      refine r_tableIn (tgt := 56) 0 hc (dc_at dX10_count 4 rfl) hx rfl (by decide) (by decide) ?_
      refine r_aload_n hc 0 (dc_at dX10_count 5 rfl) rfl ?_
      refine r_getR hc (dc_at dX10_count 6 rfl) fl_X10_13 hf fun a2 hf => ?_
      refine r_iconst (1 : Int32) hc (dc_at dX10_count 7 rfl) (by decide) ?_
      refine r_iaload hc (dc_at dX10_count 8 rfl) hf fun x3 hf => ?_
      exact r_iret hc he (hm) (hs) (dc_at dX10_count 9 rfl) hf
    · have hf := gd_at hf rfl
      refine r_tableIn (tgt := 63) 1 hc (dc_at dX10_count 4 rfl) hx rfl (by decide) (by decide) ?_
      refine r_aload_n hc 0 (dc_at dX10_count 10 rfl) rfl ?_
      refine r_getR hc (dc_at dX10_count 11 rfl) fl_X10_13 hf fun a4 hf => ?_
      refine r_iconst (2 : Int32) hc (dc_at dX10_count 12 rfl) (by decide) ?_
      refine r_iaload hc (dc_at dX10_count 13 rfl) hf fun x5 hf => ?_
      exact r_iret hc he (hm) (hs) (dc_at dX10_count 14 rfl) hf
    · have hf := gd_at hf rfl
      refine r_tableIn (tgt := 70) 2 hc (dc_at dX10_count 4 rfl) hx rfl (by decide) (by decide) ?_
      refine r_aload_n hc 0 (dc_at dX10_count 15 rfl) rfl ?_
      refine r_getR hc (dc_at dX10_count 16 rfl) fl_X10_13 hf fun a6 hf => ?_
      refine r_iconst (3 : Int32) hc (dc_at dX10_count 17 rfl) (by decide) ?_
      refine r_iaload hc (dc_at dX10_count 18 rfl) hf fun x7 hf => ?_
      exact r_iret hc he (hm) (hs) (dc_at dX10_count 19 rfl) hf
    · have hf := gd_at hf rfl
      refine r_tableIn (tgt := 77) 3 hc (dc_at dX10_count 4 rfl) hx rfl (by decide) (by decide) ?_
      refine r_aload_n hc 0 (dc_at dX10_count 20 rfl) rfl ?_
      refine r_getR hc (dc_at dX10_count 21 rfl) fl_X10_13 hf fun a8 hf => ?_
      refine r_iconst (4 : Int32) hc (dc_at dX10_count 22 rfl) (by decide) ?_
      refine r_iaload hc (dc_at dX10_count 23 rfl) hf fun x9 hf => ?_
      exact r_iret hc he (hm) (hs) (dc_at dX10_count 24 rfl) hf
    · have hf := gd_at hf rfl
      refine r_tableIn (tgt := 84) 4 hc (dc_at dX10_count 4 rfl) hx rfl (by decide) (by decide) ?_
      refine r_aload_n hc 0 (dc_at dX10_count 25 rfl) rfl ?_
      refine r_getR hc (dc_at dX10_count 26 rfl) fl_X10_13 hf fun a10 hf => ?_
      refine r_iconst (5 : Int32) hc (dc_at dX10_count 27 rfl) (by decide) ?_
      refine r_iaload hc (dc_at dX10_count 28 rfl) hf fun x11 hf => ?_
      exact r_iret hc he (hm) (hs) (dc_at dX10_count 29 rfl) hf
    · have hf := gd_at hf rfl
      refine r_tableIn (tgt := 91) 5 hc (dc_at dX10_count 4 rfl) hx rfl (by decide) (by decide) ?_
      refine r_aload_n hc 0 (dc_at dX10_count 30 rfl) rfl ?_
      refine r_getR hc (dc_at dX10_count 31 rfl) fl_X10_13 hf fun a12 hf => ?_
      refine r_bipush (73 : Int32) hc (dc_at dX10_count 32 rfl) (by decide) ?_
      refine r_iaload hc (dc_at dX10_count 33 rfl) hf fun x13 hf => ?_
      exact r_iret hc he (hm) (hs) (dc_at dX10_count 34 rfl) hf
    · have hf := gd_at hf rfl
      refine r_tableIn (tgt := 99) 6 hc (dc_at dX10_count 4 rfl) hx rfl (by decide) (by decide) ?_
      refine r_aload_n hc 0 (dc_at dX10_count 35 rfl) rfl ?_
      refine r_getR hc (dc_at dX10_count 36 rfl) fl_X10_13 hf fun a14 hf => ?_
      refine r_bipush (6 : Int32) hc (dc_at dX10_count 37 rfl) (by decide) ?_
      refine r_iaload hc (dc_at dX10_count 38 rfl) hf fun x15 hf => ?_
      exact r_iret hc he (hm) (hs) (dc_at dX10_count 39 rfl) hf
    · have hf := gd_at hf rfl
      refine r_tableIn (tgt := 107) 7 hc (dc_at dX10_count 4 rfl) hx rfl (by decide) (by decide) ?_
      refine r_aload_n hc 0 (dc_at dX10_count 40 rfl) rfl ?_
      refine r_getI hc (dc_at dX10_count 41 rfl) fl_X10_110 hf fun x16 hf => ?_
      exact r_iret hc he (hm) (hs) (dc_at dX10_count 42 rfl) hf
    · have hf := gd_at hf rfl
      refine r_tableIn (tgt := 112) 8 hc (dc_at dX10_count 4 rfl) hx rfl (by decide) (by decide) ?_
      refine r_aload_n hc 0 (dc_at dX10_count 43 rfl) rfl ?_
      refine r_getR hc (dc_at dX10_count 44 rfl) fl_X10_13 hf fun a17 hf => ?_
      refine r_iconst (0 : Int32) hc (dc_at dX10_count 45 rfl) (by decide) ?_
      refine r_iaload hc (dc_at dX10_count 46 rfl) hf fun x18 hf => ?_
      exact r_iret hc he (hm) (hs) (dc_at dX10_count 47 rfl) hf
  · refine r_tableOut (tgt := 119) 9 hc (dc_at dX10_count 4 rfl) hx (by decide) (by decide) ?_
    refine r_iconst (-1 : Int32) hc (dc_at dX10_count 48 rfl) (by decide) ?_
    exact r_iret hc he (hm) (hs) (dc_at dX10_count 49 rfl) hf
def m_X10_count (h : PH) (p0 : Nat) (p1 : Int32) : Option (Int32 × PH) := b_X10_count_0 h p0 p1
theorem mt_X10_count {l : Launch} {X : XT} {h hz : PH} {p0 : Nat} {p1 : Int32} {r : Int32} (ex : m_X10_count h p0 p1 = some (r, hz)) : MT l X yX10_count cX10_count 2 (some .int) 1 60 0 0 [.ref (X.1 + p0), .int p1] h (some (.int r)) hz := MT.of (by decide) (Nat.le_of_ble_eq_true rfl) fun M hl hc hr he => by
  subst hl
  exact gg_sub [0, 1] rfl (t_X10_count_0  hc hr he (Nat.zero_le _) (Nat.zero_le _) ex)
