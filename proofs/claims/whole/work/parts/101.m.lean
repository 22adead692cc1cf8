/-! FractionLift$Landings.isBelow(II)Z -/
def lX1_isBelowL : List (Nat × Instr × Nat × Nat) := [(0, .aload_n 0, 1, 1), (1, .getfield 9, 3, 4), (4, .iload_n 1, 1, 5), (5, .iaload, 1, 6), (6, .i2l, 1, 7), (7, .aload_n 0, 1, 8), (8, .getfield 15, 3, 11), (11, .iload_n 2, 1, 12), (12, .iaload, 1, 13), (13, .i2l, 1, 14), (14, .lmul, 1, 15), (15, .aload_n 0, 1, 16), (16, .getfield 9, 3, 19), (19, .iload_n 2, 1, 20), (20, .iaload, 1, 21), (21, .i2l, 1, 22), (22, .aload_n 0, 1, 23), (23, .getfield 15, 3, 26), (26, .iload_n 1, 1, 27), (27, .iaload, 1, 28), (28, .i2l, 1, 29), (29, .lmul, 1, 30), (30, .lcmp, 1, 31), (31, .ifCond .ge 7, 3, 34), (34, .iconst 1, 1, 35), (35, .goto 4, 3, 38), (38, .iconst 0, 1, 39), (39, .ireturn, 1, 40)]
set_option maxRecDepth 20000 in
theorem dX1_isBelow : dcL cX1_isBelow lX1_isBelowL = true := by decide +kernel
def b_X1_isBelow_0 (h : PH) (v0 : Nat) (v1 : Int32) (v2 : Int32) : Option Int32 := (gR 1 0 h v0).bind fun a1 => ((aI 0 h a1 v1).bind fun x2 => ((gR 1 1 h v0).bind fun a3 => ((aI 0 h a3 v2).bind fun x4 => ((gR 1 0 h v0).bind fun a5 => ((aI 0 h a5 v2).bind fun x6 => ((gR 1 1 h v0).bind fun a7 => ((aI 0 h a7 v1).bind fun x8 => (if (((Int32.toInt64 x6) * (Int32.toInt64 x8))) ≤ (((Int32.toInt64 x2) * (Int32.toInt64 x4))) then (rZP (0 : Int32)) else (rZP (1 : Int32))))))))))
set_option maxRecDepth 20000 in
theorem t_X1_isBelow_0 {M : MV} {X : XT} {h : PH} {r : Int32} {ce sl mc ms : Nat} {v0 : Nat} {v1 : Int32} {v2 : Int32} (hc : Cx M X RX1 cX1_isBelow) (hr : Rx M 1 60 mc ms 3) (he : Ex M X (some .boolean) "isBelow" (some (.int r)) h mc ms) (hm : ce ≤ mc) (hs : sl ≤ ms) (hf : b_X1_isBelow_0 h v0 v1 v2 = some r) : GG M X h ce sl 0 [(0, .ref (X.1 + v0)), (1, .int v1), (2, .int v2)] [] := by
  unfold b_X1_isBelow_0 at hf
  refine r_aload_n hc 0 (dc_at dX1_isBelow 0 rfl) rfl ?_
  refine r_getR hc (dc_at dX1_isBelow 1 rfl) fl_X1_9 hf fun a1 hf => ?_
  refine r_iload_n hc 1 (dc_at dX1_isBelow 2 rfl) rfl ?_
  refine r_iaload hc (dc_at dX1_isBelow 3 rfl) hf fun x2 hf => ?_
  refine r_i2l hc (dc_at dX1_isBelow 4 rfl) ?_
  refine r_aload_n hc 0 (dc_at dX1_isBelow 5 rfl) rfl ?_
  refine r_getR hc (dc_at dX1_isBelow 6 rfl) fl_X1_15 hf fun a3 hf => ?_
  refine r_iload_n hc 2 (dc_at dX1_isBelow 7 rfl) rfl ?_
  refine r_iaload hc (dc_at dX1_isBelow 8 rfl) hf fun x4 hf => ?_
  refine r_i2l hc (dc_at dX1_isBelow 9 rfl) ?_
  refine r_lmul hc (dc_at dX1_isBelow 10 rfl) ?_
  refine r_aload_n hc 0 (dc_at dX1_isBelow 11 rfl) rfl ?_
  refine r_getR hc (dc_at dX1_isBelow 12 rfl) fl_X1_9 hf fun a5 hf => ?_
  refine r_iload_n hc 2 (dc_at dX1_isBelow 13 rfl) rfl ?_
  refine r_iaload hc (dc_at dX1_isBelow 14 rfl) hf fun x6 hf => ?_
  refine r_i2l hc (dc_at dX1_isBelow 15 rfl) ?_
  refine r_aload_n hc 0 (dc_at dX1_isBelow 16 rfl) rfl ?_
  refine r_getR hc (dc_at dX1_isBelow 17 rfl) fl_X1_15 hf fun a7 hf => ?_
  refine r_iload_n hc 1 (dc_at dX1_isBelow 18 rfl) rfl ?_
  refine r_iaload hc (dc_at dX1_isBelow 19 rfl) hf fun x8 hf => ?_
  refine r_i2l hc (dc_at dX1_isBelow 20 rfl) ?_
  refine r_lmul hc (dc_at dX1_isBelow 21 rfl) ?_
  refine r_lcmp_ge (tgt := 38) hc (dc_at dX1_isBelow 22 rfl) (dc_at dX1_isBelow 23 rfl) (by decide) hf (fun hf => ?_) (fun hf => ?_)
  · refine r_iconst (0 : Int32) hc (dc_at dX1_isBelow 26 rfl) (by decide) ?_
    exact r_zretP hc he (hm) (hs) (dc_at dX1_isBelow 27 rfl) hf
  · refine r_iconst (1 : Int32) hc (dc_at dX1_isBelow 24 rfl) (by decide) ?_
    refine r_goto (tgt := 39) hc (dc_at dX1_isBelow 25 rfl) (by decide) ?_
    exact r_zretP hc he (hm) (hs) (dc_at dX1_isBelow 27 rfl) hf
def m_X1_isBelow (h : PH) (p0 : Nat) (p1 : Int32) (p2 : Int32) : Option Int32 := b_X1_isBelow_0 h p0 p1 p2
theorem mt_X1_isBelow {l : Launch} {X : XT} {h : PH} {p0 : Nat} {p1 : Int32} {p2 : Int32} {r : Int32} (ex : m_X1_isBelow h p0 p1 p2 = some r) : MT l X yX1_isBelow cX1_isBelow 3 (some .boolean) 1 60 0 0 [.ref (X.1 + p0), .int p1, .int p2] h (some (.int r)) h := MT.of (by decide) (Nat.le_of_ble_eq_true rfl) fun M hl hc hr he => by
  subst hl
  exact gg_sub [0, 1, 2] rfl (t_X1_isBelow_0  hc hr he (Nat.zero_le _) (Nat.zero_le _) ex)
/-! FractionLift$Landings.weightOf(III)J -/
def lX1_weightOfL : List (Nat × Instr × Nat × Nat) := [(0, .aload_n 0, 1, 1), (1, .iload_n 1, 1, 2), (2, .iload_n 2, 1, 3), (3, .iload_n 3, 1, 4), (4, .aload_n 0, 1, 5), (5, .getfield 31, 3, 8), (8, .invokevirtual 46, 3, 11), (11, .istore 4, 2, 13), (13, .iload 4, 2, 15), (15, .ifCond .lt 21, 3, 18), (18, .iload 4, 2, 20), (20, .sipush 511, 3, 23), (23, .if_icmp .ge 13, 3, 26), (26, .aload_n 0, 1, 27), (27, .getfield 27, 3, 30), (30, .iload 4, 2, 32), (32, .laload, 1, 33), (33, .goto 4, 3, 36), (36, .lconst 0, 1, 37), (37, .lreturn, 1, 38)]
set_option maxRecDepth 20000 in
theorem dX1_weightOf : dcL cX1_weightOf lX1_weightOfL = true := by decide +kernel
def b_X1_weightOf_0 (F : Nat) (h : PH) (v0 : Nat) (v1 : Int32) (v2 : Int32) (v3 : Int32) : Option Int64 := (gI 1 4 h v0).bind fun x1 => (cO 1 h v0 ((m_X1_find F h v0 v1 v2 v3 x1).bind fun x2 => (if x2 < 0 then (some (0 : Int64)) else (if (511 : Int32) ≤ x2 then (some (0 : Int64)) else ((gR 1 3 h v0).bind fun a3 => ((aL h a3 x2).bind fun x4 => (some x4)))))))
set_option maxRecDepth 20000 in
theorem t_X1_weightOf_0 {M : MV} {X : XT} {F : Nat} {h : PH} {r : Int64} {ce sl mc ms : Nat} {v0 : Nat} {v1 : Int32} {v2 : Int32} {v3 : Int32} (hc : Cx M X RX1 cX1_weightOf) (hr : Rx M 3 176 mc ms 5) (he : Ex M X (some .long) "weightOf" (some (.long r)) h mc ms) (hm : ce ≤ mc) (hs : sl ≤ ms) (hf : b_X1_weightOf_0 F h v0 v1 v2 v3 = some r) : GG M X h ce sl 0 [(0, .ref (X.1 + v0)), (1, .int v1), (2, .int v2), (3, .int v3)] [] := by
  unfold b_X1_weightOf_0 at hf
  refine r_aload_n hc 0 (dc_at dX1_weightOf 0 rfl) rfl ?_
  refine r_iload_n hc 1 (dc_at dX1_weightOf 1 rfl) rfl ?_
  refine r_iload_n hc 2 (dc_at dX1_weightOf 2 rfl) rfl ?_
  refine r_iload_n hc 3 (dc_at dX1_weightOf 3 rfl) rfl ?_
  refine r_aload_n hc 0 (dc_at dX1_weightOf 4 rfl) rfl ?_
  refine r_getI hc (dc_at dX1_weightOf 5 rfl) fl_X1_31 hf fun x1 hf => ?_
  obtain ⟨ho, hf⟩ := cO_some hf
  refine ob hf fun x2 ex hf => ?_
  refine r_callVi (As := [.int v1, .int v2, .int v3, .int x1]) (ci := 1) hc hr (dc_at dX1_weightOf 6 rfl) ml_X1_46 mv_X1_find vi_X1_find rfl ho rfl (mt_X1_find ex) (by first | exact Nat.le_of_ble_eq_true rfl | omega) (by first | exact Nat.le_of_ble_eq_true rfl | omega) (by first | exact Nat.le_of_ble_eq_true rfl | omega) hm hs ?_
  refine r_istore [(4, .int x2), (0, .ref (X.1 + v0)), (1, .int v1), (2, .int v2), (3, .int v3)] hc hr (dc_at dX1_weightOf 7 rfl) (by decide) rfl ?_
  refine r_iload hc 0 (dc_at dX1_weightOf 8 rfl) rfl ?_
  refine r_if_lt (tgt := 36) hc (dc_at dX1_weightOf 9 rfl) (by decide) hf (fun hf => ?_) (fun hf => ?_)
  · refine r_lconst (0 : Int64) hc (dc_at dX1_weightOf 18 rfl) (by decide) ?_
    exact r_lretP hc he (hm) (hs) (dc_at dX1_weightOf 19 rfl) hf
  · refine r_iload hc 0 (dc_at dX1_weightOf 10 rfl) rfl ?_
    refine r_sipush (511 : Int32) hc (dc_at dX1_weightOf 11 rfl) (by decide) ?_
    refine r_icmp_ge (tgt := 36) hc (dc_at dX1_weightOf 12 rfl) (by decide) hf (fun hf => ?_) (fun hf => ?_)
    · refine r_lconst (0 : Int64) hc (dc_at dX1_weightOf 18 rfl) (by decide) ?_
      exact r_lretP hc he (hm) (hs) (dc_at dX1_weightOf 19 rfl) hf
    · refine r_aload_n hc 1 (dc_at dX1_weightOf 13 rfl) rfl ?_
      refine r_getR hc (dc_at dX1_weightOf 14 rfl) fl_X1_27 hf fun a3 hf => ?_
      refine r_iload hc 0 (dc_at dX1_weightOf 15 rfl) rfl ?_
      refine r_laload hc (dc_at dX1_weightOf 16 rfl) hf fun x4 hf => ?_
      refine r_goto (tgt := 37) hc (dc_at dX1_weightOf 17 rfl) (by decide) ?_
      exact r_lretP hc he (hm) (hs) (dc_at dX1_weightOf 19 rfl) hf
def m_X1_weightOf (F : Nat) (h : PH) (p0 : Nat) (p1 : Int32) (p2 : Int32) (p3 : Int32) : Option Int64 := b_X1_weightOf_0 F h p0 p1 p2 p3
theorem mt_X1_weightOf {l : Launch} {X : XT} {F : Nat} {h : PH} {p0 : Nat} {p1 : Int32} {p2 : Int32} {p3 : Int32} {r : Int64} (ex : m_X1_weightOf F h p0 p1 p2 p3 = some r) : MT l X yX1_weightOf cX1_weightOf 5 (some .long) 3 176 0 0 [.ref (X.1 + p0), .int p1, .int p2, .int p3] h (some (.long r)) h := MT.of (by decide) (Nat.le_of_ble_eq_true rfl) fun M hl hc hr he => by
  subst hl
  exact gg_sub [0, 1, 2, 3] rfl (t_X1_weightOf_0  hc hr he (Nat.zero_le _) (Nat.zero_le _) ex)
/-! FractionLift$Landings.addWeight(IIIJ)V -/
def lX1_addWeightL : List (Nat × Instr × Nat × Nat) := [(0, .aload_n 0, 1, 1), (1, .iload_n 1, 1, 2), (2, .iload_n 2, 1, 3), (3, .iload_n 3, 1, 4), (4, .aload_n 0, 1, 5), (5, .getfield 31, 3, 8), (8, .invokevirtual 46, 3, 11), (11, .istore 6, 2, 13), (13, .iload 6, 2, 15), (15, .iconst (-1), 1, 16), (16, .if_icmp .ne 32, 3, 19), (19, .aload_n 0, 1, 20), (20, .getfield 31, 3, 23), (23, .istore 6, 2, 25), (25, .aload_n 0, 1, 26), (26, .iload_n 1, 1, 27), (27, .iload_n 2, 1, 28), (28, .iconst (-1), 1, 29), (29, .invokevirtual 50, 3, 32), (32, .iload 6, 2, 34), (34, .sipush 511, 3, 37), (37, .if_icmp .ge 11, 3, 40), (40, .aload_n 0, 1, 41), (41, .getfield 27, 3, 44), (44, .iload 6, 2, 46), (46, .lconst 0, 1, 47), (47, .lastore, 1, 48), (48, .iload 6, 2, 50), (50, .sipush 511, 3, 53), (53, .if_icmp .ge 15, 3, 56), (56, .aload_n 0, 1, 57), (57, .getfield 27, 3, 60), (60, .iload 6, 2, 62), (62, .dup2, 1, 63), (63, .laload, 1, 64), (64, .lload 4, 2, 66), (66, .ladd, 1, 67), (67, .lastore, 1, 68), (68, .return_, 1, 69)]
set_option maxRecDepth 20000 in
theorem dX1_addWeight : dcL cX1_addWeight lX1_addWeightL = true := by decide +kernel
def b_X1_addWeight_48 (F : Nat) (h : PH) (v0 : Nat) (v4 : Int64) (v6 : Int32) : Option (Unit × PH) := if (511 : Int32) ≤ v6 then (some ((), h)) else ((gR 1 3 h v0).bind fun a1 => ((aL h a1 v6).bind fun x2 => ((sL h a1 v6 (x2 + v4)).bind fun h3 => (some ((), h3)))))
set_option maxRecDepth 20000 in
theorem t_X1_addWeight_48 {M : MV} {X : XT} {F : Nat} {h hz : PH} {r : Unit} {ce sl mc ms : Nat} {v0 : Nat} {v4 : Int64} {v6 : Int32} (hc : Cx M X RX1 cX1_addWeight) (hr : Rx M 3 176 mc ms 7) (he : Ex M X none "addWeight" none hz mc ms) (hm : ce ≤ mc) (hs : sl ≤ ms) (hf : b_X1_addWeight_48 F h v0 v4 v6 = some (r, hz)) : GG M X h ce sl 48 [(0, .ref (X.1 + v0)), (4, .long v4), (6, .int v6)] [] := by
  unfold b_X1_addWeight_48 at hf
  refine r_iload hc 2 (dc_at dX1_addWeight 27 rfl) rfl ?_
  refine r_sipush (511 : Int32) hc (dc_at dX1_addWeight 28 rfl) (by decide) ?_
  refine r_icmp_ge (tgt := 68) hc (dc_at dX1_addWeight 29 rfl) (by decide) hf (fun hf => ?_) (fun hf => ?_)
  · exact r_vret hc he (hm) (hs) (dc_at dX1_addWeight 38 rfl) hf
  · refine r_aload_n hc 0 (dc_at dX1_addWeight 30 rfl) rfl ?_
    refine r_getR hc (dc_at dX1_addWeight 31 rfl) fl_X1_27 hf fun a1 hf => ?_
    refine r_iload hc 2 (dc_at dX1_addWeight 32 rfl) rfl ?_
    refine r_dup2 hc (dc_at dX1_addWeight 33 rfl) rfl rfl ?_
    refine r_laload hc (dc_at dX1_addWeight 34 rfl) hf fun x2 hf => ?_
    refine r_lload hc 1 (dc_at dX1_addWeight 35 rfl) rfl ?_
    refine r_ladd hc (dc_at dX1_addWeight 36 rfl) ?_
    refine r_lastore hc (dc_at dX1_addWeight 37 rfl) hf fun h3 hf => ?_
    exact r_vret hc he (hm) (hs) (dc_at dX1_addWeight 38 rfl) hf
def b_X1_addWeight_0 (F : Nat) (h : PH) (v0 : Nat) (v1 : Int32) (v2 : Int32) (v3 : Int32) (v4 : Int64) : Option (Unit × PH) := (gI 1 4 h v0).bind fun x1 => (cO 1 h v0 ((m_X1_find F h v0 v1 v2 v3 x1).bind fun x2 => (if x2 = (-1 : Int32) then ((gI 1 4 h v0).bind fun x3 => (cO 1 h v0 (bind2 (m_X1_put h v0 v1 v2 (-1 : Int32)) fun _ h5 => (if (511 : Int32) ≤ x3 then (b_X1_addWeight_48 F h5 v0 v4 x3) else ((gR 1 3 h5 v0).bind fun a6 => ((sL h5 a6 x3 (0 : Int64)).bind fun h7 => (b_X1_addWeight_48 F h7 v0 v4 x3))))))) else (b_X1_addWeight_48 F h v0 v4 x2))))
set_option maxRecDepth 20000 in
theorem t_X1_addWeight_0 {M : MV} {X : XT} {F : Nat} {h hz : PH} {r : Unit} {ce sl mc ms : Nat} {v0 : Nat} {v1 : Int32} {v2 : Int32} {v3 : Int32} {v4 : Int64} (hc : Cx M X RX1 cX1_addWeight) (hr : Rx M 3 176 mc ms 7) (he : Ex M X none "addWeight" none hz mc ms) (hm : ce ≤ mc) (hs : sl ≤ ms) (hf : b_X1_addWeight_0 F h v0 v1 v2 v3 v4 = some (r, hz)) : GG M X h ce sl 0 [(0, .ref (X.1 + v0)), (1, .int v1), (2, .int v2), (3, .int v3), (4, .long v4)] [] := by
  unfold b_X1_addWeight_0 at hf
  refine r_aload_n hc 0 (dc_at dX1_addWeight 0 rfl) rfl ?_
  refine r_iload_n hc 1 (dc_at dX1_addWeight 1 rfl) rfl ?_
  refine r_iload_n hc 2 (dc_at dX1_addWeight 2 rfl) rfl ?_
  refine r_iload_n hc 3 (dc_at dX1_addWeight 3 rfl) rfl ?_
  refine r_aload_n hc 0 (dc_at dX1_addWeight 4 rfl) rfl ?_
  refine r_getI hc (dc_at dX1_addWeight 5 rfl) fl_X1_31 hf fun x1 hf => ?_
  obtain ⟨ho, hf⟩ := cO_some hf
  refine ob hf fun x2 ex hf => ?_
  refine r_callVi (As := [.int v1, .int v2, .int v3, .int x1]) (ci := 1) hc hr (dc_at dX1_addWeight 6 rfl) ml_X1_46 mv_X1_find vi_X1_find rfl ho rfl (mt_X1_find ex) (by first | exact Nat.le_of_ble_eq_true rfl | omega) (by first | exact Nat.le_of_ble_eq_true rfl | omega) (by first | exact Nat.le_of_ble_eq_true rfl | omega) hm hs ?_
  refine r_istore [(6, .int x2), (0, .ref (X.1 + v0)), (1, .int v1), (2, .int v2), (3, .int v3), (4, .long v4)] hc hr (dc_at dX1_addWeight 7 rfl) (by decide) rfl ?_
  refine r_iload hc 0 (dc_at dX1_addWeight 8 rfl) rfl ?_
  refine r_iconst (-1 : Int32) hc (dc_at dX1_addWeight 9 rfl) (by decide) ?_
  refine r_icmp_ne (tgt := 48) hc (dc_at dX1_addWeight 10 rfl) (by decide) hf (fun hf => ?_) (fun hf => ?_)
  · exact gg_sub [1, 5, 0] rfl (t_X1_addWeight_48 hc hr he hm hs  hf)
  · refine r_aload_n hc 1 (dc_at dX1_addWeight 11 rfl) rfl ?_
    refine r_getI hc (dc_at dX1_addWeight 12 rfl) fl_X1_31 hf fun x3 hf => ?_
    refine r_istore [(6, .int x3), (0, .ref (X.1 + v0)), (1, .int v1), (2, .int v2), (3, .int v3), (4, .long v4)] hc hr (dc_at dX1_addWeight 13 rfl) (by decide) rfl ?_
    refine r_aload_n hc 1 (dc_at dX1_addWeight 14 rfl) rfl ?_
    refine r_iload_n hc 2 (dc_at dX1_addWeight 15 rfl) rfl ?_
    refine r_iload_n hc 3 (dc_at dX1_addWeight 16 rfl) rfl ?_
    refine r_iconst (-1 : Int32) hc (dc_at dX1_addWeight 17 rfl) (by decide) ?_
    obtain ⟨ho, hf⟩ := cO_some hf
    refine ob2 hf fun u h5 ex hf => ?_
    refine r_callVv (As := [.int v1, .int v2, .int ((-1 : Int32))]) (ci := 1) hc hr (dc_at dX1_addWeight 18 rfl) ml_X1_50 mv_X1_put vi_X1_put rfl ho rfl (mt_X1_put ex) (by first | exact Nat.le_of_ble_eq_true rfl | omega) (by first | exact Nat.le_of_ble_eq_true rfl | omega) (by first | exact Nat.le_of_ble_eq_true rfl | omega) hm hs ?_
    refine r_iload hc 0 (dc_at dX1_addWeight 19 rfl) rfl ?_
    refine r_sipush (511 : Int32) hc (dc_at dX1_addWeight 20 rfl) (by decide) ?_
    refine r_icmp_ge (tgt := 48) hc (dc_at dX1_addWeight 21 rfl) (by decide) hf (fun hf => ?_) (fun hf => ?_)
    · exact gg_sub [1, 5, 0] rfl (t_X1_addWeight_48 hc hr he hm hs  hf)
    · refine r_aload_n hc 1 (dc_at dX1_addWeight 22 rfl) rfl ?_
      refine r_getR hc (dc_at dX1_addWeight 23 rfl) fl_X1_27 hf fun a6 hf => ?_
      refine r_iload hc 0 (dc_at dX1_addWeight 24 rfl) rfl ?_
      refine r_lconst (0 : Int64) hc (dc_at dX1_addWeight 25 rfl) (by decide) ?_
      refine r_lastore hc (dc_at dX1_addWeight 26 rfl) hf fun h7 hf => ?_
      exact gg_sub [1, 5, 0] rfl (t_X1_addWeight_48 hc hr he hm hs  hf)
def m_X1_addWeight (F : Nat) (h : PH) (p0 : Nat) (p1 : Int32) (p2 : Int32) (p3 : Int32) (p4 : Int64) : Option (Unit × PH) := b_X1_addWeight_0 F h p0 p1 p2 p3 p4
theorem mt_X1_addWeight {l : Launch} {X : XT} {F : Nat} {h hz : PH} {p0 : Nat} {p1 : Int32} {p2 : Int32} {p3 : Int32} {p4 : Int64} {r : Unit} (ex : m_X1_addWeight F h p0 p1 p2 p3 p4 = some (r, hz)) : MT l X yX1_addWeight cX1_addWeight 7 none 3 176 0 0 [.ref (X.1 + p0), .int p1, .int p2, .int p3, .long p4] h none hz := MT.of (by decide) (Nat.le_of_ble_eq_true rfl) fun M hl hc hr he => by
  subst hl
  exact gg_sub [0, 1, 2, 3, 4] rfl (t_X1_addWeight_0  hc hr he (Nat.zero_le _) (Nat.zero_le _) ex)
/-! FractionLift$Ratio.<init>()V -/
def lX2_initL : List (Nat × Instr × Nat × Nat) := [(0, .aload_n 0, 1, 1), (1, .invokespecial 1, 3, 4), (4, .aload_n 0, 1, 5), (5, .lconst 0, 1, 6), (6, .putfield 7, 3, 9), (9, .aload_n 0, 1, 10), (10, .lconst 1, 1, 11), (11, .putfield 13, 3, 14), (14, .return_, 1, 15)]
set_option maxRecDepth 20000 in
theorem dX2_init : dcL cX2_init lX2_initL = true := by decide +kernel
def b_X2_init_0 (h : PH) (v0 : Nat) : Option (Unit × PH) := (pV 2 0 (.long (0 : Int64)) h v0).bind fun h1 => ((pV 2 1 (.long (1 : Int64)) h1 v0).bind fun h2 => (some ((), h2)))
set_option maxRecDepth 20000 in
theorem t_X2_init_0 {M : MV} {X : XT} {h hz : PH} {r : Unit} {ce sl mc ms : Nat} {v0 : Nat} (hc : Cx M X RX2 cX2_init) (hr : Rx M 1 60 mc ms 1) (he : Ex M X none "<init>" none hz mc ms) (hm : ce ≤ mc) (hs : sl ≤ ms) (hf : b_X2_init_0 h v0 = some (r, hz)) : GG M X h ce sl 0 [(0, .ref (X.1 + v0))] [] := by
  unfold b_X2_init_0 at hf
  refine r_aload_n hc 0 (dc_at dX2_init 0 rfl) rfl ?_
  refine r_objinit hc hr (dc_at dX2_init 1 rfl) oi_X2_1 oiw (by first | exact Nat.le_of_ble_eq_true rfl | omega) (by first | exact Nat.le_of_ble_eq_true rfl | omega) ?_
  refine r_aload_n hc 0 (dc_at dX2_init 2 rfl) rfl ?_
  refine r_lconst (0 : Int64) hc (dc_at dX2_init 3 rfl) (by decide) ?_
  refine r_putL hc he (dc_at dX2_init 4 rfl) fp_X2_7 (fun q => by cases q) hf fun h1 hf => ?_
  refine r_aload_n hc 0 (dc_at dX2_init 5 rfl) rfl ?_
  refine r_lconst (1 : Int64) hc (dc_at dX2_init 6 rfl) (by decide) ?_
  refine r_putL hc he (dc_at dX2_init 7 rfl) fp_X2_13 (fun q => by cases q) hf fun h2 hf => ?_
  exact r_vret hc he (hm) (hs) (dc_at dX2_init 8 rfl) hf
def m_X2_init (h : PH) (p0 : Nat) : Option (Unit × PH) := b_X2_init_0 h p0
theorem mt_X2_init {l : Launch} {X : XT} {h hz : PH} {p0 : Nat} {r : Unit} (ex : m_X2_init h p0 = some (r, hz)) : MT l X yX2_init cX2_init 1 none 1 60 0 0 [.ref (X.1 + p0)] h none hz := MT.of (by decide) (Nat.le_of_ble_eq_true rfl) fun M hl hc hr he => by
  subst hl
  exact gg_sub [0] rfl (t_X2_init_0  hc hr he (Nat.zero_le _) (Nat.zero_le _) ex)
/-! FractionLift$Ratio.part(I)J -/
def lX2_partL : List (Nat × Instr × Nat × Nat) := [(0, .iload_n 1, 1, 1), (1, .ifCond .ne 10, 3, 4), (4, .aload_n 0, 1, 5), (5, .getfield 7, 3, 8), (8, .goto 7, 3, 11), (11, .aload_n 0, 1, 12), (12, .getfield 13, 3, 15), (15, .lreturn, 1, 16)]
set_option maxRecDepth 20000 in
theorem dX2_part : dcL cX2_part lX2_partL = true := by decide +kernel
def b_X2_part_0 (h : PH) (v0 : Nat) (v1 : Int32) : Option Int64 := if v1 = 0 then ((gL 2 0 h v0).bind fun x2 => (some x2)) else ((gL 2 1 h v0).bind fun x1 => (some x1))
set_option maxRecDepth 20000 in
theorem t_X2_part_0 {M : MV} {X : XT} {h : PH} {r : Int64} {ce sl mc ms : Nat} {v0 : Nat} {v1 : Int32} (hc : Cx M X RX2 cX2_part) (hr : Rx M 1 60 mc ms 2) (he : Ex M X (some .long) "part" (some (.long r)) h mc ms) (hm : ce ≤ mc) (hs : sl ≤ ms) (hf : b_X2_part_0 h v0 v1 = some r) : GG M X h ce sl 0 [(0, .ref (X.1 + v0)), (1, .int v1)] [] := by
  unfold b_X2_part_0 at hf
  refine r_iload_n hc 1 (dc_at dX2_part 0 rfl) rfl ?_
  refine r_if_ne (tgt := 11) hc (dc_at dX2_part 1 rfl) (by decide) hf (fun hf => ?_) (fun hf => ?_)
  · refine r_aload_n hc 0 (dc_at dX2_part 5 rfl) rfl ?_
    refine r_getL hc (dc_at dX2_part 6 rfl) fl_X2_13 hf fun x1 hf => ?_
    exact r_lretP hc he (hm) (hs) (dc_at dX2_part 7 rfl) hf
  · refine r_aload_n hc 0 (dc_at dX2_part 2 rfl) rfl ?_
    refine r_getL hc (dc_at dX2_part 3 rfl) fl_X2_7 hf fun x2 hf => ?_
    refine r_goto (tgt := 15) hc (dc_at dX2_part 4 rfl) (by decide) ?_
    exact r_lretP hc he (hm) (hs) (dc_at dX2_part 7 rfl) hf
def m_X2_part (h : PH) (p0 : Nat) (p1 : Int32) : Option Int64 := b_X2_part_0 h p0 p1
theorem mt_X2_part {l : Launch} {X : XT} {h : PH} {p0 : Nat} {p1 : Int32} {r : Int64} (ex : m_X2_part h p0 p1 = some r) : MT l X yX2_part cX2_part 2 (some .long) 1 60 0 0 [.ref (X.1 + p0), .int p1] h (some (.long r)) h := MT.of (by decide) (Nat.le_of_ble_eq_true rfl) fun M hl hc hr he => by
  subst hl
  exact gg_sub [0, 1] rfl (t_X2_part_0  hc hr he (Nat.zero_le _) (Nat.zero_le _) ex)
/-! FractionLift$Ratio.whole()J -/
def lX2_wholeL : List (Nat × Instr × Nat × Nat) := [(0, .aload_n 0, 1, 1), (1, .getfield 13, 3, 4), (4, .lconst 0, 1, 5), (5, .lcmp, 1, 6), (6, .ifCond .le 15, 3, 9), (9, .aload_n 0, 1, 10), (10, .getfield 7, 3, 13), (13, .aload_n 0, 1, 14), (14, .getfield 13, 3, 17), (17, .ldiv, 1, 18), (18, .goto 4, 3, 21), (21, .lconst 0, 1, 22), (22, .lreturn, 1, 23)]
set_option maxRecDepth 20000 in
theorem dX2_whole : dcL cX2_whole lX2_wholeL = true := by decide +kernel
def b_X2_whole_0 (h : PH) (v0 : Nat) : Option Int64 := (gL 2 1 h v0).bind fun x1 => (if x1 ≤ (0 : Int64) then (some (0 : Int64)) else ((gL 2 0 h v0).bind fun x2 => ((gL 2 1 h v0).bind fun x3 => (if x3 = 0 then none else (some (x2 / x3))))))
set_option maxRecDepth 20000 in
theorem t_X2_whole_0 {M : MV} {X : XT} {h : PH} {r : Int64} {ce sl mc ms : Nat} {v0 : Nat} (hc : Cx M X RX2 cX2_whole) (hr : Rx M 1 60 mc ms 1) (he : Ex M X (some .long) "whole" (some (.long r)) h mc ms) (hm : ce ≤ mc) (hs : sl ≤ ms) (hf : b_X2_whole_0 h v0 = some r) : GG M X h ce sl 0 [(0, .ref (X.1 + v0))] [] := by
  unfold b_X2_whole_0 at hf
  refine r_aload_n hc 0 (dc_at dX2_whole 0 rfl) rfl ?_
  refine r_getL hc (dc_at dX2_whole 1 rfl) fl_X2_13 hf fun x1 hf => ?_
  refine r_lconst (0 : Int64) hc (dc_at dX2_whole 2 rfl) (by decide) ?_
  refine r_lcmp_le (tgt := 21) hc (dc_at dX2_whole 3 rfl) (dc_at dX2_whole 4 rfl) (by decide) hf (fun hf => ?_) (fun hf => ?_)
  · refine r_lconst (0 : Int64) hc (dc_at dX2_whole 11 rfl) (by decide) ?_
    exact r_lretP hc he (hm) (hs) (dc_at dX2_whole 12 rfl) hf
  · refine r_aload_n hc 0 (dc_at dX2_whole 5 rfl) rfl ?_
    refine r_getL hc (dc_at dX2_whole 6 rfl) fl_X2_7 hf fun x2 hf => ?_
    refine r_aload_n hc 0 (dc_at dX2_whole 7 rfl) rfl ?_
    refine r_getL hc (dc_at dX2_whole 8 rfl) fl_X2_13 hf fun x3 hf => ?_
    refine r_ldiv hc (dc_at dX2_whole 9 rfl) hf (fun hf => ?_)
    refine r_goto (tgt := 22) hc (dc_at dX2_whole 10 rfl) (by decide) ?_
    exact r_lretP hc he (hm) (hs) (dc_at dX2_whole 12 rfl) hf
def m_X2_whole (h : PH) (p0 : Nat) : Option Int64 := b_X2_whole_0 h p0
theorem mt_X2_whole {l : Launch} {X : XT} {h : PH} {p0 : Nat} {r : Int64} (ex : m_X2_whole h p0 = some r) : MT l X yX2_whole cX2_whole 1 (some .long) 1 60 0 0 [.ref (X.1 + p0)] h (some (.long r)) h := MT.of (by decide) (Nat.le_of_ble_eq_true rfl) fun M hl hc hr he => by
  subst hl
  exact gg_sub [0] rfl (t_X2_whole_0  hc hr he (Nat.zero_le _) (Nat.zero_le _) ex)
/-! java/lang/Long.compare(JJ)I -/
def lJ13_compare_74951L : List (Nat × Instr × Nat × Nat) := [(0, .lload_n 0, 1, 1), (1, .lload_n 2, 1, 2), (2, .lcmp, 1, 3), (3, .ifCond .ge 7, 3, 6), (6, .iconst (-1), 1, 7), (7, .goto 14, 3, 10), (10, .lload_n 0, 1, 11), (11, .lload_n 2, 1, 12), (12, .lcmp, 1, 13), (13, .ifCond .ne 7, 3, 16), (16, .iconst 0, 1, 17), (17, .goto 4, 3, 20), (20, .iconst 1, 1, 21), (21, .ireturn, 1, 22)]
set_option maxRecDepth 20000 in
theorem dJ13_compare_74951 : dcL cJ13_compare_74951 lJ13_compare_74951L = true := by decide +kernel
def b_J13_compare_74951_0 (v0 : Int64) (v2 : Int64) : Option Int32 := if v2 ≤ v0 then (if v0 = v2 then (some (0 : Int32)) else (some (1 : Int32))) else (some (-1 : Int32))
set_option maxRecDepth 20000 in
theorem t_J13_compare_74951_0 {M : MV} {X : XT} {h : PH} {r : Int32} {ce sl mc ms : Nat} {v0 : Int64} {v2 : Int64} (hc : Cx M X RJ13 cJ13_compare_74951) (hr : Rx M 1 60 mc ms 4) (he : Ex M X (some .int) "compare" (some (.int r)) h mc ms) (hm : ce ≤ mc) (hs : sl ≤ ms) (hf : b_J13_compare_74951_0 v0 v2 = some r) : GG M X h ce sl 0 [(0, .long v0), (2, .long v2)] [] := by
  unfold b_J13_compare_74951_0 at hf
  refine r_lload_n hc 0 (dc_at dJ13_compare_74951 0 rfl) rfl ?_
  refine r_lload_n hc 1 (dc_at dJ13_compare_74951 1 rfl) rfl ?_
  refine r_lcmp_ge (tgt := 10) hc (dc_at dJ13_compare_74951 2 rfl) (dc_at dJ13_compare_74951 3 rfl) (by decide) hf (fun hf => ?_) (fun hf => ?_)
  · refine r_lload_n hc 0 (dc_at dJ13_compare_74951 6 rfl) rfl ?_
    refine r_lload_n hc 1 (dc_at dJ13_compare_74951 7 rfl) rfl ?_
    refine r_lcmp_ne (tgt := 20) hc (dc_at dJ13_compare_74951 8 rfl) (dc_at dJ13_compare_74951 9 rfl) (by decide) hf (fun hf => ?_) (fun hf => ?_)
    · refine r_iconst (1 : Int32) hc (dc_at dJ13_compare_74951 12 rfl) (by decide) ?_
      exact r_iretP hc he (hm) (hs) (dc_at dJ13_compare_74951 13 rfl) hf
    · refine r_iconst (0 : Int32) hc (dc_at dJ13_compare_74951 10 rfl) (by decide) ?_
      refine r_goto (tgt := 21) hc (dc_at dJ13_compare_74951 11 rfl) (by decide) ?_
      exact r_iretP hc he (hm) (hs) (dc_at dJ13_compare_74951 13 rfl) hf
  · refine r_iconst (-1 : Int32) hc (dc_at dJ13_compare_74951 4 rfl) (by decide) ?_
    refine r_goto (tgt := 21) hc (dc_at dJ13_compare_74951 5 rfl) (by decide) ?_
    exact r_iretP hc he (hm) (hs) (dc_at dJ13_compare_74951 13 rfl) hf
def m_J13_compare_74951 (p0 : Int64) (p2 : Int64) : Option Int32 := b_J13_compare_74951_0 p0 p2
theorem mt_J13_compare_74951 {l : Launch} {X : XT} {h : PH} {p0 : Int64} {p2 : Int64} {r : Int32} (ex : m_J13_compare_74951 p0 p2 = some r) : MT l X yJ13_compare_74951 cJ13_compare_74951 4 (some .int) 1 60 0 0 [.long p0, .long p2] h (some (.int r)) h := MT.of (by decide) (Nat.le_of_ble_eq_true rfl) fun M hl hc hr he => by
  subst hl
  exact gg_sub [0, 1] rfl (t_J13_compare_74951_0  hc hr he (Nat.zero_le _) (Nat.zero_le _) ex)
/-! FractionLift$Ratio.compared(LFractionLift$Ratio;)I -/
def lX2_comparedL : List (Nat × Instr × Nat × Nat) := [(0, .aload_n 0, 1, 1), (1, .getfield 7, 3, 4), (4, .aload_n 1, 1, 5), (5, .getfield 13, 3, 8), (8, .lmul, 1, 9), (9, .aload_n 1, 1, 10), (10, .getfield 7, 3, 13), (13, .aload_n 0, 1, 14), (14, .getfield 13, 3, 17), (17, .lmul, 1, 18), (18, .invokestatic 22, 3, 21), (21, .ireturn, 1, 22)]
set_option maxRecDepth 20000 in
theorem dX2_compared : dcL cX2_compared lX2_comparedL = true := by decide +kernel
def b_X2_compared_0 (h : PH) (v0 : Nat) (v1 : Nat) : Option Int32 := (gL 2 0 h v0).bind fun x1 => ((gL 2 1 h v1).bind fun x2 => ((gL 2 0 h v1).bind fun x3 => ((gL 2 1 h v0).bind fun x4 => ((m_J13_compare_74951 (x1 * x2) (x3 * x4)).bind fun x5 => (some x5)))))
set_option maxRecDepth 20000 in
theorem t_X2_compared_0 {M : MV} {X : XT} {h : PH} {r : Int32} {ce sl mc ms : Nat} {v0 : Nat} {v1 : Nat} (hc : Cx M X RX2 cX2_compared) (hr : Rx M 2 118 mc ms 2) (he : Ex M X (some .int) "compared" (some (.int r)) h mc ms) (hm : ce ≤ mc) (hs : sl ≤ ms) (hf : b_X2_compared_0 h v0 v1 = some r) : GG M X h ce sl 0 [(0, .ref (X.1 + v0)), (1, .ref (X.1 + v1))] [] := by
  unfold b_X2_compared_0 at hf
  refine r_aload_n hc 0 (dc_at dX2_compared 0 rfl) rfl ?_
  refine r_getL hc (dc_at dX2_compared 1 rfl) fl_X2_7 hf fun x1 hf => ?_
  refine r_aload_n hc 1 (dc_at dX2_compared 2 rfl) rfl ?_
  refine r_getL hc (dc_at dX2_compared 3 rfl) fl_X2_13 hf fun x2 hf => ?_
  refine r_lmul hc (dc_at dX2_compared 4 rfl) ?_
  refine r_aload_n hc 1 (dc_at dX2_compared 5 rfl) rfl ?_
  refine r_getL hc (dc_at dX2_compared 6 rfl) fl_X2_7 hf fun x3 hf => ?_
  refine r_aload_n hc 0 (dc_at dX2_compared 7 rfl) rfl ?_
  refine r_getL hc (dc_at dX2_compared 8 rfl) fl_X2_13 hf fun x4 hf => ?_
  refine r_lmul hc (dc_at dX2_compared 9 rfl) ?_
  refine ob hf fun x5 ex hf => ?_
  refine r_callSi (As := [.long ((x1 * x2)), .long ((x3 * x4))]) hc hr (dc_at dX2_compared 10 rfl) ml_X2_22 mv_J13_compare_74951 st_J13_compare_74951 rfl (mt_J13_compare_74951 ex) (by first | exact Nat.le_of_ble_eq_true rfl | omega) (by first | exact Nat.le_of_ble_eq_true rfl | omega) (by first | exact Nat.le_of_ble_eq_true rfl | omega) hm hs ?_
  exact r_iretP hc he (hm) (hs) (dc_at dX2_compared 11 rfl) hf
def m_X2_compared (h : PH) (p0 : Nat) (p1 : Nat) : Option Int32 := b_X2_compared_0 h p0 p1
theorem mt_X2_compared {l : Launch} {X : XT} {h : PH} {p0 : Nat} {p1 : Nat} {r : Int32} (ex : m_X2_compared h p0 p1 = some r) : MT l X yX2_compared cX2_compared 2 (some .int) 2 118 0 0 [.ref (X.1 + p0), .ref (X.1 + p1)] h (some (.int r)) h := MT.of (by decide) (Nat.le_of_ble_eq_true rfl) fun M hl hc hr he => by
  subst hl
  exact gg_sub [0, 1] rfl (t_X2_compared_0  hc hr he (Nat.zero_le _) (Nat.zero_le _) ex)
/-! FractionLift$Tokens.<init>()V -/
def lX6_initL : List (Nat × Instr × Nat × Nat) := [(0, .aload_n 0, 1, 1), (1, .invokespecial 3, 3, 4), (4, .aload_n 0, 1, 5), (5, .sipush 901, 3, 8), (8, .newarray .int, 2, 10), (10, .putfield 9, 3, 13), (13, .aload_n 0, 1, 14), (14, .sipush 901, 3, 17), (17, .newarray .int, 2, 19), (19, .putfield 15, 3, 22), (22, .aload_n 0, 1, 23), (23, .sipush 901, 3, 26), (26, .newarray .int, 2, 28), (28, .putfield 18, 3, 31), (31, .return_, 1, 32)]
set_option maxRecDepth 20000 in
theorem dX6_init : dcL cX6_init lX6_initL = true := by decide +kernel
def b_X6_init_0 (h : PH) (v0 : Nat) : Option (Unit × PH) := bindv h.length fun a1 => (bindv (h ++ [.inl (0, 901, .inl (fun _ => 0))]) fun h2 => ((pV 6 1 (.ref a1) h2 v0).bind fun h3 => (bindv h3.length fun a4 => (bindv (h3 ++ [.inl (0, 901, .inl (fun _ => 0))]) fun h5 => ((pV 6 2 (.ref a4) h5 v0).bind fun h6 => (bindv h6.length fun a7 => (bindv (h6 ++ [.inl (0, 901, .inl (fun _ => 0))]) fun h8 => ((pV 6 3 (.ref a7) h8 v0).bind fun h9 => (some ((), h9))))))))))
set_option maxRecDepth 20000 in
theorem t_X6_init_0 {M : MV} {X : XT} {h hz : PH} {r : Unit} {v0 : Nat} (hc : Cx M X RX6 cX6_init) (hr : Rx M 1 60 3 2703 1) (he : Ex M X none "<init>" none hz 3 2703) (hm : 0 ≤ 3) (hs : 0 ≤ 2703) (hf : b_X6_init_0 h v0 = some (r, hz)) : GG M X h 0 0 0 [(0, .ref (X.1 + v0))] [] := by
  unfold b_X6_init_0 at hf
  refine r_aload_n hc 0 (dc_at dX6_init 0 rfl) rfl ?_
  refine r_objinit hc hr (dc_at dX6_init 1 rfl) oi_X6_3 oiw (by first | exact Nat.le_of_ble_eq_true rfl | omega) (by first | exact Nat.le_of_ble_eq_true rfl | omega) ?_
  refine r_aload_n hc 0 (dc_at dX6_init 2 rfl) rfl ?_
  refine r_sipush (901 : Int32) hc (dc_at dX6_init 3 rfl) (by decide) ?_
  refine r_newarrN (t := 0) (N := 901) (ty := .int) hc hr (dc_at dX6_init 4 rfl) arr_int rfl (fun _ _ z => z) rfl (fun _ => rfl) (by decide) (by decide) (by decide) (Nat.le_of_ble_eq_true rfl) (Nat.le_of_ble_eq_true rfl) hf fun a1 h2 hf => ?_
  refine r_putR hc he (dc_at dX6_init 5 rfl) fp_X6_9 (fun _ => rfl) ⟨rfl, fun _ => ⟨rfl, rfl⟩⟩ hf fun h3 hf => ?_
  refine r_aload_n hc 0 (dc_at dX6_init 6 rfl) rfl ?_
  refine r_sipush (901 : Int32) hc (dc_at dX6_init 7 rfl) (by decide) ?_
  refine r_newarrN (t := 0) (N := 901) (ty := .int) hc hr (dc_at dX6_init 8 rfl) arr_int rfl (fun _ _ z => z) rfl (fun _ => rfl) (by decide) (by decide) (by decide) (Nat.le_of_ble_eq_true rfl) (Nat.le_of_ble_eq_true rfl) hf fun a4 h5 hf => ?_
  refine r_putR hc he (dc_at dX6_init 9 rfl) fp_X6_15 (fun _ => rfl) ⟨rfl, fun _ => ⟨rfl, rfl⟩⟩ hf fun h6 hf => ?_
  refine r_aload_n hc 0 (dc_at dX6_init 10 rfl) rfl ?_
  refine r_sipush (901 : Int32) hc (dc_at dX6_init 11 rfl) (by decide) ?_
  refine r_newarrN (t := 0) (N := 901) (ty := .int) hc hr (dc_at dX6_init 12 rfl) arr_int rfl (fun _ _ z => z) rfl (fun _ => rfl) (by decide) (by decide) (by decide) (Nat.le_of_ble_eq_true rfl) (Nat.le_of_ble_eq_true rfl) hf fun a7 h8 hf => ?_
  refine r_putR hc he (dc_at dX6_init 13 rfl) fp_X6_18 (fun _ => rfl) ⟨rfl, fun _ => ⟨rfl, rfl⟩⟩ hf fun h9 hf => ?_
  exact r_vret hc he (Nat.le_of_ble_eq_true rfl) (Nat.le_of_ble_eq_true rfl) (dc_at dX6_init 14 rfl) hf
def m_X6_init (h : PH) (p0 : Nat) : Option (Unit × PH) := b_X6_init_0 h p0
theorem mt_X6_init {l : Launch} {X : XT} {h hz : PH} {p0 : Nat} {r : Unit} (ex : m_X6_init h p0 = some (r, hz)) : MT l X yX6_init cX6_init 1 none 1 60 3 2703 [.ref (X.1 + p0)] h none hz := MT.of (by decide) (Nat.le_of_ble_eq_true rfl) fun M hl hc hr he => by
  subst hl
  exact gg_sub [0] rfl (t_X6_init_0  hc hr he (Nat.zero_le _) (Nat.zero_le _) ex)
/-! FractionLift$Reader.<init>()V -/
def lX3_initL : List (Nat × Instr × Nat × Nat) := [(0, .aload_n 0, 1, 1), (1, .invokespecial 3, 3, 4), (4, .aload_n 0, 1, 5), (5, .new 9, 3, 8), (8, .dup, 1, 9), (9, .invokespecial 11, 3, 12), (12, .putfield 12, 3, 15), (15, .aload_n 0, 1, 16), (16, .new 18, 3, 19), (19, .dup, 1, 20), (20, .invokespecial 20, 3, 23), (23, .putfield 21, 3, 26), (26, .aload_n 0, 1, 27), (27, .bipush 64, 2, 29), (29, .newarray .int, 2, 31), (31, .putfield 25, 3, 34), (34, .aload_n 0, 1, 35), (35, .new 29, 3, 38), (38, .dup, 1, 39), (39, .invokespecial 31, 3, 42), (42, .putfield 32, 3, 45), (45, .return_, 1, 46)]
set_option maxRecDepth 20000 in
theorem dX3_init : dcL cX3_init lX3_initL = true := by decide +kernel
def b_X3_init_0 (h : PH) (v0 : Nat) : Option (Unit × PH) := bindv h.length fun a1 => (bindv (h ++ [.inr (0, df0)]) fun h2 => (bind2 (m_X0_init h2 a1) fun _ h4 => ((pV 3 0 (.ref a1) h4 v0).bind fun h5 => (bindv h5.length fun a6 => (bindv (h5 ++ [.inr (6, df6)]) fun h7 => (bind2 (m_X6_init h7 a6) fun _ h9 => ((pV 3 3 (.ref a6) h9 v0).bind fun h10 => (bindv h10.length fun a11 => (bindv (h10 ++ [.inl (0, 64, .inl (fun _ => 0))]) fun h12 => ((pV 3 11 (.ref a11) h12 v0).bind fun h13 => (bindv h13.length fun a14 => (bindv (h13 ++ [.inr (2, df2)]) fun h15 => (bind2 (m_X2_init h15 a14) fun _ h17 => ((pV 3 13 (.ref a14) h17 v0).bind fun h18 => (some ((), h18))))))))))))))))
set_option maxRecDepth 20000 in
theorem t_X3_init_0 {M : MV} {X : XT} {h hz : PH} {r : Unit} {v0 : Nat} (hc : Cx M X RX3 cX3_init) (hr : Rx M 2 118 16 3763 1) (he : Ex M X none "<init>" none hz 16 3763) (hm : 0 ≤ 16) (hs : 0 ≤ 3763) (hf : b_X3_init_0 h v0 = some (r, hz)) : GG M X h 0 0 0 [(0, .ref (X.1 + v0))] [] := by
  unfold b_X3_init_0 at hf
  refine r_aload_n hc 0 (dc_at dX3_init 0 rfl) rfl ?_
  refine r_objinit hc hr (dc_at dX3_init 1 rfl) oi_X3_3 oiw (by first | exact Nat.le_of_ble_eq_true rfl | omega) (by first | exact Nat.le_of_ble_eq_true rfl | omega) ?_
  refine r_aload_n hc 0 (dc_at dX3_init 2 rfl) rfl ?_
  refine r_newN (N := 18) hc hr (dc_at dX3_init 3 rfl) nw_X3_9 (Nat.le_of_ble_eq_true rfl) (Nat.le_of_ble_eq_true rfl) hf fun a1 h2 hf => ?_
  refine r_dup hc (dc_at dX3_init 4 rfl) rfl ?_
  refine ob2 hf fun u h4 ex hf => ?_
  refine r_callIC (As := []) hc hr (dc_at dX3_init 5 rfl) ml_X3_11 mv_X0_init im_X0_init rfl rfl (mt_X0_init ex) (by first | exact Nat.le_of_ble_eq_true rfl | omega) (by first | exact Nat.le_of_ble_eq_true rfl | omega) (by first | exact Nat.le_of_ble_eq_true rfl | omega) (Nat.le_of_ble_eq_true rfl) (Nat.le_of_ble_eq_true rfl) ?_
  refine r_putR hc he (dc_at dX3_init 6 rfl) fp_X3_12 (fun q => by cases q) ⟨rfl, fun _ => ⟨rfl, rfl⟩⟩ hf fun h5 hf => ?_
  refine r_aload_n hc 0 (dc_at dX3_init 7 rfl) rfl ?_
  refine r_newN (N := 6) hc hr (dc_at dX3_init 8 rfl) nw_X3_18 (Nat.le_of_ble_eq_true rfl) (Nat.le_of_ble_eq_true rfl) hf fun a6 h7 hf => ?_
  refine r_dup hc (dc_at dX3_init 9 rfl) rfl ?_
  refine ob2 hf fun u h9 ex hf => ?_
  refine r_callIC (As := []) hc hr (dc_at dX3_init 10 rfl) ml_X3_20 mv_X6_init im_X6_init rfl rfl (mt_X6_init ex) (by first | exact Nat.le_of_ble_eq_true rfl | omega) (by first | exact Nat.le_of_ble_eq_true rfl | omega) (by first | exact Nat.le_of_ble_eq_true rfl | omega) (Nat.le_of_ble_eq_true rfl) (Nat.le_of_ble_eq_true rfl) ?_
  refine r_putR hc he (dc_at dX3_init 11 rfl) fp_X3_21 (fun _ => rfl) ⟨rfl, fun _ => ⟨rfl, rfl⟩⟩ hf fun h10 hf => ?_
  refine r_aload_n hc 0 (dc_at dX3_init 12 rfl) rfl ?_
  refine r_bipush (64 : Int32) hc (dc_at dX3_init 13 rfl) (by decide) ?_
  refine r_newarrN (t := 0) (N := 64) (ty := .int) hc hr (dc_at dX3_init 14 rfl) arr_int rfl (fun _ _ z => z) rfl (fun _ => rfl) (by decide) (by decide) (by decide) (Nat.le_of_ble_eq_true rfl) (Nat.le_of_ble_eq_true rfl) hf fun a11 h12 hf => ?_
  refine r_putR hc he (dc_at dX3_init 15 rfl) fp_X3_25 (fun _ => rfl) ⟨rfl, fun _ => ⟨rfl, rfl⟩⟩ hf fun h13 hf => ?_
  refine r_aload_n hc 0 (dc_at dX3_init 16 rfl) rfl ?_
  refine r_newN (N := 2) hc hr (dc_at dX3_init 17 rfl) nw_X3_29 (Nat.le_of_ble_eq_true rfl) (Nat.le_of_ble_eq_true rfl) hf fun a14 h15 hf => ?_
  refine r_dup hc (dc_at dX3_init 18 rfl) rfl ?_
  refine ob2 hf fun u h17 ex hf => ?_
  refine r_callI0 (As := []) hc hr (dc_at dX3_init 19 rfl) ml_X3_31 mv_X2_init im_X2_init rfl rfl (mt_X2_init ex) (by first | exact Nat.le_of_ble_eq_true rfl | omega) (by first | exact Nat.le_of_ble_eq_true rfl | omega) (by first | exact Nat.le_of_ble_eq_true rfl | omega) (Nat.le_of_ble_eq_true rfl) (Nat.le_of_ble_eq_true rfl) ?_
  refine r_putR hc he (dc_at dX3_init 20 rfl) fp_X3_32 (fun _ => rfl) ⟨rfl, fun _ => ⟨rfl, rfl⟩⟩ hf fun h18 hf => ?_
  exact r_vret hc he (Nat.le_of_ble_eq_true rfl) (Nat.le_of_ble_eq_true rfl) (dc_at dX3_init 21 rfl) hf
def m_X3_init (h : PH) (p0 : Nat) : Option (Unit × PH) := b_X3_init_0 h p0
theorem mt_X3_init {l : Launch} {X : XT} {h hz : PH} {p0 : Nat} {r : Unit} (ex : m_X3_init h p0 = some (r, hz)) : MT l X yX3_init cX3_init 1 none 2 118 16 3763 [.ref (X.1 + p0)] h none hz := MT.of (by decide) (Nat.le_of_ble_eq_true rfl) fun M hl hc hr he => by
  subst hl
  exact gg_sub [0] rfl (t_X3_init_0  hc hr he (Nat.zero_le _) (Nat.zero_le _) ex)
/-! FractionLift$Tokens.behindBlanks(I)I -/
def lX6_behindBlanksL : List (Nat × Instr × Nat × Nat) := [(0, .iload_n 1, 1, 1), (1, .istore_n 2, 1, 2), (2, .iload_n 2, 1, 3), (3, .aload_n 0, 1, 4), (4, .getfield 30, 3, 7), (7, .if_icmp .ge 31, 3, 10), (10, .aload_n 0, 1, 11), (11, .getfield 21, 3, 14), (14, .iload_n 2, 1, 15), (15, .iaload, 1, 16), (16, .bipush 32, 2, 18), (18, .if_icmp .eq 14, 3, 21), (21, .aload_n 0, 1, 22), (22, .getfield 21, 3, 25), (25, .iload_n 2, 1, 26), (26, .iaload, 1, 27), (27, .bipush 10, 2, 29), (29, .if_icmp .ne 9, 3, 32), (32, .iinc 2 1, 3, 35), (35, .goto (-33), 3, 38), (38, .iload_n 2, 1, 39), (39, .ireturn, 1, 40)]
set_option maxRecDepth 20000 in
theorem dX6_behindBlanks : dcL cX6_behindBlanks lX6_behindBlanksL = true := by decide +kernel
def b_X6_behindBlanks_32 (F : Nat) (self2 : Nat → Int32 → Option Int32) (h : PH) (v0 : Nat) (v2 : Int32) : Option Int32 := bindv (v2 + (1)) fun x1 => (self2 v0 x1)
set_option maxRecDepth 20000 in
theorem t_X6_behindBlanks_32 {M : MV} {X : XT} {F : Nat} {self2 : Nat → Int32 → Option Int32} {h : PH} {r : Int32} {ce sl mc ms : Nat} {v0 : Nat} {v2 : Int32} (hc : Cx M X RX6 cX6_behindBlanks) (hr : Rx M 1 60 mc ms 3) (he : Ex M X (some .int) "behindBlanks" (some (.int r)) h mc ms) (hm : ce ≤ mc) (hs : sl ≤ ms) (ih2 : ∀ (v0 : Nat) (v2 : Int32), self2 v0 v2 = some r → GG M X h ce sl 2 [(0, .ref (X.1 + v0)), (2, .int v2)] []) (hf : b_X6_behindBlanks_32 F self2 h v0 v2 = some r) : GG M X h ce sl 32 [(0, .ref (X.1 + v0)), (2, .int v2)] [] := by
  unfold b_X6_behindBlanks_32 at hf
  refine obv hf fun x1 e_x1 hf => ?_
  refine r_iinc 1 [(2, .int x1), (0, .ref (X.1 + v0))] hc hr (dc_at dX6_behindBlanks 18 rfl) rfl (by rw [e_x1]; rfl) (by decide) rfl ?_
  refine r_goto (tgt := 2) hc (dc_at dX6_behindBlanks 19 rfl) (by decide) ?_
  exact gg_sub [1, 0] rfl (ih2 _ _ hf)
def b_X6_behindBlanks_2 (F : Nat) (self2 : Nat → Int32 → Option Int32) (h : PH) (v0 : Nat) (v2 : Int32) : Option Int32 := (gI 6 5 h v0).bind fun x1 => (if x1 ≤ v2 then (some v2) else ((gR 6 4 h v0).bind fun a2 => ((aI 0 h a2 v2).bind fun x3 => (if x3 = (32 : Int32) then (b_X6_behindBlanks_32 F self2 h v0 v2) else ((gR 6 4 h v0).bind fun a4 => ((aI 0 h a4 v2).bind fun x5 => (if x5 = (10 : Int32) then (b_X6_behindBlanks_32 F self2 h v0 v2) else (some v2))))))))
set_option maxRecDepth 20000 in
theorem tb_X6_behindBlanks_2 {M : MV} {X : XT} {F : Nat} {self2 : Nat → Int32 → Option Int32} {h : PH} {r : Int32} {ce sl mc ms : Nat} {v0 : Nat} {v2 : Int32} (hc : Cx M X RX6 cX6_behindBlanks) (hr : Rx M 1 60 mc ms 3) (he : Ex M X (some .int) "behindBlanks" (some (.int r)) h mc ms) (hm : ce ≤ mc) (hs : sl ≤ ms) (ih2 : ∀ (v0 : Nat) (v2 : Int32), self2 v0 v2 = some r → GG M X h ce sl 2 [(0, .ref (X.1 + v0)), (2, .int v2)] []) (hf : b_X6_behindBlanks_2 F self2 h v0 v2 = some r) : GG M X h ce sl 2 [(0, .ref (X.1 + v0)), (2, .int v2)] [] := by
  unfold b_X6_behindBlanks_2 at hf
  refine r_iload_n hc 1 (dc_at dX6_behindBlanks 2 rfl) rfl ?_
  refine r_aload_n hc 0 (dc_at dX6_behindBlanks 3 rfl) rfl ?_
  refine r_getI hc (dc_at dX6_behindBlanks 4 rfl) fl_X6_30 hf fun x1 hf => ?_
  refine r_icmp_ge (tgt := 38) hc (dc_at dX6_behindBlanks 5 rfl) (by decide) hf (fun hf => ?_) (fun hf => ?_)
  · refine r_iload_n hc 1 (dc_at dX6_behindBlanks 20 rfl) rfl ?_
    exact r_iretP hc he (hm) (hs) (dc_at dX6_behindBlanks 21 rfl) hf
  · refine r_aload_n hc 0 (dc_at dX6_behindBlanks 6 rfl) rfl ?_
    refine r_getR hc (dc_at dX6_behindBlanks 7 rfl) fl_X6_21 hf fun a2 hf => ?_
    refine r_iload_n hc 1 (dc_at dX6_behindBlanks 8 rfl) rfl ?_
    refine r_iaload hc (dc_at dX6_behindBlanks 9 rfl) hf fun x3 hf => ?_
    refine r_bipush (32 : Int32) hc (dc_at dX6_behindBlanks 10 rfl) (by decide) ?_
    refine r_icmp_eq (tgt := 32) hc (dc_at dX6_behindBlanks 11 rfl) (by decide) hf (fun hf => ?_) (fun hf => ?_)
    · exact gg_sub [0, 1] rfl (t_X6_behindBlanks_32 hc hr he hm hs ih2 hf)
    · refine r_aload_n hc 0 (dc_at dX6_behindBlanks 12 rfl) rfl ?_
      refine r_getR hc (dc_at dX6_behindBlanks 13 rfl) fl_X6_21 hf fun a4 hf => ?_
      refine r_iload_n hc 1 (dc_at dX6_behindBlanks 14 rfl) rfl ?_
      refine r_iaload hc (dc_at dX6_behindBlanks 15 rfl) hf fun x5 hf => ?_
      refine r_bipush (10 : Int32) hc (dc_at dX6_behindBlanks 16 rfl) (by decide) ?_
      refine r_icmp_ne (tgt := 38) hc (dc_at dX6_behindBlanks 17 rfl) (by decide) hf (fun hf => ?_) (fun hf => ?_)
      · refine r_iload_n hc 1 (dc_at dX6_behindBlanks 20 rfl) rfl ?_
        exact r_iretP hc he (hm) (hs) (dc_at dX6_behindBlanks 21 rfl) hf
      · exact gg_sub [0, 1] rfl (t_X6_behindBlanks_32 hc hr he hm hs ih2 hf)
def l_X6_behindBlanks_2 (F : Nat) (h : PH) : Nat → Nat → Int32 → Option Int32
  | 0 => fun _ _ => none
  | n + 1 => fun v0 v2 => b_X6_behindBlanks_2 F (l_X6_behindBlanks_2 F h n) h v0 v2
theorem tl_X6_behindBlanks_2 {M : MV} {X : XT} {F : Nat} {h : PH} {r : Int32} {ce sl mc ms : Nat} (hc : Cx M X RX6 cX6_behindBlanks) (hr : Rx M 1 60 mc ms 3) (he : Ex M X (some .int) "behindBlanks" (some (.int r)) h mc ms) (hm : ce ≤ mc) (hs : sl ≤ ms) (n : Nat) : ∀ (v0 : Nat) (v2 : Int32), l_X6_behindBlanks_2 F h n v0 v2 = some r → GG M X h ce sl 2 [(0, .ref (X.1 + v0)), (2, .int v2)] [] := by
  induction n with
  | zero => intro v0 v2 hf; cases hf
  | succ n ih => intro v0 v2 hf; exact tb_X6_behindBlanks_2 (F := F) hc hr he hm hs  ih hf
def b_X6_behindBlanks_0 (F : Nat) (h : PH) (v0 : Nat) (v1 : Int32) : Option Int32 := l_X6_behindBlanks_2 F h F v0 v1
set_option maxRecDepth 20000 in
theorem t_X6_behindBlanks_0 {M : MV} {X : XT} {F : Nat} {h : PH} {r : Int32} {ce sl mc ms : Nat} {v0 : Nat} {v1 : Int32} (hc : Cx M X RX6 cX6_behindBlanks) (hr : Rx M 1 60 mc ms 3) (he : Ex M X (some .int) "behindBlanks" (some (.int r)) h mc ms) (hm : ce ≤ mc) (hs : sl ≤ ms) (hf : b_X6_behindBlanks_0 F h v0 v1 = some r) : GG M X h ce sl 0 [(0, .ref (X.1 + v0)), (1, .int v1)] [] := by
  unfold b_X6_behindBlanks_0 at hf
  refine r_iload_n hc 1 (dc_at dX6_behindBlanks 0 rfl) rfl ?_
  refine r_istore_n [(2, .int v1), (0, .ref (X.1 + v0)), (1, .int v1)] hc hr (dc_at dX6_behindBlanks 1 rfl) (by decide) rfl ?_
  exact gg_sub [1, 0] rfl (tl_X6_behindBlanks_2 hc hr he hm hs  F _ _ hf)
def m_X6_behindBlanks (F : Nat) (h : PH) (p0 : Nat) (p1 : Int32) : Option Int32 := b_X6_behindBlanks_0 F h p0 p1
theorem mt_X6_behindBlanks {l : Launch} {X : XT} {F : Nat} {h : PH} {p0 : Nat} {p1 : Int32} {r : Int32} (ex : m_X6_behindBlanks F h p0 p1 = some r) : MT l X yX6_behindBlanks cX6_behindBlanks 3 (some .int) 1 60 0 0 [.ref (X.1 + p0), .int p1] h (some (.int r)) h := MT.of (by decide) (Nat.le_of_ble_eq_true rfl) fun M hl hc hr he => by
  subst hl
  exact gg_sub [0, 1] rfl (t_X6_behindBlanks_0  hc hr he (Nat.zero_le _) (Nat.zero_le _) ex)
/-! FractionLift$Tokens.isDigit(I)Z -/
def lX6_isDigitL : List (Nat × Instr × Nat × Nat) := [(0, .iload_n 0, 1, 1), (1, .bipush 48, 2, 3), (3, .if_icmp .lt 13, 3, 6), (6, .iload_n 0, 1, 7), (7, .bipush 57, 2, 9), (9, .if_icmp .gt 7, 3, 12), (12, .iconst 1, 1, 13), (13, .goto 4, 3, 16), (16, .iconst 0, 1, 17), (17, .ireturn, 1, 18)]
set_option maxRecDepth 20000 in
theorem dX6_isDigit : dcL cX6_isDigit lX6_isDigitL = true := by decide +kernel
def b_X6_isDigit_0 (v0 : Int32) : Option Int32 := if v0 < (48 : Int32) then (rZP (0 : Int32)) else (if (57 : Int32) < v0 then (rZP (0 : Int32)) else (rZP (1 : Int32)))
set_option maxRecDepth 20000 in
theorem t_X6_isDigit_0 {M : MV} {X : XT} {h : PH} {r : Int32} {ce sl mc ms : Nat} {v0 : Int32} (hc : Cx M X RX6 cX6_isDigit) (hr : Rx M 1 60 mc ms 1) (he : Ex M X (some .boolean) "isDigit" (some (.int r)) h mc ms) (hm : ce ≤ mc) (hs : sl ≤ ms) (hf : b_X6_isDigit_0 v0 = some r) : GG M X h ce sl 0 [(0, .int v0)] [] := by
  unfold b_X6_isDigit_0 at hf
  refine r_iload_n hc 0 (dc_at dX6_isDigit 0 rfl) rfl ?_
  refine r_bipush (48 : Int32) hc (dc_at dX6_isDigit 1 rfl) (by decide) ?_
  refine r_icmp_lt (tgt := 16) hc (dc_at dX6_isDigit 2 rfl) (by decide) hf (fun hf => ?_) (fun hf => ?_)
  · refine r_iconst (0 : Int32) hc (dc_at dX6_isDigit 8 rfl) (by decide) ?_
    exact r_zretP hc he (hm) (hs) (dc_at dX6_isDigit 9 rfl) hf
  · refine r_iload_n hc 0 (dc_at dX6_isDigit 3 rfl) rfl ?_
    refine r_bipush (57 : Int32) hc (dc_at dX6_isDigit 4 rfl) (by decide) ?_
    refine r_icmp_gt (tgt := 16) hc (dc_at dX6_isDigit 5 rfl) (by decide) hf (fun hf => ?_) (fun hf => ?_)
    · refine r_iconst (0 : Int32) hc (dc_at dX6_isDigit 8 rfl) (by decide) ?_
      exact r_zretP hc he (hm) (hs) (dc_at dX6_isDigit 9 rfl) hf
    · refine r_iconst (1 : Int32) hc (dc_at dX6_isDigit 6 rfl) (by decide) ?_
      refine r_goto (tgt := 17) hc (dc_at dX6_isDigit 7 rfl) (by decide) ?_
      exact r_zretP hc he (hm) (hs) (dc_at dX6_isDigit 9 rfl) hf
def m_X6_isDigit (p0 : Int32) : Option Int32 := b_X6_isDigit_0 p0
theorem mt_X6_isDigit {l : Launch} {X : XT} {h : PH} {p0 : Int32} {r : Int32} (ex : m_X6_isDigit p0 = some r) : MT l X yX6_isDigit cX6_isDigit 1 (some .boolean) 1 60 0 0 [.int p0] h (some (.int r)) h := MT.of (by decide) (Nat.le_of_ble_eq_true rfl) fun M hl hc hr he => by
  subst hl
  exact gg_sub [0] rfl (t_X6_isDigit_0  hc hr he (Nat.zero_le _) (Nat.zero_le _) ex)
/-! FractionLift$Tokens.isLetter(I)Z -/
def lX6_isLetterL : List (Nat × Instr × Nat × Nat) := [(0, .iload_n 0, 1, 1), (1, .bipush 97, 2, 3), (3, .if_icmp .lt 13, 3, 6), (6, .iload_n 0, 1, 7), (7, .bipush 122, 2, 9), (9, .if_icmp .gt 7, 3, 12), (12, .iconst 1, 1, 13), (13, .goto 4, 3, 16), (16, .iconst 0, 1, 17), (17, .ireturn, 1, 18)]
set_option maxRecDepth 20000 in
theorem dX6_isLetter : dcL cX6_isLetter lX6_isLetterL = true := by decide +kernel
def b_X6_isLetter_0 (v0 : Int32) : Option Int32 := if v0 < (97 : Int32) then (rZP (0 : Int32)) else (if (122 : Int32) < v0 then (rZP (0 : Int32)) else (rZP (1 : Int32)))
set_option maxRecDepth 20000 in
theorem t_X6_isLetter_0 {M : MV} {X : XT} {h : PH} {r : Int32} {ce sl mc ms : Nat} {v0 : Int32} (hc : Cx M X RX6 cX6_isLetter) (hr : Rx M 1 60 mc ms 1) (he : Ex M X (some .boolean) "isLetter" (some (.int r)) h mc ms) (hm : ce ≤ mc) (hs : sl ≤ ms) (hf : b_X6_isLetter_0 v0 = some r) : GG M X h ce sl 0 [(0, .int v0)] [] := by
  unfold b_X6_isLetter_0 at hf
  refine r_iload_n hc 0 (dc_at dX6_isLetter 0 rfl) rfl ?_
  refine r_bipush (97 : Int32) hc (dc_at dX6_isLetter 1 rfl) (by decide) ?_
  refine r_icmp_lt (tgt := 16) hc (dc_at dX6_isLetter 2 rfl) (by decide) hf (fun hf => ?_) (fun hf => ?_)
  · refine r_iconst (0 : Int32) hc (dc_at dX6_isLetter 8 rfl) (by decide) ?_
    exact r_zretP hc he (hm) (hs) (dc_at dX6_isLetter 9 rfl) hf
  · refine r_iload_n hc 0 (dc_at dX6_isLetter 3 rfl) rfl ?_
    refine r_bipush (122 : Int32) hc (dc_at dX6_isLetter 4 rfl) (by decide) ?_
    refine r_icmp_gt (tgt := 16) hc (dc_at dX6_isLetter 5 rfl) (by decide) hf (fun hf => ?_) (fun hf => ?_)
    · refine r_iconst (0 : Int32) hc (dc_at dX6_isLetter 8 rfl) (by decide) ?_
      exact r_zretP hc he (hm) (hs) (dc_at dX6_isLetter 9 rfl) hf
    · refine r_iconst (1 : Int32) hc (dc_at dX6_isLetter 6 rfl) (by decide) ?_
      refine r_goto (tgt := 17) hc (dc_at dX6_isLetter 7 rfl) (by decide) ?_
      exact r_zretP hc he (hm) (hs) (dc_at dX6_isLetter 9 rfl) hf
def m_X6_isLetter (p0 : Int32) : Option Int32 := b_X6_isLetter_0 p0
theorem mt_X6_isLetter {l : Launch} {X : XT} {h : PH} {p0 : Int32} {r : Int32} (ex : m_X6_isLetter p0 = some r) : MT l X yX6_isLetter cX6_isLetter 1 (some .boolean) 1 60 0 0 [.int p0] h (some (.int r)) h := MT.of (by decide) (Nat.le_of_ble_eq_true rfl) fun M hl hc hr he => by
  subst hl
  exact gg_sub [0] rfl (t_X6_isLetter_0  hc hr he (Nat.zero_le _) (Nat.zero_le _) ex)
/-! FractionLift$Tokens.endOf(I)I -/
def lX6_endOfL : List (Nat × Instr × Nat × Nat) := [(0, .iload_n 1, 1, 1), (1, .istore_n 2, 1, 2), (2, .aload_n 0, 1, 3), (3, .getfield 21, 3, 6), (6, .iload_n 1, 1, 7), (7, .iaload, 1, 8), (8, .invokestatic 54, 3, 11), (11, .ifCond .eq 31, 3, 14), (14, .iload_n 2, 1, 15), (15, .aload_n 0, 1, 16), (16, .getfield 30, 3, 19), (19, .if_icmp .ge 21, 3, 22), (22, .aload_n 0, 1, 23), (23, .getfield 21, 3, 26), (26, .iload_n 2, 1, 27), (27, .iaload, 1, 28), (28, .invokestatic 54, 3, 31), (31, .ifCond .eq 9, 3, 34), (34, .iinc 2 1, 3, 37), (37, .goto (-23), 3, 40), (40, .iload_n 2, 1, 41), (41, .ireturn, 1, 42), (42, .iload_n 2, 1, 43), (43, .aload_n 0, 1, 44), (44, .getfield 30, 3, 47), (47, .if_icmp .ge 21, 3, 50), (50, .aload_n 0, 1, 51), (51, .getfield 21, 3, 54), (54, .iload_n 2, 1, 55), (55, .iaload, 1, 56), (56, .invokestatic 58, 3, 59), (59, .ifCond .eq 9, 3, 62), (62, .iinc 2 1, 3, 65), (65, .goto (-23), 3, 68), (68, .iload_n 2, 1, 69), (69, .iload_n 1, 1, 70), (70, .if_icmp .ne 9, 3, 73), (73, .iload_n 1, 1, 74), (74, .iconst 1, 1, 75), (75, .iadd, 1, 76), (76, .goto 4, 3, 79), (79, .iload_n 2, 1, 80), (80, .ireturn, 1, 81)]
set_option maxRecDepth 20000 in
theorem dX6_endOf : dcL cX6_endOf lX6_endOfL = true := by decide +kernel
def b_X6_endOf_14 (F : Nat) (self8 : Nat → Int32 → Option Int32) (h : PH) (v0 : Nat) (v2 : Int32) : Option Int32 := (gI 6 5 h v0).bind fun x1 => (if x1 ≤ v2 then (some v2) else ((gR 6 4 h v0).bind fun a2 => ((aI 0 h a2 v2).bind fun x3 => ((m_X6_isDigit x3).bind fun x4 => (if x4 = 0 then (some v2) else (bindv (v2 + (1)) fun x5 => (self8 v0 x5)))))))
set_option maxRecDepth 20000 in
theorem tb_X6_endOf_14 {M : MV} {X : XT} {F : Nat} {self8 : Nat → Int32 → Option Int32} {h : PH} {r : Int32} {ce sl mc ms : Nat} {v0 : Nat} {v2 : Int32} (hc : Cx M X RX6 cX6_endOf) (hr : Rx M 2 118 mc ms 3) (he : Ex M X (some .int) "endOf" (some (.int r)) h mc ms) (hm : ce ≤ mc) (hs : sl ≤ ms) (ih8 : ∀ (v0 : Nat) (v2 : Int32), self8 v0 v2 = some r → GG M X h ce sl 14 [(0, .ref (X.1 + v0)), (2, .int v2)] []) (hf : b_X6_endOf_14 F self8 h v0 v2 = some r) : GG M X h ce sl 14 [(0, .ref (X.1 + v0)), (2, .int v2)] [] := by
  unfold b_X6_endOf_14 at hf
  refine r_iload_n hc 1 (dc_at dX6_endOf 8 rfl) rfl ?_
  refine r_aload_n hc 0 (dc_at dX6_endOf 9 rfl) rfl ?_
  refine r_getI hc (dc_at dX6_endOf 10 rfl) fl_X6_30 hf fun x1 hf => ?_
  refine r_icmp_ge (tgt := 40) hc (dc_at dX6_endOf 11 rfl) (by decide) hf (fun hf => ?_) (fun hf => ?_)
  · refine r_iload_n hc 1 (dc_at dX6_endOf 20 rfl) rfl ?_
    exact r_iretP hc he (hm) (hs) (dc_at dX6_endOf 21 rfl) hf
  · refine r_aload_n hc 0 (dc_at dX6_endOf 12 rfl) rfl ?_
    refine r_getR hc (dc_at dX6_endOf 13 rfl) fl_X6_21 hf fun a2 hf => ?_
    refine r_iload_n hc 1 (dc_at dX6_endOf 14 rfl) rfl ?_
    refine r_iaload hc (dc_at dX6_endOf 15 rfl) hf fun x3 hf => ?_
    refine ob hf fun x4 ex hf => ?_
    refine r_callSi (As := [.int x3]) hc hr (dc_at dX6_endOf 16 rfl) ml_X6_54 mv_X6_isDigit st_X6_isDigit rfl (mt_X6_isDigit ex) (by first | exact Nat.le_of_ble_eq_true rfl | omega) (by first | exact Nat.le_of_ble_eq_true rfl | omega) (by first | exact Nat.le_of_ble_eq_true rfl | omega) hm hs ?_
    refine r_if_eq (tgt := 40) hc (dc_at dX6_endOf 17 rfl) (by decide) hf (fun hf => ?_) (fun hf => ?_)
    · refine r_iload_n hc 1 (dc_at dX6_endOf 20 rfl) rfl ?_
      exact r_iretP hc he (hm) (hs) (dc_at dX6_endOf 21 rfl) hf
    · refine obv hf fun x5 e_x5 hf => ?_
      refine r_iinc 1 [(2, .int x5), (0, .ref (X.1 + v0))] hc hr (dc_at dX6_endOf 18 rfl) rfl (by rw [e_x5]; rfl) (by decide) rfl ?_
      refine r_goto (tgt := 14) hc (dc_at dX6_endOf 19 rfl) (by decide) ?_
      exact gg_sub [1, 0] rfl (ih8 _ _ hf)
def l_X6_endOf_14 (F : Nat) (h : PH) : Nat → Nat → Int32 → Option Int32
  | 0 => fun _ _ => none
  | n + 1 => fun v0 v2 => b_X6_endOf_14 F (l_X6_endOf_14 F h n) h v0 v2
theorem tl_X6_endOf_14 {M : MV} {X : XT} {F : Nat} {h : PH} {r : Int32} {ce sl mc ms : Nat} (hc : Cx M X RX6 cX6_endOf) (hr : Rx M 2 118 mc ms 3) (he : Ex M X (some .int) "endOf" (some (.int r)) h mc ms) (hm : ce ≤ mc) (hs : sl ≤ ms) (n : Nat) : ∀ (v0 : Nat) (v2 : Int32), l_X6_endOf_14 F h n v0 v2 = some r → GG M X h ce sl 14 [(0, .ref (X.1 + v0)), (2, .int v2)] [] := by
  induction n with
  | zero => intro v0 v2 hf; cases hf
  | succ n ih => intro v0 v2 hf; exact tb_X6_endOf_14 (F := F) hc hr he hm hs  ih hf
def b_X6_endOf_68 (F : Nat) (h : PH) (v1 : Int32) (v2 : Int32) : Option Int32 := if v2 = v1 then (some ((v1 + (1 : Int32)))) else (some v2)
set_option maxRecDepth 20000 in
theorem t_X6_endOf_68 {M : MV} {X : XT} {F : Nat} {h : PH} {r : Int32} {ce sl mc ms : Nat} {v1 : Int32} {v2 : Int32} (hc : Cx M X RX6 cX6_endOf) (hr : Rx M 2 118 mc ms 3) (he : Ex M X (some .int) "endOf" (some (.int r)) h mc ms) (hm : ce ≤ mc) (hs : sl ≤ ms) (hf : b_X6_endOf_68 F h v1 v2 = some r) : GG M X h ce sl 68 [(1, .int v1), (2, .int v2)] [] := by
  unfold b_X6_endOf_68 at hf
  refine r_iload_n hc 1 (dc_at dX6_endOf 34 rfl) rfl ?_
  refine r_iload_n hc 0 (dc_at dX6_endOf 35 rfl) rfl ?_
  refine r_icmp_ne (tgt := 79) hc (dc_at dX6_endOf 36 rfl) (by decide) hf (fun hf => ?_) (fun hf => ?_)
  · refine r_iload_n hc 1 (dc_at dX6_endOf 41 rfl) rfl ?_
    exact r_iretP hc he (hm) (hs) (dc_at dX6_endOf 42 rfl) hf
  · refine r_iload_n hc 0 (dc_at dX6_endOf 37 rfl) rfl ?_
    refine r_iconst (1 : Int32) hc (dc_at dX6_endOf 38 rfl) (by decide) ?_
    refine r_iadd hc (dc_at dX6_endOf 39 rfl) ?_
    refine r_goto (tgt := 80) hc (dc_at dX6_endOf 40 rfl) (by decide) ?_
    exact r_iretP hc he (hm) (hs) (dc_at dX6_endOf 42 rfl) hf
def b_X6_endOf_42 (F : Nat) (self22 : Nat → Int32 → Int32 → Option Int32) (h : PH) (v0 : Nat) (v1 : Int32) (v2 : Int32) : Option Int32 := (gI 6 5 h v0).bind fun x1 => (if x1 ≤ v2 then (b_X6_endOf_68 F h v1 v2) else ((gR 6 4 h v0).bind fun a2 => ((aI 0 h a2 v2).bind fun x3 => ((m_X6_isLetter x3).bind fun x4 => (if x4 = 0 then (b_X6_endOf_68 F h v1 v2) else (bindv (v2 + (1)) fun x5 => (self22 v0 v1 x5)))))))
set_option maxRecDepth 20000 in
theorem tb_X6_endOf_42 {M : MV} {X : XT} {F : Nat} {self22 : Nat → Int32 → Int32 → Option Int32} {h : PH} {r : Int32} {ce sl mc ms : Nat} {v0 : Nat} {v1 : Int32} {v2 : Int32} (hc : Cx M X RX6 cX6_endOf) (hr : Rx M 2 118 mc ms 3) (he : Ex M X (some .int) "endOf" (some (.int r)) h mc ms) (hm : ce ≤ mc) (hs : sl ≤ ms) (ih22 : ∀ (v0 : Nat) (v1 : Int32) (v2 : Int32), self22 v0 v1 v2 = some r → GG M X h ce sl 42 [(0, .ref (X.1 + v0)), (1, .int v1), (2, .int v2)] []) (hf : b_X6_endOf_42 F self22 h v0 v1 v2 = some r) : GG M X h ce sl 42 [(0, .ref (X.1 + v0)), (1, .int v1), (2, .int v2)] [] := by
  unfold b_X6_endOf_42 at hf
  refine r_iload_n hc 2 (dc_at dX6_endOf 22 rfl) rfl ?_
  refine r_aload_n hc 0 (dc_at dX6_endOf 23 rfl) rfl ?_
  refine r_getI hc (dc_at dX6_endOf 24 rfl) fl_X6_30 hf fun x1 hf => ?_
  refine r_icmp_ge (tgt := 68) hc (dc_at dX6_endOf 25 rfl) (by decide) hf (fun hf => ?_) (fun hf => ?_)
  · exact gg_sub [1, 2] rfl (t_X6_endOf_68 hc hr he hm hs  hf)
  · refine r_aload_n hc 0 (dc_at dX6_endOf 26 rfl) rfl ?_
    refine r_getR hc (dc_at dX6_endOf 27 rfl) fl_X6_21 hf fun a2 hf => ?_
    refine r_iload_n hc 2 (dc_at dX6_endOf 28 rfl) rfl ?_
    refine r_iaload hc (dc_at dX6_endOf 29 rfl) hf fun x3 hf => ?_
    refine ob hf fun x4 ex hf => ?_
    refine r_callSi (As := [.int x3]) hc hr (dc_at dX6_endOf 30 rfl) ml_X6_58 mv_X6_isLetter st_X6_isLetter rfl (mt_X6_isLetter ex) (by first | exact Nat.le_of_ble_eq_true rfl | omega) (by first | exact Nat.le_of_ble_eq_true rfl | omega) (by first | exact Nat.le_of_ble_eq_true rfl | omega) hm hs ?_
    refine r_if_eq (tgt := 68) hc (dc_at dX6_endOf 31 rfl) (by decide) hf (fun hf => ?_) (fun hf => ?_)
    · exact gg_sub [1, 2] rfl (t_X6_endOf_68 hc hr he hm hs  hf)
    · refine obv hf fun x5 e_x5 hf => ?_
      refine r_iinc 2 [(2, .int x5), (0, .ref (X.1 + v0)), (1, .int v1)] hc hr (dc_at dX6_endOf 32 rfl) rfl (by rw [e_x5]; rfl) (by decide) rfl ?_
      refine r_goto (tgt := 42) hc (dc_at dX6_endOf 33 rfl) (by decide) ?_
      exact gg_sub [1, 2, 0] rfl (ih22 _ _ _ hf)
def l_X6_endOf_42 (F : Nat) (h : PH) : Nat → Nat → Int32 → Int32 → Option Int32
  | 0 => fun _ _ _ => none
  | n + 1 => fun v0 v1 v2 => b_X6_endOf_42 F (l_X6_endOf_42 F h n) h v0 v1 v2
theorem tl_X6_endOf_42 {M : MV} {X : XT} {F : Nat} {h : PH} {r : Int32} {ce sl mc ms : Nat} (hc : Cx M X RX6 cX6_endOf) (hr : Rx M 2 118 mc ms 3) (he : Ex M X (some .int) "endOf" (some (.int r)) h mc ms) (hm : ce ≤ mc) (hs : sl ≤ ms) (n : Nat) : ∀ (v0 : Nat) (v1 : Int32) (v2 : Int32), l_X6_endOf_42 F h n v0 v1 v2 = some r → GG M X h ce sl 42 [(0, .ref (X.1 + v0)), (1, .int v1), (2, .int v2)] [] := by
  induction n with
  | zero => intro v0 v1 v2 hf; cases hf
  | succ n ih => intro v0 v1 v2 hf; exact tb_X6_endOf_42 (F := F) hc hr he hm hs  ih hf
def b_X6_endOf_0 (F : Nat) (h : PH) (v0 : Nat) (v1 : Int32) : Option Int32 := (gR 6 4 h v0).bind fun a1 => ((aI 0 h a1 v1).bind fun x2 => ((m_X6_isDigit x2).bind fun x3 => (if x3 = 0 then (l_X6_endOf_42 F h F v0 v1 v1) else (l_X6_endOf_14 F h F v0 v1))))
set_option maxRecDepth 20000 in
theorem t_X6_endOf_0 {M : MV} {X : XT} {F : Nat} {h : PH} {r : Int32} {ce sl mc ms : Nat} {v0 : Nat} {v1 : Int32} (hc : Cx M X RX6 cX6_endOf) (hr : Rx M 2 118 mc ms 3) (he : Ex M X (some .int) "endOf" (some (.int r)) h mc ms) (hm : ce ≤ mc) (hs : sl ≤ ms) (hf : b_X6_endOf_0 F h v0 v1 = some r) : GG M X h ce sl 0 [(0, .ref (X.1 + v0)), (1, .int v1)] [] := by
  unfold b_X6_endOf_0 at hf
  refine r_iload_n hc 1 (dc_at dX6_endOf 0 rfl) rfl ?_
  refine r_istore_n [(2, .int v1), (0, .ref (X.1 + v0)), (1, .int v1)] hc hr (dc_at dX6_endOf 1 rfl) (by decide) rfl ?_
  refine r_aload_n hc 1 (dc_at dX6_endOf 2 rfl) rfl ?_
  refine r_getR hc (dc_at dX6_endOf 3 rfl) fl_X6_21 hf fun a1 hf => ?_
  refine r_iload_n hc 2 (dc_at dX6_endOf 4 rfl) rfl ?_
  refine r_iaload hc (dc_at dX6_endOf 5 rfl) hf fun x2 hf => ?_
  refine ob hf fun x3 ex hf => ?_
  refine r_callSi (As := [.int x2]) hc hr (dc_at dX6_endOf 6 rfl) ml_X6_54 mv_X6_isDigit st_X6_isDigit rfl (mt_X6_isDigit ex) (by first | exact Nat.le_of_ble_eq_true rfl | omega) (by first | exact Nat.le_of_ble_eq_true rfl | omega) (by first | exact Nat.le_of_ble_eq_true rfl | omega) hm hs ?_
  refine r_if_eq (tgt := 42) hc (dc_at dX6_endOf 7 rfl) (by decide) hf (fun hf => ?_) (fun hf => ?_)
  · exact gg_sub [1, 2, 0] rfl (tl_X6_endOf_42 hc hr he hm hs  F _ _ _ hf)
  · exact gg_sub [1, 0] rfl (tl_X6_endOf_14 hc hr he hm hs  F _ _ hf)
def m_X6_endOf (F : Nat) (h : PH) (p0 : Nat) (p1 : Int32) : Option Int32 := b_X6_endOf_0 F h p0 p1
theorem mt_X6_endOf {l : Launch} {X : XT} {F : Nat} {h : PH} {p0 : Nat} {p1 : Int32} {r : Int32} (ex : m_X6_endOf F h p0 p1 = some r) : MT l X yX6_endOf cX6_endOf 3 (some .int) 2 118 0 0 [.ref (X.1 + p0), .int p1] h (some (.int r)) h := MT.of (by decide) (Nat.le_of_ble_eq_true rfl) fun M hl hc hr he => by
  subst hl
  exact gg_sub [0, 1] rfl (t_X6_endOf_0  hc hr he (Nat.zero_le _) (Nat.zero_le _) ex)
/-! FractionLift$Tokens.isWord(Ljava/lang/String;II)Z -/
def lX6_isWordL : List (Nat × Instr × Nat × Nat) := [(0, .aload_n 1, 1, 1), (1, .invokevirtual 87, 3, 4), (4, .iload_n 3, 1, 5), (5, .if_icmp .eq 5, 3, 8), (8, .iconst 0, 1, 9), (9, .ireturn, 1, 10), (10, .iconst 0, 1, 11), (11, .istore 4, 2, 13), (13, .iload 4, 2, 15), (15, .iload_n 3, 1, 16), (16, .if_icmp .ge 29, 3, 19), (19, .aload_n 0, 1, 20), (20, .getfield 21, 3, 23), (23, .iload_n 2, 1, 24), (24, .iload 4, 2, 26), (26, .iadd, 1, 27), (27, .iaload, 1, 28), (28, .aload_n 1, 1, 29), (29, .iload 4, 2, 31), (31, .invokevirtual 92, 3, 34), (34, .if_icmp .eq 5, 3, 37), (37, .iconst 0, 1, 38), (38, .ireturn, 1, 39), (39, .iinc 4 1, 3, 42), (42, .goto (-29), 3, 45), (45, .iconst 1, 1, 46), (46, .ireturn, 1, 47)]
set_option maxRecDepth 20000 in
theorem dX6_isWord : dcL cX6_isWord lX6_isWordL = true := by decide +kernel
def b_X6_isWord_13 (F : Nat) (self8 : Nat → Nat → Int32 → Int32 → Int32 → Option Int32) (h : PH) (v0 : Nat) (v1 : Nat) (v2 : Int32) (v3 : Int32) (v4 : Int32) : Option Int32 := if v3 ≤ v4 then (rZP (1 : Int32)) else ((gR 6 4 h v0).bind fun a1 => ((aI 0 h a1 (v2 + v4)).bind fun x2 => ((sChrF v1 v4).bind fun x3 => (if x2 = x3 then (bindv (v4 + (1)) fun x4 => (self8 v0 v1 v2 v3 x4)) else (rZP (0 : Int32))))))
set_option maxRecDepth 20000 in
theorem tb_X6_isWord_13 {M : MV} {X : XT} {F : Nat} {self8 : Nat → Nat → Int32 → Int32 → Int32 → Option Int32} {h : PH} {r : Int32} {ce sl mc ms : Nat} {v0 : Nat} {v1 : Nat} {v2 : Int32} {v3 : Int32} {v4 : Int32} (hc : Cx M X RX6 cX6_isWord) (hr : Rx M 9 522 mc ms 5) (he : Ex M X (some .boolean) "isWord" (some (.int r)) h mc ms) (hm : ce ≤ mc) (hs : sl ≤ ms) (ih8 : ∀ (v0 : Nat) (v1 : Nat) (v2 : Int32) (v3 : Int32) (v4 : Int32), self8 v0 v1 v2 v3 v4 = some r → GG M X h ce sl 13 [(0, .ref (X.1 + v0)), (1, .ref (X.2.2.2.2.1 v1)), (2, .int v2), (3, .int v3), (4, .int v4)] []) (hf : b_X6_isWord_13 F self8 h v0 v1 v2 v3 v4 = some r) : GG M X h ce sl 13 [(0, .ref (X.1 + v0)), (1, .ref (X.2.2.2.2.1 v1)), (2, .int v2), (3, .int v3), (4, .int v4)] [] := by
  unfold b_X6_isWord_13 at hf
  refine r_iload hc 4 (dc_at dX6_isWord 8 rfl) rfl ?_
  refine r_iload_n hc 3 (dc_at dX6_isWord 9 rfl) rfl ?_
  refine r_icmp_ge (tgt := 45) hc (dc_at dX6_isWord 10 rfl) (by decide) hf (fun hf => ?_) (fun hf => ?_)
  · refine r_iconst (1 : Int32) hc (dc_at dX6_isWord 25 rfl) (by decide) ?_
    exact r_zretP hc he (hm) (hs) (dc_at dX6_isWord 26 rfl) hf
  · refine r_aload_n hc 0 (dc_at dX6_isWord 11 rfl) rfl ?_
    refine r_getR hc (dc_at dX6_isWord 12 rfl) fl_X6_21 hf fun a1 hf => ?_
    refine r_iload_n hc 2 (dc_at dX6_isWord 13 rfl) rfl ?_
    refine r_iload hc 4 (dc_at dX6_isWord 14 rfl) rfl ?_
    refine r_iadd hc (dc_at dX6_isWord 15 rfl) ?_
    refine r_iaload hc (dc_at dX6_isWord 16 rfl) hf fun x2 hf => ?_
    refine r_aload_n hc 1 (dc_at dX6_isWord 17 rfl) rfl ?_
    refine r_iload hc 4 (dc_at dX6_isWord 18 rfl) rfl ?_
    refine ob hf fun x3 ex hf => ?_
    refine r_callStr (As := [.int v4]) (sfl_J0_charAt_5068e ex) hc hr (dc_at dX6_isWord 19 rfl) ml_X6_92 mv_J0_charAt_5068e vi_J0_charAt_5068e rfl (mt_J0_charAt_5068e ex) (by first | exact Nat.le_of_ble_eq_true rfl | omega) (by first | exact Nat.le_of_ble_eq_true rfl | omega) (by first | exact Nat.le_of_ble_eq_true rfl | omega) hm hs ?_
    refine r_icmp_eq (tgt := 39) hc (dc_at dX6_isWord 20 rfl) (by decide) hf (fun hf => ?_) (fun hf => ?_)
    · refine obv hf fun x4 e_x4 hf => ?_
      refine r_iinc 4 [(4, .int x4), (0, .ref (X.1 + v0)), (1, .ref (X.2.2.2.2.1 v1)), (2, .int v2), (3, .int v3)] hc hr (dc_at dX6_isWord 23 rfl) rfl (by rw [e_x4]; rfl) (by decide) rfl ?_
      refine r_goto (tgt := 13) hc (dc_at dX6_isWord 24 rfl) (by decide) ?_
      exact gg_sub [1, 2, 3, 4, 0] rfl (ih8 _ _ _ _ _ hf)
    · refine r_iconst (0 : Int32) hc (dc_at dX6_isWord 21 rfl) (by decide) ?_
      exact r_zretP hc he (hm) (hs) (dc_at dX6_isWord 22 rfl) hf
def l_X6_isWord_13 (F : Nat) (h : PH) : Nat → Nat → Nat → Int32 → Int32 → Int32 → Option Int32
  | 0 => fun _ _ _ _ _ => none
  | n + 1 => fun v0 v1 v2 v3 v4 => b_X6_isWord_13 F (l_X6_isWord_13 F h n) h v0 v1 v2 v3 v4
theorem tl_X6_isWord_13 {M : MV} {X : XT} {F : Nat} {h : PH} {r : Int32} {ce sl mc ms : Nat} (hc : Cx M X RX6 cX6_isWord) (hr : Rx M 9 522 mc ms 5) (he : Ex M X (some .boolean) "isWord" (some (.int r)) h mc ms) (hm : ce ≤ mc) (hs : sl ≤ ms) (n : Nat) : ∀ (v0 : Nat) (v1 : Nat) (v2 : Int32) (v3 : Int32) (v4 : Int32), l_X6_isWord_13 F h n v0 v1 v2 v3 v4 = some r → GG M X h ce sl 13 [(0, .ref (X.1 + v0)), (1, .ref (X.2.2.2.2.1 v1)), (2, .int v2), (3, .int v3), (4, .int v4)] [] := by
  induction n with
  | zero => intro v0 v1 v2 v3 v4 hf; cases hf
  | succ n ih => intro v0 v1 v2 v3 v4 hf; exact tb_X6_isWord_13 (F := F) hc hr he hm hs  ih hf
def b_X6_isWord_0 (F : Nat) (h : PH) (v0 : Nat) (v1 : Nat) (v2 : Int32) (v3 : Int32) : Option Int32 := (sLenF v1).bind fun x1 => (if x1 = v3 then (l_X6_isWord_13 F h F v0 v1 v2 v3 (0 : Int32)) else (rZP (0 : Int32)))
set_option maxRecDepth 20000 in
theorem t_X6_isWord_0 {M : MV} {X : XT} {F : Nat} {h : PH} {r : Int32} {ce sl mc ms : Nat} {v0 : Nat} {v1 : Nat} {v2 : Int32} {v3 : Int32} (hc : Cx M X RX6 cX6_isWord) (hr : Rx M 9 522 mc ms 5) (he : Ex M X (some .boolean) "isWord" (some (.int r)) h mc ms) (hm : ce ≤ mc) (hs : sl ≤ ms) (hf : b_X6_isWord_0 F h v0 v1 v2 v3 = some r) : GG M X h ce sl 0 [(0, .ref (X.1 + v0)), (1, .ref (X.2.2.2.2.1 v1)), (2, .int v2), (3, .int v3)] [] := by
  unfold b_X6_isWord_0 at hf
  refine r_aload_n hc 1 (dc_at dX6_isWord 0 rfl) rfl ?_
  refine ob hf fun x1 ex hf => ?_
  refine r_callStr (As := []) (sfl_J0_length_8abf5 ex) hc hr (dc_at dX6_isWord 1 rfl) ml_X6_87 mv_J0_length_8abf5 vi_J0_length_8abf5 rfl (mt_J0_length_8abf5 ex) (by first | exact Nat.le_of_ble_eq_true rfl | omega) (by first | exact Nat.le_of_ble_eq_true rfl | omega) (by first | exact Nat.le_of_ble_eq_true rfl | omega) hm hs ?_
  refine r_iload_n hc 3 (dc_at dX6_isWord 2 rfl) rfl ?_
  refine r_icmp_eq (tgt := 10) hc (dc_at dX6_isWord 3 rfl) (by decide) hf (fun hf => ?_) (fun hf => ?_)
  · refine r_iconst (0 : Int32) hc (dc_at dX6_isWord 6 rfl) (by decide) ?_
    refine r_istore [(4, .int ((0 : Int32))), (0, .ref (X.1 + v0)), (1, .ref (X.2.2.2.2.1 v1)), (2, .int v2), (3, .int v3)] hc hr (dc_at dX6_isWord 7 rfl) (by decide) rfl ?_
    exact gg_sub [1, 2, 3, 4, 0] rfl (tl_X6_isWord_13 hc hr he hm hs  F _ _ _ _ _ hf)
  · refine r_iconst (0 : Int32) hc (dc_at dX6_isWord 4 rfl) (by decide) ?_
    exact r_zretP hc he (hm) (hs) (dc_at dX6_isWord 5 rfl) hf
def m_X6_isWord (F : Nat) (h : PH) (p0 : Nat) (p1 : Nat) (p2 : Int32) (p3 : Int32) : Option Int32 := b_X6_isWord_0 F h p0 p1 p2 p3
theorem mt_X6_isWord {l : Launch} {X : XT} {F : Nat} {h : PH} {p0 : Nat} {p1 : Nat} {p2 : Int32} {p3 : Int32} {r : Int32} (ex : m_X6_isWord F h p0 p1 p2 p3 = some r) : MT l X yX6_isWord cX6_isWord 5 (some .boolean) 9 522 0 0 [.ref (X.1 + p0), .ref (X.2.2.2.2.1 p1), .int p2, .int p3] h (some (.int r)) h := MT.of (by decide) (Nat.le_of_ble_eq_true rfl) fun M hl hc hr he => by
  subst hl
  exact gg_sub [0, 1, 2, 3] rfl (t_X6_isWord_0  hc hr he (Nat.zero_le _) (Nat.zero_le _) ex)
/-! FractionLift$Tokens.wordKind(II)I -/
def lX6_wordKindL : List (Nat × Instr × Nat × Nat) := [(0, .aload_n 0, 1, 1), (1, .ldc 67, 2, 3), (3, .iload_n 1, 1, 4), (4, .iload_n 2, 1, 5), (5, .invokevirtual 69, 3, 8), (8, .ifCond .eq 6, 3, 11), (11, .bipush 11, 2, 13), (13, .ireturn, 1, 14), (14, .aload_n 0, 1, 15), (15, .ldc 73, 2, 17), (17, .iload_n 1, 1, 18), (18, .iload_n 2, 1, 19), (19, .invokevirtual 69, 3, 22), (22, .ifCond .eq 5, 3, 25), (25, .iconst 4, 1, 26), (26, .ireturn, 1, 27), (27, .aload_n 0, 1, 28), (28, .ldc 75, 2, 30), (30, .iload_n 1, 1, 31), (31, .iload_n 2, 1, 32), (32, .invokevirtual 69, 3, 35), (35, .ifCond .eq 5, 3, 38), (38, .iconst 5, 1, 39), (39, .ireturn, 1, 40), (40, .aload_n 0, 1, 41), (41, .ldc 77, 2, 43), (43, .iload_n 1, 1, 44), (44, .iload_n 2, 1, 45), (45, .invokevirtual 69, 3, 48), (48, .ifCond .eq 6, 3, 51), (51, .bipush 6, 2, 53), (53, .ireturn, 1, 54), (54, .aload_n 0, 1, 55), (55, .ldc 79, 2, 57), (57, .iload_n 1, 1, 58), (58, .iload_n 2, 1, 59), (59, .invokevirtual 69, 3, 62), (62, .ifCond .eq 6, 3, 65), (65, .bipush 10, 2, 67), (67, .ireturn, 1, 68), (68, .aload_n 0, 1, 69), (69, .ldc 81, 2, 71), (71, .iload_n 1, 1, 72), (72, .iload_n 2, 1, 73), (73, .invokevirtual 69, 3, 76), (76, .ifCond .eq 6, 3, 79), (79, .bipush 7, 2, 81), (81, .ireturn, 1, 82), (82, .aload_n 0, 1, 83), (83, .ldc 83, 2, 85), (85, .iload_n 1, 1, 86), (86, .iload_n 2, 1, 87), (87, .invokevirtual 69, 3, 90), (90, .ifCond .eq 6, 3, 93), (93, .bipush 8, 2, 95), (95, .ireturn, 1, 96), (96, .aload_n 0, 1, 97), (97, .ldc 85, 2, 99), (99, .iload_n 1, 1, 100), (100, .iload_n 2, 1, 101), (101, .invokevirtual 69, 3, 104), (104, .ifCond .eq 8, 3, 107), (107, .bipush 9, 2, 109), (109, .goto 4, 3, 112), (112, .iconst 3, 1, 113), (113, .ireturn, 1, 114)]
set_option maxRecDepth 20000 in
theorem dX6_wordKind : dcL cX6_wordKind lX6_wordKindL = true := by decide +kernel
def b_X6_wordKind_0 (F : Nat) (h : PH) (v0 : Nat) (v1 : Int32) (v2 : Int32) : Option Int32 := cO 6 h v0 ((m_X6_isWord F h v0 0 v1 v2).bind fun x1 => (if x1 = 0 then (cO 6 h v0 ((m_X6_isWord F h v0 1 v1 v2).bind fun x2 => (if x2 = 0 then (cO 6 h v0 ((m_X6_isWord F h v0 2 v1 v2).bind fun x3 => (if x3 = 0 then (cO 6 h v0 ((m_X6_isWord F h v0 3 v1 v2).bind fun x4 => (if x4 = 0 then (cO 6 h v0 ((m_X6_isWord F h v0 4 v1 v2).bind fun x5 => (if x5 = 0 then (cO 6 h v0 ((m_X6_isWord F h v0 5 v1 v2).bind fun x6 => (if x6 = 0 then (cO 6 h v0 ((m_X6_isWord F h v0 6 v1 v2).bind fun x7 => (if x7 = 0 then (cO 6 h v0 ((m_X6_isWord F h v0 7 v1 v2).bind fun x8 => (if x8 = 0 then (some (3 : Int32)) else (some (9 : Int32))))) else (some (8 : Int32))))) else (some (7 : Int32))))) else (some (10 : Int32))))) else (some (6 : Int32))))) else (some (5 : Int32))))) else (some (4 : Int32))))) else (some (11 : Int32))))
set_option maxRecDepth 20000 in
theorem t_X6_wordKind_0 {M : MV} {X : XT} {F : Nat} {h : PH} {r : Int32} {ce sl mc ms : Nat} {v0 : Nat} {v1 : Int32} {v2 : Int32} (hc : Cx M X RX6 cX6_wordKind) (hr : Rx M 10 580 mc ms 3) (he : Ex M X (some .int) "wordKind" (some (.int r)) h mc ms) (hm : ce ≤ mc) (hs : sl ≤ ms) (hf : b_X6_wordKind_0 F h v0 v1 v2 = some r) : GG M X h ce sl 0 [(0, .ref (X.1 + v0)), (1, .int v1), (2, .int v2)] [] := by
  unfold b_X6_wordKind_0 at hf
  refine r_aload_n hc 0 (dc_at dX6_wordKind 0 rfl) rfl ?_
  refine r_ldcS 0 hc (dc_at dX6_wordKind 1 rfl) (by decide) (by decide) (by decide) ?_
  refine r_iload_n hc 1 (dc_at dX6_wordKind 2 rfl) rfl ?_
  refine r_iload_n hc 2 (dc_at dX6_wordKind 3 rfl) rfl ?_
  obtain ⟨ho, hf⟩ := cO_some hf
  refine ob hf fun x1 ex hf => ?_
  refine r_callVi (As := [.ref (X.2.2.2.2.1 0), .int v1, .int v2]) (ci := 6) hc hr (dc_at dX6_wordKind 4 rfl) ml_X6_69 mv_X6_isWord vi_X6_isWord rfl ho rfl (mt_X6_isWord ex) (by first | exact Nat.le_of_ble_eq_true rfl | omega) (by first | exact Nat.le_of_ble_eq_true rfl | omega) (by first | exact Nat.le_of_ble_eq_true rfl | omega) hm hs ?_
  refine r_if_eq (tgt := 14) hc (dc_at dX6_wordKind 5 rfl) (by decide) hf (fun hf => ?_) (fun hf => ?_)
  · refine r_aload_n hc 0 (dc_at dX6_wordKind 8 rfl) rfl ?_
    refine r_ldcS 1 hc (dc_at dX6_wordKind 9 rfl) (by decide) (by decide) (by decide) ?_
    refine r_iload_n hc 1 (dc_at dX6_wordKind 10 rfl) rfl ?_
    refine r_iload_n hc 2 (dc_at dX6_wordKind 11 rfl) rfl ?_
    obtain ⟨ho, hf⟩ := cO_some hf
    refine ob hf fun x2 ex hf => ?_
    refine r_callVi (As := [.ref (X.2.2.2.2.1 1), .int v1, .int v2]) (ci := 6) hc hr (dc_at dX6_wordKind 12 rfl) ml_X6_69 mv_X6_isWord vi_X6_isWord rfl ho rfl (mt_X6_isWord ex) (by first | exact Nat.le_of_ble_eq_true rfl | omega) (by first | exact Nat.le_of_ble_eq_true rfl | omega) (by first | exact Nat.le_of_ble_eq_true rfl | omega) hm hs ?_
    refine r_if_eq (tgt := 27) hc (dc_at dX6_wordKind 13 rfl) (by decide) hf (fun hf => ?_) (fun hf => ?_)
    · refine r_aload_n hc 0 (dc_at dX6_wordKind 16 rfl) rfl ?_
      refine r_ldcS 2 hc (dc_at dX6_wordKind 17 rfl) (by decide) (by decide) (by decide) ?_
      refine r_iload_n hc 1 (dc_at dX6_wordKind 18 rfl) rfl ?_
      refine r_iload_n hc 2 (dc_at dX6_wordKind 19 rfl) rfl ?_
      obtain ⟨ho, hf⟩ := cO_some hf
      refine ob hf fun x3 ex hf => ?_
      refine r_callVi (As := [.ref (X.2.2.2.2.1 2), .int v1, .int v2]) (ci := 6) hc hr (dc_at dX6_wordKind 20 rfl) ml_X6_69 mv_X6_isWord vi_X6_isWord rfl ho rfl (mt_X6_isWord ex) (by first | exact Nat.le_of_ble_eq_true rfl | omega) (by first | exact Nat.le_of_ble_eq_true rfl | omega) (by first | exact Nat.le_of_ble_eq_true rfl | omega) hm hs ?_
      refine r_if_eq (tgt := 40) hc (dc_at dX6_wordKind 21 rfl) (by decide) hf (fun hf => ?_) (fun hf => ?_)
      · refine r_aload_n hc 0 (dc_at dX6_wordKind 24 rfl) rfl ?_
        refine r_ldcS 3 hc (dc_at dX6_wordKind 25 rfl) (by decide) (by decide) (by decide) ?_
        refine r_iload_n hc 1 (dc_at dX6_wordKind 26 rfl) rfl ?_
        refine r_iload_n hc 2 (dc_at dX6_wordKind 27 rfl) rfl ?_
        obtain ⟨ho, hf⟩ := cO_some hf
        refine ob hf fun x4 ex hf => ?_
        refine r_callVi (As := [.ref (X.2.2.2.2.1 3), .int v1, .int v2]) (ci := 6) hc hr (dc_at dX6_wordKind 28 rfl) ml_X6_69 mv_X6_isWord vi_X6_isWord rfl ho rfl (mt_X6_isWord ex) (by first | exact Nat.le_of_ble_eq_true rfl | omega) (by first | exact Nat.le_of_ble_eq_true rfl | omega) (by first | exact Nat.le_of_ble_eq_true rfl | omega) hm hs ?_
        refine r_if_eq (tgt := 54) hc (dc_at dX6_wordKind 29 rfl) (by decide) hf (fun hf => ?_) (fun hf => ?_)
        · refine r_aload_n hc 0 (dc_at dX6_wordKind 32 rfl) rfl ?_
          refine r_ldcS 4 hc (dc_at dX6_wordKind 33 rfl) (by decide) (by decide) (by decide) ?_
          refine r_iload_n hc 1 (dc_at dX6_wordKind 34 rfl) rfl ?_
          refine r_iload_n hc 2 (dc_at dX6_wordKind 35 rfl) rfl ?_
          obtain ⟨ho, hf⟩ := cO_some hf
          refine ob hf fun x5 ex hf => ?_
          refine r_callVi (As := [.ref (X.2.2.2.2.1 4), .int v1, .int v2]) (ci := 6) hc hr (dc_at dX6_wordKind 36 rfl) ml_X6_69 mv_X6_isWord vi_X6_isWord rfl ho rfl (mt_X6_isWord ex) (by first | exact Nat.le_of_ble_eq_true rfl | omega) (by first | exact Nat.le_of_ble_eq_true rfl | omega) (by first | exact Nat.le_of_ble_eq_true rfl | omega) hm hs ?_
          refine r_if_eq (tgt := 68) hc (dc_at dX6_wordKind 37 rfl) (by decide) hf (fun hf => ?_) (fun hf => ?_)
          · refine r_aload_n hc 0 (dc_at dX6_wordKind 40 rfl) rfl ?_
            refine r_ldcS 5 hc (dc_at dX6_wordKind 41 rfl) (by decide) (by decide) (by decide) ?_
            refine r_iload_n hc 1 (dc_at dX6_wordKind 42 rfl) rfl ?_
            refine r_iload_n hc 2 (dc_at dX6_wordKind 43 rfl) rfl ?_
            obtain ⟨ho, hf⟩ := cO_some hf
            refine ob hf fun x6 ex hf => ?_
            refine r_callVi (As := [.ref (X.2.2.2.2.1 5), .int v1, .int v2]) (ci := 6) hc hr (dc_at dX6_wordKind 44 rfl) ml_X6_69 mv_X6_isWord vi_X6_isWord rfl ho rfl (mt_X6_isWord ex) (by first | exact Nat.le_of_ble_eq_true rfl | omega) (by first | exact Nat.le_of_ble_eq_true rfl | omega) (by first | exact Nat.le_of_ble_eq_true rfl | omega) hm hs ?_
            refine r_if_eq (tgt := 82) hc (dc_at dX6_wordKind 45 rfl) (by decide) hf (fun hf => ?_) (fun hf => ?_)
            · refine r_aload_n hc 0 (dc_at dX6_wordKind 48 rfl) rfl ?_
              refine r_ldcS 6 hc (dc_at dX6_wordKind 49 rfl) (by decide) (by decide) (by decide) ?_
              refine r_iload_n hc 1 (dc_at dX6_wordKind 50 rfl) rfl ?_
              refine r_iload_n hc 2 (dc_at dX6_wordKind 51 rfl) rfl ?_
              obtain ⟨ho, hf⟩ := cO_some hf
              refine ob hf fun x7 ex hf => ?_
              refine r_callVi (As := [.ref (X.2.2.2.2.1 6), .int v1, .int v2]) (ci := 6) hc hr (dc_at dX6_wordKind 52 rfl) ml_X6_69 mv_X6_isWord vi_X6_isWord rfl ho rfl (mt_X6_isWord ex) (by first | exact Nat.le_of_ble_eq_true rfl | omega) (by first | exact Nat.le_of_ble_eq_true rfl | omega) (by first | exact Nat.le_of_ble_eq_true rfl | omega) hm hs ?_
              refine r_if_eq (tgt := 96) hc (dc_at dX6_wordKind 53 rfl) (by decide) hf (fun hf => ?_) (fun hf => ?_)
              · refine r_aload_n hc 0 (dc_at dX6_wordKind 56 rfl) rfl ?_
                refine r_ldcS 7 hc (dc_at dX6_wordKind 57 rfl) (by decide) (by decide) (by decide) ?_
                refine r_iload_n hc 1 (dc_at dX6_wordKind 58 rfl) rfl ?_
                refine r_iload_n hc 2 (dc_at dX6_wordKind 59 rfl) rfl ?_
                obtain ⟨ho, hf⟩ := cO_some hf
                refine ob hf fun x8 ex hf => ?_
                refine r_callVi (As := [.ref (X.2.2.2.2.1 7), .int v1, .int v2]) (ci := 6) hc hr (dc_at dX6_wordKind 60 rfl) ml_X6_69 mv_X6_isWord vi_X6_isWord rfl ho rfl (mt_X6_isWord ex) (by first | exact Nat.le_of_ble_eq_true rfl | omega) (by first | exact Nat.le_of_ble_eq_true rfl | omega) (by first | exact Nat.le_of_ble_eq_true rfl | omega) hm hs ?_
                refine r_if_eq (tgt := 112) hc (dc_at dX6_wordKind 61 rfl) (by decide) hf (fun hf => ?_) (fun hf => ?_)
                · refine r_iconst (3 : Int32) hc (dc_at dX6_wordKind 64 rfl) (by decide) ?_
                  exact r_iretP hc he (hm) (hs) (dc_at dX6_wordKind 65 rfl) hf
                · refine r_bipush (9 : Int32) hc (dc_at dX6_wordKind 62 rfl) (by decide) ?_
                  refine r_goto (tgt := 113) hc (dc_at dX6_wordKind 63 rfl) (by decide) ?_
                  exact r_iretP hc he (hm) (hs) (dc_at dX6_wordKind 65 rfl) hf
              · refine r_bipush (8 : Int32) hc (dc_at dX6_wordKind 54 rfl) (by decide) ?_
                exact r_iretP hc he (hm) (hs) (dc_at dX6_wordKind 55 rfl) hf
            · refine r_bipush (7 : Int32) hc (dc_at dX6_wordKind 46 rfl) (by decide) ?_
              exact r_iretP hc he (hm) (hs) (dc_at dX6_wordKind 47 rfl) hf
          · refine r_bipush (10 : Int32) hc (dc_at dX6_wordKind 38 rfl) (by decide) ?_
            exact r_iretP hc he (hm) (hs) (dc_at dX6_wordKind 39 rfl) hf
        · refine r_bipush (6 : Int32) hc (dc_at dX6_wordKind 30 rfl) (by decide) ?_
          exact r_iretP hc he (hm) (hs) (dc_at dX6_wordKind 31 rfl) hf
      · refine r_iconst (5 : Int32) hc (dc_at dX6_wordKind 22 rfl) (by decide) ?_
        exact r_iretP hc he (hm) (hs) (dc_at dX6_wordKind 23 rfl) hf
    · refine r_iconst (4 : Int32) hc (dc_at dX6_wordKind 14 rfl) (by decide) ?_
      exact r_iretP hc he (hm) (hs) (dc_at dX6_wordKind 15 rfl) hf
  · refine r_bipush (11 : Int32) hc (dc_at dX6_wordKind 6 rfl) (by decide) ?_
    exact r_iretP hc he (hm) (hs) (dc_at dX6_wordKind 7 rfl) hf
def m_X6_wordKind (F : Nat) (h : PH) (p0 : Nat) (p1 : Int32) (p2 : Int32) : Option Int32 := b_X6_wordKind_0 F h p0 p1 p2
theorem mt_X6_wordKind {l : Launch} {X : XT} {F : Nat} {h : PH} {p0 : Nat} {p1 : Int32} {p2 : Int32} {r : Int32} (ex : m_X6_wordKind F h p0 p1 p2 = some r) : MT l X yX6_wordKind cX6_wordKind 3 (some .int) 10 580 0 0 [.ref (X.1 + p0), .int p1, .int p2] h (some (.int r)) h := MT.of (by decide) (Nat.le_of_ble_eq_true rfl) fun M hl hc hr he => by
  subst hl
  exact gg_sub [0, 1, 2] rfl (t_X6_wordKind_0  hc hr he (Nat.zero_le _) (Nat.zero_le _) ex)
/-! FractionLift$Tokens.isSign(I)Z -/
def lX6_isSignL : List (Nat × Instr × Nat × Nat) := [(0, .iload_n 0, 1, 1), (1, .bipush 40, 2, 3), (3, .if_icmp .lt 9, 3, 6), (6, .iload_n 0, 1, 7), (7, .bipush 43, 2, 9), (9, .if_icmp .le 27, 3, 12), (12, .iload_n 0, 1, 13), (13, .bipush 45, 2, 15), (15, .if_icmp .eq 21, 3, 18), (18, .iload_n 0, 1, 19), (19, .bipush 47, 2, 21), (21, .if_icmp .eq 15, 3, 24), (24, .iload_n 0, 1, 25), (25, .bipush 58, 2, 27), (27, .if_icmp .eq 9, 3, 30), (30, .iload_n 0, 1, 31), (31, .bipush 59, 2, 33), (33, .if_icmp .ne 7, 3, 36), (36, .iconst 1, 1, 37), (37, .goto 4, 3, 40), (40, .iconst 0, 1, 41), (41, .ireturn, 1, 42)]
set_option maxRecDepth 20000 in
theorem dX6_isSign : dcL cX6_isSign lX6_isSignL = true := by decide +kernel
def b_X6_isSign_12 (v0 : Int32) : Option Int32 := if v0 = (45 : Int32) then (rZP (1 : Int32)) else (if v0 = (47 : Int32) then (rZP (1 : Int32)) else (if v0 = (58 : Int32) then (rZP (1 : Int32)) else (if v0 = (59 : Int32) then (rZP (1 : Int32)) else (rZP (0 : Int32)))))
set_option maxRecDepth 20000 in
theorem t_X6_isSign_12 {M : MV} {X : XT} {h : PH} {r : Int32} {ce sl mc ms : Nat} {v0 : Int32} (hc : Cx M X RX6 cX6_isSign) (hr : Rx M 1 60 mc ms 1) (he : Ex M X (some .boolean) "isSign" (some (.int r)) h mc ms) (hm : ce ≤ mc) (hs : sl ≤ ms) (hf : b_X6_isSign_12 v0 = some r) : GG M X h ce sl 12 [(0, .int v0)] [] := by
  unfold b_X6_isSign_12 at hf
  refine r_iload_n hc 0 (dc_at dX6_isSign 6 rfl) rfl ?_
  refine r_bipush (45 : Int32) hc (dc_at dX6_isSign 7 rfl) (by decide) ?_
  refine r_icmp_eq (tgt := 36) hc (dc_at dX6_isSign 8 rfl) (by decide) hf (fun hf => ?_) (fun hf => ?_)
  · refine r_iconst (1 : Int32) hc (dc_at dX6_isSign 18 rfl) (by decide) ?_
    refine r_goto (tgt := 41) hc (dc_at dX6_isSign 19 rfl) (by decide) ?_
    exact r_zretP hc he (hm) (hs) (dc_at dX6_isSign 21 rfl) hf
  · refine r_iload_n hc 0 (dc_at dX6_isSign 9 rfl) rfl ?_
    refine r_bipush (47 : Int32) hc (dc_at dX6_isSign 10 rfl) (by decide) ?_
    refine r_icmp_eq (tgt := 36) hc (dc_at dX6_isSign 11 rfl) (by decide) hf (fun hf => ?_) (fun hf => ?_)
    · refine r_iconst (1 : Int32) hc (dc_at dX6_isSign 18 rfl) (by decide) ?_
      refine r_goto (tgt := 41) hc (dc_at dX6_isSign 19 rfl) (by decide) ?_
      exact r_zretP hc he (hm) (hs) (dc_at dX6_isSign 21 rfl) hf
    · refine r_iload_n hc 0 (dc_at dX6_isSign 12 rfl) rfl ?_
      refine r_bipush (58 : Int32) hc (dc_at dX6_isSign 13 rfl) (by decide) ?_
      refine r_icmp_eq (tgt := 36) hc (dc_at dX6_isSign 14 rfl) (by decide) hf (fun hf => ?_) (fun hf => ?_)
      · refine r_iconst (1 : Int32) hc (dc_at dX6_isSign 18 rfl) (by decide) ?_
        refine r_goto (tgt := 41) hc (dc_at dX6_isSign 19 rfl) (by decide) ?_
        exact r_zretP hc he (hm) (hs) (dc_at dX6_isSign 21 rfl) hf
      · refine r_iload_n hc 0 (dc_at dX6_isSign 15 rfl) rfl ?_
        refine r_bipush (59 : Int32) hc (dc_at dX6_isSign 16 rfl) (by decide) ?_
        refine r_icmp_ne (tgt := 40) hc (dc_at dX6_isSign 17 rfl) (by decide) hf (fun hf => ?_) (fun hf => ?_)
        · refine r_iconst (0 : Int32) hc (dc_at dX6_isSign 20 rfl) (by decide) ?_
          exact r_zretP hc he (hm) (hs) (dc_at dX6_isSign 21 rfl) hf
        · refine r_iconst (1 : Int32) hc (dc_at dX6_isSign 18 rfl) (by decide) ?_
          refine r_goto (tgt := 41) hc (dc_at dX6_isSign 19 rfl) (by decide) ?_
          exact r_zretP hc he (hm) (hs) (dc_at dX6_isSign 21 rfl) hf
def b_X6_isSign_0 (v0 : Int32) : Option Int32 := if v0 < (40 : Int32) then (b_X6_isSign_12 v0) else (if v0 ≤ (43 : Int32) then (rZP (1 : Int32)) else (b_X6_isSign_12 v0))
set_option maxRecDepth 20000 in
theorem t_X6_isSign_0 {M : MV} {X : XT} {h : PH} {r : Int32} {ce sl mc ms : Nat} {v0 : Int32} (hc : Cx M X RX6 cX6_isSign) (hr : Rx M 1 60 mc ms 1) (he : Ex M X (some .boolean) "isSign" (some (.int r)) h mc ms) (hm : ce ≤ mc) (hs : sl ≤ ms) (hf : b_X6_isSign_0 v0 = some r) : GG M X h ce sl 0 [(0, .int v0)] [] := by
  unfold b_X6_isSign_0 at hf
  refine r_iload_n hc 0 (dc_at dX6_isSign 0 rfl) rfl ?_
  refine r_bipush (40 : Int32) hc (dc_at dX6_isSign 1 rfl) (by decide) ?_
  refine r_icmp_lt (tgt := 12) hc (dc_at dX6_isSign 2 rfl) (by decide) hf (fun hf => ?_) (fun hf => ?_)
  · exact gg_sub [0] rfl (t_X6_isSign_12 hc hr he hm hs  hf)
  · refine r_iload_n hc 0 (dc_at dX6_isSign 3 rfl) rfl ?_
    refine r_bipush (43 : Int32) hc (dc_at dX6_isSign 4 rfl) (by decide) ?_
    refine r_icmp_le (tgt := 36) hc (dc_at dX6_isSign 5 rfl) (by decide) hf (fun hf => ?_) (fun hf => ?_)
    · refine r_iconst (1 : Int32) hc (dc_at dX6_isSign 18 rfl) (by decide) ?_
      refine r_goto (tgt := 41) hc (dc_at dX6_isSign 19 rfl) (by decide) ?_
      exact r_zretP hc he (hm) (hs) (dc_at dX6_isSign 21 rfl) hf
    · exact gg_sub [0] rfl (t_X6_isSign_12 hc hr he hm hs  hf)
def m_X6_isSign (p0 : Int32) : Option Int32 := b_X6_isSign_0 p0
theorem mt_X6_isSign {l : Launch} {X : XT} {h : PH} {p0 : Int32} {r : Int32} (ex : m_X6_isSign p0 = some r) : MT l X yX6_isSign cX6_isSign 1 (some .boolean) 1 60 0 0 [.int p0] h (some (.int r)) h := MT.of (by decide) (Nat.le_of_ble_eq_true rfl) fun M hl hc hr he => by
  subst hl
  exact gg_sub [0] rfl (t_X6_isSign_0  hc hr he (Nat.zero_le _) (Nat.zero_le _) ex)
/-! FractionLift$Tokens.kindOf(II)I -/
def lX6_kindOfL : List (Nat × Instr × Nat × Nat) := [(0, .aload_n 0, 1, 1), (1, .getfield 21, 3, 4), (4, .iload_n 1, 1, 5), (5, .iaload, 1, 6), (6, .istore_n 3, 1, 7), (7, .iload_n 3, 1, 8), (8, .invokestatic 54, 3, 11), (11, .ifCond .eq 16, 3, 14), (14, .iload_n 2, 1, 15), (15, .iload_n 1, 1, 16), (16, .isub, 1, 17), (17, .iconst 3, 1, 18), (18, .if_icmp .le 7, 3, 21), (21, .iconst 0, 1, 22), (22, .goto 4, 3, 25), (25, .iconst 2, 1, 26), (26, .ireturn, 1, 27), (27, .iload_n 3, 1, 28), (28, .invokestatic 58, 3, 31), (31, .ifCond .eq 12, 3, 34), (34, .aload_n 0, 1, 35), (35, .iload_n 1, 1, 36), (36, .iload_n 2, 1, 37), (37, .iload_n 1, 1, 38), (38, .isub, 1, 39), (39, .invokevirtual 61, 3, 42), (42, .ireturn, 1, 43), (43, .iload_n 3, 1, 44), (44, .invokestatic 64, 3, 47), (47, .ifCond .eq 7, 3, 50), (50, .iload_n 3, 1, 51), (51, .goto 4, 3, 54), (54, .iconst 0, 1, 55), (55, .ireturn, 1, 56)]
set_option maxRecDepth 20000 in
theorem dX6_kindOf : dcL cX6_kindOf lX6_kindOfL = true := by decide +kernel
def b_X6_kindOf_0 (F : Nat) (h : PH) (v0 : Nat) (v1 : Int32) (v2 : Int32) : Option Int32 := (gR 6 4 h v0).bind fun a1 => ((aI 0 h a1 v1).bind fun x2 => ((m_X6_isDigit x2).bind fun x3 => (if x3 = 0 then ((m_X6_isLetter x2).bind fun x4 => (if x4 = 0 then ((m_X6_isSign x2).bind fun x5 => (if x5 = 0 then (some (0 : Int32)) else (some x2))) else (cO 6 h v0 ((m_X6_wordKind F h v0 v1 (v2 - v1)).bind fun x6 => (some x6))))) else (if (v2 - v1) ≤ (3 : Int32) then (some (2 : Int32)) else (some (0 : Int32))))))
set_option maxRecDepth 20000 in
theorem t_X6_kindOf_0 {M : MV} {X : XT} {F : Nat} {h : PH} {r : Int32} {ce sl mc ms : Nat} {v0 : Nat} {v1 : Int32} {v2 : Int32} (hc : Cx M X RX6 cX6_kindOf) (hr : Rx M 11 638 mc ms 4) (he : Ex M X (some .int) "kindOf" (some (.int r)) h mc ms) (hm : ce ≤ mc) (hs : sl ≤ ms) (hf : b_X6_kindOf_0 F h v0 v1 v2 = some r) : GG M X h ce sl 0 [(0, .ref (X.1 + v0)), (1, .int v1), (2, .int v2)] [] := by
  unfold b_X6_kindOf_0 at hf
  refine r_aload_n hc 0 (dc_at dX6_kindOf 0 rfl) rfl ?_
  refine r_getR hc (dc_at dX6_kindOf 1 rfl) fl_X6_21 hf fun a1 hf => ?_
  refine r_iload_n hc 1 (dc_at dX6_kindOf 2 rfl) rfl ?_
  refine r_iaload hc (dc_at dX6_kindOf 3 rfl) hf fun x2 hf => ?_
  refine r_istore_n [(3, .int x2), (0, .ref (X.1 + v0)), (1, .int v1), (2, .int v2)] hc hr (dc_at dX6_kindOf 4 rfl) (by decide) rfl ?_
  refine r_iload_n hc 0 (dc_at dX6_kindOf 5 rfl) rfl ?_
  refine ob hf fun x3 ex hf => ?_
  refine r_callSi (As := [.int x2]) hc hr (dc_at dX6_kindOf 6 rfl) ml_X6_54 mv_X6_isDigit st_X6_isDigit rfl (mt_X6_isDigit ex) (by first | exact Nat.le_of_ble_eq_true rfl | omega) (by first | exact Nat.le_of_ble_eq_true rfl | omega) (by first | exact Nat.le_of_ble_eq_true rfl | omega) hm hs ?_
  refine r_if_eq (tgt := 27) hc (dc_at dX6_kindOf 7 rfl) (by decide) hf (fun hf => ?_) (fun hf => ?_)
  · refine r_iload_n hc 0 (dc_at dX6_kindOf 17 rfl) rfl ?_
    refine ob hf fun x4 ex hf => ?_
    refine r_callSi (As := [.int x2]) hc hr (dc_at dX6_kindOf 18 rfl) ml_X6_58 mv_X6_isLetter st_X6_isLetter rfl (mt_X6_isLetter ex) (by first | exact Nat.le_of_ble_eq_true rfl | omega) (by first | exact Nat.le_of_ble_eq_true rfl | omega) (by first | exact Nat.le_of_ble_eq_true rfl | omega) hm hs ?_
    refine r_if_eq (tgt := 43) hc (dc_at dX6_kindOf 19 rfl) (by decide) hf (fun hf => ?_) (fun hf => ?_)
    · refine r_iload_n hc 0 (dc_at dX6_kindOf 27 rfl) rfl ?_
      refine ob hf fun x5 ex hf => ?_
      refine r_callSi (As := [.int x2]) hc hr (dc_at dX6_kindOf 28 rfl) ml_X6_64 mv_X6_isSign st_X6_isSign rfl (mt_X6_isSign ex) (by first | exact Nat.le_of_ble_eq_true rfl | omega) (by first | exact Nat.le_of_ble_eq_true rfl | omega) (by first | exact Nat.le_of_ble_eq_true rfl | omega) hm hs ?_
      refine r_if_eq (tgt := 54) hc (dc_at dX6_kindOf 29 rfl) (by decide) hf (fun hf => ?_) (fun hf => ?_)
      · refine r_iconst (0 : Int32) hc (dc_at dX6_kindOf 32 rfl) (by decide) ?_
        exact r_iretP hc he (hm) (hs) (dc_at dX6_kindOf 33 rfl) hf
      · refine r_iload_n hc 0 (dc_at dX6_kindOf 30 rfl) rfl ?_
        refine r_goto (tgt := 55) hc (dc_at dX6_kindOf 31 rfl) (by decide) ?_
        exact r_iretP hc he (hm) (hs) (dc_at dX6_kindOf 33 rfl) hf
    · refine r_aload_n hc 1 (dc_at dX6_kindOf 20 rfl) rfl ?_
      refine r_iload_n hc 2 (dc_at dX6_kindOf 21 rfl) rfl ?_
      refine r_iload_n hc 3 (dc_at dX6_kindOf 22 rfl) rfl ?_
      refine r_iload_n hc 2 (dc_at dX6_kindOf 23 rfl) rfl ?_
      refine r_isub hc (dc_at dX6_kindOf 24 rfl) ?_
      obtain ⟨ho, hf⟩ := cO_some hf
      refine ob hf fun x6 ex hf => ?_
      refine r_callVi (As := [.int v1, .int ((v2 - v1))]) (ci := 6) hc hr (dc_at dX6_kindOf 25 rfl) ml_X6_61 mv_X6_wordKind vi_X6_wordKind rfl ho rfl (mt_X6_wordKind ex) (by first | exact Nat.le_of_ble_eq_true rfl | omega) (by first | exact Nat.le_of_ble_eq_true rfl | omega) (by first | exact Nat.le_of_ble_eq_true rfl | omega) hm hs ?_
      exact r_iretP hc he (hm) (hs) (dc_at dX6_kindOf 26 rfl) hf
  · refine r_iload_n hc 3 (dc_at dX6_kindOf 8 rfl) rfl ?_
    refine r_iload_n hc 2 (dc_at dX6_kindOf 9 rfl) rfl ?_
    refine r_isub hc (dc_at dX6_kindOf 10 rfl) ?_
    refine r_iconst (3 : Int32) hc (dc_at dX6_kindOf 11 rfl) (by decide) ?_
    refine r_icmp_le (tgt := 25) hc (dc_at dX6_kindOf 12 rfl) (by decide) hf (fun hf => ?_) (fun hf => ?_)
    · refine r_iconst (2 : Int32) hc (dc_at dX6_kindOf 15 rfl) (by decide) ?_
      exact r_iretP hc he (hm) (hs) (dc_at dX6_kindOf 16 rfl) hf
    · refine r_iconst (0 : Int32) hc (dc_at dX6_kindOf 13 rfl) (by decide) ?_
      refine r_goto (tgt := 26) hc (dc_at dX6_kindOf 14 rfl) (by decide) ?_
      exact r_iretP hc he (hm) (hs) (dc_at dX6_kindOf 16 rfl) hf
def m_X6_kindOf (F : Nat) (h : PH) (p0 : Nat) (p1 : Int32) (p2 : Int32) : Option Int32 := b_X6_kindOf_0 F h p0 p1 p2
theorem mt_X6_kindOf {l : Launch} {X : XT} {F : Nat} {h : PH} {p0 : Nat} {p1 : Int32} {p2 : Int32} {r : Int32} (ex : m_X6_kindOf F h p0 p1 p2 = some r) : MT l X yX6_kindOf cX6_kindOf 4 (some .int) 11 638 0 0 [.ref (X.1 + p0), .int p1, .int p2] h (some (.int r)) h := MT.of (by decide) (Nat.le_of_ble_eq_true rfl) fun M hl hc hr he => by
  subst hl
  exact gg_sub [0, 1, 2] rfl (t_X6_kindOf_0  hc hr he (Nat.zero_le _) (Nat.zero_le _) ex)
/-! FractionLift$Tokens.amountOf(II)I -/
def lX6_amountOfL : List (Nat × Instr × Nat × Nat) := [(0, .iconst 0, 1, 1), (1, .istore_n 3, 1, 2), (2, .iload_n 1, 1, 3), (3, .istore 4, 2, 5), (5, .iload 4, 2, 7), (7, .iload_n 2, 1, 8), (8, .if_icmp .ge 25, 3, 11), (11, .iload_n 3, 1, 12), (12, .bipush 10, 2, 14), (14, .imul, 1, 15), (15, .aload_n 0, 1, 16), (16, .getfield 21, 3, 19), (19, .iload 4, 2, 21), (21, .iaload, 1, 22), (22, .iadd, 1, 23), (23, .bipush 48, 2, 25), (25, .isub, 1, 26), (26, .istore_n 3, 1, 27), (27, .iinc 4 1, 3, 30), (30, .goto (-25), 3, 33), (33, .iload_n 3, 1, 34), (34, .ireturn, 1, 35)]
set_option maxRecDepth 20000 in
theorem dX6_amountOf : dcL cX6_amountOf lX6_amountOfL = true := by decide +kernel
def b_X6_amountOf_5 (F : Nat) (self4 : Nat → Int32 → Int32 → Int32 → Option Int32) (h : PH) (v0 : Nat) (v2 : Int32) (v3 : Int32) (v4 : Int32) : Option Int32 := if v2 ≤ v4 then (some v3) else ((gR 6 4 h v0).bind fun a1 => ((aI 0 h a1 v4).bind fun x2 => (bindv ((((((v3 * (10 : Int32))) + x2)) - (48 : Int32))) fun x3 => (bindv (v4 + (1)) fun x4 => (self4 v0 v2 x3 x4)))))
set_option maxRecDepth 20000 in
theorem tb_X6_amountOf_5 {M : MV} {X : XT} {F : Nat} {self4 : Nat → Int32 → Int32 → Int32 → Option Int32} {h : PH} {r : Int32} {ce sl mc ms : Nat} {v0 : Nat} {v2 : Int32} {v3 : Int32} {v4 : Int32} (hc : Cx M X RX6 cX6_amountOf) (hr : Rx M 1 60 mc ms 5) (he : Ex M X (some .int) "amountOf" (some (.int r)) h mc ms) (hm : ce ≤ mc) (hs : sl ≤ ms) (ih4 : ∀ (v0 : Nat) (v2 : Int32) (v3 : Int32) (v4 : Int32), self4 v0 v2 v3 v4 = some r → GG M X h ce sl 5 [(0, .ref (X.1 + v0)), (2, .int v2), (3, .int v3), (4, .int v4)] []) (hf : b_X6_amountOf_5 F self4 h v0 v2 v3 v4 = some r) : GG M X h ce sl 5 [(0, .ref (X.1 + v0)), (2, .int v2), (3, .int v3), (4, .int v4)] [] := by
  unfold b_X6_amountOf_5 at hf
  refine r_iload hc 3 (dc_at dX6_amountOf 4 rfl) rfl ?_
  refine r_iload_n hc 1 (dc_at dX6_amountOf 5 rfl) rfl ?_
  refine r_icmp_ge (tgt := 33) hc (dc_at dX6_amountOf 6 rfl) (by decide) hf (fun hf => ?_) (fun hf => ?_)
  · refine r_iload_n hc 2 (dc_at dX6_amountOf 20 rfl) rfl ?_
    exact r_iretP hc he (hm) (hs) (dc_at dX6_amountOf 21 rfl) hf
  · refine r_iload_n hc 2 (dc_at dX6_amountOf 7 rfl) rfl ?_
    refine r_bipush (10 : Int32) hc (dc_at dX6_amountOf 8 rfl) (by decide) ?_
    refine r_imul hc (dc_at dX6_amountOf 9 rfl) ?_
    refine r_aload_n hc 0 (dc_at dX6_amountOf 10 rfl) rfl ?_
    refine r_getR hc (dc_at dX6_amountOf 11 rfl) fl_X6_21 hf fun a1 hf => ?_
    refine r_iload hc 3 (dc_at dX6_amountOf 12 rfl) rfl ?_
    refine r_iaload hc (dc_at dX6_amountOf 13 rfl) hf fun x2 hf => ?_
    refine r_iadd hc (dc_at dX6_amountOf 14 rfl) ?_
    refine r_bipush (48 : Int32) hc (dc_at dX6_amountOf 15 rfl) (by decide) ?_
    refine r_isub hc (dc_at dX6_amountOf 16 rfl) ?_
    refine r_nm (mk := Value.int) hf fun x3 hf => ?_
    refine r_istore_n [(3, .int x3), (0, .ref (X.1 + v0)), (2, .int v2), (4, .int v4)] hc hr (dc_at dX6_amountOf 17 rfl) (by decide) rfl ?_
    refine obv hf fun x4 e_x4 hf => ?_
    refine r_iinc 3 [(4, .int x4), (3, .int x3), (0, .ref (X.1 + v0)), (2, .int v2)] hc hr (dc_at dX6_amountOf 18 rfl) rfl (by rw [e_x4]; rfl) (by decide) rfl ?_
    refine r_goto (tgt := 5) hc (dc_at dX6_amountOf 19 rfl) (by decide) ?_
    exact gg_sub [2, 3, 1, 0] rfl (ih4 _ _ _ _ hf)
def l_X6_amountOf_5 (F : Nat) (h : PH) : Nat → Nat → Int32 → Int32 → Int32 → Option Int32
  | 0 => fun _ _ _ _ => none
  | n + 1 => fun v0 v2 v3 v4 => b_X6_amountOf_5 F (l_X6_amountOf_5 F h n) h v0 v2 v3 v4
theorem tl_X6_amountOf_5 {M : MV} {X : XT} {F : Nat} {h : PH} {r : Int32} {ce sl mc ms : Nat} (hc : Cx M X RX6 cX6_amountOf) (hr : Rx M 1 60 mc ms 5) (he : Ex M X (some .int) "amountOf" (some (.int r)) h mc ms) (hm : ce ≤ mc) (hs : sl ≤ ms) (n : Nat) : ∀ (v0 : Nat) (v2 : Int32) (v3 : Int32) (v4 : Int32), l_X6_amountOf_5 F h n v0 v2 v3 v4 = some r → GG M X h ce sl 5 [(0, .ref (X.1 + v0)), (2, .int v2), (3, .int v3), (4, .int v4)] [] := by
  induction n with
  | zero => intro v0 v2 v3 v4 hf; cases hf
  | succ n ih => intro v0 v2 v3 v4 hf; exact tb_X6_amountOf_5 (F := F) hc hr he hm hs  ih hf
def b_X6_amountOf_0 (F : Nat) (h : PH) (v0 : Nat) (v1 : Int32) (v2 : Int32) : Option Int32 := l_X6_amountOf_5 F h F v0 v2 (0 : Int32) v1
set_option maxRecDepth 20000 in
theorem t_X6_amountOf_0 {M : MV} {X : XT} {F : Nat} {h : PH} {r : Int32} {ce sl mc ms : Nat} {v0 : Nat} {v1 : Int32} {v2 : Int32} (hc : Cx M X RX6 cX6_amountOf) (hr : Rx M 1 60 mc ms 5) (he : Ex M X (some .int) "amountOf" (some (.int r)) h mc ms) (hm : ce ≤ mc) (hs : sl ≤ ms) (hf : b_X6_amountOf_0 F h v0 v1 v2 = some r) : GG M X h ce sl 0 [(0, .ref (X.1 + v0)), (1, .int v1), (2, .int v2)] [] := by
  unfold b_X6_amountOf_0 at hf
  refine r_iconst (0 : Int32) hc (dc_at dX6_amountOf 0 rfl) (by decide) ?_
  refine r_istore_n [(3, .int ((0 : Int32))), (0, .ref (X.1 + v0)), (1, .int v1), (2, .int v2)] hc hr (dc_at dX6_amountOf 1 rfl) (by decide) rfl ?_
  refine r_iload_n hc 2 (dc_at dX6_amountOf 2 rfl) rfl ?_
  refine r_istore [(4, .int v1), (3, .int ((0 : Int32))), (0, .ref (X.1 + v0)), (1, .int v1), (2, .int v2)] hc hr (dc_at dX6_amountOf 3 rfl) (by decide) rfl ?_
  exact gg_sub [2, 4, 1, 0] rfl (tl_X6_amountOf_5 hc hr he hm hs  F _ _ _ _ hf)
def m_X6_amountOf (F : Nat) (h : PH) (p0 : Nat) (p1 : Int32) (p2 : Int32) : Option Int32 := b_X6_amountOf_0 F h p0 p1 p2
theorem mt_X6_amountOf {l : Launch} {X : XT} {F : Nat} {h : PH} {p0 : Nat} {p1 : Int32} {p2 : Int32} {r : Int32} (ex : m_X6_amountOf F h p0 p1 p2 = some r) : MT l X yX6_amountOf cX6_amountOf 5 (some .int) 1 60 0 0 [.ref (X.1 + p0), .int p1, .int p2] h (some (.int r)) h := MT.of (by decide) (Nat.le_of_ble_eq_true rfl) fun M hl hc hr he => by
  subst hl
  exact gg_sub [0, 1, 2] rfl (t_X6_amountOf_0  hc hr he (Nat.zero_le _) (Nat.zero_le _) ex)
/-! FractionLift$Tokens.add(III)V -/
def lX6_addL : List (Nat × Instr × Nat × Nat) := [(0, .aload_n 0, 1, 1), (1, .getfield 34, 3, 4), (4, .aload_n 0, 1, 5), (5, .getfield 9, 3, 8), (8, .arraylength, 1, 9), (9, .if_icmp .ge 43, 3, 12), (12, .aload_n 0, 1, 13), (13, .getfield 9, 3, 16), (16, .aload_n 0, 1, 17), (17, .getfield 34, 3, 20), (20, .iload_n 1, 1, 21), (21, .iastore, 1, 22), (22, .aload_n 0, 1, 23), (23, .getfield 15, 3, 26), (26, .aload_n 0, 1, 27), (27, .getfield 34, 3, 30), (30, .iload_n 2, 1, 31), (31, .iastore, 1, 32), (32, .aload_n 0, 1, 33), (33, .getfield 18, 3, 36), (36, .aload_n 0, 1, 37), (37, .getfield 34, 3, 40), (40, .iload_n 3, 1, 41), (41, .iastore, 1, 42), (42, .aload_n 0, 1, 43), (43, .dup, 1, 44), (44, .getfield 34, 3, 47), (47, .iconst 1, 1, 48), (48, .iadd, 1, 49), (49, .putfield 34, 3, 52), (52, .return_, 1, 53)]
set_option maxRecDepth 20000 in
theorem dX6_add : dcL cX6_add lX6_addL = true := by decide +kernel
def b_X6_add_0 (h : PH) (v0 : Nat) (v1 : Int32) (v2 : Int32) (v3 : Int32) : Option (Unit × PH) := (gI 6 0 h v0).bind fun x1 => ((gR 6 1 h v0).bind fun a2 => ((aLen h a2).bind fun x3 => (if x3 ≤ x1 then (some ((), h)) else ((gR 6 1 h v0).bind fun a4 => ((gI 6 0 h v0).bind fun x5 => ((sI 0 h a4 x5 v1).bind fun h6 => ((gR 6 2 h6 v0).bind fun a7 => ((gI 6 0 h6 v0).bind fun x8 => ((sI 0 h6 a7 x8 v2).bind fun h9 => ((gR 6 3 h9 v0).bind fun a10 => ((gI 6 0 h9 v0).bind fun x11 => ((sI 0 h9 a10 x11 v3).bind fun h12 => ((gI 6 0 h12 v0).bind fun x13 => ((pV 6 0 (.int ((x13 + (1 : Int32)))) h12 v0).bind fun h14 => (some ((), h14))))))))))))))))
set_option maxRecDepth 20000 in
theorem t_X6_add_0 {M : MV} {X : XT} {h hz : PH} {r : Unit} {ce sl mc ms : Nat} {v0 : Nat} {v1 : Int32} {v2 : Int32} {v3 : Int32} (hc : Cx M X RX6 cX6_add) (hr : Rx M 1 60 mc ms 4) (he : Ex M X none "add" none hz mc ms) (hm : ce ≤ mc) (hs : sl ≤ ms) (hf : b_X6_add_0 h v0 v1 v2 v3 = some (r, hz)) : GG M X h ce sl 0 [(0, .ref (X.1 + v0)), (1, .int v1), (2, .int v2), (3, .int v3)] [] := by
  unfold b_X6_add_0 at hf
  refine r_aload_n hc 0 (dc_at dX6_add 0 rfl) rfl ?_
  refine r_getI hc (dc_at dX6_add 1 rfl) fl_X6_34 hf fun x1 hf => ?_
  refine r_aload_n hc 0 (dc_at dX6_add 2 rfl) rfl ?_
  refine r_getR hc (dc_at dX6_add 3 rfl) fl_X6_9 hf fun a2 hf => ?_
  refine r_alen hc (dc_at dX6_add 4 rfl) hf fun x3 hf => ?_
  refine r_icmp_ge (tgt := 52) hc (dc_at dX6_add 5 rfl) (by decide) hf (fun hf => ?_) (fun hf => ?_)
  · exact r_vret hc he (hm) (hs) (dc_at dX6_add 30 rfl) hf
  · refine r_aload_n hc 0 (dc_at dX6_add 6 rfl) rfl ?_
    refine r_getR hc (dc_at dX6_add 7 rfl) fl_X6_9 hf fun a4 hf => ?_
    refine r_aload_n hc 0 (dc_at dX6_add 8 rfl) rfl ?_
    refine r_getI hc (dc_at dX6_add 9 rfl) fl_X6_34 hf fun x5 hf => ?_
    refine r_iload_n hc 1 (dc_at dX6_add 10 rfl) rfl ?_
    refine r_iastore hc (dc_at dX6_add 11 rfl) hf fun h6 hf => ?_
    refine r_aload_n hc 0 (dc_at dX6_add 12 rfl) rfl ?_
    refine r_getR hc (dc_at dX6_add 13 rfl) fl_X6_15 hf fun a7 hf => ?_
    refine r_aload_n hc 0 (dc_at dX6_add 14 rfl) rfl ?_
    refine r_getI hc (dc_at dX6_add 15 rfl) fl_X6_34 hf fun x8 hf => ?_
    refine r_iload_n hc 2 (dc_at dX6_add 16 rfl) rfl ?_
    refine r_iastore hc (dc_at dX6_add 17 rfl) hf fun h9 hf => ?_
    refine r_aload_n hc 0 (dc_at dX6_add 18 rfl) rfl ?_
    refine r_getR hc (dc_at dX6_add 19 rfl) fl_X6_18 hf fun a10 hf => ?_
    refine r_aload_n hc 0 (dc_at dX6_add 20 rfl) rfl ?_
    refine r_getI hc (dc_at dX6_add 21 rfl) fl_X6_34 hf fun x11 hf => ?_
    refine r_iload_n hc 3 (dc_at dX6_add 22 rfl) rfl ?_
    refine r_iastore hc (dc_at dX6_add 23 rfl) hf fun h12 hf => ?_
    refine r_aload_n hc 0 (dc_at dX6_add 24 rfl) rfl ?_
    refine r_dup hc (dc_at dX6_add 25 rfl) rfl ?_
    refine r_getI hc (dc_at dX6_add 26 rfl) fl_X6_34 hf fun x13 hf => ?_
    refine r_iconst (1 : Int32) hc (dc_at dX6_add 27 rfl) (by decide) ?_
    refine r_iadd hc (dc_at dX6_add 28 rfl) ?_
    refine r_putI hc he (dc_at dX6_add 29 rfl) fp_X6_34 (fun q => by cases q) hf fun h14 hf => ?_
    exact r_vret hc he (hm) (hs) (dc_at dX6_add 30 rfl) hf
def m_X6_add (h : PH) (p0 : Nat) (p1 : Int32) (p2 : Int32) (p3 : Int32) : Option (Unit × PH) := b_X6_add_0 h p0 p1 p2 p3
theorem mt_X6_add {l : Launch} {X : XT} {h hz : PH} {p0 : Nat} {p1 : Int32} {p2 : Int32} {p3 : Int32} {r : Unit} (ex : m_X6_add h p0 p1 p2 p3 = some (r, hz)) : MT l X yX6_add cX6_add 4 none 1 60 0 0 [.ref (X.1 + p0), .int p1, .int p2, .int p3] h none hz := MT.of (by decide) (Nat.le_of_ble_eq_true rfl) fun M hl hc hr he => by
  subst hl
  exact gg_sub [0, 1, 2, 3] rfl (t_X6_add_0  hc hr he (Nat.zero_le _) (Nat.zero_le _) ex)
/-! FractionLift$Tokens.scanAll([II)V -/
def lX6_scanAllL : List (Nat × Instr × Nat × Nat) := [(0, .aload_n 0, 1, 1), (1, .aload_n 1, 1, 2), (2, .putfield 21, 3, 5), (5, .aload_n 0, 1, 6), (6, .iload_n 2, 1, 7), (7, .aload_n 1, 1, 8), (8, .arraylength, 1, 9), (9, .invokestatic 24, 3, 12), (12, .putfield 30, 3, 15), (15, .aload_n 0, 1, 16), (16, .iconst 0, 1, 17), (17, .putfield 34, 3, 20), (20, .aload_n 0, 1, 21), (21, .iconst 0, 1, 22), (22, .invokevirtual 37, 3, 25), (25, .istore_n 3, 1, 26), (26, .iconst 0, 1, 27), (27, .istore 4, 2, 29), (29, .iload 4, 2, 31), (31, .aload_n 0, 1, 32), (32, .getfield 30, 3, 35), (35, .if_icmp .ge 70, 3, 38), (38, .iload_n 3, 1, 39), (39, .aload_n 0, 1, 40), (40, .getfield 30, 3, 43), (43, .if_icmp .ge 62, 3, 46), (46, .aload_n 0, 1, 47), (47, .iload_n 3, 1, 48), (48, .invokevirtual 41, 3, 51), (51, .istore 5, 2, 53), (53, .aload_n 0, 1, 54), (54, .iload_n 3, 1, 55), (55, .iload 5, 2, 57), (57, .invokevirtual 44, 3, 60), (60, .istore 6, 2, 62), (62, .aload_n 0, 1, 63), (63, .iload 6, 2, 65), (65, .iload_n 3, 1, 66), (66, .iload 6, 2, 68), (68, .iconst 2, 1, 69), (69, .if_icmp .ne 13, 3, 72), (72, .aload_n 0, 1, 73), (73, .iload_n 3, 1, 74), (74, .iload 5, 2, 76), (76, .invokevirtual 47, 3, 79), (79, .goto 4, 3, 82), (82, .iconst 0, 1, 83), (83, .invokevirtual 50, 3, 86), (86, .iload 6, 2, 88), (88, .ifCond .ne 4, 3, 91), (91, .return_, 1, 92), (92, .aload_n 0, 1, 93), (93, .iload 5, 2, 95), (95, .invokevirtual 37, 3, 98), (98, .istore_n 3, 1, 99), (99, .iinc 4 1, 3, 102), (102, .goto (-73), 3, 105), (105, .aload_n 0, 1, 106), (106, .iconst 1, 1, 107), (107, .aload_n 0, 1, 108), (108, .getfield 30, 3, 111), (111, .iconst 0, 1, 112), (112, .invokevirtual 50, 3, 115), (115, .return_, 1, 116)]
set_option maxRecDepth 20000 in
theorem dX6_scanAll : dcL cX6_scanAll lX6_scanAllL = true := by decide +kernel
def b_X6_scanAll_105 (F : Nat) (h : PH) (v0 : Nat) : Option (Unit × PH) := (gI 6 5 h v0).bind fun x1 => (cO 6 h v0 (bind2 (m_X6_add h v0 (1 : Int32) x1 (0 : Int32)) fun _ h3 => (some ((), h3))))
set_option maxRecDepth 20000 in
theorem t_X6_scanAll_105 {M : MV} {X : XT} {F : Nat} {h hz : PH} {r : Unit} {ce sl mc ms : Nat} {v0 : Nat} (hc : Cx M X RX6 cX6_scanAll) (hr : Rx M 12 696 mc ms 7) (he : Ex M X none "scanAll" none hz mc ms) (hm : ce ≤ mc) (hs : sl ≤ ms) (hf : b_X6_scanAll_105 F h v0 = some (r, hz)) : GG M X h ce sl 105 [(0, .ref (X.1 + v0))] [] := by
  unfold b_X6_scanAll_105 at hf
  refine r_aload_n hc 0 (dc_at dX6_scanAll 57 rfl) rfl ?_
  refine r_iconst (1 : Int32) hc (dc_at dX6_scanAll 58 rfl) (by decide) ?_
  refine r_aload_n hc 0 (dc_at dX6_scanAll 59 rfl) rfl ?_
  refine r_getI hc (dc_at dX6_scanAll 60 rfl) fl_X6_30 hf fun x1 hf => ?_
  refine r_iconst (0 : Int32) hc (dc_at dX6_scanAll 61 rfl) (by decide) ?_
  obtain ⟨ho, hf⟩ := cO_some hf
  refine ob2 hf fun u h3 ex hf => ?_
  refine r_callVv (As := [.int ((1 : Int32)), .int x1, .int ((0 : Int32))]) (ci := 6) hc hr (dc_at dX6_scanAll 62 rfl) ml_X6_50 mv_X6_add vi_X6_add rfl ho rfl (mt_X6_add ex) (by first | exact Nat.le_of_ble_eq_true rfl | omega) (by first | exact Nat.le_of_ble_eq_true rfl | omega) (by first | exact Nat.le_of_ble_eq_true rfl | omega) hm hs ?_
  exact r_vret hc he (hm) (hs) (dc_at dX6_scanAll 63 rfl) hf
def b_X6_scanAll_83 (F : Nat) (self18 : PH → Nat → Int32 → Int32 → Option (Unit × PH)) (h : PH) (v0 : Nat) (v4 : Int32) (v5 : Int32) (v6 : Int32) (s0 : Nat) (s1 : Int32) (s2 : Int32) (s3 : Int32) : Option (Unit × PH) := cO 6 h s0 (bind2 (m_X6_add h s0 s1 s2 s3) fun _ h2 => (if v6 = 0 then (some ((), h2)) else (cO 6 h2 v0 ((m_X6_behindBlanks F h2 v0 v5).bind fun x3 => (bindv (v4 + (1)) fun x4 => (self18 h2 v0 x3 x4))))))
set_option maxRecDepth 20000 in
theorem t_X6_scanAll_83 {M : MV} {X : XT} {F : Nat} {self18 : PH → Nat → Int32 → Int32 → Option (Unit × PH)} {h hz : PH} {r : Unit} {ce sl mc ms : Nat} {v0 : Nat} {v4 : Int32} {v5 : Int32} {v6 : Int32} {s0 : Nat} {s1 : Int32} {s2 : Int32} {s3 : Int32} (hc : Cx M X RX6 cX6_scanAll) (hr : Rx M 12 696 mc ms 7) (he : Ex M X none "scanAll" none hz mc ms) (hm : ce ≤ mc) (hs : sl ≤ ms) (ih18 : ∀ (h : PH) (v0 : Nat) (v3 : Int32) (v4 : Int32), self18 h v0 v3 v4 = some (r, hz) → GG M X h ce sl 29 [(0, .ref (X.1 + v0)), (3, .int v3), (4, .int v4)] []) (hf : b_X6_scanAll_83 F self18 h v0 v4 v5 v6 s0 s1 s2 s3 = some (r, hz)) : GG M X h ce sl 83 [(0, .ref (X.1 + v0)), (4, .int v4), (5, .int v5), (6, .int v6)] [.int s3, .int s2, .int s1, .ref (X.1 + s0)] := by
  unfold b_X6_scanAll_83 at hf
  obtain ⟨ho, hf⟩ := cO_some hf
  refine ob2 hf fun u h2 ex hf => ?_
  refine r_callVv (As := [.int s1, .int s2, .int s3]) (ci := 6) hc hr (dc_at dX6_scanAll 47 rfl) ml_X6_50 mv_X6_add vi_X6_add rfl ho rfl (mt_X6_add ex) (by first | exact Nat.le_of_ble_eq_true rfl | omega) (by first | exact Nat.le_of_ble_eq_true rfl | omega) (by first | exact Nat.le_of_ble_eq_true rfl | omega) hm hs ?_
  refine r_iload hc 3 (dc_at dX6_scanAll 48 rfl) rfl ?_
  refine r_if_ne (tgt := 92) hc (dc_at dX6_scanAll 49 rfl) (by decide) hf (fun hf => ?_) (fun hf => ?_)
  · refine r_aload_n hc 0 (dc_at dX6_scanAll 51 rfl) rfl ?_
    refine r_iload hc 2 (dc_at dX6_scanAll 52 rfl) rfl ?_
    obtain ⟨ho, hf⟩ := cO_some hf
    refine ob hf fun x3 ex hf => ?_
    refine r_callVi (As := [.int v5]) (ci := 6) hc hr (dc_at dX6_scanAll 53 rfl) ml_X6_37 mv_X6_behindBlanks vi_X6_behindBlanks rfl ho rfl (mt_X6_behindBlanks ex) (by first | exact Nat.le_of_ble_eq_true rfl | omega) (by first | exact Nat.le_of_ble_eq_true rfl | omega) (by first | exact Nat.le_of_ble_eq_true rfl | omega) hm hs ?_
    refine r_istore_n [(3, .int x3), (0, .ref (X.1 + v0)), (4, .int v4), (5, .int v5), (6, .int v6)] hc hr (dc_at dX6_scanAll 54 rfl) (by decide) rfl ?_
    refine obv hf fun x4 e_x4 hf => ?_
    refine r_iinc 2 [(4, .int x4), (3, .int x3), (0, .ref (X.1 + v0)), (5, .int v5), (6, .int v6)] hc hr (dc_at dX6_scanAll 55 rfl) rfl (by rw [e_x4]; rfl) (by decide) rfl ?_
    refine r_goto (tgt := 29) hc (dc_at dX6_scanAll 56 rfl) (by decide) ?_
    exact gg_sub [2, 1, 0] rfl (ih18 _ _ _ _ hf)
  · exact r_vret hc he (hm) (hs) (dc_at dX6_scanAll 50 rfl) hf
def b_X6_scanAll_29 (F : Nat) (self18 : PH → Nat → Int32 → Int32 → Option (Unit × PH)) (h : PH) (v0 : Nat) (v3 : Int32) (v4 : Int32) : Option (Unit × PH) := (gI 6 5 h v0).bind fun x1 => (if x1 ≤ v4 then (b_X6_scanAll_105 F h v0) else ((gI 6 5 h v0).bind fun x2 => (if x2 ≤ v3 then (b_X6_scanAll_105 F h v0) else (cO 6 h v0 ((m_X6_endOf F h v0 v3).bind fun x3 => (cO 6 h v0 ((m_X6_kindOf F h v0 v3 x3).bind fun x4 => (if x4 = (2 : Int32) then (cO 6 h v0 ((m_X6_amountOf F h v0 v3 x3).bind fun x5 => (b_X6_scanAll_83 F self18 h v0 v4 x3 x4 v0 x4 v3 x5))) else (b_X6_scanAll_83 F self18 h v0 v4 x3 x4 v0 x4 v3 (0 : Int32))))))))))
set_option maxRecDepth 20000 in
theorem tb_X6_scanAll_29 {M : MV} {X : XT} {F : Nat} {self18 : PH → Nat → Int32 → Int32 → Option (Unit × PH)} {h hz : PH} {r : Unit} {ce sl mc ms : Nat} {v0 : Nat} {v3 : Int32} {v4 : Int32} (hc : Cx M X RX6 cX6_scanAll) (hr : Rx M 12 696 mc ms 7) (he : Ex M X none "scanAll" none hz mc ms) (hm : ce ≤ mc) (hs : sl ≤ ms) (ih18 : ∀ (h : PH) (v0 : Nat) (v3 : Int32) (v4 : Int32), self18 h v0 v3 v4 = some (r, hz) → GG M X h ce sl 29 [(0, .ref (X.1 + v0)), (3, .int v3), (4, .int v4)] []) (hf : b_X6_scanAll_29 F self18 h v0 v3 v4 = some (r, hz)) : GG M X h ce sl 29 [(0, .ref (X.1 + v0)), (3, .int v3), (4, .int v4)] [] := by
  unfold b_X6_scanAll_29 at hf
  refine r_iload hc 2 (dc_at dX6_scanAll 18 rfl) rfl ?_
  refine r_aload_n hc 0 (dc_at dX6_scanAll 19 rfl) rfl ?_
  refine r_getI hc (dc_at dX6_scanAll 20 rfl) fl_X6_30 hf fun x1 hf => ?_
  refine r_icmp_ge (tgt := 105) hc (dc_at dX6_scanAll 21 rfl) (by decide) hf (fun hf => ?_) (fun hf => ?_)
  · exact gg_sub [0] rfl (t_X6_scanAll_105 hc hr he hm hs  hf)
  · refine r_iload_n hc 1 (dc_at dX6_scanAll 22 rfl) rfl ?_
    refine r_aload_n hc 0 (dc_at dX6_scanAll 23 rfl) rfl ?_
    refine r_getI hc (dc_at dX6_scanAll 24 rfl) fl_X6_30 hf fun x2 hf => ?_
    refine r_icmp_ge (tgt := 105) hc (dc_at dX6_scanAll 25 rfl) (by decide) hf (fun hf => ?_) (fun hf => ?_)
    · exact gg_sub [0] rfl (t_X6_scanAll_105 hc hr he hm hs  hf)
    · refine r_aload_n hc 0 (dc_at dX6_scanAll 26 rfl) rfl ?_
      refine r_iload_n hc 1 (dc_at dX6_scanAll 27 rfl) rfl ?_
      obtain ⟨ho, hf⟩ := cO_some hf
      refine ob hf fun x3 ex hf => ?_
      refine r_callVi (As := [.int v3]) (ci := 6) hc hr (dc_at dX6_scanAll 28 rfl) ml_X6_41 mv_X6_endOf vi_X6_endOf rfl ho rfl (mt_X6_endOf ex) (by first | exact Nat.le_of_ble_eq_true rfl | omega) (by first | exact Nat.le_of_ble_eq_true rfl | omega) (by first | exact Nat.le_of_ble_eq_true rfl | omega) hm hs ?_
      refine r_istore [(5, .int x3), (0, .ref (X.1 + v0)), (3, .int v3), (4, .int v4)] hc hr (dc_at dX6_scanAll 29 rfl) (by decide) rfl ?_
      refine r_aload_n hc 1 (dc_at dX6_scanAll 30 rfl) rfl ?_
      refine r_iload_n hc 2 (dc_at dX6_scanAll 31 rfl) rfl ?_
      refine r_iload hc 0 (dc_at dX6_scanAll 32 rfl) rfl ?_
      obtain ⟨ho, hf⟩ := cO_some hf
      refine ob hf fun x4 ex hf => ?_
      refine r_callVi (As := [.int v3, .int x3]) (ci := 6) hc hr (dc_at dX6_scanAll 33 rfl) ml_X6_44 mv_X6_kindOf vi_X6_kindOf rfl ho rfl (mt_X6_kindOf ex) (by first | exact Nat.le_of_ble_eq_true rfl | omega) (by first | exact Nat.le_of_ble_eq_true rfl | omega) (by first | exact Nat.le_of_ble_eq_true rfl | omega) hm hs ?_
      refine r_istore [(6, .int x4), (5, .int x3), (0, .ref (X.1 + v0)), (3, .int v3), (4, .int v4)] hc hr (dc_at dX6_scanAll 34 rfl) (by decide) rfl ?_
      refine r_aload_n hc 2 (dc_at dX6_scanAll 35 rfl) rfl ?_
      refine r_iload hc 0 (dc_at dX6_scanAll 36 rfl) rfl ?_
      refine r_iload_n hc 3 (dc_at dX6_scanAll 37 rfl) rfl ?_
      refine r_iload hc 0 (dc_at dX6_scanAll 38 rfl) rfl ?_
      refine r_iconst (2 : Int32) hc (dc_at dX6_scanAll 39 rfl) (by decide) ?_
      refine r_icmp_ne (tgt := 82) hc (dc_at dX6_scanAll 40 rfl) (by decide) hf (fun hf => ?_) (fun hf => ?_)
      · refine r_iconst (0 : Int32) hc (dc_at dX6_scanAll 46 rfl) (by decide) ?_
        exact gg_sub [2, 4, 1, 0] rfl (t_X6_scanAll_83 hc hr he hm hs ih18 hf)
      · refine r_aload_n hc 2 (dc_at dX6_scanAll 41 rfl) rfl ?_
        refine r_iload_n hc 3 (dc_at dX6_scanAll 42 rfl) rfl ?_
        refine r_iload hc 1 (dc_at dX6_scanAll 43 rfl) rfl ?_
        obtain ⟨ho, hf⟩ := cO_some hf
        refine ob hf fun x5 ex hf => ?_
        refine r_callVi (As := [.int v3, .int x3]) (ci := 6) hc hr (dc_at dX6_scanAll 44 rfl) ml_X6_47 mv_X6_amountOf vi_X6_amountOf rfl ho rfl (mt_X6_amountOf ex) (by first | exact Nat.le_of_ble_eq_true rfl | omega) (by first | exact Nat.le_of_ble_eq_true rfl | omega) (by first | exact Nat.le_of_ble_eq_true rfl | omega) hm hs ?_
        refine r_goto (tgt := 83) hc (dc_at dX6_scanAll 45 rfl) (by decide) ?_
        exact gg_sub [2, 4, 1, 0] rfl (t_X6_scanAll_83 hc hr he hm hs ih18 hf)
def l_X6_scanAll_29 (F : Nat) : Nat → PH → Nat → Int32 → Int32 → Option (Unit × PH)
  | 0 => fun _ _ _ _ => none
  | n + 1 => fun h v0 v3 v4 => b_X6_scanAll_29 F (l_X6_scanAll_29 F n) h v0 v3 v4
theorem tl_X6_scanAll_29 {M : MV} {X : XT} {F : Nat} {hz : PH} {r : Unit} {ce sl mc ms : Nat} (hc : Cx M X RX6 cX6_scanAll) (hr : Rx M 12 696 mc ms 7) (he : Ex M X none "scanAll" none hz mc ms) (hm : ce ≤ mc) (hs : sl ≤ ms) (n : Nat) : ∀ (h : PH) (v0 : Nat) (v3 : Int32) (v4 : Int32), l_X6_scanAll_29 F n h v0 v3 v4 = some (r, hz) → GG M X h ce sl 29 [(0, .ref (X.1 + v0)), (3, .int v3), (4, .int v4)] [] := by
  induction n with
  | zero => intro h v0 v3 v4 hf; cases hf
  | succ n ih => intro h v0 v3 v4 hf; exact tb_X6_scanAll_29 (F := F) hc hr he hm hs  ih hf
def b_X6_scanAll_0 (F : Nat) (h : PH) (v0 : Nat) (v1 : Nat) (v2 : Int32) : Option (Unit × PH) := (pV 6 4 (.ref v1) h v0).bind fun h1 => ((aLen h1 v1).bind fun x2 => ((pV 6 5 (.int (jmin v2 x2)) h1 v0).bind fun h3 => ((pV 6 0 (.int (0 : Int32)) h3 v0).bind fun h4 => (cO 6 h4 v0 ((m_X6_behindBlanks F h4 v0 (0 : Int32)).bind fun x5 => (l_X6_scanAll_29 F F h4 v0 x5 (0 : Int32)))))))
set_option maxRecDepth 20000 in
theorem t_X6_scanAll_0 {M : MV} {X : XT} {F : Nat} {h hz : PH} {r : Unit} {ce sl mc ms : Nat} {v0 : Nat} {v1 : Nat} {v2 : Int32} (hc : Cx M X RX6 cX6_scanAll) (hr : Rx M 12 696 mc ms 7) (he : Ex M X none "scanAll" none hz mc ms) (hm : ce ≤ mc) (hs : sl ≤ ms) (hf : b_X6_scanAll_0 F h v0 v1 v2 = some (r, hz)) : GG M X h ce sl 0 [(0, .ref (X.1 + v0)), (1, .ref (X.1 + v1)), (2, .int v2)] [] := by
  unfold b_X6_scanAll_0 at hf
  refine r_aload_n hc 0 (dc_at dX6_scanAll 0 rfl) rfl ?_
  refine r_aload_n hc 1 (dc_at dX6_scanAll 1 rfl) rfl ?_
  refine r_putR hc he (dc_at dX6_scanAll 2 rfl) fp_X6_21 (fun q => by cases q) ⟨rfl, fun _ => ⟨rfl, rfl⟩⟩ hf fun h1 hf => ?_
  refine r_aload_n hc 0 (dc_at dX6_scanAll 3 rfl) rfl ?_
  refine r_iload_n hc 2 (dc_at dX6_scanAll 4 rfl) rfl ?_
  refine r_aload_n hc 1 (dc_at dX6_scanAll 5 rfl) rfl ?_
  refine r_alen hc (dc_at dX6_scanAll 6 rfl) hf fun x2 hf => ?_
  refine r_mmin hc hr (dc_at dX6_scanAll 7 rfl) ml_X6_24 mv_J9_min_7cf53 st_J9_min_7cf53 (by first | exact Nat.le_of_ble_eq_true rfl | omega) (by first | exact Nat.le_of_ble_eq_true rfl | omega) (hm) (hs) ?_
  refine r_putI hc he (dc_at dX6_scanAll 8 rfl) fp_X6_30 (fun q => by cases q) hf fun h3 hf => ?_
  refine r_aload_n hc 0 (dc_at dX6_scanAll 9 rfl) rfl ?_
  refine r_iconst (0 : Int32) hc (dc_at dX6_scanAll 10 rfl) (by decide) ?_
  refine r_putI hc he (dc_at dX6_scanAll 11 rfl) fp_X6_34 (fun q => by cases q) hf fun h4 hf => ?_
  refine r_aload_n hc 0 (dc_at dX6_scanAll 12 rfl) rfl ?_
  refine r_iconst (0 : Int32) hc (dc_at dX6_scanAll 13 rfl) (by decide) ?_
  obtain ⟨ho, hf⟩ := cO_some hf
  refine ob hf fun x5 ex hf => ?_
  refine r_callVi (As := [.int ((0 : Int32))]) (ci := 6) hc hr (dc_at dX6_scanAll 14 rfl) ml_X6_37 mv_X6_behindBlanks vi_X6_behindBlanks rfl ho rfl (mt_X6_behindBlanks ex) (by first | exact Nat.le_of_ble_eq_true rfl | omega) (by first | exact Nat.le_of_ble_eq_true rfl | omega) (by first | exact Nat.le_of_ble_eq_true rfl | omega) hm hs ?_
  refine r_istore_n [(3, .int x5), (0, .ref (X.1 + v0)), (1, .ref (X.1 + v1)), (2, .int v2)] hc hr (dc_at dX6_scanAll 15 rfl) (by decide) rfl ?_
  refine r_iconst (0 : Int32) hc (dc_at dX6_scanAll 16 rfl) (by decide) ?_
  refine r_istore [(4, .int ((0 : Int32))), (3, .int x5), (0, .ref (X.1 + v0)), (1, .ref (X.1 + v1)), (2, .int v2)] hc hr (dc_at dX6_scanAll 17 rfl) (by decide) rfl ?_
  exact gg_sub [2, 1, 0] rfl (tl_X6_scanAll_29 hc hr he hm hs  F _ _ _ _ hf)
def m_X6_scanAll (F : Nat) (h : PH) (p0 : Nat) (p1 : Nat) (p2 : Int32) : Option (Unit × PH) := b_X6_scanAll_0 F h p0 p1 p2
theorem mt_X6_scanAll {l : Launch} {X : XT} {F : Nat} {h hz : PH} {p0 : Nat} {p1 : Nat} {p2 : Int32} {r : Unit} (ex : m_X6_scanAll F h p0 p1 p2 = some (r, hz)) : MT l X yX6_scanAll cX6_scanAll 7 none 12 696 0 0 [.ref (X.1 + p0), .ref (X.1 + p1), .int p2] h none hz := MT.of (by decide) (Nat.le_of_ble_eq_true rfl) fun M hl hc hr he => by
  subst hl
  exact gg_sub [0, 1, 2] rfl (t_X6_scanAll_0  hc hr he (Nat.zero_le _) (Nat.zero_le _) ex)
/-! FractionLift$Reader.lookAt(I)V -/
def lX3_lookAtL : List (Nat × Instr × Nat × Nat) := [(0, .aload_n 0, 1, 1), (1, .iload_n 1, 1, 2), (2, .aload_n 0, 1, 3), (3, .getfield 21, 3, 6), (6, .getfield 61, 3, 9), (9, .if_icmp .ge 7, 3, 12), (12, .iload_n 1, 1, 13), (13, .goto 12, 3, 16), (16, .aload_n 0, 1, 17), (17, .getfield 21, 3, 20), (20, .getfield 61, 3, 23), (23, .iconst 1, 1, 24), (24, .isub, 1, 25), (25, .putfield 206, 3, 28), (28, .aload_n 0, 1, 29), (29, .getfield 206, 3, 32), (32, .ifCond .lt 51, 3, 35), (35, .aload_n 0, 1, 36), (36, .aload_n 0, 1, 37), (37, .getfield 21, 3, 40), (40, .getfield 209, 3, 43), (43, .aload_n 0, 1, 44), (44, .getfield 206, 3, 47), (47, .iaload, 1, 48), (48, .putfield 64, 3, 51), (51, .aload_n 0, 1, 52), (52, .aload_n 0, 1, 53), (53, .getfield 21, 3, 56), (56, .getfield 212, 3, 59), (59, .aload_n 0, 1, 60), (60, .getfield 206, 3, 63), (63, .iaload, 1, 64), (64, .putfield 203, 3, 67), (67, .aload_n 0, 1, 68), (68, .aload_n 0, 1, 69), (69, .getfield 21, 3, 72), (72, .getfield 215, 3, 75), (75, .aload_n 0, 1, 76), (76, .getfield 206, 3, 79), (79, .iaload, 1, 80), (80, .putfield 171, 3, 83), (83, .return_, 1, 84)]
set_option maxRecDepth 20000 in
theorem dX3_lookAt : dcL cX3_lookAt lX3_lookAtL = true := by decide +kernel
def b_X3_lookAt_25 (h : PH) (v0 : Nat) (s0 : Nat) (s1 : Int32) : Option (Unit × PH) := (pV 3 4 (.int s1) h s0).bind fun h1 => ((gI 3 4 h1 v0).bind fun x2 => (if x2 < 0 then (some ((), h1)) else ((gR 3 3 h1 v0).bind fun a3 => ((gR 6 1 h1 a3).bind fun a4 => ((gI 3 4 h1 v0).bind fun x5 => ((aI 0 h1 a4 x5).bind fun x6 => ((pV 3 5 (.int x6) h1 v0).bind fun h7 => ((gR 3 3 h7 v0).bind fun a8 => ((gR 6 2 h7 a8).bind fun a9 => ((gI 3 4 h7 v0).bind fun x10 => ((aI 0 h7 a9 x10).bind fun x11 => ((pV 3 6 (.int x11) h7 v0).bind fun h12 => ((gR 3 3 h12 v0).bind fun a13 => ((gR 6 3 h12 a13).bind fun a14 => ((gI 3 4 h12 v0).bind fun x15 => ((aI 0 h12 a14 x15).bind fun x16 => ((pV 3 7 (.int x16) h12 v0).bind fun h17 => (some ((), h17)))))))))))))))))))
set_option maxRecDepth 20000 in
theorem t_X3_lookAt_25 {M : MV} {X : XT} {h hz : PH} {r : Unit} {ce sl mc ms : Nat} {v0 : Nat} {s0 : Nat} {s1 : Int32} (hc : Cx M X RX3 cX3_lookAt) (hr : Rx M 1 60 mc ms 2) (he : Ex M X none "lookAt" none hz mc ms) (hm : ce ≤ mc) (hs : sl ≤ ms) (hf : b_X3_lookAt_25 h v0 s0 s1 = some (r, hz)) : GG M X h ce sl 25 [(0, .ref (X.1 + v0))] [.int s1, .ref (X.1 + s0)] := by
  unfold b_X3_lookAt_25 at hf
  refine r_putI hc he (dc_at dX3_lookAt 13 rfl) fp_X3_206 (fun q => by cases q) hf fun h1 hf => ?_
  refine r_aload_n hc 0 (dc_at dX3_lookAt 14 rfl) rfl ?_
  refine r_getI hc (dc_at dX3_lookAt 15 rfl) fl_X3_206 hf fun x2 hf => ?_
  refine r_if_lt (tgt := 83) hc (dc_at dX3_lookAt 16 rfl) (by decide) hf (fun hf => ?_) (fun hf => ?_)
  · exact r_vret hc he (hm) (hs) (dc_at dX3_lookAt 41 rfl) hf
  · refine r_aload_n hc 0 (dc_at dX3_lookAt 17 rfl) rfl ?_
    refine r_aload_n hc 0 (dc_at dX3_lookAt 18 rfl) rfl ?_
    refine r_getR hc (dc_at dX3_lookAt 19 rfl) fl_X3_21 hf fun a3 hf => ?_
    refine r_getR hc (dc_at dX3_lookAt 20 rfl) fl_X3_209 hf fun a4 hf => ?_
    refine r_aload_n hc 0 (dc_at dX3_lookAt 21 rfl) rfl ?_
    refine r_getI hc (dc_at dX3_lookAt 22 rfl) fl_X3_206 hf fun x5 hf => ?_
    refine r_iaload hc (dc_at dX3_lookAt 23 rfl) hf fun x6 hf => ?_
    refine r_putI hc he (dc_at dX3_lookAt 24 rfl) fp_X3_64 (fun q => by cases q) hf fun h7 hf => ?_
    refine r_aload_n hc 0 (dc_at dX3_lookAt 25 rfl) rfl ?_
    refine r_aload_n hc 0 (dc_at dX3_lookAt 26 rfl) rfl ?_
    refine r_getR hc (dc_at dX3_lookAt 27 rfl) fl_X3_21 hf fun a8 hf => ?_
    refine r_getR hc (dc_at dX3_lookAt 28 rfl) fl_X3_212 hf fun a9 hf => ?_
    refine r_aload_n hc 0 (dc_at dX3_lookAt 29 rfl) rfl ?_
    refine r_getI hc (dc_at dX3_lookAt 30 rfl) fl_X3_206 hf fun x10 hf => ?_
    refine r_iaload hc (dc_at dX3_lookAt 31 rfl) hf fun x11 hf => ?_
    refine r_putI hc he (dc_at dX3_lookAt 32 rfl) fp_X3_203 (fun q => by cases q) hf fun h12 hf => ?_
    refine r_aload_n hc 0 (dc_at dX3_lookAt 33 rfl) rfl ?_
    refine r_aload_n hc 0 (dc_at dX3_lookAt 34 rfl) rfl ?_
    refine r_getR hc (dc_at dX3_lookAt 35 rfl) fl_X3_21 hf fun a13 hf => ?_
    refine r_getR hc (dc_at dX3_lookAt 36 rfl) fl_X3_215 hf fun a14 hf => ?_
    refine r_aload_n hc 0 (dc_at dX3_lookAt 37 rfl) rfl ?_
    refine r_getI hc (dc_at dX3_lookAt 38 rfl) fl_X3_206 hf fun x15 hf => ?_
    refine r_iaload hc (dc_at dX3_lookAt 39 rfl) hf fun x16 hf => ?_
    refine r_putI hc he (dc_at dX3_lookAt 40 rfl) fp_X3_171 (fun q => by cases q) hf fun h17 hf => ?_
    exact r_vret hc he (hm) (hs) (dc_at dX3_lookAt 41 rfl) hf
def b_X3_lookAt_0 (h : PH) (v0 : Nat) (v1 : Int32) : Option (Unit × PH) := (gR 3 3 h v0).bind fun a1 => ((gI 6 0 h a1).bind fun x2 => (if x2 ≤ v1 then ((gR 3 3 h v0).bind fun a3 => ((gI 6 0 h a3).bind fun x4 => (b_X3_lookAt_25 h v0 v0 ((x4 - (1 : Int32)))))) else (b_X3_lookAt_25 h v0 v0 v1)))
set_option maxRecDepth 20000 in
theorem t_X3_lookAt_0 {M : MV} {X : XT} {h hz : PH} {r : Unit} {ce sl mc ms : Nat} {v0 : Nat} {v1 : Int32} (hc : Cx M X RX3 cX3_lookAt) (hr : Rx M 1 60 mc ms 2) (he : Ex M X none "lookAt" none hz mc ms) (hm : ce ≤ mc) (hs : sl ≤ ms) (hf : b_X3_lookAt_0 h v0 v1 = some (r, hz)) : GG M X h ce sl 0 [(0, .ref (X.1 + v0)), (1, .int v1)] [] := by
  unfold b_X3_lookAt_0 at hf
  refine r_aload_n hc 0 (dc_at dX3_lookAt 0 rfl) rfl ?_
  refine r_iload_n hc 1 (dc_at dX3_lookAt 1 rfl) rfl ?_
  refine r_aload_n hc 0 (dc_at dX3_lookAt 2 rfl) rfl ?_
  refine r_getR hc (dc_at dX3_lookAt 3 rfl) fl_X3_21 hf fun a1 hf => ?_
  refine r_getI hc (dc_at dX3_lookAt 4 rfl) fl_X3_61 hf fun x2 hf => ?_
  refine r_icmp_ge (tgt := 16) hc (dc_at dX3_lookAt 5 rfl) (by decide) hf (fun hf => ?_) (fun hf => ?_)
  · refine r_aload_n hc 0 (dc_at dX3_lookAt 8 rfl) rfl ?_
    refine r_getR hc (dc_at dX3_lookAt 9 rfl) fl_X3_21 hf fun a3 hf => ?_
    refine r_getI hc (dc_at dX3_lookAt 10 rfl) fl_X3_61 hf fun x4 hf => ?_
    refine r_iconst (1 : Int32) hc (dc_at dX3_lookAt 11 rfl) (by decide) ?_
    refine r_isub hc (dc_at dX3_lookAt 12 rfl) ?_
    exact gg_sub [0] rfl (t_X3_lookAt_25 hc hr he hm hs  hf)
  · refine r_iload_n hc 1 (dc_at dX3_lookAt 6 rfl) rfl ?_
    refine r_goto (tgt := 25) hc (dc_at dX3_lookAt 7 rfl) (by decide) ?_
    exact gg_sub [0] rfl (t_X3_lookAt_25 hc hr he hm hs  hf)
def m_X3_lookAt (h : PH) (p0 : Nat) (p1 : Int32) : Option (Unit × PH) := b_X3_lookAt_0 h p0 p1
theorem mt_X3_lookAt {l : Launch} {X : XT} {h hz : PH} {p0 : Nat} {p1 : Int32} {r : Unit} (ex : m_X3_lookAt h p0 p1 = some (r, hz)) : MT l X yX3_lookAt cX3_lookAt 2 none 1 60 0 0 [.ref (X.1 + p0), .int p1] h none hz := MT.of (by decide) (Nat.le_of_ble_eq_true rfl) fun M hl hc hr he => by
  subst hl
  exact gg_sub [0, 1] rfl (t_X3_lookAt_0  hc hr he (Nat.zero_le _) (Nat.zero_le _) ex)
/-! FractionLift$Reader.failed(I)Z -/
def lX3_failedL : List (Nat × Instr × Nat × Nat) := [(0, .aload_n 0, 1, 1), (1, .iload_n 1, 1, 2), (2, .putfield 36, 3, 5), (5, .aload_n 0, 1, 6), (6, .aload_n 0, 1, 7), (7, .getfield 203, 3, 10), (10, .putfield 40, 3, 13), (13, .iconst 0, 1, 14), (14, .ireturn, 1, 15)]
set_option maxRecDepth 20000 in
theorem dX3_failed : dcL cX3_failed lX3_failedL = true := by decide +kernel
def b_X3_failed_0 (h : PH) (v0 : Nat) (v1 : Int32) : Option (Int32 × PH) := (pV 3 1 (.int v1) h v0).bind fun h1 => ((gI 3 6 h1 v0).bind fun x2 => ((pV 3 2 (.int x2) h1 v0).bind fun h3 => (rZ (0 : Int32) h3)))
set_option maxRecDepth 20000 in
theorem t_X3_failed_0 {M : MV} {X : XT} {h hz : PH} {r : Int32} {ce sl mc ms : Nat} {v0 : Nat} {v1 : Int32} (hc : Cx M X RX3 cX3_failed) (hr : Rx M 1 60 mc ms 2) (he : Ex M X (some .boolean) "failed" (some (.int r)) hz mc ms) (hm : ce ≤ mc) (hs : sl ≤ ms) (hf : b_X3_failed_0 h v0 v1 = some (r, hz)) : GG M X h ce sl 0 [(0, .ref (X.1 + v0)), (1, .int v1)] [] := by
  unfold b_X3_failed_0 at hf
  refine r_aload_n hc 0 (dc_at dX3_failed 0 rfl) rfl ?_
  refine r_iload_n hc 1 (dc_at dX3_failed 1 rfl) rfl ?_
  refine r_putI hc he (dc_at dX3_failed 2 rfl) fp_X3_36 (fun q => by cases q) hf fun h1 hf => ?_
  refine r_aload_n hc 0 (dc_at dX3_failed 3 rfl) rfl ?_
  refine r_aload_n hc 0 (dc_at dX3_failed 4 rfl) rfl ?_
  refine r_getI hc (dc_at dX3_failed 5 rfl) fl_X3_203 hf fun x2 hf => ?_
  refine r_putI hc he (dc_at dX3_failed 6 rfl) fp_X3_40 (fun q => by cases q) hf fun h3 hf => ?_
  refine r_iconst (0 : Int32) hc (dc_at dX3_failed 7 rfl) (by decide) ?_
  exact r_zret hc he (hm) (hs) (dc_at dX3_failed 8 rfl) hf
def m_X3_failed (h : PH) (p0 : Nat) (p1 : Int32) : Option (Int32 × PH) := b_X3_failed_0 h p0 p1
theorem mt_X3_failed {l : Launch} {X : XT} {h hz : PH} {p0 : Nat} {p1 : Int32} {r : Int32} (ex : m_X3_failed h p0 p1 = some (r, hz)) : MT l X yX3_failed cX3_failed 2 (some .boolean) 1 60 0 0 [.ref (X.1 + p0), .int p1] h (some (.int r)) hz := MT.of (by decide) (Nat.le_of_ble_eq_true rfl) fun M hl hc hr he => by
  subst hl
  exact gg_sub [0, 1] rfl (t_X3_failed_0  hc hr he (Nat.zero_le _) (Nat.zero_le _) ex)
/-! FractionLift$Reader.cantStand()Z -/
def lX3_cantStandL : List (Nat × Instr × Nat × Nat) := [(0, .aload_n 0, 1, 1), (1, .aload_n 0, 1, 2), (2, .getfield 64, 3, 5), (5, .ifCond .ne 7, 3, 8), (8, .iconst 1, 1, 9), (9, .goto 4, 3, 12), (12, .iconst 2, 1, 13), (13, .invokevirtual 137, 3, 16), (16, .ireturn, 1, 17)]
set_option maxRecDepth 20000 in
theorem dX3_cantStand : dcL cX3_cantStand lX3_cantStandL = true := by decide +kernel
def b_X3_cantStand_13 (h : PH) (s0 : Nat) (s1 : Int32) : Option (Int32 × PH) := cO 3 h s0 (bind2 (m_X3_failed h s0 s1) fun x1 h2 => (rZ x1 h2))
set_option maxRecDepth 20000 in
theorem t_X3_cantStand_13 {M : MV} {X : XT} {h hz : PH} {r : Int32} {ce sl mc ms : Nat} {s0 : Nat} {s1 : Int32} (hc : Cx M X RX3 cX3_cantStand) (hr : Rx M 2 118 mc ms 1) (he : Ex M X (some .boolean) "cantStand" (some (.int r)) hz mc ms) (hm : ce ≤ mc) (hs : sl ≤ ms) (hf : b_X3_cantStand_13 h s0 s1 = some (r, hz)) : GG M X h ce sl 13 [] [.int s1, .ref (X.1 + s0)] := by
  unfold b_X3_cantStand_13 at hf
  obtain ⟨ho, hf⟩ := cO_some hf
  refine ob2 hf fun x1 h2 ex hf => ?_
  refine r_callVi (As := [.int s1]) (ci := 3) hc hr (dc_at dX3_cantStand 7 rfl) ml_X3_137 mv_X3_failed vi_X3_failed rfl ho rfl (mt_X3_failed ex) (by first | exact Nat.le_of_ble_eq_true rfl | omega) (by first | exact Nat.le_of_ble_eq_true rfl | omega) (by first | exact Nat.le_of_ble_eq_true rfl | omega) hm hs ?_
  exact r_zret hc he (hm) (hs) (dc_at dX3_cantStand 8 rfl) hf
def b_X3_cantStand_0 (h : PH) (v0 : Nat) : Option (Int32 × PH) := (gI 3 5 h v0).bind fun x1 => (if x1 = 0 then (b_X3_cantStand_13 h v0 (1 : Int32)) else (b_X3_cantStand_13 h v0 (2 : Int32)))
set_option maxRecDepth 20000 in
theorem t_X3_cantStand_0 {M : MV} {X : XT} {h hz : PH} {r : Int32} {ce sl mc ms : Nat} {v0 : Nat} (hc : Cx M X RX3 cX3_cantStand) (hr : Rx M 2 118 mc ms 1) (he : Ex M X (some .boolean) "cantStand" (some (.int r)) hz mc ms) (hm : ce ≤ mc) (hs : sl ≤ ms) (hf : b_X3_cantStand_0 h v0 = some (r, hz)) : GG M X h ce sl 0 [(0, .ref (X.1 + v0))] [] := by
  unfold b_X3_cantStand_0 at hf
  refine r_aload_n hc 0 (dc_at dX3_cantStand 0 rfl) rfl ?_
  refine r_aload_n hc 0 (dc_at dX3_cantStand 1 rfl) rfl ?_
  refine r_getI hc (dc_at dX3_cantStand 2 rfl) fl_X3_64 hf fun x1 hf => ?_
  refine r_if_ne (tgt := 12) hc (dc_at dX3_cantStand 3 rfl) (by decide) hf (fun hf => ?_) (fun hf => ?_)
  · refine r_iconst (2 : Int32) hc (dc_at dX3_cantStand 6 rfl) (by decide) ?_
    exact gg_sub [] rfl (t_X3_cantStand_13 hc hr he hm hs  hf)
  · refine r_iconst (1 : Int32) hc (dc_at dX3_cantStand 4 rfl) (by decide) ?_
    refine r_goto (tgt := 13) hc (dc_at dX3_cantStand 5 rfl) (by decide) ?_
    exact gg_sub [] rfl (t_X3_cantStand_13 hc hr he hm hs  hf)
def m_X3_cantStand (h : PH) (p0 : Nat) : Option (Int32 × PH) := b_X3_cantStand_0 h p0
theorem mt_X3_cantStand {l : Launch} {X : XT} {h hz : PH} {p0 : Nat} {r : Int32} (ex : m_X3_cantStand h p0 = some (r, hz)) : MT l X yX3_cantStand cX3_cantStand 1 (some .boolean) 2 118 0 0 [.ref (X.1 + p0)] h (some (.int r)) hz := MT.of (by decide) (Nat.le_of_ble_eq_true rfl) fun M hl hc hr he => by
  subst hl
  exact gg_sub [0] rfl (t_X3_cantStand_0  hc hr he (Nat.zero_le _) (Nat.zero_le _) ex)
/-! FractionLift$Reader.next()V -/
def lX3_nextL : List (Nat × Instr × Nat × Nat) := [(0, .aload_n 0, 1, 1), (1, .aload_n 0, 1, 2), (2, .getfield 206, 3, 5), (5, .iconst 1, 1, 6), (6, .iadd, 1, 7), (7, .invokevirtual 57, 3, 10), (10, .return_, 1, 11)]
set_option maxRecDepth 20000 in
theorem dX3_next : dcL cX3_next lX3_nextL = true := by decide +kernel
def b_X3_next_0 (h : PH) (v0 : Nat) : Option (Unit × PH) := (gI 3 4 h v0).bind fun x1 => (cO 3 h v0 (bind2 (m_X3_lookAt h v0 ((x1 + (1 : Int32)))) fun _ h3 => (some ((), h3))))
set_option maxRecDepth 20000 in
theorem t_X3_next_0 {M : MV} {X : XT} {h hz : PH} {r : Unit} {ce sl mc ms : Nat} {v0 : Nat} (hc : Cx M X RX3 cX3_next) (hr : Rx M 2 118 mc ms 1) (he : Ex M X none "next" none hz mc ms) (hm : ce ≤ mc) (hs : sl ≤ ms) (hf : b_X3_next_0 h v0 = some (r, hz)) : GG M X h ce sl 0 [(0, .ref (X.1 + v0))] [] := by
  unfold b_X3_next_0 at hf
  refine r_aload_n hc 0 (dc_at dX3_next 0 rfl) rfl ?_
  refine r_aload_n hc 0 (dc_at dX3_next 1 rfl) rfl ?_
  refine r_getI hc (dc_at dX3_next 2 rfl) fl_X3_206 hf fun x1 hf => ?_
  refine r_iconst (1 : Int32) hc (dc_at dX3_next 3 rfl) (by decide) ?_
  refine r_iadd hc (dc_at dX3_next 4 rfl) ?_
  obtain ⟨ho, hf⟩ := cO_some hf
  refine ob2 hf fun u h3 ex hf => ?_
  refine r_callVv (As := [.int ((x1 + (1 : Int32)))]) (ci := 3) hc hr (dc_at dX3_next 5 rfl) ml_X3_57 mv_X3_lookAt vi_X3_lookAt rfl ho rfl (mt_X3_lookAt ex) (by first | exact Nat.le_of_ble_eq_true rfl | omega) (by first | exact Nat.le_of_ble_eq_true rfl | omega) (by first | exact Nat.le_of_ble_eq_true rfl | omega) hm hs ?_
  exact r_vret hc he (hm) (hs) (dc_at dX3_next 6 rfl) hf
def m_X3_next (h : PH) (p0 : Nat) : Option (Unit × PH) := b_X3_next_0 h p0
theorem mt_X3_next {l : Launch} {X : XT} {h hz : PH} {p0 : Nat} {r : Unit} (ex : m_X3_next h p0 = some (r, hz)) : MT l X yX3_next cX3_next 1 none 2 118 0 0 [.ref (X.1 + p0)] h none hz := MT.of (by decide) (Nat.le_of_ble_eq_true rfl) fun M hl hc hr he => by
  subst hl
  exact gg_sub [0] rfl (t_X3_next_0  hc hr he (Nat.zero_le _) (Nat.zero_le _) ex)
/-! FractionLift$Reader.numberWithin(II)Z -/
def lX3_numberWithinL : List (Nat × Instr × Nat × Nat) := [(0, .aload_n 0, 1, 1), (1, .getfield 64, 3, 4), (4, .iconst 2, 1, 5), (5, .if_icmp .eq 8, 3, 8), (8, .aload_n 0, 1, 9), (9, .invokevirtual 92, 3, 12), (12, .ireturn, 1, 13), (13, .aload_n 0, 1, 14), (14, .getfield 171, 3, 17), (17, .iload_n 1, 1, 18), (18, .if_icmp .lt 11, 3, 21), (21, .aload_n 0, 1, 22), (22, .getfield 171, 3, 25), (25, .iload_n 2, 1, 26), (26, .if_icmp .le 9, 3, 29), (29, .aload_n 0, 1, 30), (30, .iconst 3, 1, 31), (31, .invokevirtual 137, 3, 34), (34, .ireturn, 1, 35), (35, .aload_n 0, 1, 36), (36, .aload_n 0, 1, 37), (37, .getfield 171, 3, 40), (40, .putfield 111, 3, 43), (43, .aload_n 0, 1, 44), (44, .invokevirtual 98, 3, 47), (47, .iconst 1, 1, 48), (48, .ireturn, 1, 49)]
set_option maxRecDepth 20000 in
theorem dX3_numberWithin : dcL cX3_numberWithin lX3_numberWithinL = true := by decide +kernel
def b_X3_numberWithin_29 (h : PH) (v0 : Nat) : Option (Int32 × PH) := cO 3 h v0 (bind2 (m_X3_failed h v0 (3 : Int32)) fun x1 h2 => (rZ x1 h2))
set_option maxRecDepth 20000 in
theorem t_X3_numberWithin_29 {M : MV} {X : XT} {h hz : PH} {r : Int32} {ce sl mc ms : Nat} {v0 : Nat} (hc : Cx M X RX3 cX3_numberWithin) (hr : Rx M 3 176 mc ms 3) (he : Ex M X (some .boolean) "numberWithin" (some (.int r)) hz mc ms) (hm : ce ≤ mc) (hs : sl ≤ ms) (hf : b_X3_numberWithin_29 h v0 = some (r, hz)) : GG M X h ce sl 29 [(0, .ref (X.1 + v0))] [] := by
  unfold b_X3_numberWithin_29 at hf
  refine r_aload_n hc 0 (dc_at dX3_numberWithin 15 rfl) rfl ?_
  refine r_iconst (3 : Int32) hc (dc_at dX3_numberWithin 16 rfl) (by decide) ?_
  obtain ⟨ho, hf⟩ := cO_some hf
  refine ob2 hf fun x1 h2 ex hf => ?_
  refine r_callVi (As := [.int ((3 : Int32))]) (ci := 3) hc hr (dc_at dX3_numberWithin 17 rfl) ml_X3_137 mv_X3_failed vi_X3_failed rfl ho rfl (mt_X3_failed ex) (by first | exact Nat.le_of_ble_eq_true rfl | omega) (by first | exact Nat.le_of_ble_eq_true rfl | omega) (by first | exact Nat.le_of_ble_eq_true rfl | omega) hm hs ?_
  exact r_zret hc he (hm) (hs) (dc_at dX3_numberWithin 18 rfl) hf
def b_X3_numberWithin_0 (h : PH) (v0 : Nat) (v1 : Int32) (v2 : Int32) : Option (Int32 × PH) := (gI 3 5 h v0).bind fun x1 => (if x1 = (2 : Int32) then ((gI 3 7 h v0).bind fun x2 => (if x2 < v1 then (b_X3_numberWithin_29 h v0) else ((gI 3 7 h v0).bind fun x3 => (if x3 ≤ v2 then ((gI 3 7 h v0).bind fun x4 => ((pV 3 8 (.int x4) h v0).bind fun h5 => (cO 3 h5 v0 (bind2 (m_X3_next h5 v0) fun _ h7 => (rZ (1 : Int32) h7))))) else (b_X3_numberWithin_29 h v0))))) else (cO 3 h v0 (bind2 (m_X3_cantStand h v0) fun x8 h9 => (rZ x8 h9))))
set_option maxRecDepth 20000 in
theorem t_X3_numberWithin_0 {M : MV} {X : XT} {h hz : PH} {r : Int32} {ce sl mc ms : Nat} {v0 : Nat} {v1 : Int32} {v2 : Int32} (hc : Cx M X RX3 cX3_numberWithin) (hr : Rx M 3 176 mc ms 3) (he : Ex M X (some .boolean) "numberWithin" (some (.int r)) hz mc ms) (hm : ce ≤ mc) (hs : sl ≤ ms) (hf : b_X3_numberWithin_0 h v0 v1 v2 = some (r, hz)) : GG M X h ce sl 0 [(0, .ref (X.1 + v0)), (1, .int v1), (2, .int v2)] [] := by
  unfold b_X3_numberWithin_0 at hf
  refine r_aload_n hc 0 (dc_at dX3_numberWithin 0 rfl) rfl ?_
  refine r_getI hc (dc_at dX3_numberWithin 1 rfl) fl_X3_64 hf fun x1 hf => ?_
  refine r_iconst (2 : Int32) hc (dc_at dX3_numberWithin 2 rfl) (by decide) ?_
  refine r_icmp_eq (tgt := 13) hc (dc_at dX3_numberWithin 3 rfl) (by decide) hf (fun hf => ?_) (fun hf => ?_)
  · refine r_aload_n hc 0 (dc_at dX3_numberWithin 7 rfl) rfl ?_
    refine r_getI hc (dc_at dX3_numberWithin 8 rfl) fl_X3_171 hf fun x2 hf => ?_
    refine r_iload_n hc 1 (dc_at dX3_numberWithin 9 rfl) rfl ?_
    refine r_icmp_lt (tgt := 29) hc (dc_at dX3_numberWithin 10 rfl) (by decide) hf (fun hf => ?_) (fun hf => ?_)
    · exact gg_sub [0] rfl (t_X3_numberWithin_29 hc hr he hm hs  hf)
    · refine r_aload_n hc 0 (dc_at dX3_numberWithin 11 rfl) rfl ?_
      refine r_getI hc (dc_at dX3_numberWithin 12 rfl) fl_X3_171 hf fun x3 hf => ?_
      refine r_iload_n hc 2 (dc_at dX3_numberWithin 13 rfl) rfl ?_
      refine r_icmp_le (tgt := 35) hc (dc_at dX3_numberWithin 14 rfl) (by decide) hf (fun hf => ?_) (fun hf => ?_)
      · refine r_aload_n hc 0 (dc_at dX3_numberWithin 19 rfl) rfl ?_
        refine r_aload_n hc 0 (dc_at dX3_numberWithin 20 rfl) rfl ?_
        refine r_getI hc (dc_at dX3_numberWithin 21 rfl) fl_X3_171 hf fun x4 hf => ?_
        refine r_putI hc he (dc_at dX3_numberWithin 22 rfl) fp_X3_111 (fun q => by cases q) hf fun h5 hf => ?_
        refine r_aload_n hc 0 (dc_at dX3_numberWithin 23 rfl) rfl ?_
        obtain ⟨ho, hf⟩ := cO_some hf
        refine ob2 hf fun u h7 ex hf => ?_
        refine r_callVv (As := []) (ci := 3) hc hr (dc_at dX3_numberWithin 24 rfl) ml_X3_98 mv_X3_next vi_X3_next rfl ho rfl (mt_X3_next ex) (by first | exact Nat.le_of_ble_eq_true rfl | omega) (by first | exact Nat.le_of_ble_eq_true rfl | omega) (by first | exact Nat.le_of_ble_eq_true rfl | omega) hm hs ?_
        refine r_iconst (1 : Int32) hc (dc_at dX3_numberWithin 25 rfl) (by decide) ?_
        exact r_zret hc he (hm) (hs) (dc_at dX3_numberWithin 26 rfl) hf
      · exact gg_sub [0] rfl (t_X3_numberWithin_29 hc hr he hm hs  hf)
  · refine r_aload_n hc 0 (dc_at dX3_numberWithin 4 rfl) rfl ?_
    obtain ⟨ho, hf⟩ := cO_some hf
    refine ob2 hf fun x8 h9 ex hf => ?_
    refine r_callVi (As := []) (ci := 3) hc hr (dc_at dX3_numberWithin 5 rfl) ml_X3_92 mv_X3_cantStand vi_X3_cantStand rfl ho rfl (mt_X3_cantStand ex) (by first | exact Nat.le_of_ble_eq_true rfl | omega) (by first | exact Nat.le_of_ble_eq_true rfl | omega) (by first | exact Nat.le_of_ble_eq_true rfl | omega) hm hs ?_
    exact r_zret hc he (hm) (hs) (dc_at dX3_numberWithin 6 rfl) hf
def m_X3_numberWithin (h : PH) (p0 : Nat) (p1 : Int32) (p2 : Int32) : Option (Int32 × PH) := b_X3_numberWithin_0 h p0 p1 p2
theorem mt_X3_numberWithin {l : Launch} {X : XT} {h hz : PH} {p0 : Nat} {p1 : Int32} {p2 : Int32} {r : Int32} (ex : m_X3_numberWithin h p0 p1 p2 = some (r, hz)) : MT l X yX3_numberWithin cX3_numberWithin 3 (some .boolean) 3 176 0 0 [.ref (X.1 + p0), .int p1, .int p2] h (some (.int r)) hz := MT.of (by decide) (Nat.le_of_ble_eq_true rfl) fun M hl hc hr he => by
  subst hl
  exact gg_sub [0, 1, 2] rfl (t_X3_numberWithin_0  hc hr he (Nat.zero_le _) (Nat.zero_le _) ex)
/-! FractionLift$Reader.topLine()Z -/
def lX3_topLineL : List (Nat × Instr × Nat × Nat) := [(0, .aload_n 0, 1, 1), (1, .getfield 43, 3, 4), (4, .ifCond .ne 23, 3, 7), (7, .aload_n 0, 1, 8), (8, .getfield 12, 3, 11), (11, .getfield 101, 3, 14), (14, .ifCond .gt 13, 3, 17), (17, .aload_n 0, 1, 18), (18, .getfield 12, 3, 21), (21, .getfield 104, 3, 24), (24, .ifCond .le 8, 3, 27), (27, .aload_n 0, 1, 28), (28, .invokevirtual 92, 3, 31), (31, .ireturn, 1, 32), (32, .aload_n 0, 1, 33), (33, .invokevirtual 98, 3, 36), (36, .aload_n 0, 1, 37), (37, .iconst 1, 1, 38), (38, .bipush 9, 2, 40), (40, .invokevirtual 107, 3, 43), (43, .ifCond .ne 5, 3, 46), (46, .iconst 0, 1, 47), (47, .ireturn, 1, 48), (48, .aload_n 0, 1, 49), (49, .getfield 12, 3, 52), (52, .aload_n 0, 1, 53), (53, .getfield 111, 3, 56), (56, .putfield 114, 3, 59), (59, .iconst 1, 1, 60), (60, .ireturn, 1, 61)]
set_option maxRecDepth 20000 in
theorem dX3_topLine : dcL cX3_topLine lX3_topLineL = true := by decide +kernel
def b_X3_topLine_27 (h : PH) (v0 : Nat) : Option (Int32 × PH) := cO 3 h v0 (bind2 (m_X3_cantStand h v0) fun x1 h2 => (rZ x1 h2))
set_option maxRecDepth 20000 in
theorem t_X3_topLine_27 {M : MV} {X : XT} {h hz : PH} {r : Int32} {ce sl mc ms : Nat} {v0 : Nat} (hc : Cx M X RX3 cX3_topLine) (hr : Rx M 4 234 mc ms 1) (he : Ex M X (some .boolean) "topLine" (some (.int r)) hz mc ms) (hm : ce ≤ mc) (hs : sl ≤ ms) (hf : b_X3_topLine_27 h v0 = some (r, hz)) : GG M X h ce sl 27 [(0, .ref (X.1 + v0))] [] := by
  unfold b_X3_topLine_27 at hf
  refine r_aload_n hc 0 (dc_at dX3_topLine 11 rfl) rfl ?_
  obtain ⟨ho, hf⟩ := cO_some hf
  refine ob2 hf fun x1 h2 ex hf => ?_
  refine r_callVi (As := []) (ci := 3) hc hr (dc_at dX3_topLine 12 rfl) ml_X3_92 mv_X3_cantStand vi_X3_cantStand rfl ho rfl (mt_X3_cantStand ex) (by first | exact Nat.le_of_ble_eq_true rfl | omega) (by first | exact Nat.le_of_ble_eq_true rfl | omega) (by first | exact Nat.le_of_ble_eq_true rfl | omega) hm hs ?_
  exact r_zret hc he (hm) (hs) (dc_at dX3_topLine 13 rfl) hf
def b_X3_topLine_0 (h : PH) (v0 : Nat) : Option (Int32 × PH) := (gI 3 9 h v0).bind fun x1 => (if x1 = 0 then ((gR 3 0 h v0).bind fun a2 => ((gI 0 9 h a2).bind fun x3 => (if 0 < x3 then (b_X3_topLine_27 h v0) else ((gR 3 0 h v0).bind fun a4 => ((gI 0 15 h a4).bind fun x5 => (if x5 ≤ 0 then (cO 3 h v0 (bind2 (m_X3_next h v0) fun _ h7 => (cO 3 h7 v0 (bind2 (m_X3_numberWithin h7 v0 (1 : Int32) (9 : Int32)) fun x8 h9 => (if x8 = 0 then (rZ (0 : Int32) h9) else ((gR 3 0 h9 v0).bind fun a10 => ((gI 3 8 h9 v0).bind fun x11 => ((pV 0 0 (.int x11) h9 a10).bind fun h12 => (rZ (1 : Int32) h12))))))))) else (b_X3_topLine_27 h v0))))))) else (b_X3_topLine_27 h v0))
set_option maxRecDepth 20000 in
theorem t_X3_topLine_0 {M : MV} {X : XT} {h hz : PH} {r : Int32} {ce sl mc ms : Nat} {v0 : Nat} (hc : Cx M X RX3 cX3_topLine) (hr : Rx M 4 234 mc ms 1) (he : Ex M X (some .boolean) "topLine" (some (.int r)) hz mc ms) (hm : ce ≤ mc) (hs : sl ≤ ms) (hf : b_X3_topLine_0 h v0 = some (r, hz)) : GG M X h ce sl 0 [(0, .ref (X.1 + v0))] [] := by
  unfold b_X3_topLine_0 at hf
  refine r_aload_n hc 0 (dc_at dX3_topLine 0 rfl) rfl ?_
  refine r_getI hc (dc_at dX3_topLine 1 rfl) fl_X3_43 hf fun x1 hf => ?_
  refine r_if_ne (tgt := 27) hc (dc_at dX3_topLine 2 rfl) (by decide) hf (fun hf => ?_) (fun hf => ?_)
  · exact gg_sub [0] rfl (t_X3_topLine_27 hc hr he hm hs  hf)
  · refine r_aload_n hc 0 (dc_at dX3_topLine 3 rfl) rfl ?_
    refine r_getR hc (dc_at dX3_topLine 4 rfl) fl_X3_12 hf fun a2 hf => ?_
    refine r_getI hc (dc_at dX3_topLine 5 rfl) fl_X3_101 hf fun x3 hf => ?_
    refine r_if_gt (tgt := 27) hc (dc_at dX3_topLine 6 rfl) (by decide) hf (fun hf => ?_) (fun hf => ?_)
    · exact gg_sub [0] rfl (t_X3_topLine_27 hc hr he hm hs  hf)
    · refine r_aload_n hc 0 (dc_at dX3_topLine 7 rfl) rfl ?_
      refine r_getR hc (dc_at dX3_topLine 8 rfl) fl_X3_12 hf fun a4 hf => ?_
      refine r_getI hc (dc_at dX3_topLine 9 rfl) fl_X3_104 hf fun x5 hf => ?_
      refine r_if_le (tgt := 32) hc (dc_at dX3_topLine 10 rfl) (by decide) hf (fun hf => ?_) (fun hf => ?_)
      · refine r_aload_n hc 0 (dc_at dX3_topLine 14 rfl) rfl ?_
        obtain ⟨ho, hf⟩ := cO_some hf
        refine ob2 hf fun u h7 ex hf => ?_
        refine r_callVv (As := []) (ci := 3) hc hr (dc_at dX3_topLine 15 rfl) ml_X3_98 mv_X3_next vi_X3_next rfl ho rfl (mt_X3_next ex) (by first | exact Nat.le_of_ble_eq_true rfl | omega) (by first | exact Nat.le_of_ble_eq_true rfl | omega) (by first | exact Nat.le_of_ble_eq_true rfl | omega) hm hs ?_
        refine r_aload_n hc 0 (dc_at dX3_topLine 16 rfl) rfl ?_
        refine r_iconst (1 : Int32) hc (dc_at dX3_topLine 17 rfl) (by decide) ?_
        refine r_bipush (9 : Int32) hc (dc_at dX3_topLine 18 rfl) (by decide) ?_
        obtain ⟨ho, hf⟩ := cO_some hf
        refine ob2 hf fun x8 h9 ex hf => ?_
        refine r_callVi (As := [.int ((1 : Int32)), .int ((9 : Int32))]) (ci := 3) hc hr (dc_at dX3_topLine 19 rfl) ml_X3_107 mv_X3_numberWithin vi_X3_numberWithin rfl ho rfl (mt_X3_numberWithin ex) (by first | exact Nat.le_of_ble_eq_true rfl | omega) (by first | exact Nat.le_of_ble_eq_true rfl | omega) (by first | exact Nat.le_of_ble_eq_true rfl | omega) hm hs ?_
        refine r_if_ne (tgt := 48) hc (dc_at dX3_topLine 20 rfl) (by decide) hf (fun hf => ?_) (fun hf => ?_)
        · refine r_aload_n hc 0 (dc_at dX3_topLine 23 rfl) rfl ?_
          refine r_getR hc (dc_at dX3_topLine 24 rfl) fl_X3_12 hf fun a10 hf => ?_
          refine r_aload_n hc 0 (dc_at dX3_topLine 25 rfl) rfl ?_
          refine r_getI hc (dc_at dX3_topLine 26 rfl) fl_X3_111 hf fun x11 hf => ?_
          refine r_putI hc he (dc_at dX3_topLine 27 rfl) fp_X3_114 (fun q => by cases q) hf fun h12 hf => ?_
          refine r_iconst (1 : Int32) hc (dc_at dX3_topLine 28 rfl) (by decide) ?_
          exact r_zret hc he (hm) (hs) (dc_at dX3_topLine 29 rfl) hf
        · refine r_iconst (0 : Int32) hc (dc_at dX3_topLine 21 rfl) (by decide) ?_
          exact r_zret hc he (hm) (hs) (dc_at dX3_topLine 22 rfl) hf
      · exact gg_sub [0] rfl (t_X3_topLine_27 hc hr he hm hs  hf)
def m_X3_topLine (h : PH) (p0 : Nat) : Option (Int32 × PH) := b_X3_topLine_0 h p0
theorem mt_X3_topLine {l : Launch} {X : XT} {h hz : PH} {p0 : Nat} {r : Int32} (ex : m_X3_topLine h p0 = some (r, hz)) : MT l X yX3_topLine cX3_topLine 1 (some .boolean) 4 234 0 0 [.ref (X.1 + p0)] h (some (.int r)) hz := MT.of (by decide) (Nat.le_of_ble_eq_true rfl) fun M hl hc hr he => by
  subst hl
  exact gg_sub [0] rfl (t_X3_topLine_0  hc hr he (Nat.zero_le _) (Nat.zero_le _) ex)
/-! FractionLift$Reader.pushSign(I)V -/
def lX3_pushSignL : List (Nat × Instr × Nat × Nat) := [(0, .aload_n 0, 1, 1), (1, .getfield 174, 3, 4), (4, .bipush 64, 2, 6), (6, .if_icmp .ge 23, 3, 9), (9, .aload_n 0, 1, 10), (10, .getfield 25, 3, 13), (13, .aload_n 0, 1, 14), (14, .getfield 174, 3, 17), (17, .iload_n 1, 1, 18), (18, .iastore, 1, 19), (19, .aload_n 0, 1, 20), (20, .dup, 1, 21), (21, .getfield 174, 3, 24), (24, .iconst 1, 1, 25), (25, .iadd, 1, 26), (26, .putfield 174, 3, 29), (29, .return_, 1, 30)]
set_option maxRecDepth 20000 in
theorem dX3_pushSign : dcL cX3_pushSign lX3_pushSignL = true := by decide +kernel
def b_X3_pushSign_0 (h : PH) (v0 : Nat) (v1 : Int32) : Option (Unit × PH) := (gI 3 12 h v0).bind fun x1 => (if (64 : Int32) ≤ x1 then (some ((), h)) else ((gR 3 11 h v0).bind fun a2 => ((gI 3 12 h v0).bind fun x3 => ((sI 0 h a2 x3 v1).bind fun h4 => ((gI 3 12 h4 v0).bind fun x5 => ((pV 3 12 (.int ((x5 + (1 : Int32)))) h4 v0).bind fun h6 => (some ((), h6))))))))
set_option maxRecDepth 20000 in
theorem t_X3_pushSign_0 {M : MV} {X : XT} {h hz : PH} {r : Unit} {ce sl mc ms : Nat} {v0 : Nat} {v1 : Int32} (hc : Cx M X RX3 cX3_pushSign) (hr : Rx M 1 60 mc ms 2) (he : Ex M X none "pushSign" none hz mc ms) (hm : ce ≤ mc) (hs : sl ≤ ms) (hf : b_X3_pushSign_0 h v0 v1 = some (r, hz)) : GG M X h ce sl 0 [(0, .ref (X.1 + v0)), (1, .int v1)] [] := by
  unfold b_X3_pushSign_0 at hf
  refine r_aload_n hc 0 (dc_at dX3_pushSign 0 rfl) rfl ?_
  refine r_getI hc (dc_at dX3_pushSign 1 rfl) fl_X3_174 hf fun x1 hf => ?_
  refine r_bipush (64 : Int32) hc (dc_at dX3_pushSign 2 rfl) (by decide) ?_
  refine r_icmp_ge (tgt := 29) hc (dc_at dX3_pushSign 3 rfl) (by decide) hf (fun hf => ?_) (fun hf => ?_)
  · exact r_vret hc he (hm) (hs) (dc_at dX3_pushSign 16 rfl) hf
  · refine r_aload_n hc 0 (dc_at dX3_pushSign 4 rfl) rfl ?_
    refine r_getR hc (dc_at dX3_pushSign 5 rfl) fl_X3_25 hf fun a2 hf => ?_
    refine r_aload_n hc 0 (dc_at dX3_pushSign 6 rfl) rfl ?_
    refine r_getI hc (dc_at dX3_pushSign 7 rfl) fl_X3_174 hf fun x3 hf => ?_
    refine r_iload_n hc 1 (dc_at dX3_pushSign 8 rfl) rfl ?_
    refine r_iastore hc (dc_at dX3_pushSign 9 rfl) hf fun h4 hf => ?_
    refine r_aload_n hc 0 (dc_at dX3_pushSign 10 rfl) rfl ?_
    refine r_dup hc (dc_at dX3_pushSign 11 rfl) rfl ?_
    refine r_getI hc (dc_at dX3_pushSign 12 rfl) fl_X3_174 hf fun x5 hf => ?_
    refine r_iconst (1 : Int32) hc (dc_at dX3_pushSign 13 rfl) (by decide) ?_
    refine r_iadd hc (dc_at dX3_pushSign 14 rfl) ?_
    refine r_putI hc he (dc_at dX3_pushSign 15 rfl) fp_X3_174 (fun q => by cases q) hf fun h6 hf => ?_
    exact r_vret hc he (hm) (hs) (dc_at dX3_pushSign 16 rfl) hf
def m_X3_pushSign (h : PH) (p0 : Nat) (p1 : Int32) : Option (Unit × PH) := b_X3_pushSign_0 h p0 p1
theorem mt_X3_pushSign {l : Launch} {X : XT} {h hz : PH} {p0 : Nat} {p1 : Int32} {r : Unit} (ex : m_X3_pushSign h p0 p1 = some (r, hz)) : MT l X yX3_pushSign cX3_pushSign 2 none 1 60 0 0 [.ref (X.1 + p0), .int p1] h none hz := MT.of (by decide) (Nat.le_of_ble_eq_true rfl) fun M hl hc hr he => by
  subst hl
  exact gg_sub [0, 1] rfl (t_X3_pushSign_0  hc hr he (Nat.zero_le _) (Nat.zero_le _) ex)
/-! FractionLift$Reader.emit(I)V -/
def lX3_emitL : List (Nat × Instr × Nat × Nat) := [(0, .aload_n 0, 1, 1), (1, .getfield 47, 3, 4), (4, .aload_n 0, 1, 5), (5, .getfield 12, 3, 8), (8, .getfield 200, 3, 11), (11, .arraylength, 1, 12), (12, .if_icmp .ge 26, 3, 15), (15, .aload_n 0, 1, 16), (16, .getfield 12, 3, 19), (19, .getfield 200, 3, 22), (22, .aload_n 0, 1, 23), (23, .getfield 47, 3, 26), (26, .iload_n 1, 1, 27), (27, .iastore, 1, 28), (28, .aload_n 0, 1, 29), (29, .dup, 1, 30), (30, .getfield 47, 3, 33), (33, .iconst 1, 1, 34), (34, .iadd, 1, 35), (35, .putfield 47, 3, 38), (38, .return_, 1, 39)]
set_option maxRecDepth 20000 in
theorem dX3_emit : dcL cX3_emit lX3_emitL = true := by decide +kernel
def b_X3_emit_0 (h : PH) (v0 : Nat) (v1 : Int32) : Option (Unit × PH) := (gI 3 10 h v0).bind fun x1 => ((gR 3 0 h v0).bind fun a2 => ((gR 0 8 h a2).bind fun a3 => ((aLen h a3).bind fun x4 => (if x4 ≤ x1 then (some ((), h)) else ((gR 3 0 h v0).bind fun a5 => ((gR 0 8 h a5).bind fun a6 => ((gI 3 10 h v0).bind fun x7 => ((sI 0 h a6 x7 v1).bind fun h8 => ((gI 3 10 h8 v0).bind fun x9 => ((pV 3 10 (.int ((x9 + (1 : Int32)))) h8 v0).bind fun h10 => (some ((), h10))))))))))))
set_option maxRecDepth 20000 in
theorem t_X3_emit_0 {M : MV} {X : XT} {h hz : PH} {r : Unit} {ce sl mc ms : Nat} {v0 : Nat} {v1 : Int32} (hc : Cx M X RX3 cX3_emit) (hr : Rx M 1 60 mc ms 2) (he : Ex M X none "emit" none hz mc ms) (hm : ce ≤ mc) (hs : sl ≤ ms) (hf : b_X3_emit_0 h v0 v1 = some (r, hz)) : GG M X h ce sl 0 [(0, .ref (X.1 + v0)), (1, .int v1)] [] := by
  unfold b_X3_emit_0 at hf
  refine r_aload_n hc 0 (dc_at dX3_emit 0 rfl) rfl ?_
  refine r_getI hc (dc_at dX3_emit 1 rfl) fl_X3_47 hf fun x1 hf => ?_
  refine r_aload_n hc 0 (dc_at dX3_emit 2 rfl) rfl ?_
  refine r_getR hc (dc_at dX3_emit 3 rfl) fl_X3_12 hf fun a2 hf => ?_
  refine r_getR hc (dc_at dX3_emit 4 rfl) fl_X3_200 hf fun a3 hf => ?_
  refine r_alen hc (dc_at dX3_emit 5 rfl) hf fun x4 hf => ?_
  refine r_icmp_ge (tgt := 38) hc (dc_at dX3_emit 6 rfl) (by decide) hf (fun hf => ?_) (fun hf => ?_)
  · exact r_vret hc he (hm) (hs) (dc_at dX3_emit 20 rfl) hf
  · refine r_aload_n hc 0 (dc_at dX3_emit 7 rfl) rfl ?_
    refine r_getR hc (dc_at dX3_emit 8 rfl) fl_X3_12 hf fun a5 hf => ?_
    refine r_getR hc (dc_at dX3_emit 9 rfl) fl_X3_200 hf fun a6 hf => ?_
    refine r_aload_n hc 0 (dc_at dX3_emit 10 rfl) rfl ?_
    refine r_getI hc (dc_at dX3_emit 11 rfl) fl_X3_47 hf fun x7 hf => ?_
    refine r_iload_n hc 1 (dc_at dX3_emit 12 rfl) rfl ?_
    refine r_iastore hc (dc_at dX3_emit 13 rfl) hf fun h8 hf => ?_
    refine r_aload_n hc 0 (dc_at dX3_emit 14 rfl) rfl ?_
    refine r_dup hc (dc_at dX3_emit 15 rfl) rfl ?_
    refine r_getI hc (dc_at dX3_emit 16 rfl) fl_X3_47 hf fun x9 hf => ?_
    refine r_iconst (1 : Int32) hc (dc_at dX3_emit 17 rfl) (by decide) ?_
    refine r_iadd hc (dc_at dX3_emit 18 rfl) ?_
    refine r_putI hc he (dc_at dX3_emit 19 rfl) fp_X3_47 (fun q => by cases q) hf fun h10 hf => ?_
    exact r_vret hc he (hm) (hs) (dc_at dX3_emit 20 rfl) hf
def m_X3_emit (h : PH) (p0 : Nat) (p1 : Int32) : Option (Unit × PH) := b_X3_emit_0 h p0 p1
theorem mt_X3_emit {l : Launch} {X : XT} {h hz : PH} {p0 : Nat} {p1 : Int32} {r : Unit} (ex : m_X3_emit h p0 p1 = some (r, hz)) : MT l X yX3_emit cX3_emit 2 none 1 60 0 0 [.ref (X.1 + p0), .int p1] h none hz := MT.of (by decide) (Nat.le_of_ble_eq_true rfl) fun M hl hc hr he => by
  subst hl
  exact gg_sub [0, 1] rfl (t_X3_emit_0  hc hr he (Nat.zero_le _) (Nat.zero_le _) ex)
/-! FractionLift$Reader.atom()Z -/
def lX3_atomL : List (Nat × Instr × Nat × Nat) := [(0, .aload_n 0, 1, 1), (1, .getfield 64, 3, 4), (4, .lookupswitch 61 #[(2, 36), (4, 53), (11, 46)], 36, 40), (40, .aload_n 0, 1, 41), (41, .aload_n 0, 1, 42), (42, .getfield 171, 3, 45), (45, .invokevirtual 197, 3, 48), (48, .iconst 1, 1, 49), (49, .ireturn, 1, 50), (50, .aload_n 0, 1, 51), (51, .iconst (-1), 1, 52), (52, .invokevirtual 197, 3, 55), (55, .iconst 1, 1, 56), (56, .ireturn, 1, 57), (57, .aload_n 0, 1, 58), (58, .bipush (-2), 2, 60), (60, .invokevirtual 197, 3, 63), (63, .iconst 1, 1, 64), (64, .ireturn, 1, 65), (65, .iconst 0, 1, 66), (66, .ireturn, 1, 67)]
set_option maxRecDepth 20000 in
theorem dX3_atom : dcL cX3_atom lX3_atomL = true := by decide +kernel
def b_X3_atom_0 (h : PH) (v0 : Nat) : Option (Int32 × PH) := (gI 3 5 h v0).bind fun x1 => (if x1 = (2 : Int32) then ((gI 3 7 h v0).bind fun x2 => (cO 3 h v0 (bind2 (m_X3_emit h v0 x2) fun _ h4 => (rZ (1 : Int32) h4)))) else (if x1 = (4 : Int32) then (cO 3 h v0 (bind2 (m_X3_emit h v0 (-2 : Int32)) fun _ h6 => (rZ (1 : Int32) h6))) else (if x1 = (11 : Int32) then (cO 3 h v0 (bind2 (m_X3_emit h v0 (-1 : Int32)) fun _ h8 => (rZ (1 : Int32) h8))) else (rZ (0 : Int32) h))))
set_option maxRecDepth 20000 in
theorem t_X3_atom_0 {M : MV} {X : XT} {h hz : PH} {r : Int32} {ce sl mc ms : Nat} {v0 : Nat} (hc : Cx M X RX3 cX3_atom) (hr : Rx M 2 118 mc ms 1) (he : Ex M X (some .boolean) "atom" (some (.int r)) hz mc ms) (hm : ce ≤ mc) (hs : sl ≤ ms) (hf : b_X3_atom_0 h v0 = some (r, hz)) : GG M X h ce sl 0 [(0, .ref (X.1 + v0))] [] := by
  unfold b_X3_atom_0 at hf
  refine r_aload_n hc 0 (dc_at dX3_atom 0 rfl) rfl ?_
  refine r_getI hc (dc_at dX3_atom 1 rfl) fl_X3_64 hf fun x1 hf => ?_
  by_cases hk0 : x1 = (2 : Int32)
  · rw [if_pos hk0] at hf
    refine r_lookup (tgt := 40) hc (dc_at dX3_atom 2 rfl) (by decide) (by rw [hk0] <;> decide) (by decide) ?_
    refine r_aload_n hc 0 (dc_at dX3_atom 3 rfl) rfl ?_
    refine r_aload_n hc 0 (dc_at dX3_atom 4 rfl) rfl ?_
    refine r_getI hc (dc_at dX3_atom 5 rfl) fl_X3_171 hf fun x2 hf => ?_
    obtain ⟨ho, hf⟩ := cO_some hf
    refine ob2 hf fun u h4 ex hf => ?_
    refine r_callVv (As := [.int x2]) (ci := 3) hc hr (dc_at dX3_atom 6 rfl) ml_X3_197 mv_X3_emit vi_X3_emit rfl ho rfl (mt_X3_emit ex) (by first | exact Nat.le_of_ble_eq_true rfl | omega) (by first | exact Nat.le_of_ble_eq_true rfl | omega) (by first | exact Nat.le_of_ble_eq_true rfl | omega) hm hs ?_
    refine r_iconst (1 : Int32) hc (dc_at dX3_atom 7 rfl) (by decide) ?_
    exact r_zret hc he (hm) (hs) (dc_at dX3_atom 8 rfl) hf
  rw [if_neg hk0] at hf
  by_cases hk1 : x1 = (4 : Int32)
  · rw [if_pos hk1] at hf
    refine r_lookup (tgt := 57) hc (dc_at dX3_atom 2 rfl) (by decide) (by rw [hk1] <;> decide) (by decide) ?_
    refine r_aload_n hc 0 (dc_at dX3_atom 14 rfl) rfl ?_
    refine r_bipush (-2 : Int32) hc (dc_at dX3_atom 15 rfl) (by decide) ?_
    obtain ⟨ho, hf⟩ := cO_some hf
    refine ob2 hf fun u h6 ex hf => ?_
    refine r_callVv (As := [.int ((-2 : Int32))]) (ci := 3) hc hr (dc_at dX3_atom 16 rfl) ml_X3_197 mv_X3_emit vi_X3_emit rfl ho rfl (mt_X3_emit ex) (by first | exact Nat.le_of_ble_eq_true rfl | omega) (by first | exact Nat.le_of_ble_eq_true rfl | omega) (by first | exact Nat.le_of_ble_eq_true rfl | omega) hm hs ?_
    refine r_iconst (1 : Int32) hc (dc_at dX3_atom 17 rfl) (by decide) ?_
    exact r_zret hc he (hm) (hs) (dc_at dX3_atom 18 rfl) hf
  rw [if_neg hk1] at hf
  by_cases hk2 : x1 = (11 : Int32)
  · rw [if_pos hk2] at hf
    refine r_lookup (tgt := 50) hc (dc_at dX3_atom 2 rfl) (by decide) (by rw [hk2] <;> decide) (by decide) ?_
    refine r_aload_n hc 0 (dc_at dX3_atom 9 rfl) rfl ?_
    refine r_iconst (-1 : Int32) hc (dc_at dX3_atom 10 rfl) (by decide) ?_
    obtain ⟨ho, hf⟩ := cO_some hf
    refine ob2 hf fun u h8 ex hf => ?_
    refine r_callVv (As := [.int ((-1 : Int32))]) (ci := 3) hc hr (dc_at dX3_atom 11 rfl) ml_X3_197 mv_X3_emit vi_X3_emit rfl ho rfl (mt_X3_emit ex) (by first | exact Nat.le_of_ble_eq_true rfl | omega) (by first | exact Nat.le_of_ble_eq_true rfl | omega) (by first | exact Nat.le_of_ble_eq_true rfl | omega) hm hs ?_
    refine r_iconst (1 : Int32) hc (dc_at dX3_atom 12 rfl) (by decide) ?_
    exact r_zret hc he (hm) (hs) (dc_at dX3_atom 13 rfl) hf
  rw [if_neg hk2] at hf
  refine r_lookup (tgt := 65) hc (dc_at dX3_atom 2 rfl) (by decide) (lk_dflt (by simp only [List.forall_mem_cons, List.not_mem_nil, false_implies, implies_true, and_true]; exact ⟨lk_ne (y := 2) (by decide) hk0, lk_ne (y := 4) (by decide) hk1, lk_ne (y := 11) (by decide) hk2⟩)) (by decide) ?_
  refine r_iconst (0 : Int32) hc (dc_at dX3_atom 19 rfl) (by decide) ?_
  exact r_zret hc he (hm) (hs) (dc_at dX3_atom 20 rfl) hf
def m_X3_atom (h : PH) (p0 : Nat) : Option (Int32 × PH) := b_X3_atom_0 h p0
theorem mt_X3_atom {l : Launch} {X : XT} {h hz : PH} {p0 : Nat} {r : Int32} (ex : m_X3_atom h p0 = some (r, hz)) : MT l X yX3_atom cX3_atom 1 (some .boolean) 2 118 0 0 [.ref (X.1 + p0)] h (some (.int r)) hz := MT.of (by decide) (Nat.le_of_ble_eq_true rfl) fun M hl hc hr he => by
  subst hl
  exact gg_sub [0] rfl (t_X3_atom_0  hc hr he (Nat.zero_le _) (Nat.zero_le _) ex)
/-! FractionLift$Reader.strength(I)I -/
def lX3_strengthL : List (Nat × Instr × Nat × Nat) := [(0, .iload_n 0, 1, 1), (1, .bipush (-7), 2, 3), (3, .if_icmp .ne 5, 3, 6), (6, .iconst (-1), 1, 7), (7, .ireturn, 1, 8), (8, .iload_n 0, 1, 9), (9, .bipush (-5), 2, 11), (11, .if_icmp .eq 9, 3, 14), (14, .iload_n 0, 1, 15), (15, .bipush (-6), 2, 17), (17, .if_icmp .ne 7, 3, 20), (20, .iconst 1, 1, 21), (21, .goto 4, 3, 24), (24, .iconst 0, 1, 25), (25, .ireturn, 1, 26)]
set_option maxRecDepth 20000 in
theorem dX3_strength : dcL cX3_strength lX3_strengthL = true := by decide +kernel
def b_X3_strength_0 (v0 : Int32) : Option Int32 := if v0 = (-7 : Int32) then (some (-1 : Int32)) else (if v0 = (-5 : Int32) then (some (1 : Int32)) else (if v0 = (-6 : Int32) then (some (1 : Int32)) else (some (0 : Int32))))
set_option maxRecDepth 20000 in
theorem t_X3_strength_0 {M : MV} {X : XT} {h : PH} {r : Int32} {ce sl mc ms : Nat} {v0 : Int32} (hc : Cx M X RX3 cX3_strength) (hr : Rx M 1 60 mc ms 1) (he : Ex M X (some .int) "strength" (some (.int r)) h mc ms) (hm : ce ≤ mc) (hs : sl ≤ ms) (hf : b_X3_strength_0 v0 = some r) : GG M X h ce sl 0 [(0, .int v0)] [] := by
  unfold b_X3_strength_0 at hf
  refine r_iload_n hc 0 (dc_at dX3_strength 0 rfl) rfl ?_
  refine r_bipush (-7 : Int32) hc (dc_at dX3_strength 1 rfl) (by decide) ?_
  refine r_icmp_ne (tgt := 8) hc (dc_at dX3_strength 2 rfl) (by decide) hf (fun hf => ?_) (fun hf => ?_)
  · refine r_iload_n hc 0 (dc_at dX3_strength 5 rfl) rfl ?_
    refine r_bipush (-5 : Int32) hc (dc_at dX3_strength 6 rfl) (by decide) ?_
    refine r_icmp_eq (tgt := 20) hc (dc_at dX3_strength 7 rfl) (by decide) hf (fun hf => ?_) (fun hf => ?_)
    · refine r_iconst (1 : Int32) hc (dc_at dX3_strength 11 rfl) (by decide) ?_
      refine r_goto (tgt := 25) hc (dc_at dX3_strength 12 rfl) (by decide) ?_
      exact r_iretP hc he (hm) (hs) (dc_at dX3_strength 14 rfl) hf
    · refine r_iload_n hc 0 (dc_at dX3_strength 8 rfl) rfl ?_
      refine r_bipush (-6 : Int32) hc (dc_at dX3_strength 9 rfl) (by decide) ?_
      refine r_icmp_ne (tgt := 24) hc (dc_at dX3_strength 10 rfl) (by decide) hf (fun hf => ?_) (fun hf => ?_)
      · refine r_iconst (0 : Int32) hc (dc_at dX3_strength 13 rfl) (by decide) ?_
        exact r_iretP hc he (hm) (hs) (dc_at dX3_strength 14 rfl) hf
      · refine r_iconst (1 : Int32) hc (dc_at dX3_strength 11 rfl) (by decide) ?_
        refine r_goto (tgt := 25) hc (dc_at dX3_strength 12 rfl) (by decide) ?_
        exact r_iretP hc he (hm) (hs) (dc_at dX3_strength 14 rfl) hf
  · refine r_iconst (-1 : Int32) hc (dc_at dX3_strength 3 rfl) (by decide) ?_
    exact r_iretP hc he (hm) (hs) (dc_at dX3_strength 4 rfl) hf
def m_X3_strength (p0 : Int32) : Option Int32 := b_X3_strength_0 p0
theorem mt_X3_strength {l : Launch} {X : XT} {h : PH} {p0 : Int32} {r : Int32} (ex : m_X3_strength p0 = some r) : MT l X yX3_strength cX3_strength 1 (some .int) 1 60 0 0 [.int p0] h (some (.int r)) h := MT.of (by decide) (Nat.le_of_ble_eq_true rfl) fun M hl hc hr he => by
  subst hl
  exact gg_sub [0] rfl (t_X3_strength_0  hc hr he (Nat.zero_le _) (Nat.zero_le _) ex)
/-! FractionLift$Reader.popSigns(I)V -/
def lX3_popSignsL : List (Nat × Instr × Nat × Nat) := [(0, .aload_n 0, 1, 1), (1, .getfield 174, 3, 4), (4, .iconst 1, 1, 5), (5, .isub, 1, 6), (6, .istore_n 2, 1, 7), (7, .iload_n 2, 1, 8), (8, .ifCond .lt 43, 3, 11), (11, .iload_n 2, 1, 12), (12, .bipush 64, 2, 14), (14, .if_icmp .ge 37, 3, 17), (17, .aload_n 0, 1, 18), (18, .getfield 25, 3, 21), (21, .iload_n 2, 1, 22), (22, .iaload, 1, 23), (23, .invokestatic 193, 3, 26), (26, .iload_n 1, 1, 27), (27, .if_icmp .lt 24, 3, 30), (30, .aload_n 0, 1, 31), (31, .aload_n 0, 1, 32), (32, .getfield 25, 3, 35), (35, .iload_n 2, 1, 36), (36, .iaload, 1, 37), (37, .invokevirtual 197, 3, 40), (40, .aload_n 0, 1, 41), (41, .iload_n 2, 1, 42), (42, .putfield 174, 3, 45), (45, .iinc 2 (-1), 3, 48), (48, .goto (-41), 3, 51), (51, .return_, 1, 52)]
set_option maxRecDepth 20000 in
theorem dX3_popSigns : dcL cX3_popSigns lX3_popSignsL = true := by decide +kernel
def b_X3_popSigns_7 (F : Nat) (self5 : PH → Nat → Int32 → Int32 → Option (Unit × PH)) (h : PH) (v0 : Nat) (v1 : Int32) (v2 : Int32) : Option (Unit × PH) := if v2 < 0 then (some ((), h)) else (if (64 : Int32) ≤ v2 then (some ((), h)) else ((gR 3 11 h v0).bind fun a1 => ((aI 0 h a1 v2).bind fun x2 => ((m_X3_strength x2).bind fun x3 => (if x3 < v1 then (some ((), h)) else ((gR 3 11 h v0).bind fun a4 => ((aI 0 h a4 v2).bind fun x5 => (cO 3 h v0 (bind2 (m_X3_emit h v0 x5) fun _ h7 => ((pV 3 12 (.int v2) h7 v0).bind fun h8 => (bindv (v2 + (-1)) fun x9 => (self5 h8 v0 v1 x9))))))))))))
set_option maxRecDepth 20000 in
theorem tb_X3_popSigns_7 {M : MV} {X : XT} {F : Nat} {self5 : PH → Nat → Int32 → Int32 → Option (Unit × PH)} {h hz : PH} {r : Unit} {ce sl mc ms : Nat} {v0 : Nat} {v1 : Int32} {v2 : Int32} (hc : Cx M X RX3 cX3_popSigns) (hr : Rx M 2 118 mc ms 3) (he : Ex M X none "popSigns" none hz mc ms) (hm : ce ≤ mc) (hs : sl ≤ ms) (ih5 : ∀ (h : PH) (v0 : Nat) (v1 : Int32) (v2 : Int32), self5 h v0 v1 v2 = some (r, hz) → GG M X h ce sl 7 [(0, .ref (X.1 + v0)), (1, .int v1), (2, .int v2)] []) (hf : b_X3_popSigns_7 F self5 h v0 v1 v2 = some (r, hz)) : GG M X h ce sl 7 [(0, .ref (X.1 + v0)), (1, .int v1), (2, .int v2)] [] := by
  unfold b_X3_popSigns_7 at hf
  refine r_iload_n hc 2 (dc_at dX3_popSigns 5 rfl) rfl ?_
  refine r_if_lt (tgt := 51) hc (dc_at dX3_popSigns 6 rfl) (by decide) hf (fun hf => ?_) (fun hf => ?_)
  · exact r_vret hc he (hm) (hs) (dc_at dX3_popSigns 28 rfl) hf
  · refine r_iload_n hc 2 (dc_at dX3_popSigns 7 rfl) rfl ?_
    refine r_bipush (64 : Int32) hc (dc_at dX3_popSigns 8 rfl) (by decide) ?_
    refine r_icmp_ge (tgt := 51) hc (dc_at dX3_popSigns 9 rfl) (by decide) hf (fun hf => ?_) (fun hf => ?_)
    · exact r_vret hc he (hm) (hs) (dc_at dX3_popSigns 28 rfl) hf
    · refine r_aload_n hc 0 (dc_at dX3_popSigns 10 rfl) rfl ?_
      refine r_getR hc (dc_at dX3_popSigns 11 rfl) fl_X3_25 hf fun a1 hf => ?_
      refine r_iload_n hc 2 (dc_at dX3_popSigns 12 rfl) rfl ?_
      refine r_iaload hc (dc_at dX3_popSigns 13 rfl) hf fun x2 hf => ?_
      refine ob hf fun x3 ex hf => ?_
      refine r_callSi (As := [.int x2]) hc hr (dc_at dX3_popSigns 14 rfl) ml_X3_193 mv_X3_strength st_X3_strength rfl (mt_X3_strength ex) (by first | exact Nat.le_of_ble_eq_true rfl | omega) (by first | exact Nat.le_of_ble_eq_true rfl | omega) (by first | exact Nat.le_of_ble_eq_true rfl | omega) hm hs ?_
      refine r_iload_n hc 1 (dc_at dX3_popSigns 15 rfl) rfl ?_
      refine r_icmp_lt (tgt := 51) hc (dc_at dX3_popSigns 16 rfl) (by decide) hf (fun hf => ?_) (fun hf => ?_)
      · exact r_vret hc he (hm) (hs) (dc_at dX3_popSigns 28 rfl) hf
      · refine r_aload_n hc 0 (dc_at dX3_popSigns 17 rfl) rfl ?_
        refine r_aload_n hc 0 (dc_at dX3_popSigns 18 rfl) rfl ?_
        refine r_getR hc (dc_at dX3_popSigns 19 rfl) fl_X3_25 hf fun a4 hf => ?_
        refine r_iload_n hc 2 (dc_at dX3_popSigns 20 rfl) rfl ?_
        refine r_iaload hc (dc_at dX3_popSigns 21 rfl) hf fun x5 hf => ?_
        obtain ⟨ho, hf⟩ := cO_some hf
        refine ob2 hf fun u h7 ex hf => ?_
        refine r_callVv (As := [.int x5]) (ci := 3) hc hr (dc_at dX3_popSigns 22 rfl) ml_X3_197 mv_X3_emit vi_X3_emit rfl ho rfl (mt_X3_emit ex) (by first | exact Nat.le_of_ble_eq_true rfl | omega) (by first | exact Nat.le_of_ble_eq_true rfl | omega) (by first | exact Nat.le_of_ble_eq_true rfl | omega) hm hs ?_
        refine r_aload_n hc 0 (dc_at dX3_popSigns 23 rfl) rfl ?_
        refine r_iload_n hc 2 (dc_at dX3_popSigns 24 rfl) rfl ?_
        refine r_putI hc he (dc_at dX3_popSigns 25 rfl) fp_X3_174 (fun q => by cases q) hf fun h8 hf => ?_
        refine obv hf fun x9 e_x9 hf => ?_
        refine r_iinc 2 [(2, .int x9), (0, .ref (X.1 + v0)), (1, .int v1)] hc hr (dc_at dX3_popSigns 26 rfl) rfl (by rw [e_x9]; rfl) (by decide) rfl ?_
        refine r_goto (tgt := 7) hc (dc_at dX3_popSigns 27 rfl) (by decide) ?_
        exact gg_sub [1, 2, 0] rfl (ih5 _ _ _ _ hf)
def l_X3_popSigns_7 (F : Nat) : Nat → PH → Nat → Int32 → Int32 → Option (Unit × PH)
  | 0 => fun _ _ _ _ => none
  | n + 1 => fun h v0 v1 v2 => b_X3_popSigns_7 F (l_X3_popSigns_7 F n) h v0 v1 v2
theorem tl_X3_popSigns_7 {M : MV} {X : XT} {F : Nat} {hz : PH} {r : Unit} {ce sl mc ms : Nat} (hc : Cx M X RX3 cX3_popSigns) (hr : Rx M 2 118 mc ms 3) (he : Ex M X none "popSigns" none hz mc ms) (hm : ce ≤ mc) (hs : sl ≤ ms) (n : Nat) : ∀ (h : PH) (v0 : Nat) (v1 : Int32) (v2 : Int32), l_X3_popSigns_7 F n h v0 v1 v2 = some (r, hz) → GG M X h ce sl 7 [(0, .ref (X.1 + v0)), (1, .int v1), (2, .int v2)] [] := by
  induction n with
  | zero => intro h v0 v1 v2 hf; cases hf
  | succ n ih => intro h v0 v1 v2 hf; exact tb_X3_popSigns_7 (F := F) hc hr he hm hs  ih hf
def b_X3_popSigns_0 (F : Nat) (h : PH) (v0 : Nat) (v1 : Int32) : Option (Unit × PH) := (gI 3 12 h v0).bind fun x1 => (bindv ((x1 - (1 : Int32))) fun x2 => (l_X3_popSigns_7 F F h v0 v1 x2))
set_option maxRecDepth 20000 in
theorem t_X3_popSigns_0 {M : MV} {X : XT} {F : Nat} {h hz : PH} {r : Unit} {ce sl mc ms : Nat} {v0 : Nat} {v1 : Int32} (hc : Cx M X RX3 cX3_popSigns) (hr : Rx M 2 118 mc ms 3) (he : Ex M X none "popSigns" none hz mc ms) (hm : ce ≤ mc) (hs : sl ≤ ms) (hf : b_X3_popSigns_0 F h v0 v1 = some (r, hz)) : GG M X h ce sl 0 [(0, .ref (X.1 + v0)), (1, .int v1)] [] := by
  unfold b_X3_popSigns_0 at hf
  refine r_aload_n hc 0 (dc_at dX3_popSigns 0 rfl) rfl ?_
  refine r_getI hc (dc_at dX3_popSigns 1 rfl) fl_X3_174 hf fun x1 hf => ?_
  refine r_iconst (1 : Int32) hc (dc_at dX3_popSigns 2 rfl) (by decide) ?_
  refine r_isub hc (dc_at dX3_popSigns 3 rfl) ?_
  refine r_nm (mk := Value.int) hf fun x2 hf => ?_
  refine r_istore_n [(2, .int x2), (0, .ref (X.1 + v0)), (1, .int v1)] hc hr (dc_at dX3_popSigns 4 rfl) (by decide) rfl ?_
  exact gg_sub [1, 2, 0] rfl (tl_X3_popSigns_7 hc hr he hm hs  F _ _ _ _ hf)
def m_X3_popSigns (F : Nat) (h : PH) (p0 : Nat) (p1 : Int32) : Option (Unit × PH) := b_X3_popSigns_0 F h p0 p1
theorem mt_X3_popSigns {l : Launch} {X : XT} {F : Nat} {h hz : PH} {p0 : Nat} {p1 : Int32} {r : Unit} (ex : m_X3_popSigns F h p0 p1 = some (r, hz)) : MT l X yX3_popSigns cX3_popSigns 3 none 2 118 0 0 [.ref (X.1 + p0), .int p1] h none hz := MT.of (by decide) (Nat.le_of_ble_eq_true rfl) fun M hl hc hr he => by
  subst hl
  exact gg_sub [0, 1] rfl (t_X3_popSigns_0  hc hr he (Nat.zero_le _) (Nat.zero_le _) ex)
/-! FractionLift$Reader.dropSign()V -/
def lX3_dropSignL : List (Nat × Instr × Nat × Nat) := [(0, .aload_n 0, 1, 1), (1, .getfield 174, 3, 4), (4, .ifCond .le 13, 3, 7), (7, .aload_n 0, 1, 8), (8, .dup, 1, 9), (9, .getfield 174, 3, 12), (12, .iconst 1, 1, 13), (13, .isub, 1, 14), (14, .putfield 174, 3, 17), (17, .return_, 1, 18)]
set_option maxRecDepth 20000 in
theorem dX3_dropSign : dcL cX3_dropSign lX3_dropSignL = true := by decide +kernel
def b_X3_dropSign_0 (h : PH) (v0 : Nat) : Option (Unit × PH) := (gI 3 12 h v0).bind fun x1 => (if x1 ≤ 0 then (some ((), h)) else ((gI 3 12 h v0).bind fun x2 => ((pV 3 12 (.int ((x2 - (1 : Int32)))) h v0).bind fun h3 => (some ((), h3)))))
set_option maxRecDepth 20000 in
theorem t_X3_dropSign_0 {M : MV} {X : XT} {h hz : PH} {r : Unit} {ce sl mc ms : Nat} {v0 : Nat} (hc : Cx M X RX3 cX3_dropSign) (hr : Rx M 1 60 mc ms 1) (he : Ex M X none "dropSign" none hz mc ms) (hm : ce ≤ mc) (hs : sl ≤ ms) (hf : b_X3_dropSign_0 h v0 = some (r, hz)) : GG M X h ce sl 0 [(0, .ref (X.1 + v0))] [] := by
  unfold b_X3_dropSign_0 at hf
  refine r_aload_n hc 0 (dc_at dX3_dropSign 0 rfl) rfl ?_
  refine r_getI hc (dc_at dX3_dropSign 1 rfl) fl_X3_174 hf fun x1 hf => ?_
  refine r_if_le (tgt := 17) hc (dc_at dX3_dropSign 2 rfl) (by decide) hf (fun hf => ?_) (fun hf => ?_)
  · exact r_vret hc he (hm) (hs) (dc_at dX3_dropSign 9 rfl) hf
  · refine r_aload_n hc 0 (dc_at dX3_dropSign 3 rfl) rfl ?_
    refine r_dup hc (dc_at dX3_dropSign 4 rfl) rfl ?_
    refine r_getI hc (dc_at dX3_dropSign 5 rfl) fl_X3_174 hf fun x2 hf => ?_
    refine r_iconst (1 : Int32) hc (dc_at dX3_dropSign 6 rfl) (by decide) ?_
    refine r_isub hc (dc_at dX3_dropSign 7 rfl) ?_
    refine r_putI hc he (dc_at dX3_dropSign 8 rfl) fp_X3_174 (fun q => by cases q) hf fun h3 hf => ?_
    exact r_vret hc he (hm) (hs) (dc_at dX3_dropSign 9 rfl) hf
def m_X3_dropSign (h : PH) (p0 : Nat) : Option (Unit × PH) := b_X3_dropSign_0 h p0
theorem mt_X3_dropSign {l : Launch} {X : XT} {h hz : PH} {p0 : Nat} {r : Unit} (ex : m_X3_dropSign h p0 = some (r, hz)) : MT l X yX3_dropSign cX3_dropSign 1 none 1 60 0 0 [.ref (X.1 + p0)] h none hz := MT.of (by decide) (Nat.le_of_ble_eq_true rfl) fun M hl hc hr he => by
  subst hl
  exact gg_sub [0] rfl (t_X3_dropSign_0  hc hr he (Nat.zero_le _) (Nat.zero_le _) ex)
/-! FractionLift$Reader.signCode()I -/
def lX3_signCodeL : List (Nat × Instr × Nat × Nat) := [(0, .aload_n 0, 1, 1), (1, .getfield 64, 3, 4), (4, .tableswitch 52 42 47 #[46, 40, 52, 43, 52, 49], 40, 44), (44, .bipush (-3), 2, 46), (46, .ireturn, 1, 47), (47, .bipush (-4), 2, 49), (49, .ireturn, 1, 50), (50, .bipush (-5), 2, 52), (52, .ireturn, 1, 53), (53, .bipush (-6), 2, 55), (55, .ireturn, 1, 56), (56, .iconst 0, 1, 57), (57, .ireturn, 1, 58)]
set_option maxRecDepth 20000 in
theorem dX3_signCode : dcL cX3_signCode lX3_signCodeL = true := by decide +kernel
def b_X3_signCode_0 (h : PH) (v0 : Nat) : Option Int32 := (gI 3 5 h v0).bind fun x1 => (swN x1 (42) [some (-5 : Int32), some (-3 : Int32), some (0 : Int32), some (-4 : Int32), some (0 : Int32), some (-6 : Int32)] (some (0 : Int32)))
set_option maxRecDepth 20000 in
theorem t_X3_signCode_0 {M : MV} {X : XT} {h : PH} {r : Int32} {ce sl mc ms : Nat} {v0 : Nat} (hc : Cx M X RX3 cX3_signCode) (hr : Rx M 1 60 mc ms 1) (he : Ex M X (some .int) "signCode" (some (.int r)) h mc ms) (hm : ce ≤ mc) (hs : sl ≤ ms) (hf : b_X3_signCode_0 h v0 = some r) : GG M X h ce sl 0 [(0, .ref (X.1 + v0))] [] := by
  unfold b_X3_signCode_0 at hf
  refine r_aload_n hc 0 (dc_at dX3_signCode 0 rfl) rfl ?_
  refine r_getI hc (dc_at dX3_signCode 1 rfl) fl_X3_64 hf fun x1 hf => ?_
  rcases sw_cases hf with ⟨i, hi, hx, hf⟩ | ⟨hx, hf⟩
  · rcases (show i = 0 ∨ i = 1 ∨ i = 2 ∨ i = 3 ∨ i = 4 ∨ i = 5 by simp only [List.length_cons, List.length_nil] at hi; omega) with rfl | rfl | rfl | rfl | rfl | rfl
    · have hf := gd_at hf rfl
      refine r_tableIn (tgt := 50) 0 hc (dc_at dX3_signCode 2 rfl) hx rfl (by decide) (by decide) ?_
      refine r_bipush (-5 : Int32) hc (dc_at dX3_signCode 7 rfl) (by decide) ?_
      exact r_iretP hc he (hm) (hs) (dc_at dX3_signCode 8 rfl) hf
    · have hf := gd_at hf rfl
      refine r_tableIn (tgt := 44) 1 hc (dc_at dX3_signCode 2 rfl) hx rfl (by decide) (by decide) ?_
      refine r_bipush (-3 : Int32) hc (dc_at dX3_signCode 3 rfl) (by decide) ?_
      exact r_iretP hc he (hm) (hs) (dc_at dX3_signCode 4 rfl) hf
    · have hf := gd_at hf rfl
      refine r_tableIn (tgt := 56) 2 hc (dc_at dX3_signCode 2 rfl) hx rfl (by decide) (by decide) ?_
      refine r_iconst (0 : Int32) hc (dc_at dX3_signCode 11 rfl) (by decide) ?_
      exact r_iretP hc he (hm) (hs) (dc_at dX3_signCode 12 rfl) hf
    · have hf := gd_at hf rfl
      refine r_tableIn (tgt := 47) 3 hc (dc_at dX3_signCode 2 rfl) hx rfl (by decide) (by decide) ?_
      refine r_bipush (-4 : Int32) hc (dc_at dX3_signCode 5 rfl) (by decide) ?_
      exact r_iretP hc he (hm) (hs) (dc_at dX3_signCode 6 rfl) hf
    · have hf := gd_at hf rfl
      refine r_tableIn (tgt := 56) 4 hc (dc_at dX3_signCode 2 rfl) hx rfl (by decide) (by decide) ?_
      refine r_iconst (0 : Int32) hc (dc_at dX3_signCode 11 rfl) (by decide) ?_
      exact r_iretP hc he (hm) (hs) (dc_at dX3_signCode 12 rfl) hf
    · have hf := gd_at hf rfl
      refine r_tableIn (tgt := 53) 5 hc (dc_at dX3_signCode 2 rfl) hx rfl (by decide) (by decide) ?_
      refine r_bipush (-6 : Int32) hc (dc_at dX3_signCode 9 rfl) (by decide) ?_
      exact r_iretP hc he (hm) (hs) (dc_at dX3_signCode 10 rfl) hf
  · refine r_tableOut (tgt := 56) 6 hc (dc_at dX3_signCode 2 rfl) hx (by decide) (by decide) ?_
    refine r_iconst (0 : Int32) hc (dc_at dX3_signCode 11 rfl) (by decide) ?_
    exact r_iretP hc he (hm) (hs) (dc_at dX3_signCode 12 rfl) hf
def m_X3_signCode (h : PH) (p0 : Nat) : Option Int32 := b_X3_signCode_0 h p0
theorem mt_X3_signCode {l : Launch} {X : XT} {h : PH} {p0 : Nat} {r : Int32} (ex : m_X3_signCode h p0 = some r) : MT l X yX3_signCode cX3_signCode 1 (some .int) 1 60 0 0 [.ref (X.1 + p0)] h (some (.int r)) h := MT.of (by decide) (Nat.le_of_ble_eq_true rfl) fun M hl hc hr he => by
  subst hl
  exact gg_sub [0] rfl (t_X3_signCode_0  hc hr he (Nat.zero_le _) (Nat.zero_le _) ex)
/-! FractionLift$Reader.sumToEnd()Z -/
def lX3_sumToEndL : List (Nat × Instr × Nat × Nat) := [(0, .iconst 0, 1, 1), (1, .istore_n 1, 1, 2), (2, .iconst 1, 1, 3), (3, .istore_n 2, 1, 4), (4, .aload_n 0, 1, 5), (5, .iconst 0, 1, 6), (6, .putfield 174, 3, 9), (9, .iconst 0, 1, 10), (10, .istore_n 3, 1, 11), (11, .iload_n 3, 1, 12), (12, .aload_n 0, 1, 13), (13, .getfield 21, 3, 16), (16, .getfield 61, 3, 19), (19, .if_icmp .ge 155, 3, 22), (22, .iload_n 2, 1, 23), (23, .ifCond .eq 36, 3, 26), (26, .aload_n 0, 1, 27), (27, .getfield 64, 3, 30), (30, .bipush 40, 2, 32), (32, .if_icmp .ne 27, 3, 35), (35, .iload_n 1, 1, 36), (36, .bipush 6, 2, 38), (38, .if_icmp .lt 9, 3, 41), (41, .aload_n 0, 1, 42), (42, .iconst 4, 1, 43), (43, .invokevirtual 137, 3, 46), (46, .ireturn, 1, 47), (47, .iinc 1 1, 3, 50), (50, .aload_n 0, 1, 51), (51, .bipush (-7), 2, 53), (53, .invokevirtual 177, 3, 56), (56, .goto 108, 3, 59), (59, .iload_n 2, 1, 60), (60, .ifCond .eq 20, 3, 63), (63, .aload_n 0, 1, 64), (64, .invokevirtual 180, 3, 67), (67, .ifCond .ne 8, 3, 70), (70, .aload_n 0, 1, 71), (71, .invokevirtual 92, 3, 74), (74, .ireturn, 1, 75), (75, .iconst 0, 1, 76), (76, .istore_n 2, 1, 77), (77, .goto 87, 3, 80), (80, .aload_n 0, 1, 81), (81, .getfield 64, 3, 84), (84, .bipush 41, 2, 86), (86, .if_icmp .ne 22, 3, 89), (89, .iload_n 1, 1, 90), (90, .ifCond .le 18, 3, 93), (93, .iinc 1 (-1), 3, 96), (96, .aload_n 0, 1, 97), (97, .iconst 0, 1, 98), (98, .invokevirtual 183, 3, 101), (101, .aload_n 0, 1, 102), (102, .invokevirtual 186, 3, 105), (105, .goto 59, 3, 108), (108, .aload_n 0, 1, 109), (109, .getfield 64, 3, 112), (112, .bipush 59, 2, 114), (114, .if_icmp .ne 14, 3, 117), (117, .iload_n 1, 1, 118), (118, .ifCond .ne 10, 3, 121), (121, .aload_n 0, 1, 122), (122, .iconst 0, 1, 123), (123, .invokevirtual 183, 3, 126), (126, .iconst 1, 1, 127), (127, .ireturn, 1, 128), (128, .aload_n 0, 1, 129), (129, .invokevirtual 189, 3, 132), (132, .ifCond .eq 27, 3, 135), (135, .aload_n 0, 1, 136), (136, .aload_n 0, 1, 137), (137, .invokevirtual 189, 3, 140), (140, .invokestatic 193, 3, 143), (143, .invokevirtual 183, 3, 146), (146, .aload_n 0, 1, 147), (147, .aload_n 0, 1, 148), (148, .invokevirtual 189, 3, 151), (151, .invokevirtual 177, 3, 154), (154, .iconst 1, 1, 155), (155, .istore_n 2, 1, 156), (156, .goto 8, 3, 159), (159, .aload_n 0, 1, 160), (160, .invokevirtual 92, 3, 163), (163, .ireturn, 1, 164), (164, .aload_n 0, 1, 165), (165, .invokevirtual 98, 3, 168), (168, .iinc 3 1, 3, 171), (171, .goto (-160), 3, 174), (174, .aload_n 0, 1, 175), (175, .invokevirtual 92, 3, 178), (178, .ireturn, 1, 179)]
set_option maxRecDepth 20000 in
theorem dX3_sumToEnd : dcL cX3_sumToEnd lX3_sumToEndL = true := by decide +kernel
def b_X3_sumToEnd_164 (F : Nat) (self9 : PH → Nat → Int32 → Int32 → Int32 → Option (Int32 × PH)) (h : PH) (v0 : Nat) (v1 : Int32) (v2 : Int32) (v3 : Int32) : Option (Int32 × PH) := cO 3 h v0 (bind2 (m_X3_next h v0) fun _ h2 => (bindv (v3 + (1)) fun x3 => (self9 h2 v0 v1 v2 x3)))
set_option maxRecDepth 20000 in
theorem t_X3_sumToEnd_164 {M : MV} {X : XT} {F : Nat} {self9 : PH → Nat → Int32 → Int32 → Int32 → Option (Int32 × PH)} {h hz : PH} {r : Int32} {ce sl mc ms : Nat} {v0 : Nat} {v1 : Int32} {v2 : Int32} {v3 : Int32} (hc : Cx M X RX3 cX3_sumToEnd) (hr : Rx M 3 176 mc ms 4) (he : Ex M X (some .boolean) "sumToEnd" (some (.int r)) hz mc ms) (hm : ce ≤ mc) (hs : sl ≤ ms) (ih9 : ∀ (h : PH) (v0 : Nat) (v1 : Int32) (v2 : Int32) (v3 : Int32), self9 h v0 v1 v2 v3 = some (r, hz) → GG M X h ce sl 11 [(0, .ref (X.1 + v0)), (1, .int v1), (2, .int v2), (3, .int v3)] []) (hf : b_X3_sumToEnd_164 F self9 h v0 v1 v2 v3 = some (r, hz)) : GG M X h ce sl 164 [(0, .ref (X.1 + v0)), (1, .int v1), (2, .int v2), (3, .int v3)] [] := by
  unfold b_X3_sumToEnd_164 at hf
  refine r_aload_n hc 0 (dc_at dX3_sumToEnd 85 rfl) rfl ?_
  obtain ⟨ho, hf⟩ := cO_some hf
  refine ob2 hf fun u h2 ex hf => ?_
  refine r_callVv (As := []) (ci := 3) hc hr (dc_at dX3_sumToEnd 86 rfl) ml_X3_98 mv_X3_next vi_X3_next rfl ho rfl (mt_X3_next ex) (by first | exact Nat.le_of_ble_eq_true rfl | omega) (by first | exact Nat.le_of_ble_eq_true rfl | omega) (by first | exact Nat.le_of_ble_eq_true rfl | omega) hm hs ?_
  refine obv hf fun x3 e_x3 hf => ?_
  refine r_iinc 3 [(3, .int x3), (0, .ref (X.1 + v0)), (1, .int v1), (2, .int v2)] hc hr (dc_at dX3_sumToEnd 87 rfl) rfl (by rw [e_x3]; rfl) (by decide) rfl ?_
  refine r_goto (tgt := 11) hc (dc_at dX3_sumToEnd 88 rfl) (by decide) ?_
  exact gg_sub [1, 2, 3, 0] rfl (ih9 _ _ _ _ _ hf)
def b_X3_sumToEnd_128 (F : Nat) (self9 : PH → Nat → Int32 → Int32 → Int32 → Option (Int32 × PH)) (h : PH) (v0 : Nat) (v1 : Int32) (v3 : Int32) : Option (Int32 × PH) := cO 3 h v0 ((m_X3_signCode h v0).bind fun x1 => (if x1 = 0 then (cO 3 h v0 (bind2 (m_X3_cantStand h v0) fun x2 h3 => (rZ x2 h3))) else (cO 3 h v0 ((m_X3_signCode h v0).bind fun x4 => ((m_X3_strength x4).bind fun x5 => (cO 3 h v0 (bind2 (m_X3_popSigns F h v0 x5) fun _ h7 => (cO 3 h7 v0 ((m_X3_signCode h7 v0).bind fun x8 => (cO 3 h7 v0 (bind2 (m_X3_pushSign h7 v0 x8) fun _ h10 => (b_X3_sumToEnd_164 F self9 h10 v0 v1 (1 : Int32) v3))))))))))))
set_option maxRecDepth 20000 in
theorem t_X3_sumToEnd_128 {M : MV} {X : XT} {F : Nat} {self9 : PH → Nat → Int32 → Int32 → Int32 → Option (Int32 × PH)} {h hz : PH} {r : Int32} {ce sl mc ms : Nat} {v0 : Nat} {v1 : Int32} {v3 : Int32} (hc : Cx M X RX3 cX3_sumToEnd) (hr : Rx M 3 176 mc ms 4) (he : Ex M X (some .boolean) "sumToEnd" (some (.int r)) hz mc ms) (hm : ce ≤ mc) (hs : sl ≤ ms) (ih9 : ∀ (h : PH) (v0 : Nat) (v1 : Int32) (v2 : Int32) (v3 : Int32), self9 h v0 v1 v2 v3 = some (r, hz) → GG M X h ce sl 11 [(0, .ref (X.1 + v0)), (1, .int v1), (2, .int v2), (3, .int v3)] []) (hf : b_X3_sumToEnd_128 F self9 h v0 v1 v3 = some (r, hz)) : GG M X h ce sl 128 [(0, .ref (X.1 + v0)), (1, .int v1), (3, .int v3)] [] := by
  unfold b_X3_sumToEnd_128 at hf
  refine r_aload_n hc 0 (dc_at dX3_sumToEnd 67 rfl) rfl ?_
  obtain ⟨ho, hf⟩ := cO_some hf
  refine ob hf fun x1 ex hf => ?_
  refine r_callVi (As := []) (ci := 3) hc hr (dc_at dX3_sumToEnd 68 rfl) ml_X3_189 mv_X3_signCode vi_X3_signCode rfl ho rfl (mt_X3_signCode ex) (by first | exact Nat.le_of_ble_eq_true rfl | omega) (by first | exact Nat.le_of_ble_eq_true rfl | omega) (by first | exact Nat.le_of_ble_eq_true rfl | omega) hm hs ?_
  refine r_if_eq (tgt := 159) hc (dc_at dX3_sumToEnd 69 rfl) (by decide) hf (fun hf => ?_) (fun hf => ?_)
  · refine r_aload_n hc 0 (dc_at dX3_sumToEnd 82 rfl) rfl ?_
    obtain ⟨ho, hf⟩ := cO_some hf
    refine ob2 hf fun x2 h3 ex hf => ?_
    refine r_callVi (As := []) (ci := 3) hc hr (dc_at dX3_sumToEnd 83 rfl) ml_X3_92 mv_X3_cantStand vi_X3_cantStand rfl ho rfl (mt_X3_cantStand ex) (by first | exact Nat.le_of_ble_eq_true rfl | omega) (by first | exact Nat.le_of_ble_eq_true rfl | omega) (by first | exact Nat.le_of_ble_eq_true rfl | omega) hm hs ?_
    exact r_zret hc he (hm) (hs) (dc_at dX3_sumToEnd 84 rfl) hf
  · refine r_aload_n hc 0 (dc_at dX3_sumToEnd 70 rfl) rfl ?_
    refine r_aload_n hc 0 (dc_at dX3_sumToEnd 71 rfl) rfl ?_
    obtain ⟨ho, hf⟩ := cO_some hf
    refine ob hf fun x4 ex hf => ?_
    refine r_callVi (As := []) (ci := 3) hc hr (dc_at dX3_sumToEnd 72 rfl) ml_X3_189 mv_X3_signCode vi_X3_signCode rfl ho rfl (mt_X3_signCode ex) (by first | exact Nat.le_of_ble_eq_true rfl | omega) (by first | exact Nat.le_of_ble_eq_true rfl | omega) (by first | exact Nat.le_of_ble_eq_true rfl | omega) hm hs ?_
    refine ob hf fun x5 ex hf => ?_
    refine r_callSi (As := [.int x4]) hc hr (dc_at dX3_sumToEnd 73 rfl) ml_X3_193 mv_X3_strength st_X3_strength rfl (mt_X3_strength ex) (by first | exact Nat.le_of_ble_eq_true rfl | omega) (by first | exact Nat.le_of_ble_eq_true rfl | omega) (by first | exact Nat.le_of_ble_eq_true rfl | omega) hm hs ?_
    obtain ⟨ho, hf⟩ := cO_some hf
    refine ob2 hf fun u h7 ex hf => ?_
    refine r_callVv (As := [.int x5]) (ci := 3) hc hr (dc_at dX3_sumToEnd 74 rfl) ml_X3_183 mv_X3_popSigns vi_X3_popSigns rfl ho rfl (mt_X3_popSigns ex) (by first | exact Nat.le_of_ble_eq_true rfl | omega) (by first | exact Nat.le_of_ble_eq_true rfl | omega) (by first | exact Nat.le_of_ble_eq_true rfl | omega) hm hs ?_
    refine r_aload_n hc 0 (dc_at dX3_sumToEnd 75 rfl) rfl ?_
    refine r_aload_n hc 0 (dc_at dX3_sumToEnd 76 rfl) rfl ?_
    obtain ⟨ho, hf⟩ := cO_some hf
    refine ob hf fun x8 ex hf => ?_
    refine r_callVi (As := []) (ci := 3) hc hr (dc_at dX3_sumToEnd 77 rfl) ml_X3_189 mv_X3_signCode vi_X3_signCode rfl ho rfl (mt_X3_signCode ex) (by first | exact Nat.le_of_ble_eq_true rfl | omega) (by first | exact Nat.le_of_ble_eq_true rfl | omega) (by first | exact Nat.le_of_ble_eq_true rfl | omega) hm hs ?_
    obtain ⟨ho, hf⟩ := cO_some hf
    refine ob2 hf fun u h10 ex hf => ?_
    refine r_callVv (As := [.int x8]) (ci := 3) hc hr (dc_at dX3_sumToEnd 78 rfl) ml_X3_177 mv_X3_pushSign vi_X3_pushSign rfl ho rfl (mt_X3_pushSign ex) (by first | exact Nat.le_of_ble_eq_true rfl | omega) (by first | exact Nat.le_of_ble_eq_true rfl | omega) (by first | exact Nat.le_of_ble_eq_true rfl | omega) hm hs ?_
    refine r_iconst (1 : Int32) hc (dc_at dX3_sumToEnd 79 rfl) (by decide) ?_
    refine r_istore_n [(2, .int ((1 : Int32))), (0, .ref (X.1 + v0)), (1, .int v1), (3, .int v3)] hc hr (dc_at dX3_sumToEnd 80 rfl) (by decide) rfl ?_
    refine r_goto (tgt := 164) hc (dc_at dX3_sumToEnd 81 rfl) (by decide) ?_
    exact gg_sub [1, 2, 0, 3] rfl (t_X3_sumToEnd_164 hc hr he hm hs ih9 hf)
def b_X3_sumToEnd_108 (F : Nat) (self9 : PH → Nat → Int32 → Int32 → Int32 → Option (Int32 × PH)) (h : PH) (v0 : Nat) (v1 : Int32) (v3 : Int32) : Option (Int32 × PH) := (gI 3 5 h v0).bind fun x1 => (if x1 = (59 : Int32) then (if v1 = 0 then (cO 3 h v0 (bind2 (m_X3_popSigns F h v0 (0 : Int32)) fun _ h3 => (rZ (1 : Int32) h3))) else (b_X3_sumToEnd_128 F self9 h v0 v1 v3)) else (b_X3_sumToEnd_128 F self9 h v0 v1 v3))
set_option maxRecDepth 20000 in
theorem t_X3_sumToEnd_108 {M : MV} {X : XT} {F : Nat} {self9 : PH → Nat → Int32 → Int32 → Int32 → Option (Int32 × PH)} {h hz : PH} {r : Int32} {ce sl mc ms : Nat} {v0 : Nat} {v1 : Int32} {v3 : Int32} (hc : Cx M X RX3 cX3_sumToEnd) (hr : Rx M 3 176 mc ms 4) (he : Ex M X (some .boolean) "sumToEnd" (some (.int r)) hz mc ms) (hm : ce ≤ mc) (hs : sl ≤ ms) (ih9 : ∀ (h : PH) (v0 : Nat) (v1 : Int32) (v2 : Int32) (v3 : Int32), self9 h v0 v1 v2 v3 = some (r, hz) → GG M X h ce sl 11 [(0, .ref (X.1 + v0)), (1, .int v1), (2, .int v2), (3, .int v3)] []) (hf : b_X3_sumToEnd_108 F self9 h v0 v1 v3 = some (r, hz)) : GG M X h ce sl 108 [(0, .ref (X.1 + v0)), (1, .int v1), (3, .int v3)] [] := by
  unfold b_X3_sumToEnd_108 at hf
  refine r_aload_n hc 0 (dc_at dX3_sumToEnd 56 rfl) rfl ?_
  refine r_getI hc (dc_at dX3_sumToEnd 57 rfl) fl_X3_64 hf fun x1 hf => ?_
  refine r_bipush (59 : Int32) hc (dc_at dX3_sumToEnd 58 rfl) (by decide) ?_
  refine r_icmp_ne (tgt := 128) hc (dc_at dX3_sumToEnd 59 rfl) (by decide) hf (fun hf => ?_) (fun hf => ?_)
  · exact gg_sub [0, 1, 2] rfl (t_X3_sumToEnd_128 hc hr he hm hs ih9 hf)
  · refine r_iload_n hc 1 (dc_at dX3_sumToEnd 60 rfl) rfl ?_
    refine r_if_ne (tgt := 128) hc (dc_at dX3_sumToEnd 61 rfl) (by decide) hf (fun hf => ?_) (fun hf => ?_)
    · exact gg_sub [0, 1, 2] rfl (t_X3_sumToEnd_128 hc hr he hm hs ih9 hf)
    · refine r_aload_n hc 0 (dc_at dX3_sumToEnd 62 rfl) rfl ?_
      refine r_iconst (0 : Int32) hc (dc_at dX3_sumToEnd 63 rfl) (by decide) ?_
      obtain ⟨ho, hf⟩ := cO_some hf
      refine ob2 hf fun u h3 ex hf => ?_
      refine r_callVv (As := [.int ((0 : Int32))]) (ci := 3) hc hr (dc_at dX3_sumToEnd 64 rfl) ml_X3_183 mv_X3_popSigns vi_X3_popSigns rfl ho rfl (mt_X3_popSigns ex) (by first | exact Nat.le_of_ble_eq_true rfl | omega) (by first | exact Nat.le_of_ble_eq_true rfl | omega) (by first | exact Nat.le_of_ble_eq_true rfl | omega) hm hs ?_
      refine r_iconst (1 : Int32) hc (dc_at dX3_sumToEnd 65 rfl) (by decide) ?_
      exact r_zret hc he (hm) (hs) (dc_at dX3_sumToEnd 66 rfl) hf
def b_X3_sumToEnd_59 (F : Nat) (self9 : PH → Nat → Int32 → Int32 → Int32 → Option (Int32 × PH)) (h : PH) (v0 : Nat) (v1 : Int32) (v2 : Int32) (v3 : Int32) : Option (Int32 × PH) := if v2 = 0 then ((gI 3 5 h v0).bind fun x1 => (if x1 = (41 : Int32) then (if v1 ≤ 0 then (b_X3_sumToEnd_108 F self9 h v0 v1 v3) else (bindv (v1 + (-1)) fun x2 => (cO 3 h v0 (bind2 (m_X3_popSigns F h v0 (0 : Int32)) fun _ h4 => (cO 3 h4 v0 (bind2 (m_X3_dropSign h4 v0) fun _ h6 => (b_X3_sumToEnd_164 F self9 h6 v0 x2 v2 v3))))))) else (b_X3_sumToEnd_108 F self9 h v0 v1 v3))) else (cO 3 h v0 (bind2 (m_X3_atom h v0) fun x7 h8 => (if x7 = 0 then (cO 3 h8 v0 (bind2 (m_X3_cantStand h8 v0) fun x9 h10 => (rZ x9 h10))) else (b_X3_sumToEnd_164 F self9 h8 v0 v1 (0 : Int32) v3))))
set_option maxRecDepth 20000 in
theorem t_X3_sumToEnd_59 {M : MV} {X : XT} {F : Nat} {self9 : PH → Nat → Int32 → Int32 → Int32 → Option (Int32 × PH)} {h hz : PH} {r : Int32} {ce sl mc ms : Nat} {v0 : Nat} {v1 : Int32} {v2 : Int32} {v3 : Int32} (hc : Cx M X RX3 cX3_sumToEnd) (hr : Rx M 3 176 mc ms 4) (he : Ex M X (some .boolean) "sumToEnd" (some (.int r)) hz mc ms) (hm : ce ≤ mc) (hs : sl ≤ ms) (ih9 : ∀ (h : PH) (v0 : Nat) (v1 : Int32) (v2 : Int32) (v3 : Int32), self9 h v0 v1 v2 v3 = some (r, hz) → GG M X h ce sl 11 [(0, .ref (X.1 + v0)), (1, .int v1), (2, .int v2), (3, .int v3)] []) (hf : b_X3_sumToEnd_59 F self9 h v0 v1 v2 v3 = some (r, hz)) : GG M X h ce sl 59 [(0, .ref (X.1 + v0)), (1, .int v1), (2, .int v2), (3, .int v3)] [] := by
  unfold b_X3_sumToEnd_59 at hf
  refine r_iload_n hc 2 (dc_at dX3_sumToEnd 32 rfl) rfl ?_
  refine r_if_eq (tgt := 80) hc (dc_at dX3_sumToEnd 33 rfl) (by decide) hf (fun hf => ?_) (fun hf => ?_)
  · refine r_aload_n hc 0 (dc_at dX3_sumToEnd 43 rfl) rfl ?_
    refine r_getI hc (dc_at dX3_sumToEnd 44 rfl) fl_X3_64 hf fun x1 hf => ?_
    refine r_bipush (41 : Int32) hc (dc_at dX3_sumToEnd 45 rfl) (by decide) ?_
    refine r_icmp_ne (tgt := 108) hc (dc_at dX3_sumToEnd 46 rfl) (by decide) hf (fun hf => ?_) (fun hf => ?_)
    · exact gg_sub [0, 1, 3] rfl (t_X3_sumToEnd_108 hc hr he hm hs ih9 hf)
    · refine r_iload_n hc 1 (dc_at dX3_sumToEnd 47 rfl) rfl ?_
      refine r_if_le (tgt := 108) hc (dc_at dX3_sumToEnd 48 rfl) (by decide) hf (fun hf => ?_) (fun hf => ?_)
      · exact gg_sub [0, 1, 3] rfl (t_X3_sumToEnd_108 hc hr he hm hs ih9 hf)
      · refine obv hf fun x2 e_x2 hf => ?_
        refine r_iinc 1 [(1, .int x2), (0, .ref (X.1 + v0)), (2, .int v2), (3, .int v3)] hc hr (dc_at dX3_sumToEnd 49 rfl) rfl (by rw [e_x2]; rfl) (by decide) rfl ?_
        refine r_aload_n hc 1 (dc_at dX3_sumToEnd 50 rfl) rfl ?_
        refine r_iconst (0 : Int32) hc (dc_at dX3_sumToEnd 51 rfl) (by decide) ?_
        obtain ⟨ho, hf⟩ := cO_some hf
        refine ob2 hf fun u h4 ex hf => ?_
        refine r_callVv (As := [.int ((0 : Int32))]) (ci := 3) hc hr (dc_at dX3_sumToEnd 52 rfl) ml_X3_183 mv_X3_popSigns vi_X3_popSigns rfl ho rfl (mt_X3_popSigns ex) (by first | exact Nat.le_of_ble_eq_true rfl | omega) (by first | exact Nat.le_of_ble_eq_true rfl | omega) (by first | exact Nat.le_of_ble_eq_true rfl | omega) hm hs ?_
        refine r_aload_n hc 1 (dc_at dX3_sumToEnd 53 rfl) rfl ?_
        obtain ⟨ho, hf⟩ := cO_some hf
        refine ob2 hf fun u h6 ex hf => ?_
        refine r_callVv (As := []) (ci := 3) hc hr (dc_at dX3_sumToEnd 54 rfl) ml_X3_186 mv_X3_dropSign vi_X3_dropSign rfl ho rfl (mt_X3_dropSign ex) (by first | exact Nat.le_of_ble_eq_true rfl | omega) (by first | exact Nat.le_of_ble_eq_true rfl | omega) (by first | exact Nat.le_of_ble_eq_true rfl | omega) hm hs ?_
        refine r_goto (tgt := 164) hc (dc_at dX3_sumToEnd 55 rfl) (by decide) ?_
        exact gg_sub [1, 0, 2, 3] rfl (t_X3_sumToEnd_164 hc hr he hm hs ih9 hf)
  · refine r_aload_n hc 0 (dc_at dX3_sumToEnd 34 rfl) rfl ?_
    obtain ⟨ho, hf⟩ := cO_some hf
    refine ob2 hf fun x7 h8 ex hf => ?_
    refine r_callVi (As := []) (ci := 3) hc hr (dc_at dX3_sumToEnd 35 rfl) ml_X3_180 mv_X3_atom vi_X3_atom rfl ho rfl (mt_X3_atom ex) (by first | exact Nat.le_of_ble_eq_true rfl | omega) (by first | exact Nat.le_of_ble_eq_true rfl | omega) (by first | exact Nat.le_of_ble_eq_true rfl | omega) hm hs ?_
    refine r_if_ne (tgt := 75) hc (dc_at dX3_sumToEnd 36 rfl) (by decide) hf (fun hf => ?_) (fun hf => ?_)
    · refine r_iconst (0 : Int32) hc (dc_at dX3_sumToEnd 40 rfl) (by decide) ?_
      refine r_istore_n [(2, .int ((0 : Int32))), (0, .ref (X.1 + v0)), (1, .int v1), (3, .int v3)] hc hr (dc_at dX3_sumToEnd 41 rfl) (by decide) rfl ?_
      refine r_goto (tgt := 164) hc (dc_at dX3_sumToEnd 42 rfl) (by decide) ?_
      exact gg_sub [1, 2, 0, 3] rfl (t_X3_sumToEnd_164 hc hr he hm hs ih9 hf)
    · refine r_aload_n hc 0 (dc_at dX3_sumToEnd 37 rfl) rfl ?_
      obtain ⟨ho, hf⟩ := cO_some hf
      refine ob2 hf fun x9 h10 ex hf => ?_
      refine r_callVi (As := []) (ci := 3) hc hr (dc_at dX3_sumToEnd 38 rfl) ml_X3_92 mv_X3_cantStand vi_X3_cantStand rfl ho rfl (mt_X3_cantStand ex) (by first | exact Nat.le_of_ble_eq_true rfl | omega) (by first | exact Nat.le_of_ble_eq_true rfl | omega) (by first | exact Nat.le_of_ble_eq_true rfl | omega) hm hs ?_
      exact r_zret hc he (hm) (hs) (dc_at dX3_sumToEnd 39 rfl) hf
def b_X3_sumToEnd_11 (F : Nat) (self9 : PH → Nat → Int32 → Int32 → Int32 → Option (Int32 × PH)) (h : PH) (v0 : Nat) (v1 : Int32) (v2 : Int32) (v3 : Int32) : Option (Int32 × PH) := (gR 3 3 h v0).bind fun a1 => ((gI 6 0 h a1).bind fun x2 => (if x2 ≤ v3 then (cO 3 h v0 (bind2 (m_X3_cantStand h v0) fun x3 h4 => (rZ x3 h4))) else (if v2 = 0 then (b_X3_sumToEnd_59 F self9 h v0 v1 v2 v3) else ((gI 3 5 h v0).bind fun x5 => (if x5 = (40 : Int32) then (if v1 < (6 : Int32) then (bindv (v1 + (1)) fun x6 => (cO 3 h v0 (bind2 (m_X3_pushSign h v0 (-7 : Int32)) fun _ h8 => (b_X3_sumToEnd_164 F self9 h8 v0 x6 v2 v3)))) else (cO 3 h v0 (bind2 (m_X3_failed h v0 (4 : Int32)) fun x9 h10 => (rZ x9 h10)))) else (b_X3_sumToEnd_59 F self9 h v0 v1 v2 v3))))))
set_option maxRecDepth 20000 in
theorem tb_X3_sumToEnd_11 {M : MV} {X : XT} {F : Nat} {self9 : PH → Nat → Int32 → Int32 → Int32 → Option (Int32 × PH)} {h hz : PH} {r : Int32} {ce sl mc ms : Nat} {v0 : Nat} {v1 : Int32} {v2 : Int32} {v3 : Int32} (hc : Cx M X RX3 cX3_sumToEnd) (hr : Rx M 3 176 mc ms 4) (he : Ex M X (some .boolean) "sumToEnd" (some (.int r)) hz mc ms) (hm : ce ≤ mc) (hs : sl ≤ ms) (ih9 : ∀ (h : PH) (v0 : Nat) (v1 : Int32) (v2 : Int32) (v3 : Int32), self9 h v0 v1 v2 v3 = some (r, hz) → GG M X h ce sl 11 [(0, .ref (X.1 + v0)), (1, .int v1), (2, .int v2), (3, .int v3)] []) (hf : b_X3_sumToEnd_11 F self9 h v0 v1 v2 v3 = some (r, hz)) : GG M X h ce sl 11 [(0, .ref (X.1 + v0)), (1, .int v1), (2, .int v2), (3, .int v3)] [] := by
  unfold b_X3_sumToEnd_11 at hf
  refine r_iload_n hc 3 (dc_at dX3_sumToEnd 9 rfl) rfl ?_
  refine r_aload_n hc 0 (dc_at dX3_sumToEnd 10 rfl) rfl ?_
  refine r_getR hc (dc_at dX3_sumToEnd 11 rfl) fl_X3_21 hf fun a1 hf => ?_
  refine r_getI hc (dc_at dX3_sumToEnd 12 rfl) fl_X3_61 hf fun x2 hf => ?_
  refine r_icmp_ge (tgt := 174) hc (dc_at dX3_sumToEnd 13 rfl) (by decide) hf (fun hf => ?_) (fun hf => ?_)
  · refine r_aload_n hc 0 (dc_at dX3_sumToEnd 89 rfl) rfl ?_
    obtain ⟨ho, hf⟩ := cO_some hf
    refine ob2 hf fun x3 h4 ex hf => ?_
    refine r_callVi (As := []) (ci := 3) hc hr (dc_at dX3_sumToEnd 90 rfl) ml_X3_92 mv_X3_cantStand vi_X3_cantStand rfl ho rfl (mt_X3_cantStand ex) (by first | exact Nat.le_of_ble_eq_true rfl | omega) (by first | exact Nat.le_of_ble_eq_true rfl | omega) (by first | exact Nat.le_of_ble_eq_true rfl | omega) hm hs ?_
    exact r_zret hc he (hm) (hs) (dc_at dX3_sumToEnd 91 rfl) hf
  · refine r_iload_n hc 2 (dc_at dX3_sumToEnd 14 rfl) rfl ?_
    refine r_if_eq (tgt := 59) hc (dc_at dX3_sumToEnd 15 rfl) (by decide) hf (fun hf => ?_) (fun hf => ?_)
    · exact gg_sub [0, 1, 2, 3] rfl (t_X3_sumToEnd_59 hc hr he hm hs ih9 hf)
    · refine r_aload_n hc 0 (dc_at dX3_sumToEnd 16 rfl) rfl ?_
      refine r_getI hc (dc_at dX3_sumToEnd 17 rfl) fl_X3_64 hf fun x5 hf => ?_
      refine r_bipush (40 : Int32) hc (dc_at dX3_sumToEnd 18 rfl) (by decide) ?_
      refine r_icmp_ne (tgt := 59) hc (dc_at dX3_sumToEnd 19 rfl) (by decide) hf (fun hf => ?_) (fun hf => ?_)
      · exact gg_sub [0, 1, 2, 3] rfl (t_X3_sumToEnd_59 hc hr he hm hs ih9 hf)
      · refine r_iload_n hc 1 (dc_at dX3_sumToEnd 20 rfl) rfl ?_
        refine r_bipush (6 : Int32) hc (dc_at dX3_sumToEnd 21 rfl) (by decide) ?_
        refine r_icmp_lt (tgt := 47) hc (dc_at dX3_sumToEnd 22 rfl) (by decide) hf (fun hf => ?_) (fun hf => ?_)
        · refine obv hf fun x6 e_x6 hf => ?_
          refine r_iinc 1 [(1, .int x6), (0, .ref (X.1 + v0)), (2, .int v2), (3, .int v3)] hc hr (dc_at dX3_sumToEnd 27 rfl) rfl (by rw [e_x6]; rfl) (by decide) rfl ?_
          refine r_aload_n hc 1 (dc_at dX3_sumToEnd 28 rfl) rfl ?_
          refine r_bipush (-7 : Int32) hc (dc_at dX3_sumToEnd 29 rfl) (by decide) ?_
          obtain ⟨ho, hf⟩ := cO_some hf
          refine ob2 hf fun u h8 ex hf => ?_
          refine r_callVv (As := [.int ((-7 : Int32))]) (ci := 3) hc hr (dc_at dX3_sumToEnd 30 rfl) ml_X3_177 mv_X3_pushSign vi_X3_pushSign rfl ho rfl (mt_X3_pushSign ex) (by first | exact Nat.le_of_ble_eq_true rfl | omega) (by first | exact Nat.le_of_ble_eq_true rfl | omega) (by first | exact Nat.le_of_ble_eq_true rfl | omega) hm hs ?_
          refine r_goto (tgt := 164) hc (dc_at dX3_sumToEnd 31 rfl) (by decide) ?_
          exact gg_sub [1, 0, 2, 3] rfl (t_X3_sumToEnd_164 hc hr he hm hs ih9 hf)
        · refine r_aload_n hc 0 (dc_at dX3_sumToEnd 23 rfl) rfl ?_
          refine r_iconst (4 : Int32) hc (dc_at dX3_sumToEnd 24 rfl) (by decide) ?_
          obtain ⟨ho, hf⟩ := cO_some hf
          refine ob2 hf fun x9 h10 ex hf => ?_
          refine r_callVi (As := [.int ((4 : Int32))]) (ci := 3) hc hr (dc_at dX3_sumToEnd 25 rfl) ml_X3_137 mv_X3_failed vi_X3_failed rfl ho rfl (mt_X3_failed ex) (by first | exact Nat.le_of_ble_eq_true rfl | omega) (by first | exact Nat.le_of_ble_eq_true rfl | omega) (by first | exact Nat.le_of_ble_eq_true rfl | omega) hm hs ?_
          exact r_zret hc he (hm) (hs) (dc_at dX3_sumToEnd 26 rfl) hf
def l_X3_sumToEnd_11 (F : Nat) : Nat → PH → Nat → Int32 → Int32 → Int32 → Option (Int32 × PH)
  | 0 => fun _ _ _ _ _ => none
  | n + 1 => fun h v0 v1 v2 v3 => b_X3_sumToEnd_11 F (l_X3_sumToEnd_11 F n) h v0 v1 v2 v3
theorem tl_X3_sumToEnd_11 {M : MV} {X : XT} {F : Nat} {hz : PH} {r : Int32} {ce sl mc ms : Nat} (hc : Cx M X RX3 cX3_sumToEnd) (hr : Rx M 3 176 mc ms 4) (he : Ex M X (some .boolean) "sumToEnd" (some (.int r)) hz mc ms) (hm : ce ≤ mc) (hs : sl ≤ ms) (n : Nat) : ∀ (h : PH) (v0 : Nat) (v1 : Int32) (v2 : Int32) (v3 : Int32), l_X3_sumToEnd_11 F n h v0 v1 v2 v3 = some (r, hz) → GG M X h ce sl 11 [(0, .ref (X.1 + v0)), (1, .int v1), (2, .int v2), (3, .int v3)] [] := by
  induction n with
  | zero => intro h v0 v1 v2 v3 hf; cases hf
  | succ n ih => intro h v0 v1 v2 v3 hf; exact tb_X3_sumToEnd_11 (F := F) hc hr he hm hs  ih hf
def b_X3_sumToEnd_0 (F : Nat) (h : PH) (v0 : Nat) : Option (Int32 × PH) := (pV 3 12 (.int (0 : Int32)) h v0).bind fun h1 => (l_X3_sumToEnd_11 F F h1 v0 (0 : Int32) (1 : Int32) (0 : Int32))
set_option maxRecDepth 20000 in
theorem t_X3_sumToEnd_0 {M : MV} {X : XT} {F : Nat} {h hz : PH} {r : Int32} {ce sl mc ms : Nat} {v0 : Nat} (hc : Cx M X RX3 cX3_sumToEnd) (hr : Rx M 3 176 mc ms 4) (he : Ex M X (some .boolean) "sumToEnd" (some (.int r)) hz mc ms) (hm : ce ≤ mc) (hs : sl ≤ ms) (hf : b_X3_sumToEnd_0 F h v0 = some (r, hz)) : GG M X h ce sl 0 [(0, .ref (X.1 + v0))] [] := by
  unfold b_X3_sumToEnd_0 at hf
  refine r_iconst (0 : Int32) hc (dc_at dX3_sumToEnd 0 rfl) (by decide) ?_
  refine r_istore_n [(1, .int ((0 : Int32))), (0, .ref (X.1 + v0))] hc hr (dc_at dX3_sumToEnd 1 rfl) (by decide) rfl ?_
  refine r_iconst (1 : Int32) hc (dc_at dX3_sumToEnd 2 rfl) (by decide) ?_
  refine r_istore_n [(2, .int ((1 : Int32))), (1, .int ((0 : Int32))), (0, .ref (X.1 + v0))] hc hr (dc_at dX3_sumToEnd 3 rfl) (by decide) rfl ?_
  refine r_aload_n hc 2 (dc_at dX3_sumToEnd 4 rfl) rfl ?_
  refine r_iconst (0 : Int32) hc (dc_at dX3_sumToEnd 5 rfl) (by decide) ?_
  refine r_putI hc he (dc_at dX3_sumToEnd 6 rfl) fp_X3_174 (fun q => by cases q) hf fun h1 hf => ?_
  refine r_iconst (0 : Int32) hc (dc_at dX3_sumToEnd 7 rfl) (by decide) ?_
  refine r_istore_n [(3, .int ((0 : Int32))), (2, .int ((1 : Int32))), (1, .int ((0 : Int32))), (0, .ref (X.1 + v0))] hc hr (dc_at dX3_sumToEnd 8 rfl) (by decide) rfl ?_
  exact gg_sub [3, 2, 1, 0] rfl (tl_X3_sumToEnd_11 hc hr he hm hs  F _ _ _ _ _ hf)
def m_X3_sumToEnd (F : Nat) (h : PH) (p0 : Nat) : Option (Int32 × PH) := b_X3_sumToEnd_0 F h p0
theorem mt_X3_sumToEnd {l : Launch} {X : XT} {F : Nat} {h hz : PH} {p0 : Nat} {r : Int32} (ex : m_X3_sumToEnd F h p0 = some (r, hz)) : MT l X yX3_sumToEnd cX3_sumToEnd 4 (some .boolean) 3 176 0 0 [.ref (X.1 + p0)] h (some (.int r)) hz := MT.of (by decide) (Nat.le_of_ble_eq_true rfl) fun M hl hc hr he => by
  subst hl
  exact gg_sub [0] rfl (t_X3_sumToEnd_0  hc hr he (Nat.zero_le _) (Nat.zero_le _) ex)
/-! FractionLift$Reader.buttonLine()Z -/
def lX3_buttonLineL : List (Nat × Instr × Nat × Nat) := [(0, .aload_n 0, 1, 1), (1, .getfield 12, 3, 4), (4, .getfield 154, 3, 7), (7, .istore_n 1, 1, 8), (8, .iload_n 1, 1, 9), (9, .bipush 6, 2, 11), (11, .if_icmp .lt 9, 3, 14), (14, .aload_n 0, 1, 15), (15, .iconst 4, 1, 16), (16, .invokevirtual 137, 3, 19), (19, .ireturn, 1, 20), (20, .aload_n 0, 1, 21), (21, .invokevirtual 98, 3, 24), (24, .aload_n 0, 1, 25), (25, .getfield 64, 3, 28), (28, .bipush 58, 2, 30), (30, .if_icmp .eq 8, 3, 33), (33, .aload_n 0, 1, 34), (34, .invokevirtual 92, 3, 37), (37, .ireturn, 1, 38), (38, .aload_n 0, 1, 39), (39, .invokevirtual 98, 3, 42), (42, .aload_n 0, 1, 43), (43, .getfield 12, 3, 46), (46, .getfield 157, 3, 49), (49, .iload_n 1, 1, 50), (50, .aload_n 0, 1, 51), (51, .getfield 47, 3, 54), (54, .iastore, 1, 55), (55, .aload_n 0, 1, 56), (56, .invokevirtual 160, 3, 59), (59, .ifCond .ne 5, 3, 62), (62, .iconst 0, 1, 63), (63, .ireturn, 1, 64), (64, .aload_n 0, 1, 65), (65, .getfield 12, 3, 68), (68, .getfield 157, 3, 71), (71, .iload_n 1, 1, 72), (72, .iconst 1, 1, 73), (73, .iadd, 1, 74), (74, .aload_n 0, 1, 75), (75, .getfield 47, 3, 78), (78, .iastore, 1, 79), (79, .aload_n 0, 1, 80), (80, .getfield 12, 3, 83), (83, .iload_n 1, 1, 84), (84, .iconst 1, 1, 85), (85, .iadd, 1, 86), (86, .putfield 154, 3, 89), (89, .iconst 1, 1, 90), (90, .ireturn, 1, 91)]
set_option maxRecDepth 20000 in
theorem dX3_buttonLine : dcL cX3_buttonLine lX3_buttonLineL = true := by decide +kernel
def b_X3_buttonLine_0 (F : Nat) (h : PH) (v0 : Nat) : Option (Int32 × PH) := (gR 3 0 h v0).bind fun a1 => ((gI 0 6 h a1).bind fun x2 => (if x2 < (6 : Int32) then (cO 3 h v0 (bind2 (m_X3_next h v0) fun _ h4 => ((gI 3 5 h4 v0).bind fun x5 => (if x5 = (58 : Int32) then (cO 3 h4 v0 (bind2 (m_X3_next h4 v0) fun _ h7 => ((gR 3 0 h7 v0).bind fun a8 => ((gR 0 7 h7 a8).bind fun a9 => ((gI 3 10 h7 v0).bind fun x10 => ((sI 0 h7 a9 x2 x10).bind fun h11 => (cO 3 h11 v0 (bind2 (m_X3_sumToEnd F h11 v0) fun x12 h13 => (if x12 = 0 then (rZ (0 : Int32) h13) else ((gR 3 0 h13 v0).bind fun a14 => ((gR 0 7 h13 a14).bind fun a15 => ((gI 3 10 h13 v0).bind fun x16 => ((sI 0 h13 a15 ((x2 + (1 : Int32))) x16).bind fun h17 => ((gR 3 0 h17 v0).bind fun a18 => ((pV 0 6 (.int ((x2 + (1 : Int32)))) h17 a18).bind fun h19 => (rZ (1 : Int32) h19)))))))))))))))) else (cO 3 h4 v0 (bind2 (m_X3_cantStand h4 v0) fun x20 h21 => (rZ x20 h21))))))) else (cO 3 h v0 (bind2 (m_X3_failed h v0 (4 : Int32)) fun x22 h23 => (rZ x22 h23)))))
set_option maxRecDepth 20000 in
theorem t_X3_buttonLine_0 {M : MV} {X : XT} {F : Nat} {h hz : PH} {r : Int32} {ce sl mc ms : Nat} {v0 : Nat} (hc : Cx M X RX3 cX3_buttonLine) (hr : Rx M 4 234 mc ms 2) (he : Ex M X (some .boolean) "buttonLine" (some (.int r)) hz mc ms) (hm : ce ≤ mc) (hs : sl ≤ ms) (hf : b_X3_buttonLine_0 F h v0 = some (r, hz)) : GG M X h ce sl 0 [(0, .ref (X.1 + v0))] [] := by
  unfold b_X3_buttonLine_0 at hf
  refine r_aload_n hc 0 (dc_at dX3_buttonLine 0 rfl) rfl ?_
  refine r_getR hc (dc_at dX3_buttonLine 1 rfl) fl_X3_12 hf fun a1 hf => ?_
  refine r_getI hc (dc_at dX3_buttonLine 2 rfl) fl_X3_154 hf fun x2 hf => ?_
  refine r_istore_n [(1, .int x2), (0, .ref (X.1 + v0))] hc hr (dc_at dX3_buttonLine 3 rfl) (by decide) rfl ?_
  refine r_iload_n hc 0 (dc_at dX3_buttonLine 4 rfl) rfl ?_
  refine r_bipush (6 : Int32) hc (dc_at dX3_buttonLine 5 rfl) (by decide) ?_
  refine r_icmp_lt (tgt := 20) hc (dc_at dX3_buttonLine 6 rfl) (by decide) hf (fun hf => ?_) (fun hf => ?_)
  · refine r_aload_n hc 1 (dc_at dX3_buttonLine 11 rfl) rfl ?_
    obtain ⟨ho, hf⟩ := cO_some hf
    refine ob2 hf fun u h4 ex hf => ?_
    refine r_callVv (As := []) (ci := 3) hc hr (dc_at dX3_buttonLine 12 rfl) ml_X3_98 mv_X3_next vi_X3_next rfl ho rfl (mt_X3_next ex) (by first | exact Nat.le_of_ble_eq_true rfl | omega) (by first | exact Nat.le_of_ble_eq_true rfl | omega) (by first | exact Nat.le_of_ble_eq_true rfl | omega) hm hs ?_
    refine r_aload_n hc 1 (dc_at dX3_buttonLine 13 rfl) rfl ?_
    refine r_getI hc (dc_at dX3_buttonLine 14 rfl) fl_X3_64 hf fun x5 hf => ?_
    refine r_bipush (58 : Int32) hc (dc_at dX3_buttonLine 15 rfl) (by decide) ?_
    refine r_icmp_eq (tgt := 38) hc (dc_at dX3_buttonLine 16 rfl) (by decide) hf (fun hf => ?_) (fun hf => ?_)
    · refine r_aload_n hc 1 (dc_at dX3_buttonLine 20 rfl) rfl ?_
      obtain ⟨ho, hf⟩ := cO_some hf
      refine ob2 hf fun u h7 ex hf => ?_
      refine r_callVv (As := []) (ci := 3) hc hr (dc_at dX3_buttonLine 21 rfl) ml_X3_98 mv_X3_next vi_X3_next rfl ho rfl (mt_X3_next ex) (by first | exact Nat.le_of_ble_eq_true rfl | omega) (by first | exact Nat.le_of_ble_eq_true rfl | omega) (by first | exact Nat.le_of_ble_eq_true rfl | omega) hm hs ?_
      refine r_aload_n hc 1 (dc_at dX3_buttonLine 22 rfl) rfl ?_
      refine r_getR hc (dc_at dX3_buttonLine 23 rfl) fl_X3_12 hf fun a8 hf => ?_
      refine r_getR hc (dc_at dX3_buttonLine 24 rfl) fl_X3_157 hf fun a9 hf => ?_
      refine r_iload_n hc 0 (dc_at dX3_buttonLine 25 rfl) rfl ?_
      refine r_aload_n hc 1 (dc_at dX3_buttonLine 26 rfl) rfl ?_
      refine r_getI hc (dc_at dX3_buttonLine 27 rfl) fl_X3_47 hf fun x10 hf => ?_
      refine r_iastore hc (dc_at dX3_buttonLine 28 rfl) hf fun h11 hf => ?_
      refine r_aload_n hc 1 (dc_at dX3_buttonLine 29 rfl) rfl ?_
      obtain ⟨ho, hf⟩ := cO_some hf
      refine ob2 hf fun x12 h13 ex hf => ?_
      refine r_callVi (As := []) (ci := 3) hc hr (dc_at dX3_buttonLine 30 rfl) ml_X3_160 mv_X3_sumToEnd vi_X3_sumToEnd rfl ho rfl (mt_X3_sumToEnd ex) (by first | exact Nat.le_of_ble_eq_true rfl | omega) (by first | exact Nat.le_of_ble_eq_true rfl | omega) (by first | exact Nat.le_of_ble_eq_true rfl | omega) hm hs ?_
      refine r_if_ne (tgt := 64) hc (dc_at dX3_buttonLine 31 rfl) (by decide) hf (fun hf => ?_) (fun hf => ?_)
      · refine r_aload_n hc 1 (dc_at dX3_buttonLine 34 rfl) rfl ?_
        refine r_getR hc (dc_at dX3_buttonLine 35 rfl) fl_X3_12 hf fun a14 hf => ?_
        refine r_getR hc (dc_at dX3_buttonLine 36 rfl) fl_X3_157 hf fun a15 hf => ?_
        refine r_iload_n hc 0 (dc_at dX3_buttonLine 37 rfl) rfl ?_
        refine r_iconst (1 : Int32) hc (dc_at dX3_buttonLine 38 rfl) (by decide) ?_
        refine r_iadd hc (dc_at dX3_buttonLine 39 rfl) ?_
        refine r_aload_n hc 1 (dc_at dX3_buttonLine 40 rfl) rfl ?_
        refine r_getI hc (dc_at dX3_buttonLine 41 rfl) fl_X3_47 hf fun x16 hf => ?_
        refine r_iastore hc (dc_at dX3_buttonLine 42 rfl) hf fun h17 hf => ?_
        refine r_aload_n hc 1 (dc_at dX3_buttonLine 43 rfl) rfl ?_
        refine r_getR hc (dc_at dX3_buttonLine 44 rfl) fl_X3_12 hf fun a18 hf => ?_
        refine r_iload_n hc 0 (dc_at dX3_buttonLine 45 rfl) rfl ?_
        refine r_iconst (1 : Int32) hc (dc_at dX3_buttonLine 46 rfl) (by decide) ?_
        refine r_iadd hc (dc_at dX3_buttonLine 47 rfl) ?_
        refine r_putI hc he (dc_at dX3_buttonLine 48 rfl) fp_X3_154 (fun q => by cases q) hf fun h19 hf => ?_
        refine r_iconst (1 : Int32) hc (dc_at dX3_buttonLine 49 rfl) (by decide) ?_
        exact r_zret hc he (hm) (hs) (dc_at dX3_buttonLine 50 rfl) hf
      · refine r_iconst (0 : Int32) hc (dc_at dX3_buttonLine 32 rfl) (by decide) ?_
        exact r_zret hc he (hm) (hs) (dc_at dX3_buttonLine 33 rfl) hf
    · refine r_aload_n hc 1 (dc_at dX3_buttonLine 17 rfl) rfl ?_
      obtain ⟨ho, hf⟩ := cO_some hf
      refine ob2 hf fun x20 h21 ex hf => ?_
      refine r_callVi (As := []) (ci := 3) hc hr (dc_at dX3_buttonLine 18 rfl) ml_X3_92 mv_X3_cantStand vi_X3_cantStand rfl ho rfl (mt_X3_cantStand ex) (by first | exact Nat.le_of_ble_eq_true rfl | omega) (by first | exact Nat.le_of_ble_eq_true rfl | omega) (by first | exact Nat.le_of_ble_eq_true rfl | omega) hm hs ?_
      exact r_zret hc he (hm) (hs) (dc_at dX3_buttonLine 19 rfl) hf
  · refine r_aload_n hc 1 (dc_at dX3_buttonLine 7 rfl) rfl ?_
    refine r_iconst (4 : Int32) hc (dc_at dX3_buttonLine 8 rfl) (by decide) ?_
    obtain ⟨ho, hf⟩ := cO_some hf
    refine ob2 hf fun x22 h23 ex hf => ?_
    refine r_callVi (As := [.int ((4 : Int32))]) (ci := 3) hc hr (dc_at dX3_buttonLine 9 rfl) ml_X3_137 mv_X3_failed vi_X3_failed rfl ho rfl (mt_X3_failed ex) (by first | exact Nat.le_of_ble_eq_true rfl | omega) (by first | exact Nat.le_of_ble_eq_true rfl | omega) (by first | exact Nat.le_of_ble_eq_true rfl | omega) hm hs ?_
    exact r_zret hc he (hm) (hs) (dc_at dX3_buttonLine 10 rfl) hf
def m_X3_buttonLine (F : Nat) (h : PH) (p0 : Nat) : Option (Int32 × PH) := b_X3_buttonLine_0 F h p0
theorem mt_X3_buttonLine {l : Launch} {X : XT} {F : Nat} {h hz : PH} {p0 : Nat} {r : Int32} (ex : m_X3_buttonLine F h p0 = some (r, hz)) : MT l X yX3_buttonLine cX3_buttonLine 2 (some .boolean) 4 234 0 0 [.ref (X.1 + p0)] h (some (.int r)) hz := MT.of (by decide) (Nat.le_of_ble_eq_true rfl) fun M hl hc hr he => by
  subst hl
  exact gg_sub [0] rfl (t_X3_buttonLine_0  hc hr he (Nat.zero_le _) (Nat.zero_le _) ex)
