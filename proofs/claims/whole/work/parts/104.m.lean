/-! FractionLift.tapeInt(I)V -/
def lX9_tapeIntL : List (Nat × Instr × Nat × Nat) := [(0, .bipush 24, 2, 2), (2, .istore_n 2, 1, 3), (3, .iload_n 2, 1, 4), (4, .ifCond .lt 47, 3, 7), (7, .aload_n 0, 1, 8), (8, .getfield 13, 3, 11), (11, .aload_n 0, 1, 12), (12, .getfield 9, 3, 15), (15, .arraylength, 1, 16), (16, .if_icmp .ge 29, 3, 19), (19, .aload_n 0, 1, 20), (20, .getfield 9, 3, 23), (23, .aload_n 0, 1, 24), (24, .getfield 13, 3, 27), (27, .iload_n 1, 1, 28), (28, .iload_n 2, 1, 29), (29, .iushr, 1, 30), (30, .sipush 255, 3, 33), (33, .iand, 1, 34), (34, .iastore, 1, 35), (35, .aload_n 0, 1, 36), (36, .dup, 1, 37), (37, .getfield 13, 3, 40), (40, .iconst 1, 1, 41), (41, .iadd, 1, 42), (42, .putfield 13, 3, 45), (45, .iinc 2 (-8), 3, 48), (48, .goto (-45), 3, 51), (51, .return_, 1, 52)]
set_option maxRecDepth 20000 in
theorem dX9_tapeInt : dcL cX9_tapeInt lX9_tapeIntL = true := by decide +kernel
def b_X9_tapeInt_45 (F : Nat) (self2 : PH → Nat → Int32 → Int32 → Option (Unit × PH)) (h : PH) (v0 : Nat) (v1 : Int32) (v2 : Int32) : Option (Unit × PH) := bindv (v2 + (-8)) fun x1 => (self2 h v0 v1 x1)
set_option maxRecDepth 20000 in
theorem t_X9_tapeInt_45 {M : MV} {X : XT} {F : Nat} {self2 : PH → Nat → Int32 → Int32 → Option (Unit × PH)} {h hz : PH} {r : Unit} {ce sl mc ms : Nat} {v0 : Nat} {v1 : Int32} {v2 : Int32} (hc : Cx M X RX9 cX9_tapeInt) (hr : Rx M 1 60 mc ms 3) (he : Ex M X none "tapeInt" none hz mc ms) (hm : ce ≤ mc) (hs : sl ≤ ms) (ih2 : ∀ (h : PH) (v0 : Nat) (v1 : Int32) (v2 : Int32), self2 h v0 v1 v2 = some (r, hz) → GG M X h ce sl 3 [(0, .ref (X.1 + v0)), (1, .int v1), (2, .int v2)] []) (hf : b_X9_tapeInt_45 F self2 h v0 v1 v2 = some (r, hz)) : GG M X h ce sl 45 [(0, .ref (X.1 + v0)), (1, .int v1), (2, .int v2)] [] := by
  unfold b_X9_tapeInt_45 at hf
  refine obv hf fun x1 e_x1 hf => ?_
  refine r_iinc 2 [(2, .int x1), (0, .ref (X.1 + v0)), (1, .int v1)] hc hr (dc_at dX9_tapeInt 26 rfl) rfl (by rw [e_x1]; rfl) (by decide) rfl ?_
  refine r_goto (tgt := 3) hc (dc_at dX9_tapeInt 27 rfl) (by decide) ?_
  exact gg_sub [1, 2, 0] rfl (ih2 _ _ _ _ hf)
def b_X9_tapeInt_3 (F : Nat) (self2 : PH → Nat → Int32 → Int32 → Option (Unit × PH)) (h : PH) (v0 : Nat) (v1 : Int32) (v2 : Int32) : Option (Unit × PH) := if v2 < 0 then (some ((), h)) else ((gI 9 1 h v0).bind fun x1 => ((gR 9 0 h v0).bind fun a2 => ((aLen h a2).bind fun x3 => (if x3 ≤ x1 then (b_X9_tapeInt_45 F self2 h v0 v1 v2) else ((gR 9 0 h v0).bind fun a4 => ((gI 9 1 h v0).bind fun x5 => ((sI 0 h a4 x5 (((ushr v1 v2) &&& (255 : Int32)))).bind fun h6 => ((gI 9 1 h6 v0).bind fun x7 => ((pV 9 1 (.int ((x7 + (1 : Int32)))) h6 v0).bind fun h8 => (b_X9_tapeInt_45 F self2 h8 v0 v1 v2))))))))))
set_option maxRecDepth 20000 in
theorem tb_X9_tapeInt_3 {M : MV} {X : XT} {F : Nat} {self2 : PH → Nat → Int32 → Int32 → Option (Unit × PH)} {h hz : PH} {r : Unit} {ce sl mc ms : Nat} {v0 : Nat} {v1 : Int32} {v2 : Int32} (hc : Cx M X RX9 cX9_tapeInt) (hr : Rx M 1 60 mc ms 3) (he : Ex M X none "tapeInt" none hz mc ms) (hm : ce ≤ mc) (hs : sl ≤ ms) (ih2 : ∀ (h : PH) (v0 : Nat) (v1 : Int32) (v2 : Int32), self2 h v0 v1 v2 = some (r, hz) → GG M X h ce sl 3 [(0, .ref (X.1 + v0)), (1, .int v1), (2, .int v2)] []) (hf : b_X9_tapeInt_3 F self2 h v0 v1 v2 = some (r, hz)) : GG M X h ce sl 3 [(0, .ref (X.1 + v0)), (1, .int v1), (2, .int v2)] [] := by
  unfold b_X9_tapeInt_3 at hf
  refine r_iload_n hc 2 (dc_at dX9_tapeInt 2 rfl) rfl ?_
  refine r_if_lt (tgt := 51) hc (dc_at dX9_tapeInt 3 rfl) (by decide) hf (fun hf => ?_) (fun hf => ?_)
  · exact r_vret hc he (hm) (hs) (dc_at dX9_tapeInt 28 rfl) hf
  · refine r_aload_n hc 0 (dc_at dX9_tapeInt 4 rfl) rfl ?_
    refine r_getI hc (dc_at dX9_tapeInt 5 rfl) fl_X9_13 hf fun x1 hf => ?_
    refine r_aload_n hc 0 (dc_at dX9_tapeInt 6 rfl) rfl ?_
    refine r_getR hc (dc_at dX9_tapeInt 7 rfl) fl_X9_9 hf fun a2 hf => ?_
    refine r_alen hc (dc_at dX9_tapeInt 8 rfl) hf fun x3 hf => ?_
    refine r_icmp_ge (tgt := 45) hc (dc_at dX9_tapeInt 9 rfl) (by decide) hf (fun hf => ?_) (fun hf => ?_)
    · exact gg_sub [0, 1, 2] rfl (t_X9_tapeInt_45 hc hr he hm hs ih2 hf)
    · refine r_aload_n hc 0 (dc_at dX9_tapeInt 10 rfl) rfl ?_
      refine r_getR hc (dc_at dX9_tapeInt 11 rfl) fl_X9_9 hf fun a4 hf => ?_
      refine r_aload_n hc 0 (dc_at dX9_tapeInt 12 rfl) rfl ?_
      refine r_getI hc (dc_at dX9_tapeInt 13 rfl) fl_X9_13 hf fun x5 hf => ?_
      refine r_iload_n hc 1 (dc_at dX9_tapeInt 14 rfl) rfl ?_
      refine r_iload_n hc 2 (dc_at dX9_tapeInt 15 rfl) rfl ?_
      refine r_iushr hc (dc_at dX9_tapeInt 16 rfl) ?_
      refine r_sipush (255 : Int32) hc (dc_at dX9_tapeInt 17 rfl) (by decide) ?_
      refine r_iand hc (dc_at dX9_tapeInt 18 rfl) ?_
      refine r_iastore hc (dc_at dX9_tapeInt 19 rfl) hf fun h6 hf => ?_
      refine r_aload_n hc 0 (dc_at dX9_tapeInt 20 rfl) rfl ?_
      refine r_dup hc (dc_at dX9_tapeInt 21 rfl) rfl ?_
      refine r_getI hc (dc_at dX9_tapeInt 22 rfl) fl_X9_13 hf fun x7 hf => ?_
      refine r_iconst (1 : Int32) hc (dc_at dX9_tapeInt 23 rfl) (by decide) ?_
      refine r_iadd hc (dc_at dX9_tapeInt 24 rfl) ?_
      refine r_putI hc he (dc_at dX9_tapeInt 25 rfl) fp_X9_13 (fun q => by cases q) hf fun h8 hf => ?_
      exact gg_sub [0, 1, 2] rfl (t_X9_tapeInt_45 hc hr he hm hs ih2 hf)
def l_X9_tapeInt_3 (F : Nat) : Nat → PH → Nat → Int32 → Int32 → Option (Unit × PH)
  | 0 => fun _ _ _ _ => none
  | n + 1 => fun h v0 v1 v2 => b_X9_tapeInt_3 F (l_X9_tapeInt_3 F n) h v0 v1 v2
theorem tl_X9_tapeInt_3 {M : MV} {X : XT} {F : Nat} {hz : PH} {r : Unit} {ce sl mc ms : Nat} (hc : Cx M X RX9 cX9_tapeInt) (hr : Rx M 1 60 mc ms 3) (he : Ex M X none "tapeInt" none hz mc ms) (hm : ce ≤ mc) (hs : sl ≤ ms) (n : Nat) : ∀ (h : PH) (v0 : Nat) (v1 : Int32) (v2 : Int32), l_X9_tapeInt_3 F n h v0 v1 v2 = some (r, hz) → GG M X h ce sl 3 [(0, .ref (X.1 + v0)), (1, .int v1), (2, .int v2)] [] := by
  induction n with
  | zero => intro h v0 v1 v2 hf; cases hf
  | succ n ih => intro h v0 v1 v2 hf; exact tb_X9_tapeInt_3 (F := F) hc hr he hm hs  ih hf
def b_X9_tapeInt_0 (F : Nat) (h : PH) (v0 : Nat) (v1 : Int32) : Option (Unit × PH) := l_X9_tapeInt_3 F F h v0 v1 (24 : Int32)
set_option maxRecDepth 20000 in
theorem t_X9_tapeInt_0 {M : MV} {X : XT} {F : Nat} {h hz : PH} {r : Unit} {ce sl mc ms : Nat} {v0 : Nat} {v1 : Int32} (hc : Cx M X RX9 cX9_tapeInt) (hr : Rx M 1 60 mc ms 3) (he : Ex M X none "tapeInt" none hz mc ms) (hm : ce ≤ mc) (hs : sl ≤ ms) (hf : b_X9_tapeInt_0 F h v0 v1 = some (r, hz)) : GG M X h ce sl 0 [(0, .ref (X.1 + v0)), (1, .int v1)] [] := by
  unfold b_X9_tapeInt_0 at hf
  refine r_bipush (24 : Int32) hc (dc_at dX9_tapeInt 0 rfl) (by decide) ?_
  refine r_istore_n [(2, .int ((24 : Int32))), (0, .ref (X.1 + v0)), (1, .int v1)] hc hr (dc_at dX9_tapeInt 1 rfl) (by decide) rfl ?_
  exact gg_sub [1, 2, 0] rfl (tl_X9_tapeInt_3 hc hr he hm hs  F _ _ _ _ hf)
def m_X9_tapeInt (F : Nat) (h : PH) (p0 : Nat) (p1 : Int32) : Option (Unit × PH) := b_X9_tapeInt_0 F h p0 p1
theorem mt_X9_tapeInt {l : Launch} {X : XT} {F : Nat} {h hz : PH} {p0 : Nat} {p1 : Int32} {r : Unit} (ex : m_X9_tapeInt F h p0 p1 = some (r, hz)) : MT l X yX9_tapeInt cX9_tapeInt 3 none 1 60 0 0 [.ref (X.1 + p0), .int p1] h none hz := MT.of (by decide) (Nat.le_of_ble_eq_true rfl) fun M hl hc hr he => by
  subst hl
  exact gg_sub [0, 1] rfl (t_X9_tapeInt_0  hc hr he (Nat.zero_le _) (Nat.zero_le _) ex)
/-! FractionLift.feed(IIIII)I -/
def lX9_feedL : List (Nat × Instr × Nat × Nat) := [(0, .aload_n 0, 1, 1), (1, .getfield 13, 3, 4), (4, .bipush 20, 2, 6), (6, .iadd, 1, 7), (7, .sipush 900, 3, 10), (10, .if_icmp .le 6, 3, 13), (13, .bipush (-5), 2, 15), (15, .ireturn, 1, 16), (16, .aload_n 0, 1, 17), (17, .iload_n 1, 1, 18), (18, .invokevirtual 73, 3, 21), (21, .aload_n 0, 1, 22), (22, .iload_n 2, 1, 23), (23, .invokevirtual 73, 3, 26), (26, .aload_n 0, 1, 27), (27, .iload_n 3, 1, 28), (28, .invokevirtual 73, 3, 31), (31, .aload_n 0, 1, 32), (32, .iload 4, 2, 34), (34, .invokevirtual 73, 3, 37), (37, .aload_n 0, 1, 38), (38, .iload 5, 2, 40), (40, .invokevirtual 73, 3, 43), (43, .aload_n 0, 1, 44), (44, .getfield 13, 3, 47), (47, .ireturn, 1, 48)]
set_option maxRecDepth 20000 in
theorem dX9_feed : dcL cX9_feed lX9_feedL = true := by decide +kernel
def b_X9_feed_0 (F : Nat) (h : PH) (v0 : Nat) (v1 : Int32) (v2 : Int32) (v3 : Int32) (v4 : Int32) (v5 : Int32) : Option (Int32 × PH) := (gI 9 1 h v0).bind fun x1 => (if ((x1 + (20 : Int32))) ≤ (900 : Int32) then (cO 9 h v0 (bind2 (m_X9_tapeInt F h v0 v1) fun _ h3 => (cO 9 h3 v0 (bind2 (m_X9_tapeInt F h3 v0 v2) fun _ h5 => (cO 9 h5 v0 (bind2 (m_X9_tapeInt F h5 v0 v3) fun _ h7 => (cO 9 h7 v0 (bind2 (m_X9_tapeInt F h7 v0 v4) fun _ h9 => (cO 9 h9 v0 (bind2 (m_X9_tapeInt F h9 v0 v5) fun _ h11 => ((gI 9 1 h11 v0).bind fun x12 => (some (x12, h11))))))))))))) else (some ((-5 : Int32), h)))
set_option maxRecDepth 20000 in
theorem t_X9_feed_0 {M : MV} {X : XT} {F : Nat} {h hz : PH} {r : Int32} {ce sl mc ms : Nat} {v0 : Nat} {v1 : Int32} {v2 : Int32} {v3 : Int32} {v4 : Int32} {v5 : Int32} (hc : Cx M X RX9 cX9_feed) (hr : Rx M 2 118 mc ms 6) (he : Ex M X (some .int) "feed" (some (.int r)) hz mc ms) (hm : ce ≤ mc) (hs : sl ≤ ms) (hf : b_X9_feed_0 F h v0 v1 v2 v3 v4 v5 = some (r, hz)) : GG M X h ce sl 0 [(0, .ref (X.1 + v0)), (1, .int v1), (2, .int v2), (3, .int v3), (4, .int v4), (5, .int v5)] [] := by
  unfold b_X9_feed_0 at hf
  refine r_aload_n hc 0 (dc_at dX9_feed 0 rfl) rfl ?_
  refine r_getI hc (dc_at dX9_feed 1 rfl) fl_X9_13 hf fun x1 hf => ?_
  refine r_bipush (20 : Int32) hc (dc_at dX9_feed 2 rfl) (by decide) ?_
  refine r_iadd hc (dc_at dX9_feed 3 rfl) ?_
  refine r_sipush (900 : Int32) hc (dc_at dX9_feed 4 rfl) (by decide) ?_
  refine r_icmp_le (tgt := 16) hc (dc_at dX9_feed 5 rfl) (by decide) hf (fun hf => ?_) (fun hf => ?_)
  · refine r_aload_n hc 0 (dc_at dX9_feed 8 rfl) rfl ?_
    refine r_iload_n hc 1 (dc_at dX9_feed 9 rfl) rfl ?_
    obtain ⟨ho, hf⟩ := cO_some hf
    refine ob2 hf fun u h3 ex hf => ?_
    refine r_callVv (As := [.int v1]) (ci := 9) hc hr (dc_at dX9_feed 10 rfl) ml_X9_73 mv_X9_tapeInt vi_X9_tapeInt rfl ho rfl (mt_X9_tapeInt ex) (by first | exact Nat.le_of_ble_eq_true rfl | omega) (by first | exact Nat.le_of_ble_eq_true rfl | omega) (by first | exact Nat.le_of_ble_eq_true rfl | omega) hm hs ?_
    refine r_aload_n hc 0 (dc_at dX9_feed 11 rfl) rfl ?_
    refine r_iload_n hc 2 (dc_at dX9_feed 12 rfl) rfl ?_
    obtain ⟨ho, hf⟩ := cO_some hf
    refine ob2 hf fun u h5 ex hf => ?_
    refine r_callVv (As := [.int v2]) (ci := 9) hc hr (dc_at dX9_feed 13 rfl) ml_X9_73 mv_X9_tapeInt vi_X9_tapeInt rfl ho rfl (mt_X9_tapeInt ex) (by first | exact Nat.le_of_ble_eq_true rfl | omega) (by first | exact Nat.le_of_ble_eq_true rfl | omega) (by first | exact Nat.le_of_ble_eq_true rfl | omega) hm hs ?_
    refine r_aload_n hc 0 (dc_at dX9_feed 14 rfl) rfl ?_
    refine r_iload_n hc 3 (dc_at dX9_feed 15 rfl) rfl ?_
    obtain ⟨ho, hf⟩ := cO_some hf
    refine ob2 hf fun u h7 ex hf => ?_
    refine r_callVv (As := [.int v3]) (ci := 9) hc hr (dc_at dX9_feed 16 rfl) ml_X9_73 mv_X9_tapeInt vi_X9_tapeInt rfl ho rfl (mt_X9_tapeInt ex) (by first | exact Nat.le_of_ble_eq_true rfl | omega) (by first | exact Nat.le_of_ble_eq_true rfl | omega) (by first | exact Nat.le_of_ble_eq_true rfl | omega) hm hs ?_
    refine r_aload_n hc 0 (dc_at dX9_feed 17 rfl) rfl ?_
    refine r_iload hc 4 (dc_at dX9_feed 18 rfl) rfl ?_
    obtain ⟨ho, hf⟩ := cO_some hf
    refine ob2 hf fun u h9 ex hf => ?_
    refine r_callVv (As := [.int v4]) (ci := 9) hc hr (dc_at dX9_feed 19 rfl) ml_X9_73 mv_X9_tapeInt vi_X9_tapeInt rfl ho rfl (mt_X9_tapeInt ex) (by first | exact Nat.le_of_ble_eq_true rfl | omega) (by first | exact Nat.le_of_ble_eq_true rfl | omega) (by first | exact Nat.le_of_ble_eq_true rfl | omega) hm hs ?_
    refine r_aload_n hc 0 (dc_at dX9_feed 20 rfl) rfl ?_
    refine r_iload hc 5 (dc_at dX9_feed 21 rfl) rfl ?_
    obtain ⟨ho, hf⟩ := cO_some hf
    refine ob2 hf fun u h11 ex hf => ?_
    refine r_callVv (As := [.int v5]) (ci := 9) hc hr (dc_at dX9_feed 22 rfl) ml_X9_73 mv_X9_tapeInt vi_X9_tapeInt rfl ho rfl (mt_X9_tapeInt ex) (by first | exact Nat.le_of_ble_eq_true rfl | omega) (by first | exact Nat.le_of_ble_eq_true rfl | omega) (by first | exact Nat.le_of_ble_eq_true rfl | omega) hm hs ?_
    refine r_aload_n hc 0 (dc_at dX9_feed 23 rfl) rfl ?_
    refine r_getI hc (dc_at dX9_feed 24 rfl) fl_X9_13 hf fun x12 hf => ?_
    exact r_iret hc he (hm) (hs) (dc_at dX9_feed 25 rfl) hf
  · refine r_bipush (-5 : Int32) hc (dc_at dX9_feed 6 rfl) (by decide) ?_
    exact r_iret hc he (hm) (hs) (dc_at dX9_feed 7 rfl) hf
def m_X9_feed (F : Nat) (h : PH) (p0 : Nat) (p1 : Int32) (p2 : Int32) (p3 : Int32) (p4 : Int32) (p5 : Int32) : Option (Int32 × PH) := b_X9_feed_0 F h p0 p1 p2 p3 p4 p5
theorem mt_X9_feed {l : Launch} {X : XT} {F : Nat} {h hz : PH} {p0 : Nat} {p1 : Int32} {p2 : Int32} {p3 : Int32} {p4 : Int32} {p5 : Int32} {r : Int32} (ex : m_X9_feed F h p0 p1 p2 p3 p4 p5 = some (r, hz)) : MT l X yX9_feed cX9_feed 6 (some .int) 2 118 0 0 [.ref (X.1 + p0), .int p1, .int p2, .int p3, .int p4, .int p5] h (some (.int r)) hz := MT.of (by decide) (Nat.le_of_ble_eq_true rfl) fun M hl hc hr he => by
  subst hl
  exact gg_sub [0, 1, 2, 3, 4, 5] rfl (t_X9_feed_0  hc hr he (Nat.zero_le _) (Nat.zero_le _) ex)
/-! FractionLift.house(I)I -/
def lX9_houseL : List (Nat × Instr × Nat × Nat) := [(0, .iload_n 1, 1, 1), (1, .ifCond .lt 11, 3, 4), (4, .iload_n 1, 1, 5), (5, .aload_n 0, 1, 6), (6, .getfield 13, 3, 9), (9, .if_icmp .le 6, 3, 12), (12, .bipush (-3), 2, 14), (14, .ireturn, 1, 15), (15, .aload_n 0, 1, 16), (16, .getfield 77, 3, 19), (19, .ifnonnull 14, 3, 22), (22, .aload_n 0, 1, 23), (23, .new 81, 3, 26), (26, .dup, 1, 27), (27, .invokespecial 83, 3, 30), (30, .putfield 77, 3, 33), (33, .aload_n 0, 1, 34), (34, .getfield 77, 3, 37), (37, .aload_n 0, 1, 38), (38, .getfield 9, 3, 41), (41, .iload_n 1, 1, 42), (42, .invokevirtual 84, 3, 45), (45, .aload_n 0, 1, 46), (46, .iconst 0, 1, 47), (47, .putfield 13, 3, 50), (50, .aload_n 0, 1, 51), (51, .aload_n 0, 1, 52), (52, .getfield 77, 3, 55), (55, .getfield 88, 3, 58), (58, .putfield 17, 3, 61), (61, .aload_n 0, 1, 62), (62, .aload_n 0, 1, 63), (63, .getfield 77, 3, 66), (66, .getfield 89, 3, 69), (69, .putfield 20, 3, 72), (72, .aload_n 0, 1, 73), (73, .getfield 17, 3, 76), (76, .ifCond .eq 11, 3, 79), (79, .bipush (-30), 2, 81), (81, .aload_n 0, 1, 82), (82, .getfield 17, 3, 85), (85, .isub, 1, 86), (86, .ireturn, 1, 87), (87, .aload_n 0, 1, 88), (88, .getfield 77, 3, 91), (91, .getfield 90, 3, 94), (94, .astore_n 2, 1, 95), (95, .aload_n 0, 1, 96), (96, .getfield 77, 3, 99), (99, .aload_n 0, 1, 100), (100, .getfield 26, 3, 103), (103, .putfield 90, 3, 106), (106, .aload_n 0, 1, 107), (107, .aload_n 2, 1, 108), (108, .putfield 26, 3, 111), (111, .aload_n 0, 1, 112), (112, .iconst 0, 1, 113), (113, .putfield 46, 3, 116), (116, .aload_n 0, 1, 117), (117, .getfield 26, 3, 120), (120, .getfield 93, 3, 123), (123, .ireturn, 1, 124)]
set_option maxRecDepth 20000 in
theorem dX9_house : dcL cX9_house lX9_houseL = true := by decide +kernel
def b_X9_house_33 (F : Nat) (h : PH) (v0 : Nat) (v1 : Int32) : Option (Int32 × PH) := (gR 9 5 h v0).bind fun a1 => ((gR 9 0 h v0).bind fun a2 => (cO 3 h a1 (bind2 (m_X3_readAll F h a1 a2 v1) fun _ h4 => ((pV 9 1 (.int (0 : Int32)) h4 v0).bind fun h5 => ((gR 9 5 h5 v0).bind fun a6 => ((gI 3 1 h5 a6).bind fun x7 => ((pV 9 2 (.int x7) h5 v0).bind fun h8 => ((gR 9 5 h8 v0).bind fun a9 => ((gI 3 2 h8 a9).bind fun x10 => ((pV 9 3 (.int x10) h8 v0).bind fun h11 => ((gI 9 2 h11 v0).bind fun x12 => (if x12 = 0 then ((gR 9 5 h11 v0).bind fun a13 => ((gR 3 0 h11 a13).bind fun a14 => ((gR 9 5 h11 v0).bind fun a15 => ((gR 9 4 h11 v0).bind fun a16 => ((pV 3 0 (.ref a16) h11 a15).bind fun h17 => ((pV 9 4 (.ref a14) h17 v0).bind fun h18 => ((pV 9 10 (.int (0 : Int32)) h18 v0).bind fun h19 => ((gR 9 4 h19 v0).bind fun a20 => ((gI 0 2 h19 a20).bind fun x21 => (some (x21, h19))))))))))) else ((gI 9 2 h11 v0).bind fun x22 => (some ((((-30 : Int32) - x22)), h11)))))))))))))))
set_option maxRecDepth 20000 in
theorem t_X9_house_33 {M : MV} {X : XT} {F : Nat} {h hz : PH} {r : Int32} {ce sl mc ms : Nat} {v0 : Nat} {v1 : Int32} (hc : Cx M X RX9 cX9_house) (hr : Rx M 14 812 mc ms 3) (he : Ex M X (some .int) "house" (some (.int r)) hz mc ms) (hm : ce ≤ mc) (hs : sl ≤ ms) (hf : b_X9_house_33 F h v0 v1 = some (r, hz)) : GG M X h ce sl 33 [(0, .ref (X.1 + v0)), (1, .int v1)] [] := by
  unfold b_X9_house_33 at hf
  refine r_aload_n hc 0 (dc_at dX9_house 16 rfl) rfl ?_
  refine r_getR hc (dc_at dX9_house 17 rfl) fl_X9_77 hf fun a1 hf => ?_
  refine r_aload_n hc 0 (dc_at dX9_house 18 rfl) rfl ?_
  refine r_getR hc (dc_at dX9_house 19 rfl) fl_X9_9 hf fun a2 hf => ?_
  refine r_iload_n hc 1 (dc_at dX9_house 20 rfl) rfl ?_
  obtain ⟨ho, hf⟩ := cO_some hf
  refine ob2 hf fun u h4 ex hf => ?_
  refine r_callVv (As := [.ref (X.1 + a2), .int v1]) (ci := 3) hc hr (dc_at dX9_house 21 rfl) ml_X9_84 mv_X3_readAll vi_X3_readAll rfl ho rfl (mt_X3_readAll ex) (by first | exact Nat.le_of_ble_eq_true rfl | omega) (by first | exact Nat.le_of_ble_eq_true rfl | omega) (by first | exact Nat.le_of_ble_eq_true rfl | omega) (by omega) (by omega) ?_
  refine r_aload_n hc 0 (dc_at dX9_house 22 rfl) rfl ?_
  refine r_iconst (0 : Int32) hc (dc_at dX9_house 23 rfl) (by decide) ?_
  refine r_putI hc he (dc_at dX9_house 24 rfl) fp_X9_13 (fun q => by cases q) hf fun h5 hf => ?_
  refine r_aload_n hc 0 (dc_at dX9_house 25 rfl) rfl ?_
  refine r_aload_n hc 0 (dc_at dX9_house 26 rfl) rfl ?_
  refine r_getR hc (dc_at dX9_house 27 rfl) fl_X9_77 hf fun a6 hf => ?_
  refine r_getI hc (dc_at dX9_house 28 rfl) fl_X9_88 hf fun x7 hf => ?_
  refine r_putI hc he (dc_at dX9_house 29 rfl) fp_X9_17 (fun q => by cases q) hf fun h8 hf => ?_
  refine r_aload_n hc 0 (dc_at dX9_house 30 rfl) rfl ?_
  refine r_aload_n hc 0 (dc_at dX9_house 31 rfl) rfl ?_
  refine r_getR hc (dc_at dX9_house 32 rfl) fl_X9_77 hf fun a9 hf => ?_
  refine r_getI hc (dc_at dX9_house 33 rfl) fl_X9_89 hf fun x10 hf => ?_
  refine r_putI hc he (dc_at dX9_house 34 rfl) fp_X9_20 (fun q => by cases q) hf fun h11 hf => ?_
  refine r_aload_n hc 0 (dc_at dX9_house 35 rfl) rfl ?_
  refine r_getI hc (dc_at dX9_house 36 rfl) fl_X9_17 hf fun x12 hf => ?_
  refine r_if_eq (tgt := 87) hc (dc_at dX9_house 37 rfl) (by decide) hf (fun hf => ?_) (fun hf => ?_)
  · refine r_aload_n hc 0 (dc_at dX9_house 43 rfl) rfl ?_
    refine r_getR hc (dc_at dX9_house 44 rfl) fl_X9_77 hf fun a13 hf => ?_
    refine r_getR hc (dc_at dX9_house 45 rfl) fl_X9_90 hf fun a14 hf => ?_
    refine r_astore_n [(2, .ref (X.1 + a14)), (0, .ref (X.1 + v0)), (1, .int v1)] hc hr (dc_at dX9_house 46 rfl) (by decide) rfl ?_
    refine r_aload_n hc 1 (dc_at dX9_house 47 rfl) rfl ?_
    refine r_getR hc (dc_at dX9_house 48 rfl) fl_X9_77 hf fun a15 hf => ?_
    refine r_aload_n hc 1 (dc_at dX9_house 49 rfl) rfl ?_
    refine r_getR hc (dc_at dX9_house 50 rfl) fl_X9_26 hf fun a16 hf => ?_
    refine r_putR hc he (dc_at dX9_house 51 rfl) fp_X9_90 (fun q => by cases q) ⟨rfl, fun _ => ⟨rfl, rfl⟩⟩ hf fun h17 hf => ?_
    refine r_aload_n hc 1 (dc_at dX9_house 52 rfl) rfl ?_
    refine r_aload_n hc 0 (dc_at dX9_house 53 rfl) rfl ?_
    refine r_putR hc he (dc_at dX9_house 54 rfl) fp_X9_26 (fun q => by cases q) ⟨rfl, fun _ => ⟨rfl, rfl⟩⟩ hf fun h18 hf => ?_
    refine r_aload_n hc 1 (dc_at dX9_house 55 rfl) rfl ?_
    refine r_iconst (0 : Int32) hc (dc_at dX9_house 56 rfl) (by decide) ?_
    refine r_putI hc he (dc_at dX9_house 57 rfl) fp_X9_46 (fun q => by cases q) hf fun h19 hf => ?_
    refine r_aload_n hc 1 (dc_at dX9_house 58 rfl) rfl ?_
    refine r_getR hc (dc_at dX9_house 59 rfl) fl_X9_26 hf fun a20 hf => ?_
    refine r_getI hc (dc_at dX9_house 60 rfl) fl_X9_93 hf fun x21 hf => ?_
    exact r_iret hc he (by omega) (by omega) (dc_at dX9_house 61 rfl) hf
  · refine r_bipush (-30 : Int32) hc (dc_at dX9_house 38 rfl) (by decide) ?_
    refine r_aload_n hc 0 (dc_at dX9_house 39 rfl) rfl ?_
    refine r_getI hc (dc_at dX9_house 40 rfl) fl_X9_17 hf fun x22 hf => ?_
    refine r_isub hc (dc_at dX9_house 41 rfl) ?_
    exact r_iret hc he (by omega) (by omega) (dc_at dX9_house 42 rfl) hf
def b_X9_house_0 (F : Nat) (h : PH) (v0 : Nat) (v1 : Int32) : Option (Int32 × PH) := if v1 < 0 then (some ((-3 : Int32), h)) else ((gI 9 1 h v0).bind fun x1 => (if v1 ≤ x1 then ((gN 9 5 h v0).bind fun q2 => (if q2 = none then (bindv h.length fun a3 => (bindv (h ++ [.inr (3, df3)]) fun h4 => (bind2 (m_X3_init h4 a3) fun _ h6 => ((pV 9 5 (.ref a3) h6 v0).bind fun h7 => (b_X9_house_33 F h7 v0 v1))))) else (b_X9_house_33 F h v0 v1))) else (some ((-3 : Int32), h))))
set_option maxRecDepth 20000 in
theorem t_X9_house_0 {M : MV} {X : XT} {F : Nat} {h hz : PH} {r : Int32} {mc ms : Nat} {v0 : Nat} {v1 : Int32} (hc : Cx M X RX9 cX9_house) (hr : Rx M 14 812 mc ms 3) (he : Ex M X (some .int) "house" (some (.int r)) hz mc ms) (hm : 0 ≤ mc) (hs : 0 ≤ ms) (hcost : gN 9 5 h v0 = some none → 17 ≤ mc ∧ 3777 ≤ ms) (hf : b_X9_house_0 F h v0 v1 = some (r, hz)) : GG M X h 0 0 0 [(0, .ref (X.1 + v0)), (1, .int v1)] [] := by
  unfold b_X9_house_0 at hf
  refine r_iload_n hc 1 (dc_at dX9_house 0 rfl) rfl ?_
  refine r_if_lt (tgt := 12) hc (dc_at dX9_house 1 rfl) (by decide) hf (fun hf => ?_) (fun hf => ?_)
  · refine r_bipush (-3 : Int32) hc (dc_at dX9_house 6 rfl) (by decide) ?_
    exact r_iret hc he (by omega) (by omega) (dc_at dX9_house 7 rfl) hf
  · refine r_iload_n hc 1 (dc_at dX9_house 2 rfl) rfl ?_
    refine r_aload_n hc 0 (dc_at dX9_house 3 rfl) rfl ?_
    refine r_getI hc (dc_at dX9_house 4 rfl) fl_X9_13 hf fun x1 hf => ?_
    refine r_icmp_le (tgt := 15) hc (dc_at dX9_house 5 rfl) (by decide) hf (fun hf => ?_) (fun hf => ?_)
    · refine r_aload_n hc 0 (dc_at dX9_house 8 rfl) rfl ?_
      refine r_getN hc (dc_at dX9_house 9 rfl) fl_X9_77 hf fun q2 e_q2 hf => ?_
      refine r_ifnonnull (tgt := 33) hc (dc_at dX9_house 10 rfl) (by decide) hf (fun hf => ?_) (fun hf hnull => ?_)
      · exact gg_sub [0, 1] rfl (t_X9_house_33 hc hr he (by omega) (by omega)  hf)
      · have hmc := hcost (by rw [e_q2, hnull])
        refine r_aload_n hc 0 (dc_at dX9_house 11 rfl) rfl ?_
        refine r_newN (N := 14) hc hr (dc_at dX9_house 12 rfl) nw_X9_81 (by omega) (by omega) hf fun a3 h4 hf => ?_
        refine r_dup hc (dc_at dX9_house 13 rfl) rfl ?_
        refine ob2 hf fun u h6 ex hf => ?_
        refine r_callIC (As := []) hc hr (dc_at dX9_house 14 rfl) ml_X9_83 mv_X3_init im_X3_init rfl rfl (mt_X3_init ex) (by first | exact Nat.le_of_ble_eq_true rfl | omega) (by first | exact Nat.le_of_ble_eq_true rfl | omega) (by first | exact Nat.le_of_ble_eq_true rfl | omega) (by omega) (by omega) ?_
        refine r_putR hc he (dc_at dX9_house 15 rfl) fp_X9_77 (fun q => by cases q) ⟨rfl, fun _ => ⟨rfl, rfl⟩⟩ hf fun h7 hf => ?_
        exact gg_sub [0, 1] rfl (t_X9_house_33 hc hr he (by omega) (by omega)  hf)
    · refine r_bipush (-3 : Int32) hc (dc_at dX9_house 6 rfl) (by decide) ?_
      exact r_iret hc he (by omega) (by omega) (dc_at dX9_house 7 rfl) hf
def m_X9_house (F : Nat) (h : PH) (p0 : Nat) (p1 : Int32) : Option (Int32 × PH) := b_X9_house_0 F h p0 p1
theorem mt_X9_house {l : Launch} {X : XT} {F : Nat} {h hz : PH} {p0 : Nat} {p1 : Int32} {r : Int32} {mc ms : Nat} (ex : m_X9_house F h p0 p1 = some (r, hz)) (hcost : gN 9 5 h p0 = some none → 17 ≤ mc ∧ 3777 ≤ ms) : MT l X yX9_house cX9_house 3 (some .int) 14 812 mc ms [.ref (X.1 + p0), .int p1] h (some (.int r)) hz := MT.of (by decide) (Nat.le_of_ble_eq_true rfl) fun M hl hc hr he => by
  subst hl
  exact gg_sub [0, 1] rfl (t_X9_house_0  hc hr he (Nat.zero_le _) (Nat.zero_le _) hcost ex)
/-! FractionLift.fault(I)I -/
def lX9_faultL : List (Nat × Instr × Nat × Nat) := [(0, .iload_n 1, 1, 1), (1, .ifCond .ne 8, 3, 4), (4, .aload_n 0, 1, 5), (5, .getfield 17, 3, 8), (8, .ireturn, 1, 9), (9, .iload_n 1, 1, 10), (10, .iconst 1, 1, 11), (11, .if_icmp .ne 10, 3, 14), (14, .aload_n 0, 1, 15), (15, .getfield 20, 3, 18), (18, .goto 4, 3, 21), (21, .iconst (-1), 1, 22), (22, .ireturn, 1, 23)]
set_option maxRecDepth 20000 in
theorem dX9_fault : dcL cX9_fault lX9_faultL = true := by decide +kernel
def b_X9_fault_0 (h : PH) (v0 : Nat) (v1 : Int32) : Option Int32 := if v1 = 0 then ((gI 9 2 h v0).bind fun x2 => (some x2)) else (if v1 = (1 : Int32) then ((gI 9 3 h v0).bind fun x1 => (some x1)) else (some (-1 : Int32)))
set_option maxRecDepth 20000 in
theorem t_X9_fault_0 {M : MV} {X : XT} {h : PH} {r : Int32} {ce sl mc ms : Nat} {v0 : Nat} {v1 : Int32} (hc : Cx M X RX9 cX9_fault) (hr : Rx M 1 60 mc ms 2) (he : Ex M X (some .int) "fault" (some (.int r)) h mc ms) (hm : ce ≤ mc) (hs : sl ≤ ms) (hf : b_X9_fault_0 h v0 v1 = some r) : GG M X h ce sl 0 [(0, .ref (X.1 + v0)), (1, .int v1)] [] := by
  unfold b_X9_fault_0 at hf
  refine r_iload_n hc 1 (dc_at dX9_fault 0 rfl) rfl ?_
  refine r_if_ne (tgt := 9) hc (dc_at dX9_fault 1 rfl) (by decide) hf (fun hf => ?_) (fun hf => ?_)
  · refine r_iload_n hc 1 (dc_at dX9_fault 5 rfl) rfl ?_
    refine r_iconst (1 : Int32) hc (dc_at dX9_fault 6 rfl) (by decide) ?_
    refine r_icmp_ne (tgt := 21) hc (dc_at dX9_fault 7 rfl) (by decide) hf (fun hf => ?_) (fun hf => ?_)
    · refine r_iconst (-1 : Int32) hc (dc_at dX9_fault 11 rfl) (by decide) ?_
      exact r_iretP hc he (hm) (hs) (dc_at dX9_fault 12 rfl) hf
    · refine r_aload_n hc 0 (dc_at dX9_fault 8 rfl) rfl ?_
      refine r_getI hc (dc_at dX9_fault 9 rfl) fl_X9_20 hf fun x1 hf => ?_
      refine r_goto (tgt := 22) hc (dc_at dX9_fault 10 rfl) (by decide) ?_
      exact r_iretP hc he (hm) (hs) (dc_at dX9_fault 12 rfl) hf
  · refine r_aload_n hc 0 (dc_at dX9_fault 2 rfl) rfl ?_
    refine r_getI hc (dc_at dX9_fault 3 rfl) fl_X9_17 hf fun x2 hf => ?_
    exact r_iretP hc he (hm) (hs) (dc_at dX9_fault 4 rfl) hf
def m_X9_fault (h : PH) (p0 : Nat) (p1 : Int32) : Option Int32 := b_X9_fault_0 h p0 p1
theorem mt_X9_fault {l : Launch} {X : XT} {h : PH} {p0 : Nat} {p1 : Int32} {r : Int32} (ex : m_X9_fault h p0 p1 = some r) : MT l X yX9_fault cX9_fault 2 (some .int) 1 60 0 0 [.ref (X.1 + p0), .int p1] h (some (.int r)) h := MT.of (by decide) (Nat.le_of_ble_eq_true rfl) fun M hl hc hr he => by
  subst hl
  exact gg_sub [0, 1] rfl (t_X9_fault_0  hc hr he (Nat.zero_le _) (Nat.zero_le _) ex)
/-! FractionLift.at(I)I -/
def lX9_atL : List (Nat × Instr × Nat × Nat) := [(0, .iload_n 1, 1, 1), (1, .ifCond .ne 11, 3, 4), (4, .aload_n 0, 1, 5), (5, .getfield 26, 3, 8), (8, .getfield 96, 3, 11), (11, .ireturn, 1, 12), (12, .iload_n 1, 1, 13), (13, .iconst 1, 1, 14), (14, .if_icmp .ne 13, 3, 17), (17, .aload_n 0, 1, 18), (18, .getfield 26, 3, 21), (21, .getfield 99, 3, 24), (24, .goto 5, 3, 27), (27, .bipush (-2), 2, 29), (29, .ireturn, 1, 30)]
set_option maxRecDepth 20000 in
theorem dX9_at : dcL cX9_at lX9_atL = true := by decide +kernel
def b_X9_at_0 (h : PH) (v0 : Nat) (v1 : Int32) : Option Int32 := if v1 = 0 then ((gR 9 4 h v0).bind fun a3 => ((gI 0 4 h a3).bind fun x4 => (some x4))) else (if v1 = (1 : Int32) then ((gR 9 4 h v0).bind fun a1 => ((gI 0 5 h a1).bind fun x2 => (some x2))) else (some (-2 : Int32)))
set_option maxRecDepth 20000 in
theorem t_X9_at_0 {M : MV} {X : XT} {h : PH} {r : Int32} {ce sl mc ms : Nat} {v0 : Nat} {v1 : Int32} (hc : Cx M X RX9 cX9_at) (hr : Rx M 1 60 mc ms 2) (he : Ex M X (some .int) "at" (some (.int r)) h mc ms) (hm : ce ≤ mc) (hs : sl ≤ ms) (hf : b_X9_at_0 h v0 v1 = some r) : GG M X h ce sl 0 [(0, .ref (X.1 + v0)), (1, .int v1)] [] := by
  unfold b_X9_at_0 at hf
  refine r_iload_n hc 1 (dc_at dX9_at 0 rfl) rfl ?_
  refine r_if_ne (tgt := 12) hc (dc_at dX9_at 1 rfl) (by decide) hf (fun hf => ?_) (fun hf => ?_)
  · refine r_iload_n hc 1 (dc_at dX9_at 6 rfl) rfl ?_
    refine r_iconst (1 : Int32) hc (dc_at dX9_at 7 rfl) (by decide) ?_
    refine r_icmp_ne (tgt := 27) hc (dc_at dX9_at 8 rfl) (by decide) hf (fun hf => ?_) (fun hf => ?_)
    · refine r_bipush (-2 : Int32) hc (dc_at dX9_at 13 rfl) (by decide) ?_
      exact r_iretP hc he (hm) (hs) (dc_at dX9_at 14 rfl) hf
    · refine r_aload_n hc 0 (dc_at dX9_at 9 rfl) rfl ?_
      refine r_getR hc (dc_at dX9_at 10 rfl) fl_X9_26 hf fun a1 hf => ?_
      refine r_getI hc (dc_at dX9_at 11 rfl) fl_X9_99 hf fun x2 hf => ?_
      refine r_goto (tgt := 29) hc (dc_at dX9_at 12 rfl) (by decide) ?_
      exact r_iretP hc he (hm) (hs) (dc_at dX9_at 14 rfl) hf
  · refine r_aload_n hc 0 (dc_at dX9_at 2 rfl) rfl ?_
    refine r_getR hc (dc_at dX9_at 3 rfl) fl_X9_26 hf fun a3 hf => ?_
    refine r_getI hc (dc_at dX9_at 4 rfl) fl_X9_96 hf fun x4 hf => ?_
    exact r_iretP hc he (hm) (hs) (dc_at dX9_at 5 rfl) hf
def m_X9_at (h : PH) (p0 : Nat) (p1 : Int32) : Option Int32 := b_X9_at_0 h p0 p1
theorem mt_X9_at {l : Launch} {X : XT} {h : PH} {p0 : Nat} {p1 : Int32} {r : Int32} (ex : m_X9_at h p0 p1 = some r) : MT l X yX9_at cX9_at 2 (some .int) 1 60 0 0 [.ref (X.1 + p0), .int p1] h (some (.int r)) h := MT.of (by decide) (Nat.le_of_ble_eq_true rfl) fun M hl hc hr he => by
  subst hl
  exact gg_sub [0, 1] rfl (t_X9_at_0  hc hr he (Nat.zero_le _) (Nat.zero_le _) ex)
/-! FractionLift.floor(II)I -/
def lX9_floorL : List (Nat × Instr × Nat × Nat) := [(0, .iload_n 1, 1, 1), (1, .ifCond .lt 14, 3, 4), (4, .iload_n 1, 1, 5), (5, .aload_n 0, 1, 6), (6, .getfield 26, 3, 9), (9, .getfield 102, 3, 12), (12, .if_icmp .lt 6, 3, 15), (15, .bipush (-2), 2, 17), (17, .ireturn, 1, 18), (18, .iload_n 2, 1, 19), (19, .tableswitch 78 0 5 #[37, 47, 57, 57, 57, 69], 37, 56), (56, .aload_n 0, 1, 57), (57, .getfield 26, 3, 60), (60, .getfield 105, 3, 63), (63, .iload_n 1, 1, 64), (64, .iaload, 1, 65), (65, .ireturn, 1, 66), (66, .aload_n 0, 1, 67), (67, .getfield 26, 3, 70), (70, .getfield 108, 3, 73), (73, .iload_n 1, 1, 74), (74, .iaload, 1, 75), (75, .ireturn, 1, 76), (76, .aload_n 0, 1, 77), (77, .getfield 26, 3, 80), (80, .iload_n 1, 1, 81), (81, .iload_n 2, 1, 82), (82, .iconst 2, 1, 83), (83, .isub, 1, 84), (84, .invokevirtual 111, 3, 87), (87, .ireturn, 1, 88), (88, .aload_n 0, 1, 89), (89, .getfield 26, 3, 92), (92, .iload_n 1, 1, 93), (93, .invokevirtual 115, 3, 96), (96, .ireturn, 1, 97), (97, .bipush (-2), 2, 99), (99, .ireturn, 1, 100)]
set_option maxRecDepth 20000 in
theorem dX9_floor : dcL cX9_floor lX9_floorL = true := by decide +kernel
def b_X9_floor_76 (F : Nat) (h : PH) (v0 : Nat) (v1 : Int32) (v2 : Int32) : Option Int32 := (gR 9 4 h v0).bind fun a1 => (cO 0 h a1 ((m_X0_stuffOf h a1 v1 ((v2 - (2 : Int32)))).bind fun x2 => (some x2)))
set_option maxRecDepth 20000 in
theorem t_X9_floor_76 {M : MV} {X : XT} {F : Nat} {h : PH} {r : Int32} {ce sl mc ms : Nat} {v0 : Nat} {v1 : Int32} {v2 : Int32} (hc : Cx M X RX9 cX9_floor) (hr : Rx M 2 118 mc ms 3) (he : Ex M X (some .int) "floor" (some (.int r)) h mc ms) (hm : ce ≤ mc) (hs : sl ≤ ms) (hf : b_X9_floor_76 F h v0 v1 v2 = some r) : GG M X h ce sl 76 [(0, .ref (X.1 + v0)), (1, .int v1), (2, .int v2)] [] := by
  unfold b_X9_floor_76 at hf
  refine r_aload_n hc 0 (dc_at dX9_floor 23 rfl) rfl ?_
  refine r_getR hc (dc_at dX9_floor 24 rfl) fl_X9_26 hf fun a1 hf => ?_
  refine r_iload_n hc 1 (dc_at dX9_floor 25 rfl) rfl ?_
  refine r_iload_n hc 2 (dc_at dX9_floor 26 rfl) rfl ?_
  refine r_iconst (2 : Int32) hc (dc_at dX9_floor 27 rfl) (by decide) ?_
  refine r_isub hc (dc_at dX9_floor 28 rfl) ?_
  obtain ⟨ho, hf⟩ := cO_some hf
  refine ob hf fun x2 ex hf => ?_
  refine r_callVi (As := [.int v1, .int ((v2 - (2 : Int32)))]) (ci := 0) hc hr (dc_at dX9_floor 29 rfl) ml_X9_111 mv_X0_stuffOf vi_X0_stuffOf rfl ho rfl (mt_X0_stuffOf ex) (by first | exact Nat.le_of_ble_eq_true rfl | omega) (by first | exact Nat.le_of_ble_eq_true rfl | omega) (by first | exact Nat.le_of_ble_eq_true rfl | omega) hm hs ?_
  exact r_iretP hc he (hm) (hs) (dc_at dX9_floor 30 rfl) hf
def b_X9_floor_0 (F : Nat) (h : PH) (v0 : Nat) (v1 : Int32) (v2 : Int32) : Option Int32 := if v1 < 0 then (some (-2 : Int32)) else ((gR 9 4 h v0).bind fun a1 => ((gI 0 9 h a1).bind fun x2 => (if v1 < x2 then (swN v2 (0) [(gR 9 4 h v0).bind fun a3 => ((gR 0 10 h a3).bind fun a4 => ((aI 0 h a4 v1).bind fun x5 => (some x5))), (gR 9 4 h v0).bind fun a6 => ((gR 0 11 h a6).bind fun a7 => ((aI 0 h a7 v1).bind fun x8 => (some x8))), b_X9_floor_76 F h v0 v1 v2, b_X9_floor_76 F h v0 v1 v2, b_X9_floor_76 F h v0 v1 v2, (gR 9 4 h v0).bind fun a9 => (cO 0 h a9 ((m_X0_placeFromBelow F h a9 v1).bind fun x10 => (some x10)))] (some (-2 : Int32))) else (some (-2 : Int32)))))
set_option maxRecDepth 20000 in
theorem t_X9_floor_0 {M : MV} {X : XT} {F : Nat} {h : PH} {r : Int32} {ce sl mc ms : Nat} {v0 : Nat} {v1 : Int32} {v2 : Int32} (hc : Cx M X RX9 cX9_floor) (hr : Rx M 2 118 mc ms 3) (he : Ex M X (some .int) "floor" (some (.int r)) h mc ms) (hm : ce ≤ mc) (hs : sl ≤ ms) (hf : b_X9_floor_0 F h v0 v1 v2 = some r) : GG M X h ce sl 0 [(0, .ref (X.1 + v0)), (1, .int v1), (2, .int v2)] [] := by
  unfold b_X9_floor_0 at hf
  refine r_iload_n hc 1 (dc_at dX9_floor 0 rfl) rfl ?_
  refine r_if_lt (tgt := 15) hc (dc_at dX9_floor 1 rfl) (by decide) hf (fun hf => ?_) (fun hf => ?_)
  · refine r_bipush (-2 : Int32) hc (dc_at dX9_floor 7 rfl) (by decide) ?_
    exact r_iretP hc he (hm) (hs) (dc_at dX9_floor 8 rfl) hf
  · refine r_iload_n hc 1 (dc_at dX9_floor 2 rfl) rfl ?_
    refine r_aload_n hc 0 (dc_at dX9_floor 3 rfl) rfl ?_
    refine r_getR hc (dc_at dX9_floor 4 rfl) fl_X9_26 hf fun a1 hf => ?_
    refine r_getI hc (dc_at dX9_floor 5 rfl) fl_X9_102 hf fun x2 hf => ?_
    refine r_icmp_lt (tgt := 18) hc (dc_at dX9_floor 6 rfl) (by decide) hf (fun hf => ?_) (fun hf => ?_)
    · refine r_iload_n hc 2 (dc_at dX9_floor 9 rfl) rfl ?_
      rcases sw_cases hf with ⟨i, hi, hx, hf⟩ | ⟨hx, hf⟩
      · rcases (show i = 0 ∨ i = 1 ∨ i = 2 ∨ i = 3 ∨ i = 4 ∨ i = 5 by simp only [List.length_cons, List.length_nil] at hi; omega) with rfl | rfl | rfl | rfl | rfl | rfl
        · have hf := gd_at hf rfl
          refine r_tableIn (tgt := 56) 0 hc (dc_at dX9_floor 10 rfl) hx rfl (by decide) (by decide) ?_
          refine r_aload_n hc 0 (dc_at dX9_floor 11 rfl) rfl ?_
          refine r_getR hc (dc_at dX9_floor 12 rfl) fl_X9_26 hf fun a3 hf => ?_
          refine r_getR hc (dc_at dX9_floor 13 rfl) fl_X9_105 hf fun a4 hf => ?_
          refine r_iload_n hc 1 (dc_at dX9_floor 14 rfl) rfl ?_
          refine r_iaload hc (dc_at dX9_floor 15 rfl) hf fun x5 hf => ?_
          exact r_iretP hc he (hm) (hs) (dc_at dX9_floor 16 rfl) hf
        · have hf := gd_at hf rfl
          refine r_tableIn (tgt := 66) 1 hc (dc_at dX9_floor 10 rfl) hx rfl (by decide) (by decide) ?_
          refine r_aload_n hc 0 (dc_at dX9_floor 17 rfl) rfl ?_
          refine r_getR hc (dc_at dX9_floor 18 rfl) fl_X9_26 hf fun a6 hf => ?_
          refine r_getR hc (dc_at dX9_floor 19 rfl) fl_X9_108 hf fun a7 hf => ?_
          refine r_iload_n hc 1 (dc_at dX9_floor 20 rfl) rfl ?_
          refine r_iaload hc (dc_at dX9_floor 21 rfl) hf fun x8 hf => ?_
          exact r_iretP hc he (hm) (hs) (dc_at dX9_floor 22 rfl) hf
        · have hf := gd_at hf rfl
          refine r_tableIn (tgt := 76) 2 hc (dc_at dX9_floor 10 rfl) hx rfl (by decide) (by decide) ?_
          exact gg_sub [0, 1, 2] rfl (t_X9_floor_76 hc hr he hm hs  hf)
        · have hf := gd_at hf rfl
          refine r_tableIn (tgt := 76) 3 hc (dc_at dX9_floor 10 rfl) hx rfl (by decide) (by decide) ?_
          exact gg_sub [0, 1, 2] rfl (t_X9_floor_76 hc hr he hm hs  hf)
        · have hf := gd_at hf rfl
          refine r_tableIn (tgt := 76) 4 hc (dc_at dX9_floor 10 rfl) hx rfl (by decide) (by decide) ?_
          exact gg_sub [0, 1, 2] rfl (t_X9_floor_76 hc hr he hm hs  hf)
        · have hf := gd_at hf rfl
          refine r_tableIn (tgt := 88) 5 hc (dc_at dX9_floor 10 rfl) hx rfl (by decide) (by decide) ?_
          refine r_aload_n hc 0 (dc_at dX9_floor 31 rfl) rfl ?_
          refine r_getR hc (dc_at dX9_floor 32 rfl) fl_X9_26 hf fun a9 hf => ?_
          refine r_iload_n hc 1 (dc_at dX9_floor 33 rfl) rfl ?_
          obtain ⟨ho, hf⟩ := cO_some hf
          refine ob hf fun x10 ex hf => ?_
          refine r_callVi (As := [.int v1]) (ci := 0) hc hr (dc_at dX9_floor 34 rfl) ml_X9_115 mv_X0_placeFromBelow vi_X0_placeFromBelow rfl ho rfl (mt_X0_placeFromBelow ex) (by first | exact Nat.le_of_ble_eq_true rfl | omega) (by first | exact Nat.le_of_ble_eq_true rfl | omega) (by first | exact Nat.le_of_ble_eq_true rfl | omega) hm hs ?_
          exact r_iretP hc he (hm) (hs) (dc_at dX9_floor 35 rfl) hf
      · refine r_tableOut (tgt := 97) 6 hc (dc_at dX9_floor 10 rfl) hx (by decide) (by decide) ?_
        refine r_bipush (-2 : Int32) hc (dc_at dX9_floor 36 rfl) (by decide) ?_
        exact r_iretP hc he (hm) (hs) (dc_at dX9_floor 37 rfl) hf
    · refine r_bipush (-2 : Int32) hc (dc_at dX9_floor 7 rfl) (by decide) ?_
      exact r_iretP hc he (hm) (hs) (dc_at dX9_floor 8 rfl) hf
def m_X9_floor (F : Nat) (h : PH) (p0 : Nat) (p1 : Int32) (p2 : Int32) : Option Int32 := b_X9_floor_0 F h p0 p1 p2
theorem mt_X9_floor {l : Launch} {X : XT} {F : Nat} {h : PH} {p0 : Nat} {p1 : Int32} {p2 : Int32} {r : Int32} (ex : m_X9_floor F h p0 p1 p2 = some r) : MT l X yX9_floor cX9_floor 3 (some .int) 2 118 0 0 [.ref (X.1 + p0), .int p1, .int p2] h (some (.int r)) h := MT.of (by decide) (Nat.le_of_ble_eq_true rfl) fun M hl hc hr he => by
  subst hl
  exact gg_sub [0, 1, 2] rfl (t_X9_floor_0  hc hr he (Nat.zero_le _) (Nat.zero_le _) ex)
/-! FractionLift.tenant(II)I -/
def lX9_tenantL : List (Nat × Instr × Nat × Nat) := [(0, .iload_n 1, 1, 1), (1, .ifCond .lt 14, 3, 4), (4, .iload_n 1, 1, 5), (5, .aload_n 0, 1, 6), (6, .getfield 26, 3, 9), (9, .getfield 119, 3, 12), (12, .if_icmp .lt 6, 3, 15), (15, .bipush (-2), 2, 17), (17, .ireturn, 1, 18), (18, .iload_n 2, 1, 19), (19, .ifCond .ne 13, 3, 22), (22, .aload_n 0, 1, 23), (23, .getfield 26, 3, 26), (26, .getfield 122, 3, 29), (29, .iload_n 1, 1, 30), (30, .iaload, 1, 31), (31, .ireturn, 1, 32), (32, .iload_n 2, 1, 33), (33, .iconst 1, 1, 34), (34, .if_icmp .ne 15, 3, 37), (37, .aload_n 0, 1, 38), (38, .getfield 26, 3, 41), (41, .getfield 125, 3, 44), (44, .iload_n 1, 1, 45), (45, .iaload, 1, 46), (46, .goto 5, 3, 49), (49, .bipush (-2), 2, 51), (51, .ireturn, 1, 52)]
set_option maxRecDepth 20000 in
theorem dX9_tenant : dcL cX9_tenant lX9_tenantL = true := by decide +kernel
def b_X9_tenant_0 (h : PH) (v0 : Nat) (v1 : Int32) (v2 : Int32) : Option Int32 := if v1 < 0 then (some (-2 : Int32)) else ((gR 9 4 h v0).bind fun a1 => ((gI 0 15 h a1).bind fun x2 => (if v1 < x2 then (if v2 = 0 then ((gR 9 4 h v0).bind fun a6 => ((gR 0 16 h a6).bind fun a7 => ((aI 0 h a7 v1).bind fun x8 => (some x8)))) else (if v2 = (1 : Int32) then ((gR 9 4 h v0).bind fun a3 => ((gR 0 17 h a3).bind fun a4 => ((aI 0 h a4 v1).bind fun x5 => (some x5)))) else (some (-2 : Int32)))) else (some (-2 : Int32)))))
set_option maxRecDepth 20000 in
theorem t_X9_tenant_0 {M : MV} {X : XT} {h : PH} {r : Int32} {ce sl mc ms : Nat} {v0 : Nat} {v1 : Int32} {v2 : Int32} (hc : Cx M X RX9 cX9_tenant) (hr : Rx M 1 60 mc ms 3) (he : Ex M X (some .int) "tenant" (some (.int r)) h mc ms) (hm : ce ≤ mc) (hs : sl ≤ ms) (hf : b_X9_tenant_0 h v0 v1 v2 = some r) : GG M X h ce sl 0 [(0, .ref (X.1 + v0)), (1, .int v1), (2, .int v2)] [] := by
  unfold b_X9_tenant_0 at hf
  refine r_iload_n hc 1 (dc_at dX9_tenant 0 rfl) rfl ?_
  refine r_if_lt (tgt := 15) hc (dc_at dX9_tenant 1 rfl) (by decide) hf (fun hf => ?_) (fun hf => ?_)
  · refine r_bipush (-2 : Int32) hc (dc_at dX9_tenant 7 rfl) (by decide) ?_
    exact r_iretP hc he (hm) (hs) (dc_at dX9_tenant 8 rfl) hf
  · refine r_iload_n hc 1 (dc_at dX9_tenant 2 rfl) rfl ?_
    refine r_aload_n hc 0 (dc_at dX9_tenant 3 rfl) rfl ?_
    refine r_getR hc (dc_at dX9_tenant 4 rfl) fl_X9_26 hf fun a1 hf => ?_
    refine r_getI hc (dc_at dX9_tenant 5 rfl) fl_X9_119 hf fun x2 hf => ?_
    refine r_icmp_lt (tgt := 18) hc (dc_at dX9_tenant 6 rfl) (by decide) hf (fun hf => ?_) (fun hf => ?_)
    · refine r_iload_n hc 2 (dc_at dX9_tenant 9 rfl) rfl ?_
      refine r_if_ne (tgt := 32) hc (dc_at dX9_tenant 10 rfl) (by decide) hf (fun hf => ?_) (fun hf => ?_)
      · refine r_iload_n hc 2 (dc_at dX9_tenant 17 rfl) rfl ?_
        refine r_iconst (1 : Int32) hc (dc_at dX9_tenant 18 rfl) (by decide) ?_
        refine r_icmp_ne (tgt := 49) hc (dc_at dX9_tenant 19 rfl) (by decide) hf (fun hf => ?_) (fun hf => ?_)
        · refine r_bipush (-2 : Int32) hc (dc_at dX9_tenant 26 rfl) (by decide) ?_
          exact r_iretP hc he (hm) (hs) (dc_at dX9_tenant 27 rfl) hf
        · refine r_aload_n hc 0 (dc_at dX9_tenant 20 rfl) rfl ?_
          refine r_getR hc (dc_at dX9_tenant 21 rfl) fl_X9_26 hf fun a3 hf => ?_
          refine r_getR hc (dc_at dX9_tenant 22 rfl) fl_X9_125 hf fun a4 hf => ?_
          refine r_iload_n hc 1 (dc_at dX9_tenant 23 rfl) rfl ?_
          refine r_iaload hc (dc_at dX9_tenant 24 rfl) hf fun x5 hf => ?_
          refine r_goto (tgt := 51) hc (dc_at dX9_tenant 25 rfl) (by decide) ?_
          exact r_iretP hc he (hm) (hs) (dc_at dX9_tenant 27 rfl) hf
      · refine r_aload_n hc 0 (dc_at dX9_tenant 11 rfl) rfl ?_
        refine r_getR hc (dc_at dX9_tenant 12 rfl) fl_X9_26 hf fun a6 hf => ?_
        refine r_getR hc (dc_at dX9_tenant 13 rfl) fl_X9_122 hf fun a7 hf => ?_
        refine r_iload_n hc 1 (dc_at dX9_tenant 14 rfl) rfl ?_
        refine r_iaload hc (dc_at dX9_tenant 15 rfl) hf fun x8 hf => ?_
        exact r_iretP hc he (hm) (hs) (dc_at dX9_tenant 16 rfl) hf
    · refine r_bipush (-2 : Int32) hc (dc_at dX9_tenant 7 rfl) (by decide) ?_
      exact r_iretP hc he (hm) (hs) (dc_at dX9_tenant 8 rfl) hf
def m_X9_tenant (h : PH) (p0 : Nat) (p1 : Int32) (p2 : Int32) : Option Int32 := b_X9_tenant_0 h p0 p1 p2
theorem mt_X9_tenant {l : Launch} {X : XT} {h : PH} {p0 : Nat} {p1 : Int32} {p2 : Int32} {r : Int32} (ex : m_X9_tenant h p0 p1 p2 = some r) : MT l X yX9_tenant cX9_tenant 3 (some .int) 1 60 0 0 [.ref (X.1 + p0), .int p1, .int p2] h (some (.int r)) h := MT.of (by decide) (Nat.le_of_ble_eq_true rfl) fun M hl hc hr he => by
  subst hl
  exact gg_sub [0, 1, 2] rfl (t_X9_tenant_0  hc hr he (Nat.zero_le _) (Nat.zero_le _) ex)
/-! FractionLift.why(I)I -/
def lX9_whyL : List (Nat × Instr × Nat × Nat) := [(0, .aload_n 0, 1, 1), (1, .getfield 52, 3, 4), (4, .aload_n 0, 1, 5), (5, .getfield 26, 3, 8), (8, .iload_n 1, 1, 9), (9, .aload_n 0, 1, 10), (10, .getfield 26, 3, 13), (13, .getfield 96, 3, 16), (16, .i2l, 1, 17), (17, .aload_n 0, 1, 18), (18, .getfield 26, 3, 21), (21, .getfield 99, 3, 24), (24, .i2l, 1, 25), (25, .invokevirtual 128, 3, 28), (28, .ireturn, 1, 29)]
set_option maxRecDepth 20000 in
theorem dX9_why : dcL cX9_why lX9_whyL = true := by decide +kernel
def b_X9_why_0 (F : Nat) (h : PH) (v0 : Nat) (v1 : Int32) : Option (Int32 × PH) := (gR 9 11 h v0).bind fun a1 => ((gR 9 4 h v0).bind fun a2 => ((gR 9 4 h v0).bind fun a3 => ((gI 0 4 h a3).bind fun x4 => ((gR 9 4 h v0).bind fun a5 => ((gI 0 5 h a5).bind fun x6 => (cO 4 h a1 (bind2 (m_X4_lead F h a1 a2 v1 (Int32.toInt64 x4) (Int32.toInt64 x6)) fun x7 h8 => (some (x7, h8)))))))))
set_option maxRecDepth 20000 in
theorem t_X9_why_0 {M : MV} {X : XT} {F : Nat} {h hz : PH} {r : Int32} {ce sl mc ms : Nat} {v0 : Nat} {v1 : Int32} (hc : Cx M X RX9 cX9_why) (hr : Rx M 5 292 mc ms 2) (he : Ex M X (some .int) "why" (some (.int r)) hz mc ms) (hm : ce ≤ mc) (hs : sl ≤ ms) (hf : b_X9_why_0 F h v0 v1 = some (r, hz)) : GG M X h ce sl 0 [(0, .ref (X.1 + v0)), (1, .int v1)] [] := by
  unfold b_X9_why_0 at hf
  refine r_aload_n hc 0 (dc_at dX9_why 0 rfl) rfl ?_
  refine r_getR hc (dc_at dX9_why 1 rfl) fl_X9_52 hf fun a1 hf => ?_
  refine r_aload_n hc 0 (dc_at dX9_why 2 rfl) rfl ?_
  refine r_getR hc (dc_at dX9_why 3 rfl) fl_X9_26 hf fun a2 hf => ?_
  refine r_iload_n hc 1 (dc_at dX9_why 4 rfl) rfl ?_
  refine r_aload_n hc 0 (dc_at dX9_why 5 rfl) rfl ?_
  refine r_getR hc (dc_at dX9_why 6 rfl) fl_X9_26 hf fun a3 hf => ?_
  refine r_getI hc (dc_at dX9_why 7 rfl) fl_X9_96 hf fun x4 hf => ?_
  refine r_i2l hc (dc_at dX9_why 8 rfl) ?_
  refine r_aload_n hc 0 (dc_at dX9_why 9 rfl) rfl ?_
  refine r_getR hc (dc_at dX9_why 10 rfl) fl_X9_26 hf fun a5 hf => ?_
  refine r_getI hc (dc_at dX9_why 11 rfl) fl_X9_99 hf fun x6 hf => ?_
  refine r_i2l hc (dc_at dX9_why 12 rfl) ?_
  obtain ⟨ho, hf⟩ := cO_some hf
  refine ob2 hf fun x7 h8 ex hf => ?_
  refine r_callVi (As := [.ref (X.1 + a2), .int v1, .long ((Int32.toInt64 x4)), .long ((Int32.toInt64 x6))]) (ci := 4) hc hr (dc_at dX9_why 13 rfl) ml_X9_128 mv_X4_lead vi_X4_lead rfl ho rfl (mt_X4_lead ex) (by first | exact Nat.le_of_ble_eq_true rfl | omega) (by first | exact Nat.le_of_ble_eq_true rfl | omega) (by first | exact Nat.le_of_ble_eq_true rfl | omega) hm hs ?_
  exact r_iret hc he (hm) (hs) (dc_at dX9_why 14 rfl) hf
def m_X9_why (F : Nat) (h : PH) (p0 : Nat) (p1 : Int32) : Option (Int32 × PH) := b_X9_why_0 F h p0 p1
theorem mt_X9_why {l : Launch} {X : XT} {F : Nat} {h hz : PH} {p0 : Nat} {p1 : Int32} {r : Int32} (ex : m_X9_why F h p0 p1 = some (r, hz)) : MT l X yX9_why cX9_why 2 (some .int) 5 292 0 0 [.ref (X.1 + p0), .int p1] h (some (.int r)) hz := MT.of (by decide) (Nat.le_of_ble_eq_true rfl) fun M hl hc hr he => by
  subst hl
  exact gg_sub [0, 1] rfl (t_X9_why_0  hc hr he (Nat.zero_le _) (Nat.zero_le _) ex)
/-! FractionLift.asksFloor(II)Z -/
def lX9_asksFloorL : List (Nat × Instr × Nat × Nat) := [(0, .iload_n 1, 1, 1), (1, .ifCond .lt 8, 3, 4), (4, .iload_n 2, 1, 5), (5, .iconst 1, 1, 6), (6, .if_icmp .ge 5, 3, 9), (9, .iconst 0, 1, 10), (10, .ireturn, 1, 11), (11, .aload_n 0, 1, 12), (12, .getfield 59, 3, 15), (15, .iload_n 1, 1, 16), (16, .i2l, 1, 17), (17, .iload_n 2, 1, 18), (18, .i2l, 1, 19), (19, .invokevirtual 271, 3, 22), (22, .aload_n 0, 1, 23), (23, .getfield 26, 3, 26), (26, .aload_n 0, 1, 27), (27, .getfield 59, 3, 30), (30, .getfield 136, 3, 33), (33, .aload_n 0, 1, 34), (34, .getfield 59, 3, 37), (37, .getfield 140, 3, 40), (40, .invokevirtual 362, 3, 43), (43, .ireturn, 1, 44)]
set_option maxRecDepth 20000 in
theorem dX9_asksFloor : dcL cX9_asksFloor lX9_asksFloorL = true := by decide +kernel
def b_X9_asksFloor_0 (F : Nat) (h : PH) (v0 : Nat) (v1 : Int32) (v2 : Int32) : Option (Int32 × PH) := if v1 < 0 then (rZ (0 : Int32) h) else (if (1 : Int32) ≤ v2 then ((gR 9 12 h v0).bind fun a1 => (cO 2 h a1 (bind2 (m_X2_put F h a1 (Int32.toInt64 v1) (Int32.toInt64 v2)) fun _ h3 => ((gR 9 4 h3 v0).bind fun a4 => ((gR 9 12 h3 v0).bind fun a5 => ((gL 2 0 h3 a5).bind fun x6 => ((gR 9 12 h3 v0).bind fun a7 => ((gL 2 1 h3 a7).bind fun x8 => (cO 0 h3 a4 ((m_X0_isFloor h3 a4 x6 x8).bind fun x9 => (rZ x9 h3))))))))))) else (rZ (0 : Int32) h))
set_option maxRecDepth 20000 in
theorem t_X9_asksFloor_0 {M : MV} {X : XT} {F : Nat} {h hz : PH} {r : Int32} {ce sl mc ms : Nat} {v0 : Nat} {v1 : Int32} {v2 : Int32} (hc : Cx M X RX9 cX9_asksFloor) (hr : Rx M 3 176 mc ms 3) (he : Ex M X (some .boolean) "asksFloor" (some (.int r)) hz mc ms) (hm : ce ≤ mc) (hs : sl ≤ ms) (hf : b_X9_asksFloor_0 F h v0 v1 v2 = some (r, hz)) : GG M X h ce sl 0 [(0, .ref (X.1 + v0)), (1, .int v1), (2, .int v2)] [] := by
  unfold b_X9_asksFloor_0 at hf
  refine r_iload_n hc 1 (dc_at dX9_asksFloor 0 rfl) rfl ?_
  refine r_if_lt (tgt := 9) hc (dc_at dX9_asksFloor 1 rfl) (by decide) hf (fun hf => ?_) (fun hf => ?_)
  · refine r_iconst (0 : Int32) hc (dc_at dX9_asksFloor 5 rfl) (by decide) ?_
    exact r_zret hc he (hm) (hs) (dc_at dX9_asksFloor 6 rfl) hf
  · refine r_iload_n hc 2 (dc_at dX9_asksFloor 2 rfl) rfl ?_
    refine r_iconst (1 : Int32) hc (dc_at dX9_asksFloor 3 rfl) (by decide) ?_
    refine r_icmp_ge (tgt := 11) hc (dc_at dX9_asksFloor 4 rfl) (by decide) hf (fun hf => ?_) (fun hf => ?_)
    · refine r_aload_n hc 0 (dc_at dX9_asksFloor 7 rfl) rfl ?_
      refine r_getR hc (dc_at dX9_asksFloor 8 rfl) fl_X9_59 hf fun a1 hf => ?_
      refine r_iload_n hc 1 (dc_at dX9_asksFloor 9 rfl) rfl ?_
      refine r_i2l hc (dc_at dX9_asksFloor 10 rfl) ?_
      refine r_iload_n hc 2 (dc_at dX9_asksFloor 11 rfl) rfl ?_
      refine r_i2l hc (dc_at dX9_asksFloor 12 rfl) ?_
      obtain ⟨ho, hf⟩ := cO_some hf
      refine ob2 hf fun u h3 ex hf => ?_
      refine r_callVv (As := [.long ((Int32.toInt64 v1)), .long ((Int32.toInt64 v2))]) (ci := 2) hc hr (dc_at dX9_asksFloor 13 rfl) ml_X9_271 mv_X2_put vi_X2_put rfl ho rfl (mt_X2_put ex) (by first | exact Nat.le_of_ble_eq_true rfl | omega) (by first | exact Nat.le_of_ble_eq_true rfl | omega) (by first | exact Nat.le_of_ble_eq_true rfl | omega) hm hs ?_
      refine r_aload_n hc 0 (dc_at dX9_asksFloor 14 rfl) rfl ?_
      refine r_getR hc (dc_at dX9_asksFloor 15 rfl) fl_X9_26 hf fun a4 hf => ?_
      refine r_aload_n hc 0 (dc_at dX9_asksFloor 16 rfl) rfl ?_
      refine r_getR hc (dc_at dX9_asksFloor 17 rfl) fl_X9_59 hf fun a5 hf => ?_
      refine r_getL hc (dc_at dX9_asksFloor 18 rfl) fl_X9_136 hf fun x6 hf => ?_
      refine r_aload_n hc 0 (dc_at dX9_asksFloor 19 rfl) rfl ?_
      refine r_getR hc (dc_at dX9_asksFloor 20 rfl) fl_X9_59 hf fun a7 hf => ?_
      refine r_getL hc (dc_at dX9_asksFloor 21 rfl) fl_X9_140 hf fun x8 hf => ?_
      obtain ⟨ho, hf⟩ := cO_some hf
      refine ob hf fun x9 ex hf => ?_
      refine r_callVi (As := [.long x6, .long x8]) (ci := 0) hc hr (dc_at dX9_asksFloor 22 rfl) ml_X9_362 mv_X0_isFloor vi_X0_isFloor rfl ho rfl (mt_X0_isFloor ex) (by first | exact Nat.le_of_ble_eq_true rfl | omega) (by first | exact Nat.le_of_ble_eq_true rfl | omega) (by first | exact Nat.le_of_ble_eq_true rfl | omega) hm hs ?_
      exact r_zret hc he (hm) (hs) (dc_at dX9_asksFloor 23 rfl) hf
    · refine r_iconst (0 : Int32) hc (dc_at dX9_asksFloor 5 rfl) (by decide) ?_
      exact r_zret hc he (hm) (hs) (dc_at dX9_asksFloor 6 rfl) hf
def m_X9_asksFloor (F : Nat) (h : PH) (p0 : Nat) (p1 : Int32) (p2 : Int32) : Option (Int32 × PH) := b_X9_asksFloor_0 F h p0 p1 p2
theorem mt_X9_asksFloor {l : Launch} {X : XT} {F : Nat} {h hz : PH} {p0 : Nat} {p1 : Int32} {p2 : Int32} {r : Int32} (ex : m_X9_asksFloor F h p0 p1 p2 = some (r, hz)) : MT l X yX9_asksFloor cX9_asksFloor 3 (some .boolean) 3 176 0 0 [.ref (X.1 + p0), .int p1, .int p2] h (some (.int r)) hz := MT.of (by decide) (Nat.le_of_ble_eq_true rfl) fun M hl hc hr he => by
  subst hl
  exact gg_sub [0, 1, 2] rfl (t_X9_asksFloor_0  hc hr he (Nat.zero_le _) (Nat.zero_le _) ex)
theorem pV_gN {c k a b j : Nat} {v : Value} {h h1 : PH} (hc : c ≠ 9) (e : pV c k v h a = some h1) : gN 9 j h1 b = gN 9 j h b := by
  obtain ⟨fs, hh, hk, rfl⟩ := pV_some e
  have hlt : a < h.length := (List.getElem?_eq_some_iff.mp hh).1
  unfold gN gV
  by_cases hb : b = a
  · subst hb
    rw [List.getElem?_set_self hlt, hh]
    simp only [if_neg hc]
  · rw [List.getElem?_set_ne (Ne.symm hb)]
theorem put_keeps28 {F a b j : Nat} {h h1 : PH} {x y z : Int64} {u : Unit} (ex : b_X2_put_28 F h a x y z = some (u, h1)) : gN 9 j h1 b = gN 9 j h b := by
  unfold b_X2_put_28 at ex
  split at ex
  · cases ex
  · refine ob ex fun h2 e2 ex => ?_
    refine ob ex fun h3 e3 ex => ?_
    cases ex
    rw [pV_gN (by decide) e3, pV_gN (by decide) e2]
theorem put_keeps17 {F a b j : Nat} {h h1 : PH} {x y z : Int64} {u : Unit} (ex : b_X2_put_17 F h a x y z = some (u, h1)) : gN 9 j h1 b = gN 9 j h b := by
  unfold b_X2_put_17 at ex
  split at ex
  · exact put_keeps28 ex
  · exact obv ex fun _ _ ex => put_keeps28 ex
theorem put_keeps {F a b j : Nat} {h h1 : PH} {x y : Int64} {u : Unit} (ex : m_X2_put F h a x y = some (u, h1)) : gN 9 j h1 b = gN 9 j h b := by
  unfold m_X2_put b_X2_put_0 at ex
  refine ob ex fun c _ ex => ?_
  split at ex
  · exact put_keeps17 ex
  · exact put_keeps17 ex
theorem rZ_heap {x r : Int32} {h h1 : PH} (e : rZ x h = some (r, h1)) : h1 = h := by
  unfold rZ at e
  split at e
  · cases e; rfl
  · cases e
theorem asks_keeps {F a : Nat} {h h1 : PH} {u l x : Int32} (ex : m_X9_asksFloor F h a u l = some (x, h1)) (j : Nat) : gN 9 j h1 a = gN 9 j h a := by
  unfold m_X9_asksFloor b_X9_asksFloor_0 at ex
  split at ex
  · rw [rZ_heap ex]
  · split at ex
    · refine ob ex fun a1 _ ex => ?_
      obtain ⟨-, ex⟩ := cO_some ex
      refine ob2 ex fun _ h3 e3 ex => ?_
      refine ob ex fun _ _ ex => ?_
      refine ob ex fun _ _ ex => ?_
      refine ob ex fun _ _ ex => ?_
      refine ob ex fun _ _ ex => ?_
      refine ob ex fun _ _ ex => ?_
      obtain ⟨-, ex⟩ := cO_some ex
      refine ob ex fun _ _ ex => ?_
      rw [rZ_heap ex]
      exact put_keeps e3
    · rw [rZ_heap ex]

/-! FractionLift.leads(IIII)I -/
def lX9_leadsL : List (Nat × Instr × Nat × Nat) := [(0, .iload 4, 2, 2), (2, .ifCond .lt 9, 3, 5), (5, .iload 4, 2, 7), (7, .iconst 1, 1, 8), (8, .if_icmp .le 6, 3, 11), (11, .bipush (-2), 2, 13), (13, .ireturn, 1, 14), (14, .aload_n 0, 1, 15), (15, .iload_n 2, 1, 16), (16, .iload_n 3, 1, 17), (17, .invokevirtual 132, 3, 20), (20, .ifCond .ne 6, 3, 23), (23, .bipush (-3), 2, 25), (25, .ireturn, 1, 26), (26, .aload_n 0, 1, 27), (27, .getfield 52, 3, 30), (30, .aload_n 0, 1, 31), (31, .getfield 26, 3, 34), (34, .iload_n 1, 1, 35), (35, .aload_n 0, 1, 36), (36, .getfield 59, 3, 39), (39, .getfield 136, 3, 42), (42, .aload_n 0, 1, 43), (43, .getfield 59, 3, 46), (46, .getfield 140, 3, 49), (49, .invokevirtual 128, 3, 52), (52, .istore 5, 2, 54), (54, .iload 5, 2, 56), (56, .ifCond .eq 9, 3, 59), (59, .bipush (-10), 2, 61), (61, .iload 5, 2, 63), (63, .isub, 1, 64), (64, .ireturn, 1, 65), (65, .iload 4, 2, 67), (67, .ifCond .ne 13, 3, 70), (70, .aload_n 0, 1, 71), (71, .getfield 52, 3, 74), (74, .getfield 143, 3, 77), (77, .goto 10, 3, 80), (80, .aload_n 0, 1, 81), (81, .getfield 52, 3, 84), (84, .getfield 145, 3, 87), (87, .ireturn, 1, 88)]
set_option maxRecDepth 20000 in
theorem dX9_leads : dcL cX9_leads lX9_leadsL = true := by decide +kernel
def b_X9_leads_0 (F : Nat) (h : PH) (v0 : Nat) (v1 : Int32) (v2 : Int32) (v3 : Int32) (v4 : Int32) : Option (Int32 × PH) := if v4 < 0 then (some ((-2 : Int32), h)) else (if v4 ≤ (1 : Int32) then (cO 9 h v0 (bind2 (m_X9_asksFloor F h v0 v2 v3) fun x1 h2 => (if x1 = 0 then (some ((-3 : Int32), h2)) else ((gR 9 11 h2 v0).bind fun a3 => ((gR 9 4 h2 v0).bind fun a4 => ((gR 9 12 h2 v0).bind fun a5 => ((gL 2 0 h2 a5).bind fun x6 => ((gR 9 12 h2 v0).bind fun a7 => ((gL 2 1 h2 a7).bind fun x8 => (cO 4 h2 a3 (bind2 (m_X4_lead F h2 a3 a4 v1 x6 x8) fun x9 h10 => (if x9 = 0 then (if v4 = 0 then ((gR 9 11 h10 v0).bind fun a13 => ((gI 4 0 h10 a13).bind fun x14 => (some (x14, h10)))) else ((gR 9 11 h10 v0).bind fun a11 => ((gI 4 1 h10 a11).bind fun x12 => (some (x12, h10))))) else (some ((((-10 : Int32) - x9)), h10)))))))))))))) else (some ((-2 : Int32), h)))
set_option maxRecDepth 20000 in
theorem t_X9_leads_0 {M : MV} {X : XT} {F : Nat} {h hz : PH} {r : Int32} {ce sl mc ms : Nat} {v0 : Nat} {v1 : Int32} {v2 : Int32} {v3 : Int32} {v4 : Int32} (hc : Cx M X RX9 cX9_leads) (hr : Rx M 5 292 mc ms 6) (he : Ex M X (some .int) "leads" (some (.int r)) hz mc ms) (hm : ce ≤ mc) (hs : sl ≤ ms) (hf : b_X9_leads_0 F h v0 v1 v2 v3 v4 = some (r, hz)) : GG M X h ce sl 0 [(0, .ref (X.1 + v0)), (1, .int v1), (2, .int v2), (3, .int v3), (4, .int v4)] [] := by
  unfold b_X9_leads_0 at hf
  refine r_iload hc 4 (dc_at dX9_leads 0 rfl) rfl ?_
  refine r_if_lt (tgt := 11) hc (dc_at dX9_leads 1 rfl) (by decide) hf (fun hf => ?_) (fun hf => ?_)
  · refine r_bipush (-2 : Int32) hc (dc_at dX9_leads 5 rfl) (by decide) ?_
    exact r_iret hc he (hm) (hs) (dc_at dX9_leads 6 rfl) hf
  · refine r_iload hc 4 (dc_at dX9_leads 2 rfl) rfl ?_
    refine r_iconst (1 : Int32) hc (dc_at dX9_leads 3 rfl) (by decide) ?_
    refine r_icmp_le (tgt := 14) hc (dc_at dX9_leads 4 rfl) (by decide) hf (fun hf => ?_) (fun hf => ?_)
    · refine r_aload_n hc 0 (dc_at dX9_leads 7 rfl) rfl ?_
      refine r_iload_n hc 2 (dc_at dX9_leads 8 rfl) rfl ?_
      refine r_iload_n hc 3 (dc_at dX9_leads 9 rfl) rfl ?_
      obtain ⟨ho, hf⟩ := cO_some hf
      refine ob2 hf fun x1 h2 ex hf => ?_
      refine r_callVi (As := [.int v2, .int v3]) (ci := 9) hc hr (dc_at dX9_leads 10 rfl) ml_X9_132 mv_X9_asksFloor vi_X9_asksFloor rfl ho rfl (mt_X9_asksFloor ex) (by first | exact Nat.le_of_ble_eq_true rfl | omega) (by first | exact Nat.le_of_ble_eq_true rfl | omega) (by first | exact Nat.le_of_ble_eq_true rfl | omega) hm hs ?_
      refine r_if_ne (tgt := 26) hc (dc_at dX9_leads 11 rfl) (by decide) hf (fun hf => ?_) (fun hf => ?_)
      · refine r_aload_n hc 0 (dc_at dX9_leads 14 rfl) rfl ?_
        refine r_getR hc (dc_at dX9_leads 15 rfl) fl_X9_52 hf fun a3 hf => ?_
        refine r_aload_n hc 0 (dc_at dX9_leads 16 rfl) rfl ?_
        refine r_getR hc (dc_at dX9_leads 17 rfl) fl_X9_26 hf fun a4 hf => ?_
        refine r_iload_n hc 1 (dc_at dX9_leads 18 rfl) rfl ?_
        refine r_aload_n hc 0 (dc_at dX9_leads 19 rfl) rfl ?_
        refine r_getR hc (dc_at dX9_leads 20 rfl) fl_X9_59 hf fun a5 hf => ?_
        refine r_getL hc (dc_at dX9_leads 21 rfl) fl_X9_136 hf fun x6 hf => ?_
        refine r_aload_n hc 0 (dc_at dX9_leads 22 rfl) rfl ?_
        refine r_getR hc (dc_at dX9_leads 23 rfl) fl_X9_59 hf fun a7 hf => ?_
        refine r_getL hc (dc_at dX9_leads 24 rfl) fl_X9_140 hf fun x8 hf => ?_
        obtain ⟨ho, hf⟩ := cO_some hf
        refine ob2 hf fun x9 h10 ex hf => ?_
        refine r_callVi (As := [.ref (X.1 + a4), .int v1, .long x6, .long x8]) (ci := 4) hc hr (dc_at dX9_leads 25 rfl) ml_X9_128 mv_X4_lead vi_X4_lead rfl ho rfl (mt_X4_lead ex) (by first | exact Nat.le_of_ble_eq_true rfl | omega) (by first | exact Nat.le_of_ble_eq_true rfl | omega) (by first | exact Nat.le_of_ble_eq_true rfl | omega) hm hs ?_
        refine r_istore [(5, .int x9), (0, .ref (X.1 + v0)), (1, .int v1), (2, .int v2), (3, .int v3), (4, .int v4)] hc hr (dc_at dX9_leads 26 rfl) (by decide) rfl ?_
        refine r_iload hc 0 (dc_at dX9_leads 27 rfl) rfl ?_
        refine r_if_eq (tgt := 65) hc (dc_at dX9_leads 28 rfl) (by decide) hf (fun hf => ?_) (fun hf => ?_)
        · refine r_iload hc 5 (dc_at dX9_leads 33 rfl) rfl ?_
          refine r_if_ne (tgt := 80) hc (dc_at dX9_leads 34 rfl) (by decide) hf (fun hf => ?_) (fun hf => ?_)
          · refine r_aload_n hc 1 (dc_at dX9_leads 39 rfl) rfl ?_
            refine r_getR hc (dc_at dX9_leads 40 rfl) fl_X9_52 hf fun a11 hf => ?_
            refine r_getI hc (dc_at dX9_leads 41 rfl) fl_X9_145 hf fun x12 hf => ?_
            exact r_iret hc he (hm) (hs) (dc_at dX9_leads 42 rfl) hf
          · refine r_aload_n hc 1 (dc_at dX9_leads 35 rfl) rfl ?_
            refine r_getR hc (dc_at dX9_leads 36 rfl) fl_X9_52 hf fun a13 hf => ?_
            refine r_getI hc (dc_at dX9_leads 37 rfl) fl_X9_143 hf fun x14 hf => ?_
            refine r_goto (tgt := 87) hc (dc_at dX9_leads 38 rfl) (by decide) ?_
            exact r_iret hc he (hm) (hs) (dc_at dX9_leads 42 rfl) hf
        · refine r_bipush (-10 : Int32) hc (dc_at dX9_leads 29 rfl) (by decide) ?_
          refine r_iload hc 0 (dc_at dX9_leads 30 rfl) rfl ?_
          refine r_isub hc (dc_at dX9_leads 31 rfl) ?_
          exact r_iret hc he (hm) (hs) (dc_at dX9_leads 32 rfl) hf
      · refine r_bipush (-3 : Int32) hc (dc_at dX9_leads 12 rfl) (by decide) ?_
        exact r_iret hc he (hm) (hs) (dc_at dX9_leads 13 rfl) hf
    · refine r_bipush (-2 : Int32) hc (dc_at dX9_leads 5 rfl) (by decide) ?_
      exact r_iret hc he (hm) (hs) (dc_at dX9_leads 6 rfl) hf
def m_X9_leads (F : Nat) (h : PH) (p0 : Nat) (p1 : Int32) (p2 : Int32) (p3 : Int32) (p4 : Int32) : Option (Int32 × PH) := b_X9_leads_0 F h p0 p1 p2 p3 p4
theorem mt_X9_leads {l : Launch} {X : XT} {F : Nat} {h hz : PH} {p0 : Nat} {p1 : Int32} {p2 : Int32} {p3 : Int32} {p4 : Int32} {r : Int32} (ex : m_X9_leads F h p0 p1 p2 p3 p4 = some (r, hz)) : MT l X yX9_leads cX9_leads 6 (some .int) 5 292 0 0 [.ref (X.1 + p0), .int p1, .int p2, .int p3, .int p4] h (some (.int r)) hz := MT.of (by decide) (Nat.le_of_ble_eq_true rfl) fun M hl hc hr he => by
  subst hl
  exact gg_sub [0, 1, 2, 3, 4] rfl (t_X9_leads_0  hc hr he (Nat.zero_le _) (Nat.zero_le _) ex)
/-! FractionLift.forgetEldest()V -/
def lX9_forgetEldestL : List (Nat × Instr × Nat × Nat) := [(0, .iconst 1, 1, 1), (1, .istore_n 1, 1, 2), (2, .iload_n 1, 1, 3), (3, .bipush 12, 2, 5), (5, .if_icmp .ge 37, 3, 8), (8, .aload_n 0, 1, 9), (9, .getfield 40, 3, 12), (12, .iload_n 1, 1, 13), (13, .iconst 1, 1, 14), (14, .isub, 1, 15), (15, .aload_n 0, 1, 16), (16, .getfield 40, 3, 19), (19, .iload_n 1, 1, 20), (20, .iaload, 1, 21), (21, .iastore, 1, 22), (22, .aload_n 0, 1, 23), (23, .getfield 43, 3, 26), (26, .iload_n 1, 1, 27), (27, .iconst 1, 1, 28), (28, .isub, 1, 29), (29, .aload_n 0, 1, 30), (30, .getfield 43, 3, 33), (33, .iload_n 1, 1, 34), (34, .iaload, 1, 35), (35, .iastore, 1, 36), (36, .iinc 1 1, 3, 39), (39, .goto (-37), 3, 42), (42, .aload_n 0, 1, 43), (43, .bipush 11, 2, 45), (45, .putfield 46, 3, 48), (48, .return_, 1, 49)]
set_option maxRecDepth 20000 in
theorem dX9_forgetEldest : dcL cX9_forgetEldest lX9_forgetEldestL = true := by decide +kernel
def b_X9_forgetEldest_2 (F : Nat) (self2 : PH → Nat → Int32 → Option (Unit × PH)) (h : PH) (v0 : Nat) (v1 : Int32) : Option (Unit × PH) := if (12 : Int32) ≤ v1 then ((pV 9 10 (.int (11 : Int32)) h v0).bind fun h1 => (some ((), h1))) else ((gR 9 8 h v0).bind fun a2 => ((gR 9 8 h v0).bind fun a3 => ((aI 0 h a3 v1).bind fun x4 => ((sI 0 h a2 ((v1 - (1 : Int32))) x4).bind fun h5 => ((gR 9 9 h5 v0).bind fun a6 => ((gR 9 9 h5 v0).bind fun a7 => ((aI 0 h5 a7 v1).bind fun x8 => ((sI 0 h5 a6 ((v1 - (1 : Int32))) x8).bind fun h9 => (bindv (v1 + (1)) fun x10 => (self2 h9 v0 x10))))))))))
set_option maxRecDepth 20000 in
theorem tb_X9_forgetEldest_2 {M : MV} {X : XT} {F : Nat} {self2 : PH → Nat → Int32 → Option (Unit × PH)} {h hz : PH} {r : Unit} {ce sl mc ms : Nat} {v0 : Nat} {v1 : Int32} (hc : Cx M X RX9 cX9_forgetEldest) (hr : Rx M 1 60 mc ms 2) (he : Ex M X none "forgetEldest" none hz mc ms) (hm : ce ≤ mc) (hs : sl ≤ ms) (ih2 : ∀ (h : PH) (v0 : Nat) (v1 : Int32), self2 h v0 v1 = some (r, hz) → GG M X h ce sl 2 [(0, .ref (X.1 + v0)), (1, .int v1)] []) (hf : b_X9_forgetEldest_2 F self2 h v0 v1 = some (r, hz)) : GG M X h ce sl 2 [(0, .ref (X.1 + v0)), (1, .int v1)] [] := by
  unfold b_X9_forgetEldest_2 at hf
  refine r_iload_n hc 1 (dc_at dX9_forgetEldest 2 rfl) rfl ?_
  refine r_bipush (12 : Int32) hc (dc_at dX9_forgetEldest 3 rfl) (by decide) ?_
  refine r_icmp_ge (tgt := 42) hc (dc_at dX9_forgetEldest 4 rfl) (by decide) hf (fun hf => ?_) (fun hf => ?_)
  · refine r_aload_n hc 0 (dc_at dX9_forgetEldest 27 rfl) rfl ?_
    refine r_bipush (11 : Int32) hc (dc_at dX9_forgetEldest 28 rfl) (by decide) ?_
    refine r_putI hc he (dc_at dX9_forgetEldest 29 rfl) fp_X9_46 (fun q => by cases q) hf fun h1 hf => ?_
    exact r_vret hc he (hm) (hs) (dc_at dX9_forgetEldest 30 rfl) hf
  · refine r_aload_n hc 0 (dc_at dX9_forgetEldest 5 rfl) rfl ?_
    refine r_getR hc (dc_at dX9_forgetEldest 6 rfl) fl_X9_40 hf fun a2 hf => ?_
    refine r_iload_n hc 1 (dc_at dX9_forgetEldest 7 rfl) rfl ?_
    refine r_iconst (1 : Int32) hc (dc_at dX9_forgetEldest 8 rfl) (by decide) ?_
    refine r_isub hc (dc_at dX9_forgetEldest 9 rfl) ?_
    refine r_aload_n hc 0 (dc_at dX9_forgetEldest 10 rfl) rfl ?_
    refine r_getR hc (dc_at dX9_forgetEldest 11 rfl) fl_X9_40 hf fun a3 hf => ?_
    refine r_iload_n hc 1 (dc_at dX9_forgetEldest 12 rfl) rfl ?_
    refine r_iaload hc (dc_at dX9_forgetEldest 13 rfl) hf fun x4 hf => ?_
    refine r_iastore hc (dc_at dX9_forgetEldest 14 rfl) hf fun h5 hf => ?_
    refine r_aload_n hc 0 (dc_at dX9_forgetEldest 15 rfl) rfl ?_
    refine r_getR hc (dc_at dX9_forgetEldest 16 rfl) fl_X9_43 hf fun a6 hf => ?_
    refine r_iload_n hc 1 (dc_at dX9_forgetEldest 17 rfl) rfl ?_
    refine r_iconst (1 : Int32) hc (dc_at dX9_forgetEldest 18 rfl) (by decide) ?_
    refine r_isub hc (dc_at dX9_forgetEldest 19 rfl) ?_
    refine r_aload_n hc 0 (dc_at dX9_forgetEldest 20 rfl) rfl ?_
    refine r_getR hc (dc_at dX9_forgetEldest 21 rfl) fl_X9_43 hf fun a7 hf => ?_
    refine r_iload_n hc 1 (dc_at dX9_forgetEldest 22 rfl) rfl ?_
    refine r_iaload hc (dc_at dX9_forgetEldest 23 rfl) hf fun x8 hf => ?_
    refine r_iastore hc (dc_at dX9_forgetEldest 24 rfl) hf fun h9 hf => ?_
    refine obv hf fun x10 e_x10 hf => ?_
    refine r_iinc 1 [(1, .int x10), (0, .ref (X.1 + v0))] hc hr (dc_at dX9_forgetEldest 25 rfl) rfl (by rw [e_x10]; rfl) (by decide) rfl ?_
    refine r_goto (tgt := 2) hc (dc_at dX9_forgetEldest 26 rfl) (by decide) ?_
    exact gg_sub [1, 0] rfl (ih2 _ _ _ hf)
def l_X9_forgetEldest_2 (F : Nat) : Nat → PH → Nat → Int32 → Option (Unit × PH)
  | 0 => fun _ _ _ => none
  | n + 1 => fun h v0 v1 => b_X9_forgetEldest_2 F (l_X9_forgetEldest_2 F n) h v0 v1
theorem tl_X9_forgetEldest_2 {M : MV} {X : XT} {F : Nat} {hz : PH} {r : Unit} {ce sl mc ms : Nat} (hc : Cx M X RX9 cX9_forgetEldest) (hr : Rx M 1 60 mc ms 2) (he : Ex M X none "forgetEldest" none hz mc ms) (hm : ce ≤ mc) (hs : sl ≤ ms) (n : Nat) : ∀ (h : PH) (v0 : Nat) (v1 : Int32), l_X9_forgetEldest_2 F n h v0 v1 = some (r, hz) → GG M X h ce sl 2 [(0, .ref (X.1 + v0)), (1, .int v1)] [] := by
  induction n with
  | zero => intro h v0 v1 hf; cases hf
  | succ n ih => intro h v0 v1 hf; exact tb_X9_forgetEldest_2 (F := F) hc hr he hm hs  ih hf
def b_X9_forgetEldest_0 (F : Nat) (h : PH) (v0 : Nat) : Option (Unit × PH) := l_X9_forgetEldest_2 F F h v0 (1 : Int32)
set_option maxRecDepth 20000 in
theorem t_X9_forgetEldest_0 {M : MV} {X : XT} {F : Nat} {h hz : PH} {r : Unit} {ce sl mc ms : Nat} {v0 : Nat} (hc : Cx M X RX9 cX9_forgetEldest) (hr : Rx M 1 60 mc ms 2) (he : Ex M X none "forgetEldest" none hz mc ms) (hm : ce ≤ mc) (hs : sl ≤ ms) (hf : b_X9_forgetEldest_0 F h v0 = some (r, hz)) : GG M X h ce sl 0 [(0, .ref (X.1 + v0))] [] := by
  unfold b_X9_forgetEldest_0 at hf
  refine r_iconst (1 : Int32) hc (dc_at dX9_forgetEldest 0 rfl) (by decide) ?_
  refine r_istore_n [(1, .int ((1 : Int32))), (0, .ref (X.1 + v0))] hc hr (dc_at dX9_forgetEldest 1 rfl) (by decide) rfl ?_
  exact gg_sub [1, 0] rfl (tl_X9_forgetEldest_2 hc hr he hm hs  F _ _ _ hf)
def m_X9_forgetEldest (F : Nat) (h : PH) (p0 : Nat) : Option (Unit × PH) := b_X9_forgetEldest_0 F h p0
theorem mt_X9_forgetEldest {l : Launch} {X : XT} {F : Nat} {h hz : PH} {p0 : Nat} {r : Unit} (ex : m_X9_forgetEldest F h p0 = some (r, hz)) : MT l X yX9_forgetEldest cX9_forgetEldest 2 none 1 60 0 0 [.ref (X.1 + p0)] h none hz := MT.of (by decide) (Nat.le_of_ble_eq_true rfl) fun M hl hc hr he => by
  subst hl
  exact gg_sub [0] rfl (t_X9_forgetEldest_0  hc hr he (Nat.zero_le _) (Nat.zero_le _) ex)
/-! FractionLift.pressOne(I)I -/
def lX9_pressOneL : List (Nat × Instr × Nat × Nat) := [(0, .aload_n 0, 1, 1), (1, .getfield 52, 3, 4), (4, .aload_n 0, 1, 5), (5, .getfield 26, 3, 8), (8, .iload_n 1, 1, 9), (9, .aload_n 0, 1, 10), (10, .getfield 26, 3, 13), (13, .getfield 96, 3, 16), (16, .i2l, 1, 17), (17, .aload_n 0, 1, 18), (18, .getfield 26, 3, 21), (21, .getfield 99, 3, 24), (24, .i2l, 1, 25), (25, .invokevirtual 128, 3, 28), (28, .istore_n 2, 1, 29), (29, .iload_n 2, 1, 30), (30, .ifCond .eq 5, 3, 33), (33, .iload_n 2, 1, 34), (34, .ireturn, 1, 35), (35, .aload_n 0, 1, 36), (36, .getfield 46, 3, 39), (39, .bipush 12, 2, 41), (41, .if_icmp .lt 7, 3, 44), (44, .aload_n 0, 1, 45), (45, .invokevirtual 370, 3, 48), (48, .aload_n 0, 1, 49), (49, .getfield 40, 3, 52), (52, .aload_n 0, 1, 53), (53, .getfield 46, 3, 56), (56, .aload_n 0, 1, 57), (57, .getfield 26, 3, 60), (60, .getfield 96, 3, 63), (63, .iastore, 1, 64), (64, .aload_n 0, 1, 65), (65, .getfield 43, 3, 68), (68, .aload_n 0, 1, 69), (69, .getfield 46, 3, 72), (72, .aload_n 0, 1, 73), (73, .getfield 26, 3, 76), (76, .getfield 99, 3, 79), (79, .iastore, 1, 80), (80, .aload_n 0, 1, 81), (81, .dup, 1, 82), (82, .getfield 46, 3, 85), (85, .iconst 1, 1, 86), (86, .iadd, 1, 87), (87, .putfield 46, 3, 90), (90, .aload_n 0, 1, 91), (91, .getfield 26, 3, 94), (94, .aload_n 0, 1, 95), (95, .getfield 52, 3, 98), (98, .getfield 143, 3, 101), (101, .putfield 96, 3, 104), (104, .aload_n 0, 1, 105), (105, .getfield 26, 3, 108), (108, .aload_n 0, 1, 109), (109, .getfield 52, 3, 112), (112, .getfield 145, 3, 115), (115, .putfield 99, 3, 118), (118, .aload_n 0, 1, 119), (119, .getfield 26, 3, 122), (122, .dup, 1, 123), (123, .getfield 359, 3, 126), (126, .iconst 1, 1, 127), (127, .iadd, 1, 128), (128, .putfield 359, 3, 131), (131, .iconst 0, 1, 132), (132, .ireturn, 1, 133)]
set_option maxRecDepth 20000 in
theorem dX9_pressOne : dcL cX9_pressOne lX9_pressOneL = true := by decide +kernel
def b_X9_pressOne_48 (F : Nat) (h : PH) (v0 : Nat) : Option (Int32 × PH) := (gR 9 8 h v0).bind fun a1 => ((gI 9 10 h v0).bind fun x2 => ((gR 9 4 h v0).bind fun a3 => ((gI 0 4 h a3).bind fun x4 => ((sI 0 h a1 x2 x4).bind fun h5 => ((gR 9 9 h5 v0).bind fun a6 => ((gI 9 10 h5 v0).bind fun x7 => ((gR 9 4 h5 v0).bind fun a8 => ((gI 0 5 h5 a8).bind fun x9 => ((sI 0 h5 a6 x7 x9).bind fun h10 => ((gI 9 10 h10 v0).bind fun x11 => ((pV 9 10 (.int ((x11 + (1 : Int32)))) h10 v0).bind fun h12 => ((gR 9 4 h12 v0).bind fun a13 => ((gR 9 11 h12 v0).bind fun a14 => ((gI 4 0 h12 a14).bind fun x15 => ((pV 0 4 (.int x15) h12 a13).bind fun h16 => ((gR 9 4 h16 v0).bind fun a17 => ((gR 9 11 h16 v0).bind fun a18 => ((gI 4 1 h16 a18).bind fun x19 => ((pV 0 5 (.int x19) h16 a17).bind fun h20 => ((gR 9 4 h20 v0).bind fun a21 => ((gI 0 3 h20 a21).bind fun x22 => ((pV 0 3 (.int ((x22 + (1 : Int32)))) h20 a21).bind fun h23 => (some ((0 : Int32), h23))))))))))))))))))))))))
set_option maxRecDepth 20000 in
theorem t_X9_pressOne_48 {M : MV} {X : XT} {F : Nat} {h hz : PH} {r : Int32} {ce sl mc ms : Nat} {v0 : Nat} (hc : Cx M X RX9 cX9_pressOne) (hr : Rx M 5 292 mc ms 3) (he : Ex M X (some .int) "pressOne" (some (.int r)) hz mc ms) (hm : ce ≤ mc) (hs : sl ≤ ms) (hf : b_X9_pressOne_48 F h v0 = some (r, hz)) : GG M X h ce sl 48 [(0, .ref (X.1 + v0))] [] := by
  unfold b_X9_pressOne_48 at hf
  refine r_aload_n hc 0 (dc_at dX9_pressOne 25 rfl) rfl ?_
  refine r_getR hc (dc_at dX9_pressOne 26 rfl) fl_X9_40 hf fun a1 hf => ?_
  refine r_aload_n hc 0 (dc_at dX9_pressOne 27 rfl) rfl ?_
  refine r_getI hc (dc_at dX9_pressOne 28 rfl) fl_X9_46 hf fun x2 hf => ?_
  refine r_aload_n hc 0 (dc_at dX9_pressOne 29 rfl) rfl ?_
  refine r_getR hc (dc_at dX9_pressOne 30 rfl) fl_X9_26 hf fun a3 hf => ?_
  refine r_getI hc (dc_at dX9_pressOne 31 rfl) fl_X9_96 hf fun x4 hf => ?_
  refine r_iastore hc (dc_at dX9_pressOne 32 rfl) hf fun h5 hf => ?_
  refine r_aload_n hc 0 (dc_at dX9_pressOne 33 rfl) rfl ?_
  refine r_getR hc (dc_at dX9_pressOne 34 rfl) fl_X9_43 hf fun a6 hf => ?_
  refine r_aload_n hc 0 (dc_at dX9_pressOne 35 rfl) rfl ?_
  refine r_getI hc (dc_at dX9_pressOne 36 rfl) fl_X9_46 hf fun x7 hf => ?_
  refine r_aload_n hc 0 (dc_at dX9_pressOne 37 rfl) rfl ?_
  refine r_getR hc (dc_at dX9_pressOne 38 rfl) fl_X9_26 hf fun a8 hf => ?_
  refine r_getI hc (dc_at dX9_pressOne 39 rfl) fl_X9_99 hf fun x9 hf => ?_
  refine r_iastore hc (dc_at dX9_pressOne 40 rfl) hf fun h10 hf => ?_
  refine r_aload_n hc 0 (dc_at dX9_pressOne 41 rfl) rfl ?_
  refine r_dup hc (dc_at dX9_pressOne 42 rfl) rfl ?_
  refine r_getI hc (dc_at dX9_pressOne 43 rfl) fl_X9_46 hf fun x11 hf => ?_
  refine r_iconst (1 : Int32) hc (dc_at dX9_pressOne 44 rfl) (by decide) ?_
  refine r_iadd hc (dc_at dX9_pressOne 45 rfl) ?_
  refine r_putI hc he (dc_at dX9_pressOne 46 rfl) fp_X9_46 (fun q => by cases q) hf fun h12 hf => ?_
  refine r_aload_n hc 0 (dc_at dX9_pressOne 47 rfl) rfl ?_
  refine r_getR hc (dc_at dX9_pressOne 48 rfl) fl_X9_26 hf fun a13 hf => ?_
  refine r_aload_n hc 0 (dc_at dX9_pressOne 49 rfl) rfl ?_
  refine r_getR hc (dc_at dX9_pressOne 50 rfl) fl_X9_52 hf fun a14 hf => ?_
  refine r_getI hc (dc_at dX9_pressOne 51 rfl) fl_X9_143 hf fun x15 hf => ?_
  refine r_putI hc he (dc_at dX9_pressOne 52 rfl) fp_X9_96 (fun q => by cases q) hf fun h16 hf => ?_
  refine r_aload_n hc 0 (dc_at dX9_pressOne 53 rfl) rfl ?_
  refine r_getR hc (dc_at dX9_pressOne 54 rfl) fl_X9_26 hf fun a17 hf => ?_
  refine r_aload_n hc 0 (dc_at dX9_pressOne 55 rfl) rfl ?_
  refine r_getR hc (dc_at dX9_pressOne 56 rfl) fl_X9_52 hf fun a18 hf => ?_
  refine r_getI hc (dc_at dX9_pressOne 57 rfl) fl_X9_145 hf fun x19 hf => ?_
  refine r_putI hc he (dc_at dX9_pressOne 58 rfl) fp_X9_99 (fun q => by cases q) hf fun h20 hf => ?_
  refine r_aload_n hc 0 (dc_at dX9_pressOne 59 rfl) rfl ?_
  refine r_getR hc (dc_at dX9_pressOne 60 rfl) fl_X9_26 hf fun a21 hf => ?_
  refine r_dup hc (dc_at dX9_pressOne 61 rfl) rfl ?_
  refine r_getI hc (dc_at dX9_pressOne 62 rfl) fl_X9_359 hf fun x22 hf => ?_
  refine r_iconst (1 : Int32) hc (dc_at dX9_pressOne 63 rfl) (by decide) ?_
  refine r_iadd hc (dc_at dX9_pressOne 64 rfl) ?_
  refine r_putI hc he (dc_at dX9_pressOne 65 rfl) fp_X9_359 (fun q => by cases q) hf fun h23 hf => ?_
  refine r_iconst (0 : Int32) hc (dc_at dX9_pressOne 66 rfl) (by decide) ?_
  exact r_iret hc he (hm) (hs) (dc_at dX9_pressOne 67 rfl) hf
def b_X9_pressOne_0 (F : Nat) (h : PH) (v0 : Nat) (v1 : Int32) : Option (Int32 × PH) := (gR 9 11 h v0).bind fun a1 => ((gR 9 4 h v0).bind fun a2 => ((gR 9 4 h v0).bind fun a3 => ((gI 0 4 h a3).bind fun x4 => ((gR 9 4 h v0).bind fun a5 => ((gI 0 5 h a5).bind fun x6 => (cO 4 h a1 (bind2 (m_X4_lead F h a1 a2 v1 (Int32.toInt64 x4) (Int32.toInt64 x6)) fun x7 h8 => (if x7 = 0 then ((gI 9 10 h8 v0).bind fun x9 => (if x9 < (12 : Int32) then (b_X9_pressOne_48 F h8 v0) else (cO 9 h8 v0 (bind2 (m_X9_forgetEldest F h8 v0) fun _ h11 => (b_X9_pressOne_48 F h11 v0))))) else (some (x7, h8))))))))))
set_option maxRecDepth 20000 in
theorem t_X9_pressOne_0 {M : MV} {X : XT} {F : Nat} {h hz : PH} {r : Int32} {ce sl mc ms : Nat} {v0 : Nat} {v1 : Int32} (hc : Cx M X RX9 cX9_pressOne) (hr : Rx M 5 292 mc ms 3) (he : Ex M X (some .int) "pressOne" (some (.int r)) hz mc ms) (hm : ce ≤ mc) (hs : sl ≤ ms) (hf : b_X9_pressOne_0 F h v0 v1 = some (r, hz)) : GG M X h ce sl 0 [(0, .ref (X.1 + v0)), (1, .int v1)] [] := by
  unfold b_X9_pressOne_0 at hf
  refine r_aload_n hc 0 (dc_at dX9_pressOne 0 rfl) rfl ?_
  refine r_getR hc (dc_at dX9_pressOne 1 rfl) fl_X9_52 hf fun a1 hf => ?_
  refine r_aload_n hc 0 (dc_at dX9_pressOne 2 rfl) rfl ?_
  refine r_getR hc (dc_at dX9_pressOne 3 rfl) fl_X9_26 hf fun a2 hf => ?_
  refine r_iload_n hc 1 (dc_at dX9_pressOne 4 rfl) rfl ?_
  refine r_aload_n hc 0 (dc_at dX9_pressOne 5 rfl) rfl ?_
  refine r_getR hc (dc_at dX9_pressOne 6 rfl) fl_X9_26 hf fun a3 hf => ?_
  refine r_getI hc (dc_at dX9_pressOne 7 rfl) fl_X9_96 hf fun x4 hf => ?_
  refine r_i2l hc (dc_at dX9_pressOne 8 rfl) ?_
  refine r_aload_n hc 0 (dc_at dX9_pressOne 9 rfl) rfl ?_
  refine r_getR hc (dc_at dX9_pressOne 10 rfl) fl_X9_26 hf fun a5 hf => ?_
  refine r_getI hc (dc_at dX9_pressOne 11 rfl) fl_X9_99 hf fun x6 hf => ?_
  refine r_i2l hc (dc_at dX9_pressOne 12 rfl) ?_
  obtain ⟨ho, hf⟩ := cO_some hf
  refine ob2 hf fun x7 h8 ex hf => ?_
  refine r_callVi (As := [.ref (X.1 + a2), .int v1, .long ((Int32.toInt64 x4)), .long ((Int32.toInt64 x6))]) (ci := 4) hc hr (dc_at dX9_pressOne 13 rfl) ml_X9_128 mv_X4_lead vi_X4_lead rfl ho rfl (mt_X4_lead ex) (by first | exact Nat.le_of_ble_eq_true rfl | omega) (by first | exact Nat.le_of_ble_eq_true rfl | omega) (by first | exact Nat.le_of_ble_eq_true rfl | omega) hm hs ?_
  refine r_istore_n [(2, .int x7), (0, .ref (X.1 + v0)), (1, .int v1)] hc hr (dc_at dX9_pressOne 14 rfl) (by decide) rfl ?_
  refine r_iload_n hc 0 (dc_at dX9_pressOne 15 rfl) rfl ?_
  refine r_if_eq (tgt := 35) hc (dc_at dX9_pressOne 16 rfl) (by decide) hf (fun hf => ?_) (fun hf => ?_)
  · refine r_aload_n hc 1 (dc_at dX9_pressOne 19 rfl) rfl ?_
    refine r_getI hc (dc_at dX9_pressOne 20 rfl) fl_X9_46 hf fun x9 hf => ?_
    refine r_bipush (12 : Int32) hc (dc_at dX9_pressOne 21 rfl) (by decide) ?_
    refine r_icmp_lt (tgt := 48) hc (dc_at dX9_pressOne 22 rfl) (by decide) hf (fun hf => ?_) (fun hf => ?_)
    · exact gg_sub [1] rfl (t_X9_pressOne_48 hc hr he hm hs  hf)
    · refine r_aload_n hc 1 (dc_at dX9_pressOne 23 rfl) rfl ?_
      obtain ⟨ho, hf⟩ := cO_some hf
      refine ob2 hf fun u h11 ex hf => ?_
      refine r_callVv (As := []) (ci := 9) hc hr (dc_at dX9_pressOne 24 rfl) ml_X9_370 mv_X9_forgetEldest vi_X9_forgetEldest rfl ho rfl (mt_X9_forgetEldest ex) (by first | exact Nat.le_of_ble_eq_true rfl | omega) (by first | exact Nat.le_of_ble_eq_true rfl | omega) (by first | exact Nat.le_of_ble_eq_true rfl | omega) hm hs ?_
      exact gg_sub [1] rfl (t_X9_pressOne_48 hc hr he hm hs  hf)
  · refine r_iload_n hc 0 (dc_at dX9_pressOne 17 rfl) rfl ?_
    exact r_iret hc he (hm) (hs) (dc_at dX9_pressOne 18 rfl) hf
def m_X9_pressOne (F : Nat) (h : PH) (p0 : Nat) (p1 : Int32) : Option (Int32 × PH) := b_X9_pressOne_0 F h p0 p1
theorem mt_X9_pressOne {l : Launch} {X : XT} {F : Nat} {h hz : PH} {p0 : Nat} {p1 : Int32} {r : Int32} (ex : m_X9_pressOne F h p0 p1 = some (r, hz)) : MT l X yX9_pressOne cX9_pressOne 3 (some .int) 5 292 0 0 [.ref (X.1 + p0), .int p1] h (some (.int r)) hz := MT.of (by decide) (Nat.le_of_ble_eq_true rfl) fun M hl hc hr he => by
  subst hl
  exact gg_sub [0, 1] rfl (t_X9_pressOne_0  hc hr he (Nat.zero_le _) (Nat.zero_le _) ex)
/-! FractionLift.press(I)I -/
def lX9_pressL : List (Nat × Instr × Nat × Nat) := [(0, .aload_n 0, 1, 1), (1, .iload_n 1, 1, 2), (2, .invokevirtual 147, 3, 5), (5, .istore_n 2, 1, 6), (6, .iload_n 2, 1, 7), (7, .ifCond .ne 10, 3, 10), (10, .aload_n 0, 1, 11), (11, .getfield 46, 3, 14), (14, .goto 7, 3, 17), (17, .bipush (-10), 2, 19), (19, .iload_n 2, 1, 20), (20, .isub, 1, 21), (21, .ireturn, 1, 22)]
set_option maxRecDepth 20000 in
theorem dX9_press : dcL cX9_press lX9_pressL = true := by decide +kernel
def b_X9_press_0 (F : Nat) (h : PH) (v0 : Nat) (v1 : Int32) : Option (Int32 × PH) := cO 9 h v0 (bind2 (m_X9_pressOne F h v0 v1) fun x1 h2 => (if x1 = 0 then ((gI 9 10 h2 v0).bind fun x3 => (some (x3, h2))) else (some ((((-10 : Int32) - x1)), h2))))
set_option maxRecDepth 20000 in
theorem t_X9_press_0 {M : MV} {X : XT} {F : Nat} {h hz : PH} {r : Int32} {ce sl mc ms : Nat} {v0 : Nat} {v1 : Int32} (hc : Cx M X RX9 cX9_press) (hr : Rx M 6 350 mc ms 3) (he : Ex M X (some .int) "press" (some (.int r)) hz mc ms) (hm : ce ≤ mc) (hs : sl ≤ ms) (hf : b_X9_press_0 F h v0 v1 = some (r, hz)) : GG M X h ce sl 0 [(0, .ref (X.1 + v0)), (1, .int v1)] [] := by
  unfold b_X9_press_0 at hf
  refine r_aload_n hc 0 (dc_at dX9_press 0 rfl) rfl ?_
  refine r_iload_n hc 1 (dc_at dX9_press 1 rfl) rfl ?_
  obtain ⟨ho, hf⟩ := cO_some hf
  refine ob2 hf fun x1 h2 ex hf => ?_
  refine r_callVi (As := [.int v1]) (ci := 9) hc hr (dc_at dX9_press 2 rfl) ml_X9_147 mv_X9_pressOne vi_X9_pressOne rfl ho rfl (mt_X9_pressOne ex) (by first | exact Nat.le_of_ble_eq_true rfl | omega) (by first | exact Nat.le_of_ble_eq_true rfl | omega) (by first | exact Nat.le_of_ble_eq_true rfl | omega) hm hs ?_
  refine r_istore_n [(2, .int x1), (0, .ref (X.1 + v0)), (1, .int v1)] hc hr (dc_at dX9_press 3 rfl) (by decide) rfl ?_
  refine r_iload_n hc 0 (dc_at dX9_press 4 rfl) rfl ?_
  refine r_if_ne (tgt := 17) hc (dc_at dX9_press 5 rfl) (by decide) hf (fun hf => ?_) (fun hf => ?_)
  · refine r_bipush (-10 : Int32) hc (dc_at dX9_press 9 rfl) (by decide) ?_
    refine r_iload_n hc 0 (dc_at dX9_press 10 rfl) rfl ?_
    refine r_isub hc (dc_at dX9_press 11 rfl) ?_
    exact r_iret hc he (hm) (hs) (dc_at dX9_press 12 rfl) hf
  · refine r_aload_n hc 1 (dc_at dX9_press 6 rfl) rfl ?_
    refine r_getI hc (dc_at dX9_press 7 rfl) fl_X9_46 hf fun x3 hf => ?_
    refine r_goto (tgt := 21) hc (dc_at dX9_press 8 rfl) (by decide) ?_
    exact r_iret hc he (hm) (hs) (dc_at dX9_press 12 rfl) hf
def m_X9_press (F : Nat) (h : PH) (p0 : Nat) (p1 : Int32) : Option (Int32 × PH) := b_X9_press_0 F h p0 p1
theorem mt_X9_press {l : Launch} {X : XT} {F : Nat} {h hz : PH} {p0 : Nat} {p1 : Int32} {r : Int32} (ex : m_X9_press F h p0 p1 = some (r, hz)) : MT l X yX9_press cX9_press 3 (some .int) 6 350 0 0 [.ref (X.1 + p0), .int p1] h (some (.int r)) hz := MT.of (by decide) (Nat.le_of_ble_eq_true rfl) fun M hl hc hr he => by
  subst hl
  exact gg_sub [0, 1] rfl (t_X9_press_0  hc hr he (Nat.zero_le _) (Nat.zero_le _) ex)
/-! FractionLift.undo(I)I -/
def lX9_undoL : List (Nat × Instr × Nat × Nat) := [(0, .iload_n 1, 1, 1), (1, .iconst 1, 1, 2), (2, .if_icmp .lt 11, 3, 5), (5, .iload_n 1, 1, 6), (6, .aload_n 0, 1, 7), (7, .getfield 46, 3, 10), (10, .if_icmp .le 6, 3, 13), (13, .bipush (-3), 2, 15), (15, .ireturn, 1, 16), (16, .aload_n 0, 1, 17), (17, .dup, 1, 18), (18, .getfield 46, 3, 21), (21, .iload_n 1, 1, 22), (22, .isub, 1, 23), (23, .putfield 46, 3, 26), (26, .aload_n 0, 1, 27), (27, .getfield 26, 3, 30), (30, .aload_n 0, 1, 31), (31, .getfield 40, 3, 34), (34, .aload_n 0, 1, 35), (35, .getfield 46, 3, 38), (38, .iaload, 1, 39), (39, .putfield 96, 3, 42), (42, .aload_n 0, 1, 43), (43, .getfield 26, 3, 46), (46, .aload_n 0, 1, 47), (47, .getfield 43, 3, 50), (50, .aload_n 0, 1, 51), (51, .getfield 46, 3, 54), (54, .iaload, 1, 55), (55, .putfield 99, 3, 58), (58, .aload_n 0, 1, 59), (59, .getfield 46, 3, 62), (62, .ireturn, 1, 63)]
set_option maxRecDepth 20000 in
theorem dX9_undo : dcL cX9_undo lX9_undoL = true := by decide +kernel
def b_X9_undo_0 (h : PH) (v0 : Nat) (v1 : Int32) : Option (Int32 × PH) := if v1 < (1 : Int32) then (some ((-3 : Int32), h)) else ((gI 9 10 h v0).bind fun x1 => (if v1 ≤ x1 then ((gI 9 10 h v0).bind fun x2 => ((pV 9 10 (.int (x2 - v1)) h v0).bind fun h3 => ((gR 9 4 h3 v0).bind fun a4 => ((gR 9 8 h3 v0).bind fun a5 => ((gI 9 10 h3 v0).bind fun x6 => ((aI 0 h3 a5 x6).bind fun x7 => ((pV 0 4 (.int x7) h3 a4).bind fun h8 => ((gR 9 4 h8 v0).bind fun a9 => ((gR 9 9 h8 v0).bind fun a10 => ((gI 9 10 h8 v0).bind fun x11 => ((aI 0 h8 a10 x11).bind fun x12 => ((pV 0 5 (.int x12) h8 a9).bind fun h13 => ((gI 9 10 h13 v0).bind fun x14 => (some (x14, h13))))))))))))))) else (some ((-3 : Int32), h))))
set_option maxRecDepth 20000 in
theorem t_X9_undo_0 {M : MV} {X : XT} {h hz : PH} {r : Int32} {ce sl mc ms : Nat} {v0 : Nat} {v1 : Int32} (hc : Cx M X RX9 cX9_undo) (hr : Rx M 1 60 mc ms 2) (he : Ex M X (some .int) "undo" (some (.int r)) hz mc ms) (hm : ce ≤ mc) (hs : sl ≤ ms) (hf : b_X9_undo_0 h v0 v1 = some (r, hz)) : GG M X h ce sl 0 [(0, .ref (X.1 + v0)), (1, .int v1)] [] := by
  unfold b_X9_undo_0 at hf
  refine r_iload_n hc 1 (dc_at dX9_undo 0 rfl) rfl ?_
  refine r_iconst (1 : Int32) hc (dc_at dX9_undo 1 rfl) (by decide) ?_
  refine r_icmp_lt (tgt := 13) hc (dc_at dX9_undo 2 rfl) (by decide) hf (fun hf => ?_) (fun hf => ?_)
  · refine r_bipush (-3 : Int32) hc (dc_at dX9_undo 7 rfl) (by decide) ?_
    exact r_iret hc he (hm) (hs) (dc_at dX9_undo 8 rfl) hf
  · refine r_iload_n hc 1 (dc_at dX9_undo 3 rfl) rfl ?_
    refine r_aload_n hc 0 (dc_at dX9_undo 4 rfl) rfl ?_
    refine r_getI hc (dc_at dX9_undo 5 rfl) fl_X9_46 hf fun x1 hf => ?_
    refine r_icmp_le (tgt := 16) hc (dc_at dX9_undo 6 rfl) (by decide) hf (fun hf => ?_) (fun hf => ?_)
    · refine r_aload_n hc 0 (dc_at dX9_undo 9 rfl) rfl ?_
      refine r_dup hc (dc_at dX9_undo 10 rfl) rfl ?_
      refine r_getI hc (dc_at dX9_undo 11 rfl) fl_X9_46 hf fun x2 hf => ?_
      refine r_iload_n hc 1 (dc_at dX9_undo 12 rfl) rfl ?_
      refine r_isub hc (dc_at dX9_undo 13 rfl) ?_
      refine r_putI hc he (dc_at dX9_undo 14 rfl) fp_X9_46 (fun q => by cases q) hf fun h3 hf => ?_
      refine r_aload_n hc 0 (dc_at dX9_undo 15 rfl) rfl ?_
      refine r_getR hc (dc_at dX9_undo 16 rfl) fl_X9_26 hf fun a4 hf => ?_
      refine r_aload_n hc 0 (dc_at dX9_undo 17 rfl) rfl ?_
      refine r_getR hc (dc_at dX9_undo 18 rfl) fl_X9_40 hf fun a5 hf => ?_
      refine r_aload_n hc 0 (dc_at dX9_undo 19 rfl) rfl ?_
      refine r_getI hc (dc_at dX9_undo 20 rfl) fl_X9_46 hf fun x6 hf => ?_
      refine r_iaload hc (dc_at dX9_undo 21 rfl) hf fun x7 hf => ?_
      refine r_putI hc he (dc_at dX9_undo 22 rfl) fp_X9_96 (fun q => by cases q) hf fun h8 hf => ?_
      refine r_aload_n hc 0 (dc_at dX9_undo 23 rfl) rfl ?_
      refine r_getR hc (dc_at dX9_undo 24 rfl) fl_X9_26 hf fun a9 hf => ?_
      refine r_aload_n hc 0 (dc_at dX9_undo 25 rfl) rfl ?_
      refine r_getR hc (dc_at dX9_undo 26 rfl) fl_X9_43 hf fun a10 hf => ?_
      refine r_aload_n hc 0 (dc_at dX9_undo 27 rfl) rfl ?_
      refine r_getI hc (dc_at dX9_undo 28 rfl) fl_X9_46 hf fun x11 hf => ?_
      refine r_iaload hc (dc_at dX9_undo 29 rfl) hf fun x12 hf => ?_
      refine r_putI hc he (dc_at dX9_undo 30 rfl) fp_X9_99 (fun q => by cases q) hf fun h13 hf => ?_
      refine r_aload_n hc 0 (dc_at dX9_undo 31 rfl) rfl ?_
      refine r_getI hc (dc_at dX9_undo 32 rfl) fl_X9_46 hf fun x14 hf => ?_
      exact r_iret hc he (hm) (hs) (dc_at dX9_undo 33 rfl) hf
    · refine r_bipush (-3 : Int32) hc (dc_at dX9_undo 7 rfl) (by decide) ?_
      exact r_iret hc he (hm) (hs) (dc_at dX9_undo 8 rfl) hf
def m_X9_undo (h : PH) (p0 : Nat) (p1 : Int32) : Option (Int32 × PH) := b_X9_undo_0 h p0 p1
theorem mt_X9_undo {l : Launch} {X : XT} {h hz : PH} {p0 : Nat} {p1 : Int32} {r : Int32} (ex : m_X9_undo h p0 p1 = some (r, hz)) : MT l X yX9_undo cX9_undo 2 (some .int) 1 60 0 0 [.ref (X.1 + p0), .int p1] h (some (.int r)) hz := MT.of (by decide) (Nat.le_of_ble_eq_true rfl) fun M hl hc hr he => by
  subst hl
  exact gg_sub [0, 1] rfl (t_X9_undo_0  hc hr he (Nat.zero_le _) (Nat.zero_le _) ex)
/-! FractionLift.refusedTray(I)I -/
def lX9_refusedTrayL : List (Nat × Instr × Nat × Nat) := [(0, .iload_n 1, 1, 1), (1, .ifCond .lt 8, 3, 4), (4, .iload_n 1, 1, 5), (5, .iconst 4, 1, 6), (6, .if_icmp .lt 6, 3, 9), (9, .bipush (-2), 2, 11), (11, .ireturn, 1, 12), (12, .aload_n 0, 1, 13), (13, .getfield 36, 3, 16), (16, .iload_n 1, 1, 17), (17, .aaload, 1, 18), (18, .ifnonnull 8, 3, 21), (21, .bipush (-6), 2, 23), (23, .goto 4, 3, 26), (26, .iconst 0, 1, 27), (27, .ireturn, 1, 28)]
set_option maxRecDepth 20000 in
theorem dX9_refusedTray : dcL cX9_refusedTray lX9_refusedTrayL = true := by decide +kernel
def b_X9_refusedTray_0 (h : PH) (v0 : Nat) (v1 : Int32) : Option Int32 := if v1 < 0 then (some (-2 : Int32)) else (if v1 < (4 : Int32) then ((gR 9 7 h v0).bind fun a1 => ((aN 4 h a1 v1).bind fun q2 => (if q2 = none then (some (-6 : Int32)) else (some (0 : Int32))))) else (some (-2 : Int32)))
set_option maxRecDepth 20000 in
theorem t_X9_refusedTray_0 {M : MV} {X : XT} {h : PH} {r : Int32} {ce sl mc ms : Nat} {v0 : Nat} {v1 : Int32} (hc : Cx M X RX9 cX9_refusedTray) (hr : Rx M 1 60 mc ms 2) (he : Ex M X (some .int) "refusedTray" (some (.int r)) h mc ms) (hm : ce ≤ mc) (hs : sl ≤ ms) (hf : b_X9_refusedTray_0 h v0 v1 = some r) : GG M X h ce sl 0 [(0, .ref (X.1 + v0)), (1, .int v1)] [] := by
  unfold b_X9_refusedTray_0 at hf
  refine r_iload_n hc 1 (dc_at dX9_refusedTray 0 rfl) rfl ?_
  refine r_if_lt (tgt := 9) hc (dc_at dX9_refusedTray 1 rfl) (by decide) hf (fun hf => ?_) (fun hf => ?_)
  · refine r_bipush (-2 : Int32) hc (dc_at dX9_refusedTray 5 rfl) (by decide) ?_
    exact r_iretP hc he (hm) (hs) (dc_at dX9_refusedTray 6 rfl) hf
  · refine r_iload_n hc 1 (dc_at dX9_refusedTray 2 rfl) rfl ?_
    refine r_iconst (4 : Int32) hc (dc_at dX9_refusedTray 3 rfl) (by decide) ?_
    refine r_icmp_lt (tgt := 12) hc (dc_at dX9_refusedTray 4 rfl) (by decide) hf (fun hf => ?_) (fun hf => ?_)
    · refine r_aload_n hc 0 (dc_at dX9_refusedTray 7 rfl) rfl ?_
      refine r_getR hc (dc_at dX9_refusedTray 8 rfl) fl_X9_36 hf fun a1 hf => ?_
      refine r_iload_n hc 1 (dc_at dX9_refusedTray 9 rfl) rfl ?_
      refine r_aaloadN (t := 4) hc (dc_at dX9_refusedTray 10 rfl) rfl hf fun q2 e_q2 hf => ?_
      refine r_ifnonnull (tgt := 26) hc (dc_at dX9_refusedTray 11 rfl) (by decide) hf (fun hf => ?_) (fun hf hnull => ?_)
      · refine r_iconst (0 : Int32) hc (dc_at dX9_refusedTray 14 rfl) (by decide) ?_
        exact r_iretP hc he (hm) (hs) (dc_at dX9_refusedTray 15 rfl) hf
      · refine r_bipush (-6 : Int32) hc (dc_at dX9_refusedTray 12 rfl) (by decide) ?_
        refine r_goto (tgt := 27) hc (dc_at dX9_refusedTray 13 rfl) (by decide) ?_
        exact r_iretP hc he (hm) (hs) (dc_at dX9_refusedTray 15 rfl) hf
    · refine r_bipush (-2 : Int32) hc (dc_at dX9_refusedTray 5 rfl) (by decide) ?_
      exact r_iretP hc he (hm) (hs) (dc_at dX9_refusedTray 6 rfl) hf
def m_X9_refusedTray (h : PH) (p0 : Nat) (p1 : Int32) : Option Int32 := b_X9_refusedTray_0 h p0 p1
theorem mt_X9_refusedTray {l : Launch} {X : XT} {h : PH} {p0 : Nat} {p1 : Int32} {r : Int32} (ex : m_X9_refusedTray h p0 p1 = some r) : MT l X yX9_refusedTray cX9_refusedTray 2 (some .int) 1 60 0 0 [.ref (X.1 + p0), .int p1] h (some (.int r)) h := MT.of (by decide) (Nat.le_of_ble_eq_true rfl) fun M hl hc hr he => by
  subst hl
  exact gg_sub [0, 1] rfl (t_X9_refusedTray_0  hc hr he (Nat.zero_le _) (Nat.zero_le _) ex)
/-! FractionLift.refusedRow(II)I -/
def lX9_refusedRowL : List (Nat × Instr × Nat × Nat) := [(0, .aload_n 0, 1, 1), (1, .iload_n 1, 1, 2), (2, .invokevirtual 343, 3, 5), (5, .istore_n 3, 1, 6), (6, .iload_n 3, 1, 7), (7, .ifCond .eq 5, 3, 10), (10, .iload_n 3, 1, 11), (11, .ireturn, 1, 12), (12, .aload_n 0, 1, 13), (13, .getfield 36, 3, 16), (16, .iload_n 1, 1, 17), (17, .aaload, 1, 18), (18, .getfield 153, 3, 21), (21, .istore 4, 2, 23), (23, .iload 4, 2, 25), (25, .iload_n 2, 1, 26), (26, .if_icmp .lt 10, 3, 29), (29, .iload 4, 2, 31), (31, .bipush 8, 2, 33), (33, .if_icmp .le 8, 3, 36), (36, .bipush (-4), 2, 38), (38, .goto 4, 3, 41), (41, .iconst 0, 1, 42), (42, .ireturn, 1, 43)]
set_option maxRecDepth 20000 in
theorem dX9_refusedRow : dcL cX9_refusedRow lX9_refusedRowL = true := by decide +kernel
def b_X9_refusedRow_0 (h : PH) (v0 : Nat) (v1 : Int32) (v2 : Int32) : Option Int32 := cO 9 h v0 ((m_X9_refusedTray h v0 v1).bind fun x1 => (if x1 = 0 then ((gR 9 7 h v0).bind fun a2 => ((aR 4 h a2 v1).bind fun a3 => ((gI 7 1 h a3).bind fun x4 => (if x4 < v2 then (some (-4 : Int32)) else (if x4 ≤ (8 : Int32) then (some (0 : Int32)) else (some (-4 : Int32))))))) else (some x1)))
set_option maxRecDepth 20000 in
theorem t_X9_refusedRow_0 {M : MV} {X : XT} {h : PH} {r : Int32} {ce sl mc ms : Nat} {v0 : Nat} {v1 : Int32} {v2 : Int32} (hc : Cx M X RX9 cX9_refusedRow) (hr : Rx M 2 118 mc ms 5) (he : Ex M X (some .int) "refusedRow" (some (.int r)) h mc ms) (hm : ce ≤ mc) (hs : sl ≤ ms) (hf : b_X9_refusedRow_0 h v0 v1 v2 = some r) : GG M X h ce sl 0 [(0, .ref (X.1 + v0)), (1, .int v1), (2, .int v2)] [] := by
  unfold b_X9_refusedRow_0 at hf
  refine r_aload_n hc 0 (dc_at dX9_refusedRow 0 rfl) rfl ?_
  refine r_iload_n hc 1 (dc_at dX9_refusedRow 1 rfl) rfl ?_
  obtain ⟨ho, hf⟩ := cO_some hf
  refine ob hf fun x1 ex hf => ?_
  refine r_callVi (As := [.int v1]) (ci := 9) hc hr (dc_at dX9_refusedRow 2 rfl) ml_X9_343 mv_X9_refusedTray vi_X9_refusedTray rfl ho rfl (mt_X9_refusedTray ex) (by first | exact Nat.le_of_ble_eq_true rfl | omega) (by first | exact Nat.le_of_ble_eq_true rfl | omega) (by first | exact Nat.le_of_ble_eq_true rfl | omega) hm hs ?_
  refine r_istore_n [(3, .int x1), (0, .ref (X.1 + v0)), (1, .int v1), (2, .int v2)] hc hr (dc_at dX9_refusedRow 3 rfl) (by decide) rfl ?_
  refine r_iload_n hc 0 (dc_at dX9_refusedRow 4 rfl) rfl ?_
  refine r_if_eq (tgt := 12) hc (dc_at dX9_refusedRow 5 rfl) (by decide) hf (fun hf => ?_) (fun hf => ?_)
  · refine r_aload_n hc 1 (dc_at dX9_refusedRow 8 rfl) rfl ?_
    refine r_getR hc (dc_at dX9_refusedRow 9 rfl) fl_X9_36 hf fun a2 hf => ?_
    refine r_iload_n hc 2 (dc_at dX9_refusedRow 10 rfl) rfl ?_
    refine r_aaloadR (t := 4) hc (dc_at dX9_refusedRow 11 rfl) rfl hf fun a3 hf => ?_
    refine r_getI hc (dc_at dX9_refusedRow 12 rfl) fl_X9_153 hf fun x4 hf => ?_
    refine r_istore [(4, .int x4), (3, .int x1), (0, .ref (X.1 + v0)), (1, .int v1), (2, .int v2)] hc hr (dc_at dX9_refusedRow 13 rfl) (by decide) rfl ?_
    refine r_iload hc 0 (dc_at dX9_refusedRow 14 rfl) rfl ?_
    refine r_iload_n hc 4 (dc_at dX9_refusedRow 15 rfl) rfl ?_
    refine r_icmp_lt (tgt := 36) hc (dc_at dX9_refusedRow 16 rfl) (by decide) hf (fun hf => ?_) (fun hf => ?_)
    · refine r_bipush (-4 : Int32) hc (dc_at dX9_refusedRow 20 rfl) (by decide) ?_
      refine r_goto (tgt := 42) hc (dc_at dX9_refusedRow 21 rfl) (by decide) ?_
      exact r_iretP hc he (hm) (hs) (dc_at dX9_refusedRow 23 rfl) hf
    · refine r_iload hc 0 (dc_at dX9_refusedRow 17 rfl) rfl ?_
      refine r_bipush (8 : Int32) hc (dc_at dX9_refusedRow 18 rfl) (by decide) ?_
      refine r_icmp_le (tgt := 41) hc (dc_at dX9_refusedRow 19 rfl) (by decide) hf (fun hf => ?_) (fun hf => ?_)
      · refine r_iconst (0 : Int32) hc (dc_at dX9_refusedRow 22 rfl) (by decide) ?_
        exact r_iretP hc he (hm) (hs) (dc_at dX9_refusedRow 23 rfl) hf
      · refine r_bipush (-4 : Int32) hc (dc_at dX9_refusedRow 20 rfl) (by decide) ?_
        refine r_goto (tgt := 42) hc (dc_at dX9_refusedRow 21 rfl) (by decide) ?_
        exact r_iretP hc he (hm) (hs) (dc_at dX9_refusedRow 23 rfl) hf
  · refine r_iload_n hc 0 (dc_at dX9_refusedRow 6 rfl) rfl ?_
    exact r_iretP hc he (hm) (hs) (dc_at dX9_refusedRow 7 rfl) hf
def m_X9_refusedRow (h : PH) (p0 : Nat) (p1 : Int32) (p2 : Int32) : Option Int32 := b_X9_refusedRow_0 h p0 p1 p2
theorem mt_X9_refusedRow {l : Launch} {X : XT} {h : PH} {p0 : Nat} {p1 : Int32} {p2 : Int32} {r : Int32} (ex : m_X9_refusedRow h p0 p1 p2 = some r) : MT l X yX9_refusedRow cX9_refusedRow 5 (some .int) 2 118 0 0 [.ref (X.1 + p0), .int p1, .int p2] h (some (.int r)) h := MT.of (by decide) (Nat.le_of_ble_eq_true rfl) fun M hl hc hr he => by
  subst hl
  exact gg_sub [0, 1, 2] rfl (t_X9_refusedRow_0  hc hr he (Nat.zero_le _) (Nat.zero_le _) ex)
/-! FractionLift.judge(II)I -/
def lX9_judgeL : List (Nat × Instr × Nat × Nat) := [(0, .iload_n 2, 1, 1), (1, .ifCond .lt 8, 3, 4), (4, .iload_n 2, 1, 5), (5, .iconst 3, 1, 6), (6, .if_icmp .le 6, 3, 9), (9, .bipush (-2), 2, 11), (11, .ireturn, 1, 12), (12, .aload_n 0, 1, 13), (13, .iload_n 1, 1, 14), (14, .iconst 1, 1, 15), (15, .invokevirtual 150, 3, 18), (18, .istore_n 3, 1, 19), (19, .iload_n 3, 1, 20), (20, .ifCond .eq 5, 3, 23), (23, .iload_n 3, 1, 24), (24, .ireturn, 1, 25), (25, .aload_n 0, 1, 26), (26, .getfield 36, 3, 29), (29, .iload_n 1, 1, 30), (30, .aaload, 1, 31), (31, .astore 4, 2, 33), (33, .aload_n 0, 1, 34), (34, .getfield 26, 3, 37), (37, .getfield 96, 3, 40), (40, .istore 5, 2, 42), (42, .aload_n 0, 1, 43), (43, .getfield 26, 3, 46), (46, .getfield 99, 3, 49), (49, .istore 6, 2, 51), (51, .iconst 0, 1, 52), (52, .istore 7, 2, 54), (54, .iconst 0, 1, 55), (55, .istore 8, 2, 57), (57, .iconst 0, 1, 58), (58, .istore 9, 2, 60), (60, .iload 9, 2, 62), (62, .aload 4, 2, 64), (64, .getfield 153, 3, 67), (67, .if_icmp .ge 66, 3, 70), (70, .iload 8, 2, 72), (72, .ifCond .ne 61, 3, 75), (75, .aload_n 0, 1, 76), (76, .getfield 52, 3, 79), (79, .aload_n 0, 1, 80), (80, .getfield 26, 3, 83), (83, .aload 4, 2, 85), (85, .iload 9, 2, 87), (87, .invokevirtual 156, 3, 90), (90, .iload 5, 2, 92), (92, .i2l, 1, 93), (93, .iload 6, 2, 95), (95, .i2l, 1, 96), (96, .invokevirtual 128, 3, 99), (99, .istore 8, 2, 101), (101, .iload 8, 2, 103), (103, .ifCond .ne 24, 3, 106), (106, .aload_n 0, 1, 107), (107, .getfield 52, 3, 110), (110, .getfield 143, 3, 113), (113, .istore 5, 2, 115), (115, .aload_n 0, 1, 116), (116, .getfield 52, 3, 119), (119, .getfield 145, 3, 122), (122, .istore 6, 2, 124), (124, .iinc 7 1, 3, 127), (127, .iinc 9 1, 3, 130), (130, .goto (-70), 3, 133), (133, .iload_n 2, 1, 134), (134, .tableswitch 44 0 2 #[26, 38, 41], 26, 160), (160, .iload 8, 2, 162), (162, .ifCond .ne 7, 3, 165), (165, .iconst (-1), 1, 166), (166, .goto 5, 3, 169), (169, .iload 7, 2, 171), (171, .ireturn, 1, 172), (172, .iload 8, 2, 174), (174, .ireturn, 1, 175), (175, .iload 5, 2, 177), (177, .ireturn, 1, 178), (178, .iload 6, 2, 180), (180, .ireturn, 1, 181)]
set_option maxRecDepth 20000 in
theorem dX9_judge : dcL cX9_judge lX9_judgeL = true := by decide +kernel
def b_X9_judge_127 (F : Nat) (self35 : PH → Nat → Int32 → Nat → Int32 → Int32 → Int32 → Int32 → Int32 → Option (Int32 × PH)) (h : PH) (v0 : Nat) (v2 : Int32) (v4 : Nat) (v5 : Int32) (v6 : Int32) (v7 : Int32) (v8 : Int32) (v9 : Int32) : Option (Int32 × PH) := bindv (v9 + (1)) fun x1 => (self35 h v0 v2 v4 v5 v6 v7 v8 x1)
set_option maxRecDepth 20000 in
theorem t_X9_judge_127 {M : MV} {X : XT} {F : Nat} {self35 : PH → Nat → Int32 → Nat → Int32 → Int32 → Int32 → Int32 → Int32 → Option (Int32 × PH)} {h hz : PH} {r : Int32} {ce sl mc ms : Nat} {v0 : Nat} {v2 : Int32} {v4 : Nat} {v5 : Int32} {v6 : Int32} {v7 : Int32} {v8 : Int32} {v9 : Int32} (hc : Cx M X RX9 cX9_judge) (hr : Rx M 5 292 mc ms 10) (he : Ex M X (some .int) "judge" (some (.int r)) hz mc ms) (hm : ce ≤ mc) (hs : sl ≤ ms) (ih35 : ∀ (h : PH) (v0 : Nat) (v2 : Int32) (v4 : Nat) (v5 : Int32) (v6 : Int32) (v7 : Int32) (v8 : Int32) (v9 : Int32), self35 h v0 v2 v4 v5 v6 v7 v8 v9 = some (r, hz) → GG M X h ce sl 60 [(0, .ref (X.1 + v0)), (2, .int v2), (4, .ref (X.1 + v4)), (5, .int v5), (6, .int v6), (7, .int v7), (8, .int v8), (9, .int v9)] []) (hf : b_X9_judge_127 F self35 h v0 v2 v4 v5 v6 v7 v8 v9 = some (r, hz)) : GG M X h ce sl 127 [(0, .ref (X.1 + v0)), (2, .int v2), (4, .ref (X.1 + v4)), (5, .int v5), (6, .int v6), (7, .int v7), (8, .int v8), (9, .int v9)] [] := by
  unfold b_X9_judge_127 at hf
  refine obv hf fun x1 e_x1 hf => ?_
  refine r_iinc 7 [(9, .int x1), (0, .ref (X.1 + v0)), (2, .int v2), (4, .ref (X.1 + v4)), (5, .int v5), (6, .int v6), (7, .int v7), (8, .int v8)] hc hr (dc_at dX9_judge 65 rfl) rfl (by rw [e_x1]; rfl) (by decide) rfl ?_
  refine r_goto (tgt := 60) hc (dc_at dX9_judge 66 rfl) (by decide) ?_
  exact gg_sub [1, 2, 3, 4, 5, 6, 7, 0] rfl (ih35 _ _ _ _ _ _ _ _ _ hf)
def b_X9_judge_133 (F : Nat) (h : PH) (v2 : Int32) (v5 : Int32) (v6 : Int32) (v7 : Int32) (v8 : Int32) : Option (Int32 × PH) := swN v2 (0) [if v8 = 0 then (some ((-1 : Int32), h)) else (some (v7, h)), some (v8, h), some (v5, h)] (some (v6, h))
set_option maxRecDepth 20000 in
theorem t_X9_judge_133 {M : MV} {X : XT} {F : Nat} {h hz : PH} {r : Int32} {ce sl mc ms : Nat} {v2 : Int32} {v5 : Int32} {v6 : Int32} {v7 : Int32} {v8 : Int32} (hc : Cx M X RX9 cX9_judge) (hr : Rx M 5 292 mc ms 10) (he : Ex M X (some .int) "judge" (some (.int r)) hz mc ms) (hm : ce ≤ mc) (hs : sl ≤ ms) (hf : b_X9_judge_133 F h v2 v5 v6 v7 v8 = some (r, hz)) : GG M X h ce sl 133 [(2, .int v2), (5, .int v5), (6, .int v6), (7, .int v7), (8, .int v8)] [] := by
  unfold b_X9_judge_133 at hf
  refine r_iload_n hc 0 (dc_at dX9_judge 67 rfl) rfl ?_
  rcases sw_cases hf with ⟨i, hi, hx, hf⟩ | ⟨hx, hf⟩
  · rcases (show i = 0 ∨ i = 1 ∨ i = 2 by simp only [List.length_cons, List.length_nil] at hi; omega) with rfl | rfl | rfl
    · have hf := gd_at hf rfl
      refine r_tableIn (tgt := 160) 0 hc (dc_at dX9_judge 68 rfl) hx rfl (by decide) (by decide) ?_
      refine r_iload hc 4 (dc_at dX9_judge 69 rfl) rfl ?_
      refine r_if_ne (tgt := 169) hc (dc_at dX9_judge 70 rfl) (by decide) hf (fun hf => ?_) (fun hf => ?_)
      · refine r_iload hc 3 (dc_at dX9_judge 73 rfl) rfl ?_
        exact r_iret hc he (hm) (hs) (dc_at dX9_judge 74 rfl) hf
      · refine r_iconst (-1 : Int32) hc (dc_at dX9_judge 71 rfl) (by decide) ?_
        refine r_goto (tgt := 171) hc (dc_at dX9_judge 72 rfl) (by decide) ?_
        exact r_iret hc he (hm) (hs) (dc_at dX9_judge 74 rfl) hf
    · have hf := gd_at hf rfl
      refine r_tableIn (tgt := 172) 1 hc (dc_at dX9_judge 68 rfl) hx rfl (by decide) (by decide) ?_
      refine r_iload hc 4 (dc_at dX9_judge 75 rfl) rfl ?_
      exact r_iret hc he (hm) (hs) (dc_at dX9_judge 76 rfl) hf
    · have hf := gd_at hf rfl
      refine r_tableIn (tgt := 175) 2 hc (dc_at dX9_judge 68 rfl) hx rfl (by decide) (by decide) ?_
      refine r_iload hc 1 (dc_at dX9_judge 77 rfl) rfl ?_
      exact r_iret hc he (hm) (hs) (dc_at dX9_judge 78 rfl) hf
  · refine r_tableOut (tgt := 178) 3 hc (dc_at dX9_judge 68 rfl) hx (by decide) (by decide) ?_
    refine r_iload hc 2 (dc_at dX9_judge 79 rfl) rfl ?_
    exact r_iret hc he (hm) (hs) (dc_at dX9_judge 80 rfl) hf
def b_X9_judge_60 (F : Nat) (self35 : PH → Nat → Int32 → Nat → Int32 → Int32 → Int32 → Int32 → Int32 → Option (Int32 × PH)) (h : PH) (v0 : Nat) (v2 : Int32) (v4 : Nat) (v5 : Int32) (v6 : Int32) (v7 : Int32) (v8 : Int32) (v9 : Int32) : Option (Int32 × PH) := (gI 7 1 h v4).bind fun x1 => (if x1 ≤ v9 then (b_X9_judge_133 F h v2 v5 v6 v7 v8) else (if v8 = 0 then ((gR 9 11 h v0).bind fun a2 => ((gR 9 4 h v0).bind fun a3 => (cO 7 h v4 ((m_X7_smallAt h v4 v9).bind fun x4 => (cO 4 h a2 (bind2 (m_X4_lead F h a2 a3 x4 (Int32.toInt64 v5) (Int32.toInt64 v6)) fun x5 h6 => (if x5 = 0 then ((gR 9 11 h6 v0).bind fun a7 => ((gI 4 0 h6 a7).bind fun x8 => ((gR 9 11 h6 v0).bind fun a9 => ((gI 4 1 h6 a9).bind fun x10 => (bindv (v7 + (1)) fun x11 => (b_X9_judge_127 F self35 h6 v0 v2 v4 x8 x10 x11 x5 v9)))))) else (b_X9_judge_127 F self35 h6 v0 v2 v4 v5 v6 v7 x5 v9)))))))) else (b_X9_judge_133 F h v2 v5 v6 v7 v8)))
set_option maxRecDepth 20000 in
theorem tb_X9_judge_60 {M : MV} {X : XT} {F : Nat} {self35 : PH → Nat → Int32 → Nat → Int32 → Int32 → Int32 → Int32 → Int32 → Option (Int32 × PH)} {h hz : PH} {r : Int32} {ce sl mc ms : Nat} {v0 : Nat} {v2 : Int32} {v4 : Nat} {v5 : Int32} {v6 : Int32} {v7 : Int32} {v8 : Int32} {v9 : Int32} (hc : Cx M X RX9 cX9_judge) (hr : Rx M 5 292 mc ms 10) (he : Ex M X (some .int) "judge" (some (.int r)) hz mc ms) (hm : ce ≤ mc) (hs : sl ≤ ms) (ih35 : ∀ (h : PH) (v0 : Nat) (v2 : Int32) (v4 : Nat) (v5 : Int32) (v6 : Int32) (v7 : Int32) (v8 : Int32) (v9 : Int32), self35 h v0 v2 v4 v5 v6 v7 v8 v9 = some (r, hz) → GG M X h ce sl 60 [(0, .ref (X.1 + v0)), (2, .int v2), (4, .ref (X.1 + v4)), (5, .int v5), (6, .int v6), (7, .int v7), (8, .int v8), (9, .int v9)] []) (hf : b_X9_judge_60 F self35 h v0 v2 v4 v5 v6 v7 v8 v9 = some (r, hz)) : GG M X h ce sl 60 [(0, .ref (X.1 + v0)), (2, .int v2), (4, .ref (X.1 + v4)), (5, .int v5), (6, .int v6), (7, .int v7), (8, .int v8), (9, .int v9)] [] := by
  unfold b_X9_judge_60 at hf
  refine r_iload hc 7 (dc_at dX9_judge 35 rfl) rfl ?_
  refine r_aload hc 2 (dc_at dX9_judge 36 rfl) rfl ?_
  refine r_getI hc (dc_at dX9_judge 37 rfl) fl_X9_153 hf fun x1 hf => ?_
  refine r_icmp_ge (tgt := 133) hc (dc_at dX9_judge 38 rfl) (by decide) hf (fun hf => ?_) (fun hf => ?_)
  · exact gg_sub [1, 3, 4, 5, 6] rfl (t_X9_judge_133 hc hr he hm hs  hf)
  · refine r_iload hc 6 (dc_at dX9_judge 39 rfl) rfl ?_
    refine r_if_ne (tgt := 133) hc (dc_at dX9_judge 40 rfl) (by decide) hf (fun hf => ?_) (fun hf => ?_)
    · exact gg_sub [1, 3, 4, 5, 6] rfl (t_X9_judge_133 hc hr he hm hs  hf)
    · refine r_aload_n hc 0 (dc_at dX9_judge 41 rfl) rfl ?_
      refine r_getR hc (dc_at dX9_judge 42 rfl) fl_X9_52 hf fun a2 hf => ?_
      refine r_aload_n hc 0 (dc_at dX9_judge 43 rfl) rfl ?_
      refine r_getR hc (dc_at dX9_judge 44 rfl) fl_X9_26 hf fun a3 hf => ?_
      refine r_aload hc 2 (dc_at dX9_judge 45 rfl) rfl ?_
      refine r_iload hc 7 (dc_at dX9_judge 46 rfl) rfl ?_
      obtain ⟨ho, hf⟩ := cO_some hf
      refine ob hf fun x4 ex hf => ?_
      refine r_callVi (As := [.int v9]) (ci := 7) hc hr (dc_at dX9_judge 47 rfl) ml_X9_156 mv_X7_smallAt vi_X7_smallAt rfl ho rfl (mt_X7_smallAt ex) (by first | exact Nat.le_of_ble_eq_true rfl | omega) (by first | exact Nat.le_of_ble_eq_true rfl | omega) (by first | exact Nat.le_of_ble_eq_true rfl | omega) hm hs ?_
      refine r_iload hc 3 (dc_at dX9_judge 48 rfl) rfl ?_
      refine r_i2l hc (dc_at dX9_judge 49 rfl) ?_
      refine r_iload hc 4 (dc_at dX9_judge 50 rfl) rfl ?_
      refine r_i2l hc (dc_at dX9_judge 51 rfl) ?_
      obtain ⟨ho, hf⟩ := cO_some hf
      refine ob2 hf fun x5 h6 ex hf => ?_
      refine r_callVi (As := [.ref (X.1 + a3), .int x4, .long ((Int32.toInt64 v5)), .long ((Int32.toInt64 v6))]) (ci := 4) hc hr (dc_at dX9_judge 52 rfl) ml_X9_128 mv_X4_lead vi_X4_lead rfl ho rfl (mt_X4_lead ex) (by first | exact Nat.le_of_ble_eq_true rfl | omega) (by first | exact Nat.le_of_ble_eq_true rfl | omega) (by first | exact Nat.le_of_ble_eq_true rfl | omega) hm hs ?_
      refine r_istore [(8, .int x5), (0, .ref (X.1 + v0)), (2, .int v2), (4, .ref (X.1 + v4)), (5, .int v5), (6, .int v6), (7, .int v7), (9, .int v9)] hc hr (dc_at dX9_judge 53 rfl) (by decide) rfl ?_
      refine r_iload hc 0 (dc_at dX9_judge 54 rfl) rfl ?_
      refine r_if_ne (tgt := 127) hc (dc_at dX9_judge 55 rfl) (by decide) hf (fun hf => ?_) (fun hf => ?_)
      · exact gg_sub [1, 2, 3, 4, 5, 6, 0, 7] rfl (t_X9_judge_127 hc hr he hm hs ih35 hf)
      · refine r_aload_n hc 1 (dc_at dX9_judge 56 rfl) rfl ?_
        refine r_getR hc (dc_at dX9_judge 57 rfl) fl_X9_52 hf fun a7 hf => ?_
        refine r_getI hc (dc_at dX9_judge 58 rfl) fl_X9_143 hf fun x8 hf => ?_
        refine r_istore [(5, .int x8), (8, .int x5), (0, .ref (X.1 + v0)), (2, .int v2), (4, .ref (X.1 + v4)), (6, .int v6), (7, .int v7), (9, .int v9)] hc hr (dc_at dX9_judge 59 rfl) (by decide) rfl ?_
        refine r_aload_n hc 2 (dc_at dX9_judge 60 rfl) rfl ?_
        refine r_getR hc (dc_at dX9_judge 61 rfl) fl_X9_52 hf fun a9 hf => ?_
        refine r_getI hc (dc_at dX9_judge 62 rfl) fl_X9_145 hf fun x10 hf => ?_
        refine r_istore [(6, .int x10), (5, .int x8), (8, .int x5), (0, .ref (X.1 + v0)), (2, .int v2), (4, .ref (X.1 + v4)), (7, .int v7), (9, .int v9)] hc hr (dc_at dX9_judge 63 rfl) (by decide) rfl ?_
        refine obv hf fun x11 e_x11 hf => ?_
        refine r_iinc 6 [(7, .int x11), (6, .int x10), (5, .int x8), (8, .int x5), (0, .ref (X.1 + v0)), (2, .int v2), (4, .ref (X.1 + v4)), (9, .int v9)] hc hr (dc_at dX9_judge 64 rfl) rfl (by rw [e_x11]; rfl) (by decide) rfl ?_
        exact gg_sub [4, 5, 6, 2, 1, 0, 3, 7] rfl (t_X9_judge_127 hc hr he hm hs ih35 hf)
def l_X9_judge_60 (F : Nat) : Nat → PH → Nat → Int32 → Nat → Int32 → Int32 → Int32 → Int32 → Int32 → Option (Int32 × PH)
  | 0 => fun _ _ _ _ _ _ _ _ _ => none
  | n + 1 => fun h v0 v2 v4 v5 v6 v7 v8 v9 => b_X9_judge_60 F (l_X9_judge_60 F n) h v0 v2 v4 v5 v6 v7 v8 v9
theorem tl_X9_judge_60 {M : MV} {X : XT} {F : Nat} {hz : PH} {r : Int32} {ce sl mc ms : Nat} (hc : Cx M X RX9 cX9_judge) (hr : Rx M 5 292 mc ms 10) (he : Ex M X (some .int) "judge" (some (.int r)) hz mc ms) (hm : ce ≤ mc) (hs : sl ≤ ms) (n : Nat) : ∀ (h : PH) (v0 : Nat) (v2 : Int32) (v4 : Nat) (v5 : Int32) (v6 : Int32) (v7 : Int32) (v8 : Int32) (v9 : Int32), l_X9_judge_60 F n h v0 v2 v4 v5 v6 v7 v8 v9 = some (r, hz) → GG M X h ce sl 60 [(0, .ref (X.1 + v0)), (2, .int v2), (4, .ref (X.1 + v4)), (5, .int v5), (6, .int v6), (7, .int v7), (8, .int v8), (9, .int v9)] [] := by
  induction n with
  | zero => intro h v0 v2 v4 v5 v6 v7 v8 v9 hf; cases hf
  | succ n ih => intro h v0 v2 v4 v5 v6 v7 v8 v9 hf; exact tb_X9_judge_60 (F := F) hc hr he hm hs  ih hf
def b_X9_judge_0 (F : Nat) (h : PH) (v0 : Nat) (v1 : Int32) (v2 : Int32) : Option (Int32 × PH) := if v2 < 0 then (some ((-2 : Int32), h)) else (if v2 ≤ (3 : Int32) then (cO 9 h v0 ((m_X9_refusedRow h v0 v1 (1 : Int32)).bind fun x1 => (if x1 = 0 then ((gR 9 7 h v0).bind fun a2 => ((aR 4 h a2 v1).bind fun a3 => ((gR 9 4 h v0).bind fun a4 => ((gI 0 4 h a4).bind fun x5 => ((gR 9 4 h v0).bind fun a6 => ((gI 0 5 h a6).bind fun x7 => (l_X9_judge_60 F F h v0 v2 a3 x5 x7 (0 : Int32) (0 : Int32) (0 : Int32)))))))) else (some (x1, h))))) else (some ((-2 : Int32), h)))
set_option maxRecDepth 20000 in
theorem t_X9_judge_0 {M : MV} {X : XT} {F : Nat} {h hz : PH} {r : Int32} {ce sl mc ms : Nat} {v0 : Nat} {v1 : Int32} {v2 : Int32} (hc : Cx M X RX9 cX9_judge) (hr : Rx M 5 292 mc ms 10) (he : Ex M X (some .int) "judge" (some (.int r)) hz mc ms) (hm : ce ≤ mc) (hs : sl ≤ ms) (hf : b_X9_judge_0 F h v0 v1 v2 = some (r, hz)) : GG M X h ce sl 0 [(0, .ref (X.1 + v0)), (1, .int v1), (2, .int v2)] [] := by
  unfold b_X9_judge_0 at hf
  refine r_iload_n hc 2 (dc_at dX9_judge 0 rfl) rfl ?_
  refine r_if_lt (tgt := 9) hc (dc_at dX9_judge 1 rfl) (by decide) hf (fun hf => ?_) (fun hf => ?_)
  · refine r_bipush (-2 : Int32) hc (dc_at dX9_judge 5 rfl) (by decide) ?_
    exact r_iret hc he (hm) (hs) (dc_at dX9_judge 6 rfl) hf
  · refine r_iload_n hc 2 (dc_at dX9_judge 2 rfl) rfl ?_
    refine r_iconst (3 : Int32) hc (dc_at dX9_judge 3 rfl) (by decide) ?_
    refine r_icmp_le (tgt := 12) hc (dc_at dX9_judge 4 rfl) (by decide) hf (fun hf => ?_) (fun hf => ?_)
    · refine r_aload_n hc 0 (dc_at dX9_judge 7 rfl) rfl ?_
      refine r_iload_n hc 1 (dc_at dX9_judge 8 rfl) rfl ?_
      refine r_iconst (1 : Int32) hc (dc_at dX9_judge 9 rfl) (by decide) ?_
      obtain ⟨ho, hf⟩ := cO_some hf
      refine ob hf fun x1 ex hf => ?_
      refine r_callVi (As := [.int v1, .int ((1 : Int32))]) (ci := 9) hc hr (dc_at dX9_judge 10 rfl) ml_X9_150 mv_X9_refusedRow vi_X9_refusedRow rfl ho rfl (mt_X9_refusedRow ex) (by first | exact Nat.le_of_ble_eq_true rfl | omega) (by first | exact Nat.le_of_ble_eq_true rfl | omega) (by first | exact Nat.le_of_ble_eq_true rfl | omega) hm hs ?_
      refine r_istore_n [(3, .int x1), (0, .ref (X.1 + v0)), (1, .int v1), (2, .int v2)] hc hr (dc_at dX9_judge 11 rfl) (by decide) rfl ?_
      refine r_iload_n hc 0 (dc_at dX9_judge 12 rfl) rfl ?_
      refine r_if_eq (tgt := 25) hc (dc_at dX9_judge 13 rfl) (by decide) hf (fun hf => ?_) (fun hf => ?_)
      · refine r_aload_n hc 1 (dc_at dX9_judge 16 rfl) rfl ?_
        refine r_getR hc (dc_at dX9_judge 17 rfl) fl_X9_36 hf fun a2 hf => ?_
        refine r_iload_n hc 2 (dc_at dX9_judge 18 rfl) rfl ?_
        refine r_aaloadR (t := 4) hc (dc_at dX9_judge 19 rfl) rfl hf fun a3 hf => ?_
        refine r_astore [(4, .ref (X.1 + a3)), (3, .int x1), (0, .ref (X.1 + v0)), (1, .int v1), (2, .int v2)] hc hr (dc_at dX9_judge 20 rfl) (by decide) rfl ?_
        refine r_aload_n hc 2 (dc_at dX9_judge 21 rfl) rfl ?_
        refine r_getR hc (dc_at dX9_judge 22 rfl) fl_X9_26 hf fun a4 hf => ?_
        refine r_getI hc (dc_at dX9_judge 23 rfl) fl_X9_96 hf fun x5 hf => ?_
        refine r_istore [(5, .int x5), (4, .ref (X.1 + a3)), (3, .int x1), (0, .ref (X.1 + v0)), (1, .int v1), (2, .int v2)] hc hr (dc_at dX9_judge 24 rfl) (by decide) rfl ?_
        refine r_aload_n hc 3 (dc_at dX9_judge 25 rfl) rfl ?_
        refine r_getR hc (dc_at dX9_judge 26 rfl) fl_X9_26 hf fun a6 hf => ?_
        refine r_getI hc (dc_at dX9_judge 27 rfl) fl_X9_99 hf fun x7 hf => ?_
        refine r_istore [(6, .int x7), (5, .int x5), (4, .ref (X.1 + a3)), (3, .int x1), (0, .ref (X.1 + v0)), (1, .int v1), (2, .int v2)] hc hr (dc_at dX9_judge 28 rfl) (by decide) rfl ?_
        refine r_iconst (0 : Int32) hc (dc_at dX9_judge 29 rfl) (by decide) ?_
        refine r_istore [(7, .int ((0 : Int32))), (6, .int x7), (5, .int x5), (4, .ref (X.1 + a3)), (3, .int x1), (0, .ref (X.1 + v0)), (1, .int v1), (2, .int v2)] hc hr (dc_at dX9_judge 30 rfl) (by decide) rfl ?_
        refine r_iconst (0 : Int32) hc (dc_at dX9_judge 31 rfl) (by decide) ?_
        refine r_istore [(8, .int ((0 : Int32))), (7, .int ((0 : Int32))), (6, .int x7), (5, .int x5), (4, .ref (X.1 + a3)), (3, .int x1), (0, .ref (X.1 + v0)), (1, .int v1), (2, .int v2)] hc hr (dc_at dX9_judge 32 rfl) (by decide) rfl ?_
        refine r_iconst (0 : Int32) hc (dc_at dX9_judge 33 rfl) (by decide) ?_
        refine r_istore [(9, .int ((0 : Int32))), (8, .int ((0 : Int32))), (7, .int ((0 : Int32))), (6, .int x7), (5, .int x5), (4, .ref (X.1 + a3)), (3, .int x1), (0, .ref (X.1 + v0)), (1, .int v1), (2, .int v2)] hc hr (dc_at dX9_judge 34 rfl) (by decide) rfl ?_
        exact gg_sub [7, 9, 5, 4, 3, 2, 1, 0] rfl (tl_X9_judge_60 hc hr he hm hs  F _ _ _ _ _ _ _ _ _ hf)
      · refine r_iload_n hc 0 (dc_at dX9_judge 14 rfl) rfl ?_
        exact r_iret hc he (hm) (hs) (dc_at dX9_judge 15 rfl) hf
    · refine r_bipush (-2 : Int32) hc (dc_at dX9_judge 5 rfl) (by decide) ?_
      exact r_iret hc he (hm) (hs) (dc_at dX9_judge 6 rfl) hf
def m_X9_judge (F : Nat) (h : PH) (p0 : Nat) (p1 : Int32) (p2 : Int32) : Option (Int32 × PH) := b_X9_judge_0 F h p0 p1 p2
theorem mt_X9_judge {l : Launch} {X : XT} {F : Nat} {h hz : PH} {p0 : Nat} {p1 : Int32} {p2 : Int32} {r : Int32} (ex : m_X9_judge F h p0 p1 p2 = some (r, hz)) : MT l X yX9_judge cX9_judge 10 (some .int) 5 292 0 0 [.ref (X.1 + p0), .int p1, .int p2] h (some (.int r)) hz := MT.of (by decide) (Nat.le_of_ble_eq_true rfl) fun M hl hc hr he => by
  subst hl
  exact gg_sub [0, 1, 2] rfl (t_X9_judge_0  hc hr he (Nat.zero_le _) (Nat.zero_le _) ex)
/-! FractionLift.perform(I)I -/
def lX9_performL : List (Nat × Instr × Nat × Nat) := [(0, .aload_n 0, 1, 1), (1, .iload_n 1, 1, 2), (2, .iconst 1, 1, 3), (3, .invokevirtual 150, 3, 6), (6, .istore_n 2, 1, 7), (7, .iload_n 2, 1, 8), (8, .ifCond .eq 5, 3, 11), (11, .iload_n 2, 1, 12), (12, .ireturn, 1, 13), (13, .aload_n 0, 1, 14), (14, .getfield 36, 3, 17), (17, .iload_n 1, 1, 18), (18, .aaload, 1, 19), (19, .astore_n 3, 1, 20), (20, .iconst 0, 1, 21), (21, .istore 4, 2, 23), (23, .iconst 0, 1, 24), (24, .istore 5, 2, 26), (26, .iload 5, 2, 28), (28, .aload_n 3, 1, 29), (29, .getfield 153, 3, 32), (32, .if_icmp .ge 28, 3, 35), (35, .aload_n 0, 1, 36), (36, .aload_n 3, 1, 37), (37, .iload 5, 2, 39), (39, .invokevirtual 156, 3, 42), (42, .invokevirtual 147, 3, 45), (45, .ifCond .eq 6, 3, 48), (48, .iload 4, 2, 50), (50, .ireturn, 1, 51), (51, .iinc 4 1, 3, 54), (54, .iinc 5 1, 3, 57), (57, .goto (-31), 3, 60), (60, .iload 4, 2, 62), (62, .ireturn, 1, 63)]
set_option maxRecDepth 20000 in
theorem dX9_perform : dcL cX9_perform lX9_performL = true := by decide +kernel
def b_X9_perform_26 (F : Nat) (self18 : PH → Nat → Nat → Int32 → Int32 → Option (Int32 × PH)) (h : PH) (v0 : Nat) (v3 : Nat) (v4 : Int32) (v5 : Int32) : Option (Int32 × PH) := (gI 7 1 h v3).bind fun x1 => (if x1 ≤ v5 then (some (v4, h)) else (cO 7 h v3 ((m_X7_smallAt h v3 v5).bind fun x2 => (cO 9 h v0 (bind2 (m_X9_pressOne F h v0 x2) fun x3 h4 => (if x3 = 0 then (bindv (v4 + (1)) fun x5 => (bindv (v5 + (1)) fun x6 => (self18 h4 v0 v3 x5 x6))) else (some (v4, h4))))))))
set_option maxRecDepth 20000 in
theorem tb_X9_perform_26 {M : MV} {X : XT} {F : Nat} {self18 : PH → Nat → Nat → Int32 → Int32 → Option (Int32 × PH)} {h hz : PH} {r : Int32} {ce sl mc ms : Nat} {v0 : Nat} {v3 : Nat} {v4 : Int32} {v5 : Int32} (hc : Cx M X RX9 cX9_perform) (hr : Rx M 6 350 mc ms 6) (he : Ex M X (some .int) "perform" (some (.int r)) hz mc ms) (hm : ce ≤ mc) (hs : sl ≤ ms) (ih18 : ∀ (h : PH) (v0 : Nat) (v3 : Nat) (v4 : Int32) (v5 : Int32), self18 h v0 v3 v4 v5 = some (r, hz) → GG M X h ce sl 26 [(0, .ref (X.1 + v0)), (3, .ref (X.1 + v3)), (4, .int v4), (5, .int v5)] []) (hf : b_X9_perform_26 F self18 h v0 v3 v4 v5 = some (r, hz)) : GG M X h ce sl 26 [(0, .ref (X.1 + v0)), (3, .ref (X.1 + v3)), (4, .int v4), (5, .int v5)] [] := by
  unfold b_X9_perform_26 at hf
  refine r_iload hc 3 (dc_at dX9_perform 18 rfl) rfl ?_
  refine r_aload_n hc 1 (dc_at dX9_perform 19 rfl) rfl ?_
  refine r_getI hc (dc_at dX9_perform 20 rfl) fl_X9_153 hf fun x1 hf => ?_
  refine r_icmp_ge (tgt := 60) hc (dc_at dX9_perform 21 rfl) (by decide) hf (fun hf => ?_) (fun hf => ?_)
  · refine r_iload hc 2 (dc_at dX9_perform 33 rfl) rfl ?_
    exact r_iret hc he (hm) (hs) (dc_at dX9_perform 34 rfl) hf
  · refine r_aload_n hc 0 (dc_at dX9_perform 22 rfl) rfl ?_
    refine r_aload_n hc 1 (dc_at dX9_perform 23 rfl) rfl ?_
    refine r_iload hc 3 (dc_at dX9_perform 24 rfl) rfl ?_
    obtain ⟨ho, hf⟩ := cO_some hf
    refine ob hf fun x2 ex hf => ?_
    refine r_callVi (As := [.int v5]) (ci := 7) hc hr (dc_at dX9_perform 25 rfl) ml_X9_156 mv_X7_smallAt vi_X7_smallAt rfl ho rfl (mt_X7_smallAt ex) (by first | exact Nat.le_of_ble_eq_true rfl | omega) (by first | exact Nat.le_of_ble_eq_true rfl | omega) (by first | exact Nat.le_of_ble_eq_true rfl | omega) hm hs ?_
    obtain ⟨ho, hf⟩ := cO_some hf
    refine ob2 hf fun x3 h4 ex hf => ?_
    refine r_callVi (As := [.int x2]) (ci := 9) hc hr (dc_at dX9_perform 26 rfl) ml_X9_147 mv_X9_pressOne vi_X9_pressOne rfl ho rfl (mt_X9_pressOne ex) (by first | exact Nat.le_of_ble_eq_true rfl | omega) (by first | exact Nat.le_of_ble_eq_true rfl | omega) (by first | exact Nat.le_of_ble_eq_true rfl | omega) hm hs ?_
    refine r_if_eq (tgt := 51) hc (dc_at dX9_perform 27 rfl) (by decide) hf (fun hf => ?_) (fun hf => ?_)
    · refine obv hf fun x5 e_x5 hf => ?_
      refine r_iinc 2 [(4, .int x5), (0, .ref (X.1 + v0)), (3, .ref (X.1 + v3)), (5, .int v5)] hc hr (dc_at dX9_perform 30 rfl) rfl (by rw [e_x5]; rfl) (by decide) rfl ?_
      refine obv hf fun x6 e_x6 hf => ?_
      refine r_iinc 3 [(5, .int x6), (4, .int x5), (0, .ref (X.1 + v0)), (3, .ref (X.1 + v3))] hc hr (dc_at dX9_perform 31 rfl) rfl (by rw [e_x6]; rfl) (by decide) rfl ?_
      refine r_goto (tgt := 26) hc (dc_at dX9_perform 32 rfl) (by decide) ?_
      exact gg_sub [2, 3, 1, 0] rfl (ih18 _ _ _ _ _ hf)
    · refine r_iload hc 2 (dc_at dX9_perform 28 rfl) rfl ?_
      exact r_iret hc he (hm) (hs) (dc_at dX9_perform 29 rfl) hf
def l_X9_perform_26 (F : Nat) : Nat → PH → Nat → Nat → Int32 → Int32 → Option (Int32 × PH)
  | 0 => fun _ _ _ _ _ => none
  | n + 1 => fun h v0 v3 v4 v5 => b_X9_perform_26 F (l_X9_perform_26 F n) h v0 v3 v4 v5
theorem tl_X9_perform_26 {M : MV} {X : XT} {F : Nat} {hz : PH} {r : Int32} {ce sl mc ms : Nat} (hc : Cx M X RX9 cX9_perform) (hr : Rx M 6 350 mc ms 6) (he : Ex M X (some .int) "perform" (some (.int r)) hz mc ms) (hm : ce ≤ mc) (hs : sl ≤ ms) (n : Nat) : ∀ (h : PH) (v0 : Nat) (v3 : Nat) (v4 : Int32) (v5 : Int32), l_X9_perform_26 F n h v0 v3 v4 v5 = some (r, hz) → GG M X h ce sl 26 [(0, .ref (X.1 + v0)), (3, .ref (X.1 + v3)), (4, .int v4), (5, .int v5)] [] := by
  induction n with
  | zero => intro h v0 v3 v4 v5 hf; cases hf
  | succ n ih => intro h v0 v3 v4 v5 hf; exact tb_X9_perform_26 (F := F) hc hr he hm hs  ih hf
def b_X9_perform_0 (F : Nat) (h : PH) (v0 : Nat) (v1 : Int32) : Option (Int32 × PH) := cO 9 h v0 ((m_X9_refusedRow h v0 v1 (1 : Int32)).bind fun x1 => (if x1 = 0 then ((gR 9 7 h v0).bind fun a2 => ((aR 4 h a2 v1).bind fun a3 => (l_X9_perform_26 F F h v0 a3 (0 : Int32) (0 : Int32)))) else (some (x1, h))))
set_option maxRecDepth 20000 in
theorem t_X9_perform_0 {M : MV} {X : XT} {F : Nat} {h hz : PH} {r : Int32} {ce sl mc ms : Nat} {v0 : Nat} {v1 : Int32} (hc : Cx M X RX9 cX9_perform) (hr : Rx M 6 350 mc ms 6) (he : Ex M X (some .int) "perform" (some (.int r)) hz mc ms) (hm : ce ≤ mc) (hs : sl ≤ ms) (hf : b_X9_perform_0 F h v0 v1 = some (r, hz)) : GG M X h ce sl 0 [(0, .ref (X.1 + v0)), (1, .int v1)] [] := by
  unfold b_X9_perform_0 at hf
  refine r_aload_n hc 0 (dc_at dX9_perform 0 rfl) rfl ?_
  refine r_iload_n hc 1 (dc_at dX9_perform 1 rfl) rfl ?_
  refine r_iconst (1 : Int32) hc (dc_at dX9_perform 2 rfl) (by decide) ?_
  obtain ⟨ho, hf⟩ := cO_some hf
  refine ob hf fun x1 ex hf => ?_
  refine r_callVi (As := [.int v1, .int ((1 : Int32))]) (ci := 9) hc hr (dc_at dX9_perform 3 rfl) ml_X9_150 mv_X9_refusedRow vi_X9_refusedRow rfl ho rfl (mt_X9_refusedRow ex) (by first | exact Nat.le_of_ble_eq_true rfl | omega) (by first | exact Nat.le_of_ble_eq_true rfl | omega) (by first | exact Nat.le_of_ble_eq_true rfl | omega) hm hs ?_
  refine r_istore_n [(2, .int x1), (0, .ref (X.1 + v0)), (1, .int v1)] hc hr (dc_at dX9_perform 4 rfl) (by decide) rfl ?_
  refine r_iload_n hc 0 (dc_at dX9_perform 5 rfl) rfl ?_
  refine r_if_eq (tgt := 13) hc (dc_at dX9_perform 6 rfl) (by decide) hf (fun hf => ?_) (fun hf => ?_)
  · refine r_aload_n hc 1 (dc_at dX9_perform 9 rfl) rfl ?_
    refine r_getR hc (dc_at dX9_perform 10 rfl) fl_X9_36 hf fun a2 hf => ?_
    refine r_iload_n hc 2 (dc_at dX9_perform 11 rfl) rfl ?_
    refine r_aaloadR (t := 4) hc (dc_at dX9_perform 12 rfl) rfl hf fun a3 hf => ?_
    refine r_astore_n [(3, .ref (X.1 + a3)), (2, .int x1), (0, .ref (X.1 + v0)), (1, .int v1)] hc hr (dc_at dX9_perform 13 rfl) (by decide) rfl ?_
    refine r_iconst (0 : Int32) hc (dc_at dX9_perform 14 rfl) (by decide) ?_
    refine r_istore [(4, .int ((0 : Int32))), (3, .ref (X.1 + a3)), (2, .int x1), (0, .ref (X.1 + v0)), (1, .int v1)] hc hr (dc_at dX9_perform 15 rfl) (by decide) rfl ?_
    refine r_iconst (0 : Int32) hc (dc_at dX9_perform 16 rfl) (by decide) ?_
    refine r_istore [(5, .int ((0 : Int32))), (4, .int ((0 : Int32))), (3, .ref (X.1 + a3)), (2, .int x1), (0, .ref (X.1 + v0)), (1, .int v1)] hc hr (dc_at dX9_perform 17 rfl) (by decide) rfl ?_
    exact gg_sub [4, 2, 1, 0] rfl (tl_X9_perform_26 hc hr he hm hs  F _ _ _ _ _ hf)
  · refine r_iload_n hc 0 (dc_at dX9_perform 7 rfl) rfl ?_
    exact r_iret hc he (hm) (hs) (dc_at dX9_perform 8 rfl) hf
def m_X9_perform (F : Nat) (h : PH) (p0 : Nat) (p1 : Int32) : Option (Int32 × PH) := b_X9_perform_0 F h p0 p1
theorem mt_X9_perform {l : Launch} {X : XT} {F : Nat} {h hz : PH} {p0 : Nat} {p1 : Int32} {r : Int32} (ex : m_X9_perform F h p0 p1 = some (r, hz)) : MT l X yX9_perform cX9_perform 6 (some .int) 6 350 0 0 [.ref (X.1 + p0), .int p1] h (some (.int r)) hz := MT.of (by decide) (Nat.le_of_ble_eq_true rfl) fun M hl hc hr he => by
  subst hl
  exact gg_sub [0, 1] rfl (t_X9_perform_0  hc hr he (Nat.zero_le _) (Nat.zero_le _) ex)
/-! FractionLift.nextDraw(I)I -/
def lX9_nextDrawL : List (Nat × Instr × Nat × Nat) := [(0, .ldc_w 369, 3, 3), (3, .iload_n 0, 1, 4), (4, .imul, 1, 5), (5, .sipush 12345, 3, 8), (8, .iadd, 1, 9), (9, .ireturn, 1, 10)]
set_option maxRecDepth 20000 in
theorem dX9_nextDraw : dcL cX9_nextDraw lX9_nextDrawL = true := by decide +kernel
def b_X9_nextDraw_0 (v0 : Int32) : Option Int32 := some (((((1103515245 : Int32) * v0)) + (12345 : Int32)))
set_option maxRecDepth 20000 in
theorem t_X9_nextDraw_0 {M : MV} {X : XT} {h : PH} {r : Int32} {ce sl mc ms : Nat} {v0 : Int32} (hc : Cx M X RX9 cX9_nextDraw) (hr : Rx M 1 60 mc ms 1) (he : Ex M X (some .int) "nextDraw" (some (.int r)) h mc ms) (hm : ce ≤ mc) (hs : sl ≤ ms) (hf : b_X9_nextDraw_0 v0 = some r) : GG M X h ce sl 0 [(0, .int v0)] [] := by
  unfold b_X9_nextDraw_0 at hf
  refine r_ldcw hc (dc_at dX9_nextDraw 0 rfl) cc_X9_369 ?_
  refine r_iload_n hc 0 (dc_at dX9_nextDraw 1 rfl) rfl ?_
  refine r_imul hc (dc_at dX9_nextDraw 2 rfl) ?_
  refine r_sipush (12345 : Int32) hc (dc_at dX9_nextDraw 3 rfl) (by decide) ?_
  refine r_iadd hc (dc_at dX9_nextDraw 4 rfl) ?_
  exact r_iretP hc he (hm) (hs) (dc_at dX9_nextDraw 5 rfl) hf
def m_X9_nextDraw (p0 : Int32) : Option Int32 := b_X9_nextDraw_0 p0
theorem mt_X9_nextDraw {l : Launch} {X : XT} {h : PH} {p0 : Int32} {r : Int32} (ex : m_X9_nextDraw p0 = some r) : MT l X yX9_nextDraw cX9_nextDraw 1 (some .int) 1 60 0 0 [.int p0] h (some (.int r)) h := MT.of (by decide) (Nat.le_of_ble_eq_true rfl) fun M hl hc hr he => by
  subst hl
  exact gg_sub [0] rfl (t_X9_nextDraw_0  hc hr he (Nat.zero_le _) (Nat.zero_le _) ex)
/-! FractionLift.day(II)I -/
def lX9_dayL : List (Nat × Instr × Nat × Nat) := [(0, .iload_n 2, 1, 1), (1, .iconst 1, 1, 2), (2, .if_icmp .lt 9, 3, 5), (5, .iload_n 2, 1, 6), (6, .bipush 60, 2, 8), (8, .if_icmp .le 6, 3, 11), (11, .bipush (-3), 2, 13), (13, .ireturn, 1, 14), (14, .aload_n 0, 1, 15), (15, .getfield 26, 3, 18), (18, .getfield 159, 3, 21), (21, .istore_n 3, 1, 22), (22, .iload_n 3, 1, 23), (23, .iconst 1, 1, 24), (24, .if_icmp .ge 6, 3, 27), (27, .bipush (-5), 2, 29), (29, .ireturn, 1, 30), (30, .iload_n 1, 1, 31), (31, .istore 4, 2, 33), (33, .iconst 0, 1, 34), (34, .istore 5, 2, 36), (36, .iconst 0, 1, 37), (37, .istore 6, 2, 39), (39, .iload 6, 2, 41), (41, .iload_n 2, 1, 42), (42, .if_icmp .ge 74, 3, 45), (45, .iload 4, 2, 47), (47, .invokestatic 162, 3, 50), (50, .istore 4, 2, 52), (52, .iload 4, 2, 54), (54, .bipush 16, 2, 56), (56, .iushr, 1, 57), (57, .iload_n 3, 1, 58), (58, .irem, 1, 59), (59, .istore 7, 2, 61), (61, .iload 4, 2, 63), (63, .invokestatic 162, 3, 66), (66, .istore 4, 2, 68), (68, .iload 4, 2, 70), (70, .bipush 16, 2, 72), (72, .iushr, 1, 73), (73, .bipush 10, 2, 75), (75, .irem, 1, 76), (76, .aload_n 0, 1, 77), (77, .getfield 26, 3, 80), (80, .getfield 165, 3, 83), (83, .if_icmp .ge 7, 3, 86), (86, .iconst 1, 1, 87), (87, .goto 4, 3, 90), (90, .iconst 0, 1, 91), (91, .istore 8, 2, 93), (93, .iload 8, 2, 95), (95, .ifCond .ne 15, 3, 98), (98, .aload_n 0, 1, 99), (99, .iload 7, 2, 101), (101, .invokevirtual 147, 3, 104), (104, .ifCond .ne 6, 3, 107), (107, .iinc 5 1, 3, 110), (110, .iinc 6 1, 3, 113), (113, .goto (-74), 3, 116), (116, .iload 5, 2, 118), (118, .ireturn, 1, 119)]
set_option maxRecDepth 20000 in
theorem dX9_day : dcL cX9_day lX9_dayL = true := by decide +kernel
def b_X9_day_110 (F : Nat) (self23 : PH → Nat → Int32 → Int32 → Int32 → Int32 → Int32 → Option (Int32 × PH)) (h : PH) (v0 : Nat) (v2 : Int32) (v3 : Int32) (v4 : Int32) (v5 : Int32) (v6 : Int32) : Option (Int32 × PH) := bindv (v6 + (1)) fun x1 => (self23 h v0 v2 v3 v4 v5 x1)
set_option maxRecDepth 20000 in
theorem t_X9_day_110 {M : MV} {X : XT} {F : Nat} {self23 : PH → Nat → Int32 → Int32 → Int32 → Int32 → Int32 → Option (Int32 × PH)} {h hz : PH} {r : Int32} {ce sl mc ms : Nat} {v0 : Nat} {v2 : Int32} {v3 : Int32} {v4 : Int32} {v5 : Int32} {v6 : Int32} (hc : Cx M X RX9 cX9_day) (hr : Rx M 6 350 mc ms 9) (he : Ex M X (some .int) "day" (some (.int r)) hz mc ms) (hm : ce ≤ mc) (hs : sl ≤ ms) (ih23 : ∀ (h : PH) (v0 : Nat) (v2 : Int32) (v3 : Int32) (v4 : Int32) (v5 : Int32) (v6 : Int32), self23 h v0 v2 v3 v4 v5 v6 = some (r, hz) → GG M X h ce sl 39 [(0, .ref (X.1 + v0)), (2, .int v2), (3, .int v3), (4, .int v4), (5, .int v5), (6, .int v6)] []) (hf : b_X9_day_110 F self23 h v0 v2 v3 v4 v5 v6 = some (r, hz)) : GG M X h ce sl 110 [(0, .ref (X.1 + v0)), (2, .int v2), (3, .int v3), (4, .int v4), (5, .int v5), (6, .int v6)] [] := by
  unfold b_X9_day_110 at hf
  refine obv hf fun x1 e_x1 hf => ?_
  refine r_iinc 5 [(6, .int x1), (0, .ref (X.1 + v0)), (2, .int v2), (3, .int v3), (4, .int v4), (5, .int v5)] hc hr (dc_at dX9_day 58 rfl) rfl (by rw [e_x1]; rfl) (by decide) rfl ?_
  refine r_goto (tgt := 39) hc (dc_at dX9_day 59 rfl) (by decide) ?_
  exact gg_sub [1, 2, 3, 4, 5, 0] rfl (ih23 _ _ _ _ _ _ _ hf)
def b_X9_day_91 (F : Nat) (self23 : PH → Nat → Int32 → Int32 → Int32 → Int32 → Int32 → Option (Int32 × PH)) (h : PH) (v0 : Nat) (v2 : Int32) (v3 : Int32) (v4 : Int32) (v5 : Int32) (v6 : Int32) (v7 : Int32) (s0 : Int32) : Option (Int32 × PH) := if s0 = 0 then (cO 9 h v0 (bind2 (m_X9_pressOne F h v0 v7) fun x1 h2 => (if x1 = 0 then (bindv (v5 + (1)) fun x3 => (b_X9_day_110 F self23 h2 v0 v2 v3 v4 x3 v6)) else (b_X9_day_110 F self23 h2 v0 v2 v3 v4 v5 v6)))) else (b_X9_day_110 F self23 h v0 v2 v3 v4 v5 v6)
set_option maxRecDepth 20000 in
theorem t_X9_day_91 {M : MV} {X : XT} {F : Nat} {self23 : PH → Nat → Int32 → Int32 → Int32 → Int32 → Int32 → Option (Int32 × PH)} {h hz : PH} {r : Int32} {ce sl mc ms : Nat} {v0 : Nat} {v2 : Int32} {v3 : Int32} {v4 : Int32} {v5 : Int32} {v6 : Int32} {v7 : Int32} {s0 : Int32} (hc : Cx M X RX9 cX9_day) (hr : Rx M 6 350 mc ms 9) (he : Ex M X (some .int) "day" (some (.int r)) hz mc ms) (hm : ce ≤ mc) (hs : sl ≤ ms) (ih23 : ∀ (h : PH) (v0 : Nat) (v2 : Int32) (v3 : Int32) (v4 : Int32) (v5 : Int32) (v6 : Int32), self23 h v0 v2 v3 v4 v5 v6 = some (r, hz) → GG M X h ce sl 39 [(0, .ref (X.1 + v0)), (2, .int v2), (3, .int v3), (4, .int v4), (5, .int v5), (6, .int v6)] []) (hf : b_X9_day_91 F self23 h v0 v2 v3 v4 v5 v6 v7 s0 = some (r, hz)) : GG M X h ce sl 91 [(0, .ref (X.1 + v0)), (2, .int v2), (3, .int v3), (4, .int v4), (5, .int v5), (6, .int v6), (7, .int v7)] [.int s0] := by
  unfold b_X9_day_91 at hf
  refine r_istore [(8, .int s0), (0, .ref (X.1 + v0)), (2, .int v2), (3, .int v3), (4, .int v4), (5, .int v5), (6, .int v6), (7, .int v7)] hc hr (dc_at dX9_day 50 rfl) (by decide) rfl ?_
  refine r_iload hc 0 (dc_at dX9_day 51 rfl) rfl ?_
  refine r_if_ne (tgt := 110) hc (dc_at dX9_day 52 rfl) (by decide) hf (fun hf => ?_) (fun hf => ?_)
  · exact gg_sub [1, 2, 3, 4, 5, 6] rfl (t_X9_day_110 hc hr he hm hs ih23 hf)
  · refine r_aload_n hc 1 (dc_at dX9_day 53 rfl) rfl ?_
    refine r_iload hc 7 (dc_at dX9_day 54 rfl) rfl ?_
    obtain ⟨ho, hf⟩ := cO_some hf
    refine ob2 hf fun x1 h2 ex hf => ?_
    refine r_callVi (As := [.int v7]) (ci := 9) hc hr (dc_at dX9_day 55 rfl) ml_X9_147 mv_X9_pressOne vi_X9_pressOne rfl ho rfl (mt_X9_pressOne ex) (by first | exact Nat.le_of_ble_eq_true rfl | omega) (by first | exact Nat.le_of_ble_eq_true rfl | omega) (by first | exact Nat.le_of_ble_eq_true rfl | omega) hm hs ?_
    refine r_if_ne (tgt := 110) hc (dc_at dX9_day 56 rfl) (by decide) hf (fun hf => ?_) (fun hf => ?_)
    · exact gg_sub [1, 2, 3, 4, 5, 6] rfl (t_X9_day_110 hc hr he hm hs ih23 hf)
    · refine obv hf fun x3 e_x3 hf => ?_
      refine r_iinc 5 [(5, .int x3), (8, .int s0), (0, .ref (X.1 + v0)), (2, .int v2), (3, .int v3), (4, .int v4), (6, .int v6), (7, .int v7)] hc hr (dc_at dX9_day 57 rfl) rfl (by rw [e_x3]; rfl) (by decide) rfl ?_
      exact gg_sub [2, 3, 4, 5, 0, 6] rfl (t_X9_day_110 hc hr he hm hs ih23 hf)
def b_X9_day_39 (F : Nat) (self23 : PH → Nat → Int32 → Int32 → Int32 → Int32 → Int32 → Option (Int32 × PH)) (h : PH) (v0 : Nat) (v2 : Int32) (v3 : Int32) (v4 : Int32) (v5 : Int32) (v6 : Int32) : Option (Int32 × PH) := if v2 ≤ v6 then (some (v5, h)) else ((m_X9_nextDraw v4).bind fun x1 => (if v3 = 0 then none else (bindv ((remI ((ushr x1 (16 : Int32))) v3)) fun x2 => ((m_X9_nextDraw x1).bind fun x3 => (if (10 : Int32) = 0 then none else ((gR 9 4 h v0).bind fun a4 => ((gI 0 1 h a4).bind fun x5 => (if x5 ≤ ((remI ((ushr x3 (16 : Int32))) (10 : Int32))) then (b_X9_day_91 F self23 h v0 v2 v3 x3 v5 v6 x2 (0 : Int32)) else (b_X9_day_91 F self23 h v0 v2 v3 x3 v5 v6 x2 (1 : Int32))))))))))
set_option maxRecDepth 20000 in
theorem tb_X9_day_39 {M : MV} {X : XT} {F : Nat} {self23 : PH → Nat → Int32 → Int32 → Int32 → Int32 → Int32 → Option (Int32 × PH)} {h hz : PH} {r : Int32} {ce sl mc ms : Nat} {v0 : Nat} {v2 : Int32} {v3 : Int32} {v4 : Int32} {v5 : Int32} {v6 : Int32} (hc : Cx M X RX9 cX9_day) (hr : Rx M 6 350 mc ms 9) (he : Ex M X (some .int) "day" (some (.int r)) hz mc ms) (hm : ce ≤ mc) (hs : sl ≤ ms) (ih23 : ∀ (h : PH) (v0 : Nat) (v2 : Int32) (v3 : Int32) (v4 : Int32) (v5 : Int32) (v6 : Int32), self23 h v0 v2 v3 v4 v5 v6 = some (r, hz) → GG M X h ce sl 39 [(0, .ref (X.1 + v0)), (2, .int v2), (3, .int v3), (4, .int v4), (5, .int v5), (6, .int v6)] []) (hf : b_X9_day_39 F self23 h v0 v2 v3 v4 v5 v6 = some (r, hz)) : GG M X h ce sl 39 [(0, .ref (X.1 + v0)), (2, .int v2), (3, .int v3), (4, .int v4), (5, .int v5), (6, .int v6)] [] := by
  unfold b_X9_day_39 at hf
  refine r_iload hc 5 (dc_at dX9_day 23 rfl) rfl ?_
  refine r_iload_n hc 1 (dc_at dX9_day 24 rfl) rfl ?_
  refine r_icmp_ge (tgt := 116) hc (dc_at dX9_day 25 rfl) (by decide) hf (fun hf => ?_) (fun hf => ?_)
  · refine r_iload hc 4 (dc_at dX9_day 60 rfl) rfl ?_
    exact r_iret hc he (hm) (hs) (dc_at dX9_day 61 rfl) hf
  · refine r_iload hc 3 (dc_at dX9_day 26 rfl) rfl ?_
    refine ob hf fun x1 ex hf => ?_
    refine r_callSi (As := [.int v4]) hc hr (dc_at dX9_day 27 rfl) ml_X9_162 mv_X9_nextDraw st_X9_nextDraw rfl (mt_X9_nextDraw ex) (by first | exact Nat.le_of_ble_eq_true rfl | omega) (by first | exact Nat.le_of_ble_eq_true rfl | omega) (by first | exact Nat.le_of_ble_eq_true rfl | omega) hm hs ?_
    refine r_istore [(4, .int x1), (0, .ref (X.1 + v0)), (2, .int v2), (3, .int v3), (5, .int v5), (6, .int v6)] hc hr (dc_at dX9_day 28 rfl) (by decide) rfl ?_
    refine r_iload hc 0 (dc_at dX9_day 29 rfl) rfl ?_
    refine r_bipush (16 : Int32) hc (dc_at dX9_day 30 rfl) (by decide) ?_
    refine r_iushr hc (dc_at dX9_day 31 rfl) ?_
    refine r_iload_n hc 3 (dc_at dX9_day 32 rfl) rfl ?_
    refine r_irem hc (dc_at dX9_day 33 rfl) hf (fun hf => ?_)
    refine r_nm (mk := Value.int) hf fun x2 hf => ?_
    refine r_istore [(7, .int x2), (4, .int x1), (0, .ref (X.1 + v0)), (2, .int v2), (3, .int v3), (5, .int v5), (6, .int v6)] hc hr (dc_at dX9_day 34 rfl) (by decide) rfl ?_
    refine r_iload hc 1 (dc_at dX9_day 35 rfl) rfl ?_
    refine ob hf fun x3 ex hf => ?_
    refine r_callSi (As := [.int x1]) hc hr (dc_at dX9_day 36 rfl) ml_X9_162 mv_X9_nextDraw st_X9_nextDraw rfl (mt_X9_nextDraw ex) (by first | exact Nat.le_of_ble_eq_true rfl | omega) (by first | exact Nat.le_of_ble_eq_true rfl | omega) (by first | exact Nat.le_of_ble_eq_true rfl | omega) hm hs ?_
    refine r_istore [(4, .int x3), (7, .int x2), (0, .ref (X.1 + v0)), (2, .int v2), (3, .int v3), (5, .int v5), (6, .int v6)] hc hr (dc_at dX9_day 37 rfl) (by decide) rfl ?_
    refine r_iload hc 0 (dc_at dX9_day 38 rfl) rfl ?_
    refine r_bipush (16 : Int32) hc (dc_at dX9_day 39 rfl) (by decide) ?_
    refine r_iushr hc (dc_at dX9_day 40 rfl) ?_
    refine r_bipush (10 : Int32) hc (dc_at dX9_day 41 rfl) (by decide) ?_
    refine r_irem hc (dc_at dX9_day 42 rfl) hf (fun hf => ?_)
    refine r_aload_n hc 2 (dc_at dX9_day 43 rfl) rfl ?_
    refine r_getR hc (dc_at dX9_day 44 rfl) fl_X9_26 hf fun a4 hf => ?_
    refine r_getI hc (dc_at dX9_day 45 rfl) fl_X9_165 hf fun x5 hf => ?_
    refine r_icmp_ge (tgt := 90) hc (dc_at dX9_day 46 rfl) (by decide) hf (fun hf => ?_) (fun hf => ?_)
    · refine r_iconst (0 : Int32) hc (dc_at dX9_day 49 rfl) (by decide) ?_
      exact gg_sub [2, 3, 4, 0, 5, 6, 1] rfl (t_X9_day_91 hc hr he hm hs ih23 hf)
    · refine r_iconst (1 : Int32) hc (dc_at dX9_day 47 rfl) (by decide) ?_
      refine r_goto (tgt := 91) hc (dc_at dX9_day 48 rfl) (by decide) ?_
      exact gg_sub [2, 3, 4, 0, 5, 6, 1] rfl (t_X9_day_91 hc hr he hm hs ih23 hf)
def l_X9_day_39 (F : Nat) : Nat → PH → Nat → Int32 → Int32 → Int32 → Int32 → Int32 → Option (Int32 × PH)
  | 0 => fun _ _ _ _ _ _ _ => none
  | n + 1 => fun h v0 v2 v3 v4 v5 v6 => b_X9_day_39 F (l_X9_day_39 F n) h v0 v2 v3 v4 v5 v6
theorem tl_X9_day_39 {M : MV} {X : XT} {F : Nat} {hz : PH} {r : Int32} {ce sl mc ms : Nat} (hc : Cx M X RX9 cX9_day) (hr : Rx M 6 350 mc ms 9) (he : Ex M X (some .int) "day" (some (.int r)) hz mc ms) (hm : ce ≤ mc) (hs : sl ≤ ms) (n : Nat) : ∀ (h : PH) (v0 : Nat) (v2 : Int32) (v3 : Int32) (v4 : Int32) (v5 : Int32) (v6 : Int32), l_X9_day_39 F n h v0 v2 v3 v4 v5 v6 = some (r, hz) → GG M X h ce sl 39 [(0, .ref (X.1 + v0)), (2, .int v2), (3, .int v3), (4, .int v4), (5, .int v5), (6, .int v6)] [] := by
  induction n with
  | zero => intro h v0 v2 v3 v4 v5 v6 hf; cases hf
  | succ n ih => intro h v0 v2 v3 v4 v5 v6 hf; exact tb_X9_day_39 (F := F) hc hr he hm hs  ih hf
def b_X9_day_0 (F : Nat) (h : PH) (v0 : Nat) (v1 : Int32) (v2 : Int32) : Option (Int32 × PH) := if v2 < (1 : Int32) then (some ((-3 : Int32), h)) else (if v2 ≤ (60 : Int32) then ((gR 9 4 h v0).bind fun a1 => ((gI 0 6 h a1).bind fun x2 => (if (1 : Int32) ≤ x2 then (l_X9_day_39 F F h v0 v2 x2 v1 (0 : Int32) (0 : Int32)) else (some ((-5 : Int32), h))))) else (some ((-3 : Int32), h)))
set_option maxRecDepth 20000 in
theorem t_X9_day_0 {M : MV} {X : XT} {F : Nat} {h hz : PH} {r : Int32} {ce sl mc ms : Nat} {v0 : Nat} {v1 : Int32} {v2 : Int32} (hc : Cx M X RX9 cX9_day) (hr : Rx M 6 350 mc ms 9) (he : Ex M X (some .int) "day" (some (.int r)) hz mc ms) (hm : ce ≤ mc) (hs : sl ≤ ms) (hf : b_X9_day_0 F h v0 v1 v2 = some (r, hz)) : GG M X h ce sl 0 [(0, .ref (X.1 + v0)), (1, .int v1), (2, .int v2)] [] := by
  unfold b_X9_day_0 at hf
  refine r_iload_n hc 2 (dc_at dX9_day 0 rfl) rfl ?_
  refine r_iconst (1 : Int32) hc (dc_at dX9_day 1 rfl) (by decide) ?_
  refine r_icmp_lt (tgt := 11) hc (dc_at dX9_day 2 rfl) (by decide) hf (fun hf => ?_) (fun hf => ?_)
  · refine r_bipush (-3 : Int32) hc (dc_at dX9_day 6 rfl) (by decide) ?_
    exact r_iret hc he (hm) (hs) (dc_at dX9_day 7 rfl) hf
  · refine r_iload_n hc 2 (dc_at dX9_day 3 rfl) rfl ?_
    refine r_bipush (60 : Int32) hc (dc_at dX9_day 4 rfl) (by decide) ?_
    refine r_icmp_le (tgt := 14) hc (dc_at dX9_day 5 rfl) (by decide) hf (fun hf => ?_) (fun hf => ?_)
    · refine r_aload_n hc 0 (dc_at dX9_day 8 rfl) rfl ?_
      refine r_getR hc (dc_at dX9_day 9 rfl) fl_X9_26 hf fun a1 hf => ?_
      refine r_getI hc (dc_at dX9_day 10 rfl) fl_X9_159 hf fun x2 hf => ?_
      refine r_istore_n [(3, .int x2), (0, .ref (X.1 + v0)), (1, .int v1), (2, .int v2)] hc hr (dc_at dX9_day 11 rfl) (by decide) rfl ?_
      refine r_iload_n hc 0 (dc_at dX9_day 12 rfl) rfl ?_
      refine r_iconst (1 : Int32) hc (dc_at dX9_day 13 rfl) (by decide) ?_
      refine r_icmp_ge (tgt := 30) hc (dc_at dX9_day 14 rfl) (by decide) hf (fun hf => ?_) (fun hf => ?_)
      · refine r_iload_n hc 2 (dc_at dX9_day 17 rfl) rfl ?_
        refine r_istore [(4, .int v1), (3, .int x2), (0, .ref (X.1 + v0)), (1, .int v1), (2, .int v2)] hc hr (dc_at dX9_day 18 rfl) (by decide) rfl ?_
        refine r_iconst (0 : Int32) hc (dc_at dX9_day 19 rfl) (by decide) ?_
        refine r_istore [(5, .int ((0 : Int32))), (4, .int v1), (3, .int x2), (0, .ref (X.1 + v0)), (1, .int v1), (2, .int v2)] hc hr (dc_at dX9_day 20 rfl) (by decide) rfl ?_
        refine r_iconst (0 : Int32) hc (dc_at dX9_day 21 rfl) (by decide) ?_
        refine r_istore [(6, .int ((0 : Int32))), (5, .int ((0 : Int32))), (4, .int v1), (3, .int x2), (0, .ref (X.1 + v0)), (1, .int v1), (2, .int v2)] hc hr (dc_at dX9_day 22 rfl) (by decide) rfl ?_
        exact gg_sub [4, 6, 3, 2, 1, 0] rfl (tl_X9_day_39 hc hr he hm hs  F _ _ _ _ _ _ _ hf)
      · refine r_bipush (-5 : Int32) hc (dc_at dX9_day 15 rfl) (by decide) ?_
        exact r_iret hc he (hm) (hs) (dc_at dX9_day 16 rfl) hf
    · refine r_bipush (-3 : Int32) hc (dc_at dX9_day 6 rfl) (by decide) ?_
      exact r_iret hc he (hm) (hs) (dc_at dX9_day 7 rfl) hf
def m_X9_day (F : Nat) (h : PH) (p0 : Nat) (p1 : Int32) (p2 : Int32) : Option (Int32 × PH) := b_X9_day_0 F h p0 p1 p2
theorem mt_X9_day {l : Launch} {X : XT} {F : Nat} {h hz : PH} {p0 : Nat} {p1 : Int32} {p2 : Int32} {r : Int32} (ex : m_X9_day F h p0 p1 p2 = some (r, hz)) : MT l X yX9_day cX9_day 9 (some .int) 6 350 0 0 [.ref (X.1 + p0), .int p1, .int p2] h (some (.int r)) hz := MT.of (by decide) (Nat.le_of_ble_eq_true rfl) fun M hl hc hr he => by
  subst hl
  exact gg_sub [0, 1, 2] rfl (t_X9_day_0  hc hr he (Nat.zero_le _) (Nat.zero_le _) ex)
/-! FractionLift.isStuff(I)Z -/
def lX9_isStuffL : List (Nat × Instr × Nat × Nat) := [(0, .iload_n 0, 1, 1), (1, .ifCond .lt 12, 3, 4), (4, .iload_n 0, 1, 5), (5, .iconst 3, 1, 6), (6, .if_icmp .ge 7, 3, 9), (9, .iconst 1, 1, 10), (10, .goto 4, 3, 13), (13, .iconst 0, 1, 14), (14, .ireturn, 1, 15)]
set_option maxRecDepth 20000 in
theorem dX9_isStuff : dcL cX9_isStuff lX9_isStuffL = true := by decide +kernel
def b_X9_isStuff_0 (v0 : Int32) : Option Int32 := if v0 < 0 then (rZP (0 : Int32)) else (if (3 : Int32) ≤ v0 then (rZP (0 : Int32)) else (rZP (1 : Int32)))
set_option maxRecDepth 20000 in
theorem t_X9_isStuff_0 {M : MV} {X : XT} {h : PH} {r : Int32} {ce sl mc ms : Nat} {v0 : Int32} (hc : Cx M X RX9 cX9_isStuff) (hr : Rx M 1 60 mc ms 1) (he : Ex M X (some .boolean) "isStuff" (some (.int r)) h mc ms) (hm : ce ≤ mc) (hs : sl ≤ ms) (hf : b_X9_isStuff_0 v0 = some r) : GG M X h ce sl 0 [(0, .int v0)] [] := by
  unfold b_X9_isStuff_0 at hf
  refine r_iload_n hc 0 (dc_at dX9_isStuff 0 rfl) rfl ?_
  refine r_if_lt (tgt := 13) hc (dc_at dX9_isStuff 1 rfl) (by decide) hf (fun hf => ?_) (fun hf => ?_)
  · refine r_iconst (0 : Int32) hc (dc_at dX9_isStuff 7 rfl) (by decide) ?_
    exact r_zretP hc he (hm) (hs) (dc_at dX9_isStuff 8 rfl) hf
  · refine r_iload_n hc 0 (dc_at dX9_isStuff 2 rfl) rfl ?_
    refine r_iconst (3 : Int32) hc (dc_at dX9_isStuff 3 rfl) (by decide) ?_
    refine r_icmp_ge (tgt := 13) hc (dc_at dX9_isStuff 4 rfl) (by decide) hf (fun hf => ?_) (fun hf => ?_)
    · refine r_iconst (0 : Int32) hc (dc_at dX9_isStuff 7 rfl) (by decide) ?_
      exact r_zretP hc he (hm) (hs) (dc_at dX9_isStuff 8 rfl) hf
    · refine r_iconst (1 : Int32) hc (dc_at dX9_isStuff 5 rfl) (by decide) ?_
      refine r_goto (tgt := 14) hc (dc_at dX9_isStuff 6 rfl) (by decide) ?_
      exact r_zretP hc he (hm) (hs) (dc_at dX9_isStuff 8 rfl) hf
def m_X9_isStuff (p0 : Int32) : Option Int32 := b_X9_isStuff_0 p0
theorem mt_X9_isStuff {l : Launch} {X : XT} {h : PH} {p0 : Int32} {r : Int32} (ex : m_X9_isStuff p0 = some r) : MT l X yX9_isStuff cX9_isStuff 1 (some .boolean) 1 60 0 0 [.int p0] h (some (.int r)) h := MT.of (by decide) (Nat.le_of_ble_eq_true rfl) fun M hl hc hr he => by
  subst hl
  exact gg_sub [0] rfl (t_X9_isStuff_0  hc hr he (Nat.zero_le _) (Nat.zero_le _) ex)
/-! FractionLift.has(IIII)J -/
def lX9_hasL : List (Nat × Instr × Nat × Nat) := [(0, .iload_n 1, 1, 1), (1, .invokestatic 168, 3, 4), (4, .ifCond .eq 14, 3, 7), (7, .iload 4, 2, 9), (9, .ifCond .lt 9, 3, 12), (12, .iload 4, 2, 14), (14, .iconst 1, 1, 15), (15, .if_icmp .le 7, 3, 18), (18, .ldc2_w 172, 3, 21), (21, .lreturn, 1, 22), (22, .aload_n 0, 1, 23), (23, .iload_n 2, 1, 24), (24, .iload_n 3, 1, 25), (25, .invokevirtual 132, 3, 28), (28, .ifCond .ne 7, 3, 31), (31, .ldc2_w 174, 3, 34), (34, .lreturn, 1, 35), (35, .aload_n 0, 1, 36), (36, .getfield 26, 3, 39), (39, .iload_n 1, 1, 40), (40, .aload_n 0, 1, 41), (41, .getfield 59, 3, 44), (44, .getfield 136, 3, 47), (47, .aload_n 0, 1, 48), (48, .getfield 59, 3, 51), (51, .getfield 140, 3, 54), (54, .aload_n 0, 1, 55), (55, .getfield 63, 3, 58), (58, .invokevirtual 176, 3, 61), (61, .aload_n 0, 1, 62), (62, .getfield 63, 3, 65), (65, .iload 4, 2, 67), (67, .invokevirtual 180, 3, 70), (70, .lreturn, 1, 71)]
set_option maxRecDepth 20000 in
theorem dX9_has : dcL cX9_has lX9_hasL = true := by decide +kernel
def b_X9_has_0 (F : Nat) (h : PH) (v0 : Nat) (v1 : Int32) (v2 : Int32) (v3 : Int32) (v4 : Int32) : Option (Int64 × PH) := (m_X9_isStuff v1).bind fun x1 => (if x1 = 0 then (some ((-2 : Int64), h)) else (if v4 < 0 then (some ((-2 : Int64), h)) else (if v4 ≤ (1 : Int32) then (cO 9 h v0 (bind2 (m_X9_asksFloor F h v0 v2 v3) fun x2 h3 => (if x2 = 0 then (some ((-3 : Int64), h3)) else ((gR 9 4 h3 v0).bind fun a4 => ((gR 9 12 h3 v0).bind fun a5 => ((gL 2 0 h3 a5).bind fun x6 => ((gR 9 12 h3 v0).bind fun a7 => ((gL 2 1 h3 a7).bind fun x8 => ((gR 9 13 h3 v0).bind fun a9 => (cO 0 h3 a4 (bind2 (m_X0_stuffAt F h3 a4 v1 x6 x8 a9) fun _ h11 => ((gR 9 13 h11 v0).bind fun a12 => (cO 2 h11 a12 ((m_X2_part h11 a12 v4).bind fun x13 => (some (x13, h11)))))))))))))))) else (some ((-2 : Int64), h)))))
set_option maxRecDepth 20000 in
theorem t_X9_has_0 {M : MV} {X : XT} {F : Nat} {h hz : PH} {r : Int64} {ce sl mc ms : Nat} {v0 : Nat} {v1 : Int32} {v2 : Int32} {v3 : Int32} {v4 : Int32} (hc : Cx M X RX9 cX9_has) (hr : Rx M 4 234 mc ms 5) (he : Ex M X (some .long) "has" (some (.long r)) hz mc ms) (hm : ce ≤ mc) (hs : sl ≤ ms) (hf : b_X9_has_0 F h v0 v1 v2 v3 v4 = some (r, hz)) : GG M X h ce sl 0 [(0, .ref (X.1 + v0)), (1, .int v1), (2, .int v2), (3, .int v3), (4, .int v4)] [] := by
  unfold b_X9_has_0 at hf
  refine r_iload_n hc 1 (dc_at dX9_has 0 rfl) rfl ?_
  refine ob hf fun x1 ex hf => ?_
  refine r_callSi (As := [.int v1]) hc hr (dc_at dX9_has 1 rfl) ml_X9_168 mv_X9_isStuff st_X9_isStuff rfl (mt_X9_isStuff ex) (by first | exact Nat.le_of_ble_eq_true rfl | omega) (by first | exact Nat.le_of_ble_eq_true rfl | omega) (by first | exact Nat.le_of_ble_eq_true rfl | omega) hm hs ?_
  refine r_if_eq (tgt := 18) hc (dc_at dX9_has 2 rfl) (by decide) hf (fun hf => ?_) (fun hf => ?_)
  · refine r_ldc2 hc (dc_at dX9_has 8 rfl) cl2_X9_172 ?_
    exact r_lret hc he (hm) (hs) (dc_at dX9_has 9 rfl) hf
  · refine r_iload hc 4 (dc_at dX9_has 3 rfl) rfl ?_
    refine r_if_lt (tgt := 18) hc (dc_at dX9_has 4 rfl) (by decide) hf (fun hf => ?_) (fun hf => ?_)
    · refine r_ldc2 hc (dc_at dX9_has 8 rfl) cl2_X9_172 ?_
      exact r_lret hc he (hm) (hs) (dc_at dX9_has 9 rfl) hf
    · refine r_iload hc 4 (dc_at dX9_has 5 rfl) rfl ?_
      refine r_iconst (1 : Int32) hc (dc_at dX9_has 6 rfl) (by decide) ?_
      refine r_icmp_le (tgt := 22) hc (dc_at dX9_has 7 rfl) (by decide) hf (fun hf => ?_) (fun hf => ?_)
      · refine r_aload_n hc 0 (dc_at dX9_has 10 rfl) rfl ?_
        refine r_iload_n hc 2 (dc_at dX9_has 11 rfl) rfl ?_
        refine r_iload_n hc 3 (dc_at dX9_has 12 rfl) rfl ?_
        obtain ⟨ho, hf⟩ := cO_some hf
        refine ob2 hf fun x2 h3 ex hf => ?_
        refine r_callVi (As := [.int v2, .int v3]) (ci := 9) hc hr (dc_at dX9_has 13 rfl) ml_X9_132 mv_X9_asksFloor vi_X9_asksFloor rfl ho rfl (mt_X9_asksFloor ex) (by first | exact Nat.le_of_ble_eq_true rfl | omega) (by first | exact Nat.le_of_ble_eq_true rfl | omega) (by first | exact Nat.le_of_ble_eq_true rfl | omega) hm hs ?_
        refine r_if_ne (tgt := 35) hc (dc_at dX9_has 14 rfl) (by decide) hf (fun hf => ?_) (fun hf => ?_)
        · refine r_aload_n hc 0 (dc_at dX9_has 17 rfl) rfl ?_
          refine r_getR hc (dc_at dX9_has 18 rfl) fl_X9_26 hf fun a4 hf => ?_
          refine r_iload_n hc 1 (dc_at dX9_has 19 rfl) rfl ?_
          refine r_aload_n hc 0 (dc_at dX9_has 20 rfl) rfl ?_
          refine r_getR hc (dc_at dX9_has 21 rfl) fl_X9_59 hf fun a5 hf => ?_
          refine r_getL hc (dc_at dX9_has 22 rfl) fl_X9_136 hf fun x6 hf => ?_
          refine r_aload_n hc 0 (dc_at dX9_has 23 rfl) rfl ?_
          refine r_getR hc (dc_at dX9_has 24 rfl) fl_X9_59 hf fun a7 hf => ?_
          refine r_getL hc (dc_at dX9_has 25 rfl) fl_X9_140 hf fun x8 hf => ?_
          refine r_aload_n hc 0 (dc_at dX9_has 26 rfl) rfl ?_
          refine r_getR hc (dc_at dX9_has 27 rfl) fl_X9_63 hf fun a9 hf => ?_
          obtain ⟨ho, hf⟩ := cO_some hf
          refine ob2 hf fun u h11 ex hf => ?_
          refine r_callVv (As := [.int v1, .long x6, .long x8, .ref (X.1 + a9)]) (ci := 0) hc hr (dc_at dX9_has 28 rfl) ml_X9_176 mv_X0_stuffAt vi_X0_stuffAt rfl ho rfl (mt_X0_stuffAt ex) (by first | exact Nat.le_of_ble_eq_true rfl | omega) (by first | exact Nat.le_of_ble_eq_true rfl | omega) (by first | exact Nat.le_of_ble_eq_true rfl | omega) hm hs ?_
          refine r_aload_n hc 0 (dc_at dX9_has 29 rfl) rfl ?_
          refine r_getR hc (dc_at dX9_has 30 rfl) fl_X9_63 hf fun a12 hf => ?_
          refine r_iload hc 4 (dc_at dX9_has 31 rfl) rfl ?_
          obtain ⟨ho, hf⟩ := cO_some hf
          refine ob hf fun x13 ex hf => ?_
          refine r_callVl (As := [.int v4]) (ci := 2) hc hr (dc_at dX9_has 32 rfl) ml_X9_180 mv_X2_part vi_X2_part rfl ho rfl (mt_X2_part ex) (by first | exact Nat.le_of_ble_eq_true rfl | omega) (by first | exact Nat.le_of_ble_eq_true rfl | omega) (by first | exact Nat.le_of_ble_eq_true rfl | omega) hm hs ?_
          exact r_lret hc he (hm) (hs) (dc_at dX9_has 33 rfl) hf
        · refine r_ldc2 hc (dc_at dX9_has 15 rfl) cl2_X9_174 ?_
          exact r_lret hc he (hm) (hs) (dc_at dX9_has 16 rfl) hf
      · refine r_ldc2 hc (dc_at dX9_has 8 rfl) cl2_X9_172 ?_
        exact r_lret hc he (hm) (hs) (dc_at dX9_has 9 rfl) hf
def m_X9_has (F : Nat) (h : PH) (p0 : Nat) (p1 : Int32) (p2 : Int32) (p3 : Int32) (p4 : Int32) : Option (Int64 × PH) := b_X9_has_0 F h p0 p1 p2 p3 p4
theorem mt_X9_has {l : Launch} {X : XT} {F : Nat} {h hz : PH} {p0 : Nat} {p1 : Int32} {p2 : Int32} {p3 : Int32} {p4 : Int32} {r : Int64} (ex : m_X9_has F h p0 p1 p2 p3 p4 = some (r, hz)) : MT l X yX9_has cX9_has 5 (some .long) 4 234 0 0 [.ref (X.1 + p0), .int p1, .int p2, .int p3, .int p4] h (some (.long r)) hz := MT.of (by decide) (Nat.le_of_ble_eq_true rfl) fun M hl hc hr he => by
  subst hl
  exact gg_sub [0, 1, 2, 3, 4] rfl (t_X9_has_0  hc hr he (Nat.zero_le _) (Nat.zero_le _) ex)
/-! FractionLift.where(III)J -/
def lX9_whereL : List (Nat × Instr × Nat × Nat) := [(0, .iload_n 1, 1, 1), (1, .invokestatic 168, 3, 4), (4, .ifCond .eq 12, 3, 7), (7, .iload_n 3, 1, 8), (8, .ifCond .lt 8, 3, 11), (11, .iload_n 3, 1, 12), (12, .iconst 1, 1, 13), (13, .if_icmp .le 7, 3, 16), (16, .ldc2_w 172, 3, 19), (19, .lreturn, 1, 20), (20, .iload_n 2, 1, 21), (21, .ifCond .lt 9, 3, 24), (24, .iload_n 2, 1, 25), (25, .bipush 99, 2, 27), (27, .if_icmp .le 7, 3, 30), (30, .ldc2_w 174, 3, 33), (33, .lreturn, 1, 34), (34, .aload_n 0, 1, 35), (35, .getfield 26, 3, 38), (38, .iload_n 1, 1, 39), (39, .iconst (-1), 1, 40), (40, .iload_n 2, 1, 41), (41, .aload_n 0, 1, 42), (42, .getfield 63, 3, 45), (45, .invokevirtual 184, 3, 48), (48, .ifCond .eq 14, 3, 51), (51, .aload_n 0, 1, 52), (52, .getfield 63, 3, 55), (55, .iload_n 3, 1, 56), (56, .invokevirtual 180, 3, 59), (59, .goto 6, 3, 62), (62, .ldc2_w 188, 3, 65), (65, .lreturn, 1, 66)]
set_option maxRecDepth 20000 in
theorem dX9_where : dcL cX9_where lX9_whereL = true := by decide +kernel
def b_X9_where_0 (F : Nat) (h : PH) (v0 : Nat) (v1 : Int32) (v2 : Int32) (v3 : Int32) : Option (Int64 × PH) := (m_X9_isStuff v1).bind fun x1 => (if x1 = 0 then (some ((-2 : Int64), h)) else (if v3 < 0 then (some ((-2 : Int64), h)) else (if v3 ≤ (1 : Int32) then (if v2 < 0 then (some ((-3 : Int64), h)) else (if v2 ≤ (99 : Int32) then ((gR 9 4 h v0).bind fun a2 => ((gR 9 13 h v0).bind fun a3 => (cO 0 h a2 (bind2 (m_X0_leastLevel F h a2 v1 (-1 : Int32) v2 a3) fun x4 h5 => (if x4 = 0 then (some ((-1 : Int64), h5)) else ((gR 9 13 h5 v0).bind fun a6 => (cO 2 h5 a6 ((m_X2_part h5 a6 v3).bind fun x7 => (some (x7, h5)))))))))) else (some ((-3 : Int64), h)))) else (some ((-2 : Int64), h)))))
set_option maxRecDepth 20000 in
theorem t_X9_where_0 {M : MV} {X : XT} {F : Nat} {h hz : PH} {r : Int64} {ce sl mc ms : Nat} {v0 : Nat} {v1 : Int32} {v2 : Int32} {v3 : Int32} (hc : Cx M X RX9 cX9_where) (hr : Rx M 5 292 mc ms 4) (he : Ex M X (some .long) "where" (some (.long r)) hz mc ms) (hm : ce ≤ mc) (hs : sl ≤ ms) (hf : b_X9_where_0 F h v0 v1 v2 v3 = some (r, hz)) : GG M X h ce sl 0 [(0, .ref (X.1 + v0)), (1, .int v1), (2, .int v2), (3, .int v3)] [] := by
  unfold b_X9_where_0 at hf
  refine r_iload_n hc 1 (dc_at dX9_where 0 rfl) rfl ?_
  refine ob hf fun x1 ex hf => ?_
  refine r_callSi (As := [.int v1]) hc hr (dc_at dX9_where 1 rfl) ml_X9_168 mv_X9_isStuff st_X9_isStuff rfl (mt_X9_isStuff ex) (by first | exact Nat.le_of_ble_eq_true rfl | omega) (by first | exact Nat.le_of_ble_eq_true rfl | omega) (by first | exact Nat.le_of_ble_eq_true rfl | omega) hm hs ?_
  refine r_if_eq (tgt := 16) hc (dc_at dX9_where 2 rfl) (by decide) hf (fun hf => ?_) (fun hf => ?_)
  · refine r_ldc2 hc (dc_at dX9_where 8 rfl) cl2_X9_172 ?_
    exact r_lret hc he (hm) (hs) (dc_at dX9_where 9 rfl) hf
  · refine r_iload_n hc 3 (dc_at dX9_where 3 rfl) rfl ?_
    refine r_if_lt (tgt := 16) hc (dc_at dX9_where 4 rfl) (by decide) hf (fun hf => ?_) (fun hf => ?_)
    · refine r_ldc2 hc (dc_at dX9_where 8 rfl) cl2_X9_172 ?_
      exact r_lret hc he (hm) (hs) (dc_at dX9_where 9 rfl) hf
    · refine r_iload_n hc 3 (dc_at dX9_where 5 rfl) rfl ?_
      refine r_iconst (1 : Int32) hc (dc_at dX9_where 6 rfl) (by decide) ?_
      refine r_icmp_le (tgt := 20) hc (dc_at dX9_where 7 rfl) (by decide) hf (fun hf => ?_) (fun hf => ?_)
      · refine r_iload_n hc 2 (dc_at dX9_where 10 rfl) rfl ?_
        refine r_if_lt (tgt := 30) hc (dc_at dX9_where 11 rfl) (by decide) hf (fun hf => ?_) (fun hf => ?_)
        · refine r_ldc2 hc (dc_at dX9_where 15 rfl) cl2_X9_174 ?_
          exact r_lret hc he (hm) (hs) (dc_at dX9_where 16 rfl) hf
        · refine r_iload_n hc 2 (dc_at dX9_where 12 rfl) rfl ?_
          refine r_bipush (99 : Int32) hc (dc_at dX9_where 13 rfl) (by decide) ?_
          refine r_icmp_le (tgt := 34) hc (dc_at dX9_where 14 rfl) (by decide) hf (fun hf => ?_) (fun hf => ?_)
          · refine r_aload_n hc 0 (dc_at dX9_where 17 rfl) rfl ?_
            refine r_getR hc (dc_at dX9_where 18 rfl) fl_X9_26 hf fun a2 hf => ?_
            refine r_iload_n hc 1 (dc_at dX9_where 19 rfl) rfl ?_
            refine r_iconst (-1 : Int32) hc (dc_at dX9_where 20 rfl) (by decide) ?_
            refine r_iload_n hc 2 (dc_at dX9_where 21 rfl) rfl ?_
            refine r_aload_n hc 0 (dc_at dX9_where 22 rfl) rfl ?_
            refine r_getR hc (dc_at dX9_where 23 rfl) fl_X9_63 hf fun a3 hf => ?_
            obtain ⟨ho, hf⟩ := cO_some hf
            refine ob2 hf fun x4 h5 ex hf => ?_
            refine r_callVi (As := [.int v1, .int ((-1 : Int32)), .int v2, .ref (X.1 + a3)]) (ci := 0) hc hr (dc_at dX9_where 24 rfl) ml_X9_184 mv_X0_leastLevel vi_X0_leastLevel rfl ho rfl (mt_X0_leastLevel ex) (by first | exact Nat.le_of_ble_eq_true rfl | omega) (by first | exact Nat.le_of_ble_eq_true rfl | omega) (by first | exact Nat.le_of_ble_eq_true rfl | omega) hm hs ?_
            refine r_if_eq (tgt := 62) hc (dc_at dX9_where 25 rfl) (by decide) hf (fun hf => ?_) (fun hf => ?_)
            · refine r_ldc2 hc (dc_at dX9_where 31 rfl) cl2_X9_188 ?_
              exact r_lret hc he (hm) (hs) (dc_at dX9_where 32 rfl) hf
            · refine r_aload_n hc 0 (dc_at dX9_where 26 rfl) rfl ?_
              refine r_getR hc (dc_at dX9_where 27 rfl) fl_X9_63 hf fun a6 hf => ?_
              refine r_iload_n hc 3 (dc_at dX9_where 28 rfl) rfl ?_
              obtain ⟨ho, hf⟩ := cO_some hf
              refine ob hf fun x7 ex hf => ?_
              refine r_callVl (As := [.int v3]) (ci := 2) hc hr (dc_at dX9_where 29 rfl) ml_X9_180 mv_X2_part vi_X2_part rfl ho rfl (mt_X2_part ex) (by first | exact Nat.le_of_ble_eq_true rfl | omega) (by first | exact Nat.le_of_ble_eq_true rfl | omega) (by first | exact Nat.le_of_ble_eq_true rfl | omega) hm hs ?_
              refine r_goto (tgt := 65) hc (dc_at dX9_where 30 rfl) (by decide) ?_
              exact r_lret hc he (hm) (hs) (dc_at dX9_where 32 rfl) hf
          · refine r_ldc2 hc (dc_at dX9_where 15 rfl) cl2_X9_174 ?_
            exact r_lret hc he (hm) (hs) (dc_at dX9_where 16 rfl) hf
      · refine r_ldc2 hc (dc_at dX9_where 8 rfl) cl2_X9_172 ?_
        exact r_lret hc he (hm) (hs) (dc_at dX9_where 9 rfl) hf
def m_X9_where (F : Nat) (h : PH) (p0 : Nat) (p1 : Int32) (p2 : Int32) (p3 : Int32) : Option (Int64 × PH) := b_X9_where_0 F h p0 p1 p2 p3
theorem mt_X9_where {l : Launch} {X : XT} {F : Nat} {h hz : PH} {p0 : Nat} {p1 : Int32} {p2 : Int32} {p3 : Int32} {r : Int64} (ex : m_X9_where F h p0 p1 p2 p3 = some (r, hz)) : MT l X yX9_where cX9_where 4 (some .long) 5 292 0 0 [.ref (X.1 + p0), .int p1, .int p2, .int p3] h (some (.long r)) hz := MT.of (by decide) (Nat.le_of_ble_eq_true rfl) fun M hl hc hr he => by
  subst hl
  exact gg_sub [0, 1, 2, 3] rfl (t_X9_where_0  hc hr he (Nat.zero_le _) (Nat.zero_le _) ex)
/-! FractionLift.alike(III)J -/
def lX9_alikeL : List (Nat × Instr × Nat × Nat) := [(0, .iload_n 1, 1, 1), (1, .invokestatic 168, 3, 4), (4, .ifCond .eq 24, 3, 7), (7, .iload_n 2, 1, 8), (8, .invokestatic 168, 3, 11), (11, .ifCond .eq 17, 3, 14), (14, .iload_n 1, 1, 15), (15, .iload_n 2, 1, 16), (16, .if_icmp .eq 12, 3, 19), (19, .iload_n 3, 1, 20), (20, .ifCond .lt 8, 3, 23), (23, .iload_n 3, 1, 24), (24, .iconst 1, 1, 25), (25, .if_icmp .le 7, 3, 28), (28, .ldc2_w 172, 3, 31), (31, .lreturn, 1, 32), (32, .aload_n 0, 1, 33), (33, .getfield 26, 3, 36), (36, .iload_n 1, 1, 37), (37, .iload_n 2, 1, 38), (38, .iconst 0, 1, 39), (39, .aload_n 0, 1, 40), (40, .getfield 63, 3, 43), (43, .invokevirtual 184, 3, 46), (46, .ifCond .eq 14, 3, 49), (49, .aload_n 0, 1, 50), (50, .getfield 63, 3, 53), (53, .iload_n 3, 1, 54), (54, .invokevirtual 180, 3, 57), (57, .goto 6, 3, 60), (60, .ldc2_w 188, 3, 63), (63, .lreturn, 1, 64)]
set_option maxRecDepth 20000 in
theorem dX9_alike : dcL cX9_alike lX9_alikeL = true := by decide +kernel
def b_X9_alike_0 (F : Nat) (h : PH) (v0 : Nat) (v1 : Int32) (v2 : Int32) (v3 : Int32) : Option (Int64 × PH) := (m_X9_isStuff v1).bind fun x1 => (if x1 = 0 then (some ((-2 : Int64), h)) else ((m_X9_isStuff v2).bind fun x2 => (if x2 = 0 then (some ((-2 : Int64), h)) else (if v1 = v2 then (some ((-2 : Int64), h)) else (if v3 < 0 then (some ((-2 : Int64), h)) else (if v3 ≤ (1 : Int32) then ((gR 9 4 h v0).bind fun a3 => ((gR 9 13 h v0).bind fun a4 => (cO 0 h a3 (bind2 (m_X0_leastLevel F h a3 v1 v2 (0 : Int32) a4) fun x5 h6 => (if x5 = 0 then (some ((-1 : Int64), h6)) else ((gR 9 13 h6 v0).bind fun a7 => (cO 2 h6 a7 ((m_X2_part h6 a7 v3).bind fun x8 => (some (x8, h6)))))))))) else (some ((-2 : Int64), h))))))))
set_option maxRecDepth 20000 in
theorem t_X9_alike_0 {M : MV} {X : XT} {F : Nat} {h hz : PH} {r : Int64} {ce sl mc ms : Nat} {v0 : Nat} {v1 : Int32} {v2 : Int32} {v3 : Int32} (hc : Cx M X RX9 cX9_alike) (hr : Rx M 5 292 mc ms 4) (he : Ex M X (some .long) "alike" (some (.long r)) hz mc ms) (hm : ce ≤ mc) (hs : sl ≤ ms) (hf : b_X9_alike_0 F h v0 v1 v2 v3 = some (r, hz)) : GG M X h ce sl 0 [(0, .ref (X.1 + v0)), (1, .int v1), (2, .int v2), (3, .int v3)] [] := by
  unfold b_X9_alike_0 at hf
  refine r_iload_n hc 1 (dc_at dX9_alike 0 rfl) rfl ?_
  refine ob hf fun x1 ex hf => ?_
  refine r_callSi (As := [.int v1]) hc hr (dc_at dX9_alike 1 rfl) ml_X9_168 mv_X9_isStuff st_X9_isStuff rfl (mt_X9_isStuff ex) (by first | exact Nat.le_of_ble_eq_true rfl | omega) (by first | exact Nat.le_of_ble_eq_true rfl | omega) (by first | exact Nat.le_of_ble_eq_true rfl | omega) hm hs ?_
  refine r_if_eq (tgt := 28) hc (dc_at dX9_alike 2 rfl) (by decide) hf (fun hf => ?_) (fun hf => ?_)
  · refine r_ldc2 hc (dc_at dX9_alike 14 rfl) cl2_X9_172 ?_
    exact r_lret hc he (hm) (hs) (dc_at dX9_alike 15 rfl) hf
  · refine r_iload_n hc 2 (dc_at dX9_alike 3 rfl) rfl ?_
    refine ob hf fun x2 ex hf => ?_
    refine r_callSi (As := [.int v2]) hc hr (dc_at dX9_alike 4 rfl) ml_X9_168 mv_X9_isStuff st_X9_isStuff rfl (mt_X9_isStuff ex) (by first | exact Nat.le_of_ble_eq_true rfl | omega) (by first | exact Nat.le_of_ble_eq_true rfl | omega) (by first | exact Nat.le_of_ble_eq_true rfl | omega) hm hs ?_
    refine r_if_eq (tgt := 28) hc (dc_at dX9_alike 5 rfl) (by decide) hf (fun hf => ?_) (fun hf => ?_)
    · refine r_ldc2 hc (dc_at dX9_alike 14 rfl) cl2_X9_172 ?_
      exact r_lret hc he (hm) (hs) (dc_at dX9_alike 15 rfl) hf
    · refine r_iload_n hc 1 (dc_at dX9_alike 6 rfl) rfl ?_
      refine r_iload_n hc 2 (dc_at dX9_alike 7 rfl) rfl ?_
      refine r_icmp_eq (tgt := 28) hc (dc_at dX9_alike 8 rfl) (by decide) hf (fun hf => ?_) (fun hf => ?_)
      · refine r_ldc2 hc (dc_at dX9_alike 14 rfl) cl2_X9_172 ?_
        exact r_lret hc he (hm) (hs) (dc_at dX9_alike 15 rfl) hf
      · refine r_iload_n hc 3 (dc_at dX9_alike 9 rfl) rfl ?_
        refine r_if_lt (tgt := 28) hc (dc_at dX9_alike 10 rfl) (by decide) hf (fun hf => ?_) (fun hf => ?_)
        · refine r_ldc2 hc (dc_at dX9_alike 14 rfl) cl2_X9_172 ?_
          exact r_lret hc he (hm) (hs) (dc_at dX9_alike 15 rfl) hf
        · refine r_iload_n hc 3 (dc_at dX9_alike 11 rfl) rfl ?_
          refine r_iconst (1 : Int32) hc (dc_at dX9_alike 12 rfl) (by decide) ?_
          refine r_icmp_le (tgt := 32) hc (dc_at dX9_alike 13 rfl) (by decide) hf (fun hf => ?_) (fun hf => ?_)
          · refine r_aload_n hc 0 (dc_at dX9_alike 16 rfl) rfl ?_
            refine r_getR hc (dc_at dX9_alike 17 rfl) fl_X9_26 hf fun a3 hf => ?_
            refine r_iload_n hc 1 (dc_at dX9_alike 18 rfl) rfl ?_
            refine r_iload_n hc 2 (dc_at dX9_alike 19 rfl) rfl ?_
            refine r_iconst (0 : Int32) hc (dc_at dX9_alike 20 rfl) (by decide) ?_
            refine r_aload_n hc 0 (dc_at dX9_alike 21 rfl) rfl ?_
            refine r_getR hc (dc_at dX9_alike 22 rfl) fl_X9_63 hf fun a4 hf => ?_
            obtain ⟨ho, hf⟩ := cO_some hf
            refine ob2 hf fun x5 h6 ex hf => ?_
            refine r_callVi (As := [.int v1, .int v2, .int ((0 : Int32)), .ref (X.1 + a4)]) (ci := 0) hc hr (dc_at dX9_alike 23 rfl) ml_X9_184 mv_X0_leastLevel vi_X0_leastLevel rfl ho rfl (mt_X0_leastLevel ex) (by first | exact Nat.le_of_ble_eq_true rfl | omega) (by first | exact Nat.le_of_ble_eq_true rfl | omega) (by first | exact Nat.le_of_ble_eq_true rfl | omega) hm hs ?_
            refine r_if_eq (tgt := 60) hc (dc_at dX9_alike 24 rfl) (by decide) hf (fun hf => ?_) (fun hf => ?_)
            · refine r_ldc2 hc (dc_at dX9_alike 30 rfl) cl2_X9_188 ?_
              exact r_lret hc he (hm) (hs) (dc_at dX9_alike 31 rfl) hf
            · refine r_aload_n hc 0 (dc_at dX9_alike 25 rfl) rfl ?_
              refine r_getR hc (dc_at dX9_alike 26 rfl) fl_X9_63 hf fun a7 hf => ?_
              refine r_iload_n hc 3 (dc_at dX9_alike 27 rfl) rfl ?_
              obtain ⟨ho, hf⟩ := cO_some hf
              refine ob hf fun x8 ex hf => ?_
              refine r_callVl (As := [.int v3]) (ci := 2) hc hr (dc_at dX9_alike 28 rfl) ml_X9_180 mv_X2_part vi_X2_part rfl ho rfl (mt_X2_part ex) (by first | exact Nat.le_of_ble_eq_true rfl | omega) (by first | exact Nat.le_of_ble_eq_true rfl | omega) (by first | exact Nat.le_of_ble_eq_true rfl | omega) hm hs ?_
              refine r_goto (tgt := 63) hc (dc_at dX9_alike 29 rfl) (by decide) ?_
              exact r_lret hc he (hm) (hs) (dc_at dX9_alike 31 rfl) hf
          · refine r_ldc2 hc (dc_at dX9_alike 14 rfl) cl2_X9_172 ?_
            exact r_lret hc he (hm) (hs) (dc_at dX9_alike 15 rfl) hf
def m_X9_alike (F : Nat) (h : PH) (p0 : Nat) (p1 : Int32) (p2 : Int32) (p3 : Int32) : Option (Int64 × PH) := b_X9_alike_0 F h p0 p1 p2 p3
theorem mt_X9_alike {l : Launch} {X : XT} {F : Nat} {h hz : PH} {p0 : Nat} {p1 : Int32} {p2 : Int32} {p3 : Int32} {r : Int64} (ex : m_X9_alike F h p0 p1 p2 p3 = some (r, hz)) : MT l X yX9_alike cX9_alike 4 (some .long) 5 292 0 0 [.ref (X.1 + p0), .int p1, .int p2, .int p3] h (some (.long r)) hz := MT.of (by decide) (Nat.le_of_ble_eq_true rfl) fun M hl hc hr he => by
  subst hl
  exact gg_sub [0, 1, 2, 3] rfl (t_X9_alike_0  hc hr he (Nat.zero_le _) (Nat.zero_le _) ex)
/-! FractionLift.most(I)I -/
def lX9_mostL : List (Nat × Instr × Nat × Nat) := [(0, .iload_n 1, 1, 1), (1, .invokestatic 168, 3, 4), (4, .ifCond .ne 6, 3, 7), (7, .bipush (-2), 2, 9), (9, .ireturn, 1, 10), (10, .iconst (-1), 1, 11), (11, .istore_n 2, 1, 12), (12, .iconst 0, 1, 13), (13, .istore_n 3, 1, 14), (14, .iload_n 3, 1, 15), (15, .aload_n 0, 1, 16), (16, .getfield 26, 3, 19), (19, .getfield 102, 3, 22), (22, .if_icmp .ge 50, 3, 25), (25, .aload_n 0, 1, 26), (26, .getfield 26, 3, 29), (29, .getfield 190, 3, 32), (32, .iload_n 3, 1, 33), (33, .iaload, 1, 34), (34, .istore 4, 2, 36), (36, .iload_n 2, 1, 37), (37, .iconst (-1), 1, 38), (38, .if_icmp .eq 25, 3, 41), (41, .aload_n 0, 1, 42), (42, .getfield 26, 3, 45), (45, .iload 4, 2, 47), (47, .iload_n 1, 1, 48), (48, .invokevirtual 111, 3, 51), (51, .aload_n 0, 1, 52), (52, .getfield 26, 3, 55), (55, .iload_n 2, 1, 56), (56, .iload_n 1, 1, 57), (57, .invokevirtual 111, 3, 60), (60, .if_icmp .le 6, 3, 63), (63, .iload 4, 2, 65), (65, .istore_n 2, 1, 66), (66, .iinc 3 1, 3, 69), (69, .goto (-55), 3, 72), (72, .iload_n 2, 1, 73), (73, .ireturn, 1, 74)]
set_option maxRecDepth 20000 in
theorem dX9_most : dcL cX9_most lX9_mostL = true := by decide +kernel
def b_X9_most_66 (F : Nat) (self9 : Nat → Int32 → Int32 → Int32 → Option Int32) (h : PH) (v0 : Nat) (v1 : Int32) (v2 : Int32) (v3 : Int32) : Option Int32 := bindv (v3 + (1)) fun x1 => (self9 v0 v1 v2 x1)
set_option maxRecDepth 20000 in
theorem t_X9_most_66 {M : MV} {X : XT} {F : Nat} {self9 : Nat → Int32 → Int32 → Int32 → Option Int32} {h : PH} {r : Int32} {ce sl mc ms : Nat} {v0 : Nat} {v1 : Int32} {v2 : Int32} {v3 : Int32} (hc : Cx M X RX9 cX9_most) (hr : Rx M 2 118 mc ms 5) (he : Ex M X (some .int) "most" (some (.int r)) h mc ms) (hm : ce ≤ mc) (hs : sl ≤ ms) (ih9 : ∀ (v0 : Nat) (v1 : Int32) (v2 : Int32) (v3 : Int32), self9 v0 v1 v2 v3 = some r → GG M X h ce sl 14 [(0, .ref (X.1 + v0)), (1, .int v1), (2, .int v2), (3, .int v3)] []) (hf : b_X9_most_66 F self9 h v0 v1 v2 v3 = some r) : GG M X h ce sl 66 [(0, .ref (X.1 + v0)), (1, .int v1), (2, .int v2), (3, .int v3)] [] := by
  unfold b_X9_most_66 at hf
  refine obv hf fun x1 e_x1 hf => ?_
  refine r_iinc 3 [(3, .int x1), (0, .ref (X.1 + v0)), (1, .int v1), (2, .int v2)] hc hr (dc_at dX9_most 36 rfl) rfl (by rw [e_x1]; rfl) (by decide) rfl ?_
  refine r_goto (tgt := 14) hc (dc_at dX9_most 37 rfl) (by decide) ?_
  exact gg_sub [1, 2, 3, 0] rfl (ih9 _ _ _ _ hf)
def b_X9_most_63 (F : Nat) (self9 : Nat → Int32 → Int32 → Int32 → Option Int32) (h : PH) (v0 : Nat) (v1 : Int32) (v3 : Int32) (v4 : Int32) : Option Int32 := b_X9_most_66 F self9 h v0 v1 v4 v3
set_option maxRecDepth 20000 in
theorem t_X9_most_63 {M : MV} {X : XT} {F : Nat} {self9 : Nat → Int32 → Int32 → Int32 → Option Int32} {h : PH} {r : Int32} {ce sl mc ms : Nat} {v0 : Nat} {v1 : Int32} {v3 : Int32} {v4 : Int32} (hc : Cx M X RX9 cX9_most) (hr : Rx M 2 118 mc ms 5) (he : Ex M X (some .int) "most" (some (.int r)) h mc ms) (hm : ce ≤ mc) (hs : sl ≤ ms) (ih9 : ∀ (v0 : Nat) (v1 : Int32) (v2 : Int32) (v3 : Int32), self9 v0 v1 v2 v3 = some r → GG M X h ce sl 14 [(0, .ref (X.1 + v0)), (1, .int v1), (2, .int v2), (3, .int v3)] []) (hf : b_X9_most_63 F self9 h v0 v1 v3 v4 = some r) : GG M X h ce sl 63 [(0, .ref (X.1 + v0)), (1, .int v1), (3, .int v3), (4, .int v4)] [] := by
  unfold b_X9_most_63 at hf
  refine r_iload hc 3 (dc_at dX9_most 34 rfl) rfl ?_
  refine r_istore_n [(2, .int v4), (0, .ref (X.1 + v0)), (1, .int v1), (3, .int v3), (4, .int v4)] hc hr (dc_at dX9_most 35 rfl) (by decide) rfl ?_
  exact gg_sub [1, 2, 0, 3] rfl (t_X9_most_66 hc hr he hm hs ih9 hf)
def b_X9_most_14 (F : Nat) (self9 : Nat → Int32 → Int32 → Int32 → Option Int32) (h : PH) (v0 : Nat) (v1 : Int32) (v2 : Int32) (v3 : Int32) : Option Int32 := (gR 9 4 h v0).bind fun a1 => ((gI 0 9 h a1).bind fun x2 => (if x2 ≤ v3 then (some v2) else ((gR 9 4 h v0).bind fun a3 => ((gR 0 14 h a3).bind fun a4 => ((aI 0 h a4 v3).bind fun x5 => (if v2 = (-1 : Int32) then (b_X9_most_63 F self9 h v0 v1 v3 x5) else ((gR 9 4 h v0).bind fun a6 => (cO 0 h a6 ((m_X0_stuffOf h a6 x5 v1).bind fun x7 => ((gR 9 4 h v0).bind fun a8 => (cO 0 h a8 ((m_X0_stuffOf h a8 v2 v1).bind fun x9 => (if x7 ≤ x9 then (b_X9_most_66 F self9 h v0 v1 v2 v3) else (b_X9_most_63 F self9 h v0 v1 v3 x5))))))))))))))
set_option maxRecDepth 20000 in
theorem tb_X9_most_14 {M : MV} {X : XT} {F : Nat} {self9 : Nat → Int32 → Int32 → Int32 → Option Int32} {h : PH} {r : Int32} {ce sl mc ms : Nat} {v0 : Nat} {v1 : Int32} {v2 : Int32} {v3 : Int32} (hc : Cx M X RX9 cX9_most) (hr : Rx M 2 118 mc ms 5) (he : Ex M X (some .int) "most" (some (.int r)) h mc ms) (hm : ce ≤ mc) (hs : sl ≤ ms) (ih9 : ∀ (v0 : Nat) (v1 : Int32) (v2 : Int32) (v3 : Int32), self9 v0 v1 v2 v3 = some r → GG M X h ce sl 14 [(0, .ref (X.1 + v0)), (1, .int v1), (2, .int v2), (3, .int v3)] []) (hf : b_X9_most_14 F self9 h v0 v1 v2 v3 = some r) : GG M X h ce sl 14 [(0, .ref (X.1 + v0)), (1, .int v1), (2, .int v2), (3, .int v3)] [] := by
  unfold b_X9_most_14 at hf
  refine r_iload_n hc 3 (dc_at dX9_most 9 rfl) rfl ?_
  refine r_aload_n hc 0 (dc_at dX9_most 10 rfl) rfl ?_
  refine r_getR hc (dc_at dX9_most 11 rfl) fl_X9_26 hf fun a1 hf => ?_
  refine r_getI hc (dc_at dX9_most 12 rfl) fl_X9_102 hf fun x2 hf => ?_
  refine r_icmp_ge (tgt := 72) hc (dc_at dX9_most 13 rfl) (by decide) hf (fun hf => ?_) (fun hf => ?_)
  · refine r_iload_n hc 2 (dc_at dX9_most 38 rfl) rfl ?_
    exact r_iretP hc he (hm) (hs) (dc_at dX9_most 39 rfl) hf
  · refine r_aload_n hc 0 (dc_at dX9_most 14 rfl) rfl ?_
    refine r_getR hc (dc_at dX9_most 15 rfl) fl_X9_26 hf fun a3 hf => ?_
    refine r_getR hc (dc_at dX9_most 16 rfl) fl_X9_190 hf fun a4 hf => ?_
    refine r_iload_n hc 3 (dc_at dX9_most 17 rfl) rfl ?_
    refine r_iaload hc (dc_at dX9_most 18 rfl) hf fun x5 hf => ?_
    refine r_istore [(4, .int x5), (0, .ref (X.1 + v0)), (1, .int v1), (2, .int v2), (3, .int v3)] hc hr (dc_at dX9_most 19 rfl) (by decide) rfl ?_
    refine r_iload_n hc 3 (dc_at dX9_most 20 rfl) rfl ?_
    refine r_iconst (-1 : Int32) hc (dc_at dX9_most 21 rfl) (by decide) ?_
    refine r_icmp_eq (tgt := 63) hc (dc_at dX9_most 22 rfl) (by decide) hf (fun hf => ?_) (fun hf => ?_)
    · exact gg_sub [1, 2, 4, 0] rfl (t_X9_most_63 hc hr he hm hs ih9 hf)
    · refine r_aload_n hc 1 (dc_at dX9_most 23 rfl) rfl ?_
      refine r_getR hc (dc_at dX9_most 24 rfl) fl_X9_26 hf fun a6 hf => ?_
      refine r_iload hc 0 (dc_at dX9_most 25 rfl) rfl ?_
      refine r_iload_n hc 2 (dc_at dX9_most 26 rfl) rfl ?_
      obtain ⟨ho, hf⟩ := cO_some hf
      refine ob hf fun x7 ex hf => ?_
      refine r_callVi (As := [.int x5, .int v1]) (ci := 0) hc hr (dc_at dX9_most 27 rfl) ml_X9_111 mv_X0_stuffOf vi_X0_stuffOf rfl ho rfl (mt_X0_stuffOf ex) (by first | exact Nat.le_of_ble_eq_true rfl | omega) (by first | exact Nat.le_of_ble_eq_true rfl | omega) (by first | exact Nat.le_of_ble_eq_true rfl | omega) hm hs ?_
      refine r_aload_n hc 1 (dc_at dX9_most 28 rfl) rfl ?_
      refine r_getR hc (dc_at dX9_most 29 rfl) fl_X9_26 hf fun a8 hf => ?_
      refine r_iload_n hc 3 (dc_at dX9_most 30 rfl) rfl ?_
      refine r_iload_n hc 2 (dc_at dX9_most 31 rfl) rfl ?_
      obtain ⟨ho, hf⟩ := cO_some hf
      refine ob hf fun x9 ex hf => ?_
      refine r_callVi (As := [.int v2, .int v1]) (ci := 0) hc hr (dc_at dX9_most 32 rfl) ml_X9_111 mv_X0_stuffOf vi_X0_stuffOf rfl ho rfl (mt_X0_stuffOf ex) (by first | exact Nat.le_of_ble_eq_true rfl | omega) (by first | exact Nat.le_of_ble_eq_true rfl | omega) (by first | exact Nat.le_of_ble_eq_true rfl | omega) hm hs ?_
      refine r_icmp_le (tgt := 66) hc (dc_at dX9_most 33 rfl) (by decide) hf (fun hf => ?_) (fun hf => ?_)
      · exact gg_sub [1, 2, 3, 4] rfl (t_X9_most_66 hc hr he hm hs ih9 hf)
      · exact gg_sub [1, 2, 4, 0] rfl (t_X9_most_63 hc hr he hm hs ih9 hf)
def l_X9_most_14 (F : Nat) (h : PH) : Nat → Nat → Int32 → Int32 → Int32 → Option Int32
  | 0 => fun _ _ _ _ => none
  | n + 1 => fun v0 v1 v2 v3 => b_X9_most_14 F (l_X9_most_14 F h n) h v0 v1 v2 v3
theorem tl_X9_most_14 {M : MV} {X : XT} {F : Nat} {h : PH} {r : Int32} {ce sl mc ms : Nat} (hc : Cx M X RX9 cX9_most) (hr : Rx M 2 118 mc ms 5) (he : Ex M X (some .int) "most" (some (.int r)) h mc ms) (hm : ce ≤ mc) (hs : sl ≤ ms) (n : Nat) : ∀ (v0 : Nat) (v1 : Int32) (v2 : Int32) (v3 : Int32), l_X9_most_14 F h n v0 v1 v2 v3 = some r → GG M X h ce sl 14 [(0, .ref (X.1 + v0)), (1, .int v1), (2, .int v2), (3, .int v3)] [] := by
  induction n with
  | zero => intro v0 v1 v2 v3 hf; cases hf
  | succ n ih => intro v0 v1 v2 v3 hf; exact tb_X9_most_14 (F := F) hc hr he hm hs  ih hf
def b_X9_most_0 (F : Nat) (h : PH) (v0 : Nat) (v1 : Int32) : Option Int32 := (m_X9_isStuff v1).bind fun x1 => (if x1 = 0 then (some (-2 : Int32)) else (l_X9_most_14 F h F v0 v1 (-1 : Int32) (0 : Int32)))
set_option maxRecDepth 20000 in
theorem t_X9_most_0 {M : MV} {X : XT} {F : Nat} {h : PH} {r : Int32} {ce sl mc ms : Nat} {v0 : Nat} {v1 : Int32} (hc : Cx M X RX9 cX9_most) (hr : Rx M 2 118 mc ms 5) (he : Ex M X (some .int) "most" (some (.int r)) h mc ms) (hm : ce ≤ mc) (hs : sl ≤ ms) (hf : b_X9_most_0 F h v0 v1 = some r) : GG M X h ce sl 0 [(0, .ref (X.1 + v0)), (1, .int v1)] [] := by
  unfold b_X9_most_0 at hf
  refine r_iload_n hc 1 (dc_at dX9_most 0 rfl) rfl ?_
  refine ob hf fun x1 ex hf => ?_
  refine r_callSi (As := [.int v1]) hc hr (dc_at dX9_most 1 rfl) ml_X9_168 mv_X9_isStuff st_X9_isStuff rfl (mt_X9_isStuff ex) (by first | exact Nat.le_of_ble_eq_true rfl | omega) (by first | exact Nat.le_of_ble_eq_true rfl | omega) (by first | exact Nat.le_of_ble_eq_true rfl | omega) hm hs ?_
  refine r_if_ne (tgt := 10) hc (dc_at dX9_most 2 rfl) (by decide) hf (fun hf => ?_) (fun hf => ?_)
  · refine r_iconst (-1 : Int32) hc (dc_at dX9_most 5 rfl) (by decide) ?_
    refine r_istore_n [(2, .int ((-1 : Int32))), (0, .ref (X.1 + v0)), (1, .int v1)] hc hr (dc_at dX9_most 6 rfl) (by decide) rfl ?_
    refine r_iconst (0 : Int32) hc (dc_at dX9_most 7 rfl) (by decide) ?_
    refine r_istore_n [(3, .int ((0 : Int32))), (2, .int ((-1 : Int32))), (0, .ref (X.1 + v0)), (1, .int v1)] hc hr (dc_at dX9_most 8 rfl) (by decide) rfl ?_
    exact gg_sub [2, 3, 1, 0] rfl (tl_X9_most_14 hc hr he hm hs  F _ _ _ _ hf)
  · refine r_bipush (-2 : Int32) hc (dc_at dX9_most 3 rfl) (by decide) ?_
    exact r_iretP hc he (hm) (hs) (dc_at dX9_most 4 rfl) hf
def m_X9_most (F : Nat) (h : PH) (p0 : Nat) (p1 : Int32) : Option Int32 := b_X9_most_0 F h p0 p1
theorem mt_X9_most {l : Launch} {X : XT} {F : Nat} {h : PH} {p0 : Nat} {p1 : Int32} {r : Int32} (ex : m_X9_most F h p0 p1 = some r) : MT l X yX9_most cX9_most 5 (some .int) 2 118 0 0 [.ref (X.1 + p0), .int p1] h (some (.int r)) h := MT.of (by decide) (Nat.le_of_ble_eq_true rfl) fun M hl hc hr he => by
  subst hl
  exact gg_sub [0, 1] rfl (t_X9_most_0  hc hr he (Nat.zero_le _) (Nat.zero_le _) ex)
/-! FractionLift.tells(II)I -/
def lX9_tellsL : List (Nat × Instr × Nat × Nat) := [(0, .aload_n 0, 1, 1), (1, .iload_n 1, 1, 2), (2, .iload_n 2, 1, 3), (3, .invokevirtual 132, 3, 6), (6, .ifCond .eq 17, 3, 9), (9, .aload_n 0, 1, 10), (10, .getfield 59, 3, 13), (13, .getfield 140, 3, 16), (16, .ldc2_w 193, 3, 19), (19, .lcmp, 1, 20), (20, .ifCond .le 6, 3, 23), (23, .bipush (-3), 2, 25), (25, .ireturn, 1, 26), (26, .aload_n 0, 1, 27), (27, .getfield 26, 3, 30), (30, .getfield 102, 3, 33), (33, .bipush 8, 2, 35), (35, .if_icmp .lt 6, 3, 38), (38, .bipush (-4), 2, 40), (40, .ireturn, 1, 41), (41, .aload_n 0, 1, 42), (42, .getfield 26, 3, 45), (45, .aload_n 0, 1, 46), (46, .getfield 59, 3, 49), (49, .getfield 136, 3, 52), (52, .aload_n 0, 1, 53), (53, .getfield 59, 3, 56), (56, .getfield 140, 3, 59), (59, .invokevirtual 195, 3, 62), (62, .iconst (-1), 1, 63), (63, .if_icmp .eq 6, 3, 66), (66, .bipush (-5), 2, 68), (68, .ireturn, 1, 69), (69, .iconst 0, 1, 70), (70, .istore_n 3, 1, 71), (71, .iload_n 3, 1, 72), (72, .iconst 3, 1, 73), (73, .if_icmp .ge 52, 3, 76), (76, .aload_n 0, 1, 77), (77, .getfield 26, 3, 80), (80, .iload_n 3, 1, 81), (81, .aload_n 0, 1, 82), (82, .getfield 59, 3, 85), (85, .getfield 136, 3, 88), (88, .aload_n 0, 1, 89), (89, .getfield 59, 3, 92), (92, .getfield 140, 3, 95), (95, .aload_n 0, 1, 96), (96, .getfield 63, 3, 99), (99, .invokevirtual 176, 3, 102), (102, .aload_n 0, 1, 103), (103, .getfield 26, 3, 106), (106, .getfield 199, 3, 109), (109, .iload_n 3, 1, 110), (110, .aload_n 0, 1, 111), (111, .getfield 63, 3, 114), (114, .invokevirtual 202, 3, 117), (117, .l2i, 1, 118), (118, .iastore, 1, 119), (119, .iinc 3 1, 3, 122), (122, .goto (-51), 3, 125), (125, .aload_n 0, 1, 126), (126, .getfield 26, 3, 129), (129, .aload_n 0, 1, 130), (130, .getfield 59, 3, 133), (133, .getfield 136, 3, 136), (136, .l2i, 1, 137), (137, .aload_n 0, 1, 138), (138, .getfield 59, 3, 141), (141, .getfield 140, 3, 144), (144, .l2i, 1, 145), (145, .invokevirtual 206, 3, 148), (148, .aload_n 0, 1, 149), (149, .getfield 26, 3, 152), (152, .getfield 102, 3, 155), (155, .iconst 1, 1, 156), (156, .isub, 1, 157), (157, .ireturn, 1, 158)]
set_option maxRecDepth 20000 in
theorem dX9_tells : dcL cX9_tells lX9_tellsL = true := by decide +kernel
def b_X9_tells_71 (F : Nat) (self35 : PH → Nat → Int32 → Option (Int32 × PH)) (h : PH) (v0 : Nat) (v3 : Int32) : Option (Int32 × PH) := if (3 : Int32) ≤ v3 then ((gR 9 4 h v0).bind fun a1 => ((gR 9 12 h v0).bind fun a2 => ((gL 2 0 h a2).bind fun x3 => ((gR 9 12 h v0).bind fun a4 => ((gL 2 1 h a4).bind fun x5 => (cO 0 h a1 (bind2 (m_X0_addFloor F h a1 (Int64.toInt32 x3) (Int64.toInt32 x5)) fun _ h7 => ((gR 9 4 h7 v0).bind fun a8 => ((gI 0 9 h7 a8).bind fun x9 => (some (((x9 - (1 : Int32))), h7))))))))))) else ((gR 9 4 h v0).bind fun a10 => ((gR 9 12 h v0).bind fun a11 => ((gL 2 0 h a11).bind fun x12 => ((gR 9 12 h v0).bind fun a13 => ((gL 2 1 h a13).bind fun x14 => ((gR 9 13 h v0).bind fun a15 => (cO 0 h a10 (bind2 (m_X0_stuffAt F h a10 v3 x12 x14 a15) fun _ h17 => ((gR 9 4 h17 v0).bind fun a18 => ((gR 0 13 h17 a18).bind fun a19 => ((gR 9 13 h17 v0).bind fun a20 => (cO 2 h17 a20 ((m_X2_whole h17 a20).bind fun x21 => ((sI 0 h17 a19 v3 (Int64.toInt32 x21)).bind fun h22 => (bindv (v3 + (1)) fun x23 => (self35 h22 v0 x23))))))))))))))))
set_option maxRecDepth 20000 in
theorem tb_X9_tells_71 {M : MV} {X : XT} {F : Nat} {self35 : PH → Nat → Int32 → Option (Int32 × PH)} {h hz : PH} {r : Int32} {ce sl mc ms : Nat} {v0 : Nat} {v3 : Int32} (hc : Cx M X RX9 cX9_tells) (hr : Rx M 4 234 mc ms 4) (he : Ex M X (some .int) "tells" (some (.int r)) hz mc ms) (hm : ce ≤ mc) (hs : sl ≤ ms) (ih35 : ∀ (h : PH) (v0 : Nat) (v3 : Int32), self35 h v0 v3 = some (r, hz) → GG M X h ce sl 71 [(0, .ref (X.1 + v0)), (3, .int v3)] []) (hf : b_X9_tells_71 F self35 h v0 v3 = some (r, hz)) : GG M X h ce sl 71 [(0, .ref (X.1 + v0)), (3, .int v3)] [] := by
  unfold b_X9_tells_71 at hf
  refine r_iload_n hc 1 (dc_at dX9_tells 35 rfl) rfl ?_
  refine r_iconst (3 : Int32) hc (dc_at dX9_tells 36 rfl) (by decide) ?_
  refine r_icmp_ge (tgt := 125) hc (dc_at dX9_tells 37 rfl) (by decide) hf (fun hf => ?_) (fun hf => ?_)
  · refine r_aload_n hc 0 (dc_at dX9_tells 61 rfl) rfl ?_
    refine r_getR hc (dc_at dX9_tells 62 rfl) fl_X9_26 hf fun a1 hf => ?_
    refine r_aload_n hc 0 (dc_at dX9_tells 63 rfl) rfl ?_
    refine r_getR hc (dc_at dX9_tells 64 rfl) fl_X9_59 hf fun a2 hf => ?_
    refine r_getL hc (dc_at dX9_tells 65 rfl) fl_X9_136 hf fun x3 hf => ?_
    refine r_l2i hc (dc_at dX9_tells 66 rfl) ?_
    refine r_aload_n hc 0 (dc_at dX9_tells 67 rfl) rfl ?_
    refine r_getR hc (dc_at dX9_tells 68 rfl) fl_X9_59 hf fun a4 hf => ?_
    refine r_getL hc (dc_at dX9_tells 69 rfl) fl_X9_140 hf fun x5 hf => ?_
    refine r_l2i hc (dc_at dX9_tells 70 rfl) ?_
    obtain ⟨ho, hf⟩ := cO_some hf
    refine ob2 hf fun u h7 ex hf => ?_
    refine r_callVv (As := [.int ((Int64.toInt32 x3)), .int ((Int64.toInt32 x5))]) (ci := 0) hc hr (dc_at dX9_tells 71 rfl) ml_X9_206 mv_X0_addFloor vi_X0_addFloor rfl ho rfl (mt_X0_addFloor ex) (by first | exact Nat.le_of_ble_eq_true rfl | omega) (by first | exact Nat.le_of_ble_eq_true rfl | omega) (by first | exact Nat.le_of_ble_eq_true rfl | omega) hm hs ?_
    refine r_aload_n hc 0 (dc_at dX9_tells 72 rfl) rfl ?_
    refine r_getR hc (dc_at dX9_tells 73 rfl) fl_X9_26 hf fun a8 hf => ?_
    refine r_getI hc (dc_at dX9_tells 74 rfl) fl_X9_102 hf fun x9 hf => ?_
    refine r_iconst (1 : Int32) hc (dc_at dX9_tells 75 rfl) (by decide) ?_
    refine r_isub hc (dc_at dX9_tells 76 rfl) ?_
    exact r_iret hc he (hm) (hs) (dc_at dX9_tells 77 rfl) hf
  · refine r_aload_n hc 0 (dc_at dX9_tells 38 rfl) rfl ?_
    refine r_getR hc (dc_at dX9_tells 39 rfl) fl_X9_26 hf fun a10 hf => ?_
    refine r_iload_n hc 1 (dc_at dX9_tells 40 rfl) rfl ?_
    refine r_aload_n hc 0 (dc_at dX9_tells 41 rfl) rfl ?_
    refine r_getR hc (dc_at dX9_tells 42 rfl) fl_X9_59 hf fun a11 hf => ?_
    refine r_getL hc (dc_at dX9_tells 43 rfl) fl_X9_136 hf fun x12 hf => ?_
    refine r_aload_n hc 0 (dc_at dX9_tells 44 rfl) rfl ?_
    refine r_getR hc (dc_at dX9_tells 45 rfl) fl_X9_59 hf fun a13 hf => ?_
    refine r_getL hc (dc_at dX9_tells 46 rfl) fl_X9_140 hf fun x14 hf => ?_
    refine r_aload_n hc 0 (dc_at dX9_tells 47 rfl) rfl ?_
    refine r_getR hc (dc_at dX9_tells 48 rfl) fl_X9_63 hf fun a15 hf => ?_
    obtain ⟨ho, hf⟩ := cO_some hf
    refine ob2 hf fun u h17 ex hf => ?_
    refine r_callVv (As := [.int v3, .long x12, .long x14, .ref (X.1 + a15)]) (ci := 0) hc hr (dc_at dX9_tells 49 rfl) ml_X9_176 mv_X0_stuffAt vi_X0_stuffAt rfl ho rfl (mt_X0_stuffAt ex) (by first | exact Nat.le_of_ble_eq_true rfl | omega) (by first | exact Nat.le_of_ble_eq_true rfl | omega) (by first | exact Nat.le_of_ble_eq_true rfl | omega) hm hs ?_
    refine r_aload_n hc 0 (dc_at dX9_tells 50 rfl) rfl ?_
    refine r_getR hc (dc_at dX9_tells 51 rfl) fl_X9_26 hf fun a18 hf => ?_
    refine r_getR hc (dc_at dX9_tells 52 rfl) fl_X9_199 hf fun a19 hf => ?_
    refine r_iload_n hc 1 (dc_at dX9_tells 53 rfl) rfl ?_
    refine r_aload_n hc 0 (dc_at dX9_tells 54 rfl) rfl ?_
    refine r_getR hc (dc_at dX9_tells 55 rfl) fl_X9_63 hf fun a20 hf => ?_
    obtain ⟨ho, hf⟩ := cO_some hf
    refine ob hf fun x21 ex hf => ?_
    refine r_callVl (As := []) (ci := 2) hc hr (dc_at dX9_tells 56 rfl) ml_X9_202 mv_X2_whole vi_X2_whole rfl ho rfl (mt_X2_whole ex) (by first | exact Nat.le_of_ble_eq_true rfl | omega) (by first | exact Nat.le_of_ble_eq_true rfl | omega) (by first | exact Nat.le_of_ble_eq_true rfl | omega) hm hs ?_
    refine r_l2i hc (dc_at dX9_tells 57 rfl) ?_
    refine r_iastore hc (dc_at dX9_tells 58 rfl) hf fun h22 hf => ?_
    refine obv hf fun x23 e_x23 hf => ?_
    refine r_iinc 1 [(3, .int x23), (0, .ref (X.1 + v0))] hc hr (dc_at dX9_tells 59 rfl) rfl (by rw [e_x23]; rfl) (by decide) rfl ?_
    refine r_goto (tgt := 71) hc (dc_at dX9_tells 60 rfl) (by decide) ?_
    exact gg_sub [1, 0] rfl (ih35 _ _ _ hf)
def l_X9_tells_71 (F : Nat) : Nat → PH → Nat → Int32 → Option (Int32 × PH)
  | 0 => fun _ _ _ => none
  | n + 1 => fun h v0 v3 => b_X9_tells_71 F (l_X9_tells_71 F n) h v0 v3
theorem tl_X9_tells_71 {M : MV} {X : XT} {F : Nat} {hz : PH} {r : Int32} {ce sl mc ms : Nat} (hc : Cx M X RX9 cX9_tells) (hr : Rx M 4 234 mc ms 4) (he : Ex M X (some .int) "tells" (some (.int r)) hz mc ms) (hm : ce ≤ mc) (hs : sl ≤ ms) (n : Nat) : ∀ (h : PH) (v0 : Nat) (v3 : Int32), l_X9_tells_71 F n h v0 v3 = some (r, hz) → GG M X h ce sl 71 [(0, .ref (X.1 + v0)), (3, .int v3)] [] := by
  induction n with
  | zero => intro h v0 v3 hf; cases hf
  | succ n ih => intro h v0 v3 hf; exact tb_X9_tells_71 (F := F) hc hr he hm hs  ih hf
def b_X9_tells_0 (F : Nat) (h : PH) (v0 : Nat) (v1 : Int32) (v2 : Int32) : Option (Int32 × PH) := cO 9 h v0 (bind2 (m_X9_asksFloor F h v0 v1 v2) fun x1 h2 => (if x1 = 0 then (some ((-3 : Int32), h2)) else ((gR 9 12 h2 v0).bind fun a3 => ((gL 2 1 h2 a3).bind fun x4 => (if x4 ≤ (99 : Int64) then ((gR 9 4 h2 v0).bind fun a5 => ((gI 0 9 h2 a5).bind fun x6 => (if x6 < (8 : Int32) then ((gR 9 4 h2 v0).bind fun a7 => ((gR 9 12 h2 v0).bind fun a8 => ((gL 2 0 h2 a8).bind fun x9 => ((gR 9 12 h2 v0).bind fun a10 => ((gL 2 1 h2 a10).bind fun x11 => (cO 0 h2 a7 ((m_X0_floorAt F h2 a7 x9 x11).bind fun x12 => (if x12 = (-1 : Int32) then (l_X9_tells_71 F F h2 v0 (0 : Int32)) else (some ((-5 : Int32), h2)))))))))) else (some ((-4 : Int32), h2))))) else (some ((-3 : Int32), h2)))))))
set_option maxRecDepth 20000 in
theorem t_X9_tells_0 {M : MV} {X : XT} {F : Nat} {h hz : PH} {r : Int32} {ce sl mc ms : Nat} {v0 : Nat} {v1 : Int32} {v2 : Int32} (hc : Cx M X RX9 cX9_tells) (hr : Rx M 4 234 mc ms 4) (he : Ex M X (some .int) "tells" (some (.int r)) hz mc ms) (hm : ce ≤ mc) (hs : sl ≤ ms) (hf : b_X9_tells_0 F h v0 v1 v2 = some (r, hz)) : GG M X h ce sl 0 [(0, .ref (X.1 + v0)), (1, .int v1), (2, .int v2)] [] := by
  unfold b_X9_tells_0 at hf
  refine r_aload_n hc 0 (dc_at dX9_tells 0 rfl) rfl ?_
  refine r_iload_n hc 1 (dc_at dX9_tells 1 rfl) rfl ?_
  refine r_iload_n hc 2 (dc_at dX9_tells 2 rfl) rfl ?_
  obtain ⟨ho, hf⟩ := cO_some hf
  refine ob2 hf fun x1 h2 ex hf => ?_
  refine r_callVi (As := [.int v1, .int v2]) (ci := 9) hc hr (dc_at dX9_tells 3 rfl) ml_X9_132 mv_X9_asksFloor vi_X9_asksFloor rfl ho rfl (mt_X9_asksFloor ex) (by first | exact Nat.le_of_ble_eq_true rfl | omega) (by first | exact Nat.le_of_ble_eq_true rfl | omega) (by first | exact Nat.le_of_ble_eq_true rfl | omega) hm hs ?_
  refine r_if_eq (tgt := 23) hc (dc_at dX9_tells 4 rfl) (by decide) hf (fun hf => ?_) (fun hf => ?_)
  · refine r_bipush (-3 : Int32) hc (dc_at dX9_tells 11 rfl) (by decide) ?_
    exact r_iret hc he (hm) (hs) (dc_at dX9_tells 12 rfl) hf
  · refine r_aload_n hc 0 (dc_at dX9_tells 5 rfl) rfl ?_
    refine r_getR hc (dc_at dX9_tells 6 rfl) fl_X9_59 hf fun a3 hf => ?_
    refine r_getL hc (dc_at dX9_tells 7 rfl) fl_X9_140 hf fun x4 hf => ?_
    refine r_ldc2 hc (dc_at dX9_tells 8 rfl) cl2_X9_193 ?_
    refine r_lcmp_le (tgt := 26) hc (dc_at dX9_tells 9 rfl) (dc_at dX9_tells 10 rfl) (by decide) hf (fun hf => ?_) (fun hf => ?_)
    · refine r_aload_n hc 0 (dc_at dX9_tells 13 rfl) rfl ?_
      refine r_getR hc (dc_at dX9_tells 14 rfl) fl_X9_26 hf fun a5 hf => ?_
      refine r_getI hc (dc_at dX9_tells 15 rfl) fl_X9_102 hf fun x6 hf => ?_
      refine r_bipush (8 : Int32) hc (dc_at dX9_tells 16 rfl) (by decide) ?_
      refine r_icmp_lt (tgt := 41) hc (dc_at dX9_tells 17 rfl) (by decide) hf (fun hf => ?_) (fun hf => ?_)
      · refine r_aload_n hc 0 (dc_at dX9_tells 20 rfl) rfl ?_
        refine r_getR hc (dc_at dX9_tells 21 rfl) fl_X9_26 hf fun a7 hf => ?_
        refine r_aload_n hc 0 (dc_at dX9_tells 22 rfl) rfl ?_
        refine r_getR hc (dc_at dX9_tells 23 rfl) fl_X9_59 hf fun a8 hf => ?_
        refine r_getL hc (dc_at dX9_tells 24 rfl) fl_X9_136 hf fun x9 hf => ?_
        refine r_aload_n hc 0 (dc_at dX9_tells 25 rfl) rfl ?_
        refine r_getR hc (dc_at dX9_tells 26 rfl) fl_X9_59 hf fun a10 hf => ?_
        refine r_getL hc (dc_at dX9_tells 27 rfl) fl_X9_140 hf fun x11 hf => ?_
        obtain ⟨ho, hf⟩ := cO_some hf
        refine ob hf fun x12 ex hf => ?_
        refine r_callVi (As := [.long x9, .long x11]) (ci := 0) hc hr (dc_at dX9_tells 28 rfl) ml_X9_195 mv_X0_floorAt vi_X0_floorAt rfl ho rfl (mt_X0_floorAt ex) (by first | exact Nat.le_of_ble_eq_true rfl | omega) (by first | exact Nat.le_of_ble_eq_true rfl | omega) (by first | exact Nat.le_of_ble_eq_true rfl | omega) hm hs ?_
        refine r_iconst (-1 : Int32) hc (dc_at dX9_tells 29 rfl) (by decide) ?_
        refine r_icmp_eq (tgt := 69) hc (dc_at dX9_tells 30 rfl) (by decide) hf (fun hf => ?_) (fun hf => ?_)
        · refine r_iconst (0 : Int32) hc (dc_at dX9_tells 33 rfl) (by decide) ?_
          refine r_istore_n [(3, .int ((0 : Int32))), (0, .ref (X.1 + v0)), (1, .int v1), (2, .int v2)] hc hr (dc_at dX9_tells 34 rfl) (by decide) rfl ?_
          exact gg_sub [1, 0] rfl (tl_X9_tells_71 hc hr he hm hs  F _ _ _ hf)
        · refine r_bipush (-5 : Int32) hc (dc_at dX9_tells 31 rfl) (by decide) ?_
          exact r_iret hc he (hm) (hs) (dc_at dX9_tells 32 rfl) hf
      · refine r_bipush (-4 : Int32) hc (dc_at dX9_tells 18 rfl) (by decide) ?_
        exact r_iret hc he (hm) (hs) (dc_at dX9_tells 19 rfl) hf
    · refine r_bipush (-3 : Int32) hc (dc_at dX9_tells 11 rfl) (by decide) ?_
      exact r_iret hc he (hm) (hs) (dc_at dX9_tells 12 rfl) hf
def m_X9_tells (F : Nat) (h : PH) (p0 : Nat) (p1 : Int32) (p2 : Int32) : Option (Int32 × PH) := b_X9_tells_0 F h p0 p1 p2
theorem mt_X9_tells {l : Launch} {X : XT} {F : Nat} {h hz : PH} {p0 : Nat} {p1 : Int32} {p2 : Int32} {r : Int32} (ex : m_X9_tells F h p0 p1 p2 = some (r, hz)) : MT l X yX9_tells cX9_tells 4 (some .int) 4 234 0 0 [.ref (X.1 + p0), .int p1, .int p2] h (some (.int r)) hz := MT.of (by decide) (Nat.le_of_ble_eq_true rfl) fun M hl hc hr he => by
  subst hl
  exact gg_sub [0, 1, 2] rfl (t_X9_tells_0  hc hr he (Nat.zero_le _) (Nat.zero_le _) ex)
/-! FractionLift.routesFromHere()LFractionLift$Routes; -/
def lX9_routesFromHereL : List (Nat × Instr × Nat × Nat) := [(0, .aload_n 0, 1, 1), (1, .getfield 408, 3, 4), (4, .ifnonnull 18, 3, 7), (7, .aload_n 0, 1, 8), (8, .new 215, 3, 11), (11, .dup, 1, 12), (12, .aload_n 0, 1, 13), (13, .getfield 52, 3, 16), (16, .invokespecial 412, 3, 19), (19, .putfield 408, 3, 22), (22, .aload_n 0, 1, 23), (23, .getfield 408, 3, 26), (26, .aload_n 0, 1, 27), (27, .getfield 26, 3, 30), (30, .invokevirtual 415, 3, 33), (33, .aload_n 0, 1, 34), (34, .getfield 408, 3, 37), (37, .areturn, 1, 38)]
set_option maxRecDepth 20000 in
theorem dX9_routesFromHere : dcL cX9_routesFromHere lX9_routesFromHereL = true := by decide +kernel
def b_X9_routesFromHere_22 (F : Nat) (h : PH) (v0 : Nat) : Option (Nat × PH) := (gR 9 16 h v0).bind fun a1 => ((gR 9 4 h v0).bind fun a2 => (cO 5 h a1 (bind2 (m_X5_begin F h a1 a2) fun _ h4 => ((gR 9 16 h4 v0).bind fun a5 => (some (a5, h4))))))
set_option maxRecDepth 20000 in
theorem t_X9_routesFromHere_22 {M : MV} {X : XT} {F : Nat} {h hz : PH} {r : Nat} {ce sl mc ms : Nat} {v0 : Nat} (hc : Cx M X RX9 cX9_routesFromHere) (hr : Rx M 4 234 mc ms 1) (he : Ex M X (some (.object "FractionLift$Routes")) "routesFromHere" (some (.ref (X.1 + r))) hz mc ms) (hm : ce ≤ mc) (hs : sl ≤ ms) (hf : b_X9_routesFromHere_22 F h v0 = some (r, hz)) : GG M X h ce sl 22 [(0, .ref (X.1 + v0))] [] := by
  unfold b_X9_routesFromHere_22 at hf
  refine r_aload_n hc 0 (dc_at dX9_routesFromHere 10 rfl) rfl ?_
  refine r_getR hc (dc_at dX9_routesFromHere 11 rfl) fl_X9_408 hf fun a1 hf => ?_
  refine r_aload_n hc 0 (dc_at dX9_routesFromHere 12 rfl) rfl ?_
  refine r_getR hc (dc_at dX9_routesFromHere 13 rfl) fl_X9_26 hf fun a2 hf => ?_
  obtain ⟨ho, hf⟩ := cO_some hf
  refine ob2 hf fun u h4 ex hf => ?_
  refine r_callVv (As := [.ref (X.1 + a2)]) (ci := 5) hc hr (dc_at dX9_routesFromHere 14 rfl) ml_X9_415 mv_X5_begin vi_X5_begin rfl ho rfl (mt_X5_begin ex) (by first | exact Nat.le_of_ble_eq_true rfl | omega) (by first | exact Nat.le_of_ble_eq_true rfl | omega) (by first | exact Nat.le_of_ble_eq_true rfl | omega) (by omega) (by omega) ?_
  refine r_aload_n hc 0 (dc_at dX9_routesFromHere 15 rfl) rfl ?_
  refine r_getR hc (dc_at dX9_routesFromHere 16 rfl) fl_X9_408 hf fun a5 hf => ?_
  exact r_aret hc he (Or.inl ⟨_, rfl⟩) (by omega) (by omega) (dc_at dX9_routesFromHere 17 rfl) hf
def b_X9_routesFromHere_0 (F : Nat) (h : PH) (v0 : Nat) : Option (Nat × PH) := (gN 9 16 h v0).bind fun q1 => (if q1 = none then (bindv h.length fun a2 => (bindv (h ++ [.inr (5, df5)]) fun h3 => ((gR 9 11 h3 v0).bind fun a4 => (bind2 (m_X5_init h3 a2 a4) fun _ h6 => ((pV 9 16 (.ref a2) h6 v0).bind fun h7 => (b_X9_routesFromHere_22 F h7 v0)))))) else (b_X9_routesFromHere_22 F h v0))
set_option maxRecDepth 20000 in
theorem t_X9_routesFromHere_0 {M : MV} {X : XT} {F : Nat} {h hz : PH} {r : Nat} {mc ms : Nat} {v0 : Nat} (hc : Cx M X RX9 cX9_routesFromHere) (hr : Rx M 4 234 mc ms 1) (he : Ex M X (some (.object "FractionLift$Routes")) "routesFromHere" (some (.ref (X.1 + r))) hz mc ms) (hm : 0 ≤ mc) (hs : 0 ≤ ms) (hcost : gN 9 16 h v0 = some none → 10 ≤ mc ∧ 46057 ≤ ms) (hf : b_X9_routesFromHere_0 F h v0 = some (r, hz)) : GG M X h 0 0 0 [(0, .ref (X.1 + v0))] [] := by
  unfold b_X9_routesFromHere_0 at hf
  refine r_aload_n hc 0 (dc_at dX9_routesFromHere 0 rfl) rfl ?_
  refine r_getN hc (dc_at dX9_routesFromHere 1 rfl) fl_X9_408 hf fun q1 e_q1 hf => ?_
  refine r_ifnonnull (tgt := 22) hc (dc_at dX9_routesFromHere 2 rfl) (by decide) hf (fun hf => ?_) (fun hf hnull => ?_)
  · exact gg_sub [0] rfl (t_X9_routesFromHere_22 hc hr he (by omega) (by omega)  hf)
  · have hmc := hcost (by rw [e_q1, hnull])
    refine r_aload_n hc 0 (dc_at dX9_routesFromHere 3 rfl) rfl ?_
    refine r_newN (N := 7) hc hr (dc_at dX9_routesFromHere 4 rfl) nw_X9_215 (by omega) (by omega) hf fun a2 h3 hf => ?_
    refine r_dup hc (dc_at dX9_routesFromHere 5 rfl) rfl ?_
    refine r_aload_n hc 0 (dc_at dX9_routesFromHere 6 rfl) rfl ?_
    refine r_getR hc (dc_at dX9_routesFromHere 7 rfl) fl_X9_52 hf fun a4 hf => ?_
    refine ob2 hf fun u h6 ex hf => ?_
    refine r_callIC (As := [.ref (X.1 + a4)]) hc hr (dc_at dX9_routesFromHere 8 rfl) ml_X9_412 mv_X5_init im_X5_init rfl rfl (mt_X5_init ex) (by first | exact Nat.le_of_ble_eq_true rfl | omega) (by first | exact Nat.le_of_ble_eq_true rfl | omega) (by first | exact Nat.le_of_ble_eq_true rfl | omega) (by omega) (by omega) ?_
    refine r_putR hc he (dc_at dX9_routesFromHere 9 rfl) fp_X9_408 (fun q => by cases q) ⟨rfl, fun _ => ⟨rfl, rfl⟩⟩ hf fun h7 hf => ?_
    exact gg_sub [0] rfl (t_X9_routesFromHere_22 hc hr he (by omega) (by omega)  hf)
def m_X9_routesFromHere (F : Nat) (h : PH) (p0 : Nat) : Option (Nat × PH) := b_X9_routesFromHere_0 F h p0
theorem mt_X9_routesFromHere {l : Launch} {X : XT} {F : Nat} {h hz : PH} {p0 : Nat} {r : Nat} {mc ms : Nat} (ex : m_X9_routesFromHere F h p0 = some (r, hz)) (hcost : gN 9 16 h p0 = some none → 10 ≤ mc ∧ 46057 ≤ ms) : MT l X yX9_routesFromHere cX9_routesFromHere 1 (some (.object "FractionLift$Routes")) 4 234 mc ms [.ref (X.1 + p0)] h (some (.ref (X.1 + r))) hz := MT.of (by decide) (Nat.le_of_ble_eq_true rfl) fun M hl hc hr he => by
  subst hl
  exact gg_sub [0] rfl (t_X9_routesFromHere_0  hc hr he (Nat.zero_le _) (Nat.zero_le _) hcost ex)
