/-! FractionLift$House.<init>()V -/
def lX0_initL : List (Nat × Instr × Nat × Nat) := [(0, .aload_n 0, 1, 1), (1, .invokespecial 3, 3, 4), (4, .aload_n 0, 1, 5), (5, .iconst 4, 1, 6), (6, .putfield 9, 3, 9), (9, .aload_n 0, 1, 10), (10, .iconst 1, 1, 11), (11, .putfield 15, 3, 14), (14, .aload_n 0, 1, 15), (15, .bipush 7, 2, 17), (17, .newarray .int, 2, 19), (19, .putfield 18, 3, 22), (22, .aload_n 0, 1, 23), (23, .sipush 900, 3, 26), (26, .newarray .int, 2, 28), (28, .putfield 22, 3, 31), (31, .aload_n 0, 1, 32), (32, .bipush 8, 2, 34), (34, .newarray .int, 2, 36), (36, .putfield 25, 3, 39), (39, .aload_n 0, 1, 40), (40, .bipush 8, 2, 42), (42, .newarray .int, 2, 44), (44, .putfield 28, 3, 47), (47, .aload_n 0, 1, 48), (48, .bipush 24, 2, 50), (50, .newarray .int, 2, 52), (52, .putfield 31, 3, 55), (55, .aload_n 0, 1, 56), (56, .iconst 3, 1, 57), (57, .newarray .int, 2, 59), (59, .putfield 34, 3, 62), (62, .aload_n 0, 1, 63), (63, .bipush 8, 2, 65), (65, .newarray .int, 2, 67), (67, .putfield 37, 3, 70), (70, .aload_n 0, 1, 71), (71, .bipush 6, 2, 73), (73, .newarray .int, 2, 75), (75, .putfield 40, 3, 78), (78, .aload_n 0, 1, 79), (79, .bipush 6, 2, 81), (81, .newarray .int, 2, 83), (83, .putfield 43, 3, 86), (86, .return_, 1, 87)]
set_option maxRecDepth 20000 in
theorem dX0_init : dcL cX0_init lX0_initL = true := by decide +kernel
def b_X0_init_0 (h : PH) (v0 : Nat) : Option (Unit × PH) := (pV 0 0 (.int (4 : Int32)) h v0).bind fun h1 => ((pV 0 5 (.int (1 : Int32)) h1 v0).bind fun h2 => (bindv h2.length fun a3 => (bindv (h2 ++ [.inl (0, 7, .inl (fun _ => 0))]) fun h4 => ((pV 0 7 (.ref a3) h4 v0).bind fun h5 => (bindv h5.length fun a6 => (bindv (h5 ++ [.inl (0, 900, .inl (fun _ => 0))]) fun h7 => ((pV 0 8 (.ref a6) h7 v0).bind fun h8 => (bindv h8.length fun a9 => (bindv (h8 ++ [.inl (0, 8, .inl (fun _ => 0))]) fun h10 => ((pV 0 10 (.ref a9) h10 v0).bind fun h11 => (bindv h11.length fun a12 => (bindv (h11 ++ [.inl (0, 8, .inl (fun _ => 0))]) fun h13 => ((pV 0 11 (.ref a12) h13 v0).bind fun h14 => (bindv h14.length fun a15 => (bindv (h14 ++ [.inl (0, 24, .inl (fun _ => 0))]) fun h16 => ((pV 0 12 (.ref a15) h16 v0).bind fun h17 => (bindv h17.length fun a18 => (bindv (h17 ++ [.inl (0, 3, .inl (fun _ => 0))]) fun h19 => ((pV 0 13 (.ref a18) h19 v0).bind fun h20 => (bindv h20.length fun a21 => (bindv (h20 ++ [.inl (0, 8, .inl (fun _ => 0))]) fun h22 => ((pV 0 14 (.ref a21) h22 v0).bind fun h23 => (bindv h23.length fun a24 => (bindv (h23 ++ [.inl (0, 6, .inl (fun _ => 0))]) fun h25 => ((pV 0 16 (.ref a24) h25 v0).bind fun h26 => (bindv h26.length fun a27 => (bindv (h26 ++ [.inl (0, 6, .inl (fun _ => 0))]) fun h28 => ((pV 0 17 (.ref a27) h28 v0).bind fun h29 => (some ((), h29))))))))))))))))))))))))))))))
set_option maxRecDepth 20000 in
theorem t_X0_init_0 {M : MV} {X : XT} {h hz : PH} {r : Unit} {v0 : Nat} (hc : Cx M X RX0 cX0_init) (hr : Rx M 1 60 9 970 1) (he : Ex M X none "<init>" none hz 9 970) (hm : 0 ≤ 9) (hs : 0 ≤ 970) (hf : b_X0_init_0 h v0 = some (r, hz)) : GG M X h 0 0 0 [(0, .ref (X.1 + v0))] [] := by
  unfold b_X0_init_0 at hf
  refine r_aload_n hc 0 (dc_at dX0_init 0 rfl) rfl ?_
  refine r_objinit hc hr (dc_at dX0_init 1 rfl) oi_X0_3 oiw (by first | exact Nat.le_of_ble_eq_true rfl | omega) (by first | exact Nat.le_of_ble_eq_true rfl | omega) ?_
  refine r_aload_n hc 0 (dc_at dX0_init 2 rfl) rfl ?_
  refine r_iconst (4 : Int32) hc (dc_at dX0_init 3 rfl) (by decide) ?_
  refine r_putI hc he (dc_at dX0_init 4 rfl) fp_X0_9 (fun q => by cases q) hf fun h1 hf => ?_
  refine r_aload_n hc 0 (dc_at dX0_init 5 rfl) rfl ?_
  refine r_iconst (1 : Int32) hc (dc_at dX0_init 6 rfl) (by decide) ?_
  refine r_putI hc he (dc_at dX0_init 7 rfl) fp_X0_15 (fun q => by cases q) hf fun h2 hf => ?_
  refine r_aload_n hc 0 (dc_at dX0_init 8 rfl) rfl ?_
  refine r_bipush (7 : Int32) hc (dc_at dX0_init 9 rfl) (by decide) ?_
  refine r_newarrN (t := 0) (N := 7) (ty := .int) hc hr (dc_at dX0_init 10 rfl) arr_int rfl (fun _ _ z => z) rfl (fun _ => rfl) (by decide) (by decide) (by decide) (Nat.le_of_ble_eq_true rfl) (Nat.le_of_ble_eq_true rfl) hf fun a3 h4 hf => ?_
  refine r_putR hc he (dc_at dX0_init 11 rfl) fp_X0_18 (fun _ => rfl) ⟨rfl, fun _ => ⟨rfl, rfl⟩⟩ hf fun h5 hf => ?_
  refine r_aload_n hc 0 (dc_at dX0_init 12 rfl) rfl ?_
  refine r_sipush (900 : Int32) hc (dc_at dX0_init 13 rfl) (by decide) ?_
  refine r_newarrN (t := 0) (N := 900) (ty := .int) hc hr (dc_at dX0_init 14 rfl) arr_int rfl (fun _ _ z => z) rfl (fun _ => rfl) (by decide) (by decide) (by decide) (Nat.le_of_ble_eq_true rfl) (Nat.le_of_ble_eq_true rfl) hf fun a6 h7 hf => ?_
  refine r_putR hc he (dc_at dX0_init 15 rfl) fp_X0_22 (fun _ => rfl) ⟨rfl, fun _ => ⟨rfl, rfl⟩⟩ hf fun h8 hf => ?_
  refine r_aload_n hc 0 (dc_at dX0_init 16 rfl) rfl ?_
  refine r_bipush (8 : Int32) hc (dc_at dX0_init 17 rfl) (by decide) ?_
  refine r_newarrN (t := 0) (N := 8) (ty := .int) hc hr (dc_at dX0_init 18 rfl) arr_int rfl (fun _ _ z => z) rfl (fun _ => rfl) (by decide) (by decide) (by decide) (Nat.le_of_ble_eq_true rfl) (Nat.le_of_ble_eq_true rfl) hf fun a9 h10 hf => ?_
  refine r_putR hc he (dc_at dX0_init 19 rfl) fp_X0_25 (fun _ => rfl) ⟨rfl, fun _ => ⟨rfl, rfl⟩⟩ hf fun h11 hf => ?_
  refine r_aload_n hc 0 (dc_at dX0_init 20 rfl) rfl ?_
  refine r_bipush (8 : Int32) hc (dc_at dX0_init 21 rfl) (by decide) ?_
  refine r_newarrN (t := 0) (N := 8) (ty := .int) hc hr (dc_at dX0_init 22 rfl) arr_int rfl (fun _ _ z => z) rfl (fun _ => rfl) (by decide) (by decide) (by decide) (Nat.le_of_ble_eq_true rfl) (Nat.le_of_ble_eq_true rfl) hf fun a12 h13 hf => ?_
  refine r_putR hc he (dc_at dX0_init 23 rfl) fp_X0_28 (fun _ => rfl) ⟨rfl, fun _ => ⟨rfl, rfl⟩⟩ hf fun h14 hf => ?_
  refine r_aload_n hc 0 (dc_at dX0_init 24 rfl) rfl ?_
  refine r_bipush (24 : Int32) hc (dc_at dX0_init 25 rfl) (by decide) ?_
  refine r_newarrN (t := 0) (N := 24) (ty := .int) hc hr (dc_at dX0_init 26 rfl) arr_int rfl (fun _ _ z => z) rfl (fun _ => rfl) (by decide) (by decide) (by decide) (Nat.le_of_ble_eq_true rfl) (Nat.le_of_ble_eq_true rfl) hf fun a15 h16 hf => ?_
  refine r_putR hc he (dc_at dX0_init 27 rfl) fp_X0_31 (fun _ => rfl) ⟨rfl, fun _ => ⟨rfl, rfl⟩⟩ hf fun h17 hf => ?_
  refine r_aload_n hc 0 (dc_at dX0_init 28 rfl) rfl ?_
  refine r_iconst (3 : Int32) hc (dc_at dX0_init 29 rfl) (by decide) ?_
  refine r_newarrN (t := 0) (N := 3) (ty := .int) hc hr (dc_at dX0_init 30 rfl) arr_int rfl (fun _ _ z => z) rfl (fun _ => rfl) (by decide) (by decide) (by decide) (Nat.le_of_ble_eq_true rfl) (Nat.le_of_ble_eq_true rfl) hf fun a18 h19 hf => ?_
  refine r_putR hc he (dc_at dX0_init 31 rfl) fp_X0_34 (fun _ => rfl) ⟨rfl, fun _ => ⟨rfl, rfl⟩⟩ hf fun h20 hf => ?_
  refine r_aload_n hc 0 (dc_at dX0_init 32 rfl) rfl ?_
  refine r_bipush (8 : Int32) hc (dc_at dX0_init 33 rfl) (by decide) ?_
  refine r_newarrN (t := 0) (N := 8) (ty := .int) hc hr (dc_at dX0_init 34 rfl) arr_int rfl (fun _ _ z => z) rfl (fun _ => rfl) (by decide) (by decide) (by decide) (Nat.le_of_ble_eq_true rfl) (Nat.le_of_ble_eq_true rfl) hf fun a21 h22 hf => ?_
  refine r_putR hc he (dc_at dX0_init 35 rfl) fp_X0_37 (fun _ => rfl) ⟨rfl, fun _ => ⟨rfl, rfl⟩⟩ hf fun h23 hf => ?_
  refine r_aload_n hc 0 (dc_at dX0_init 36 rfl) rfl ?_
  refine r_bipush (6 : Int32) hc (dc_at dX0_init 37 rfl) (by decide) ?_
  refine r_newarrN (t := 0) (N := 6) (ty := .int) hc hr (dc_at dX0_init 38 rfl) arr_int rfl (fun _ _ z => z) rfl (fun _ => rfl) (by decide) (by decide) (by decide) (Nat.le_of_ble_eq_true rfl) (Nat.le_of_ble_eq_true rfl) hf fun a24 h25 hf => ?_
  refine r_putR hc he (dc_at dX0_init 39 rfl) fp_X0_40 (fun _ => rfl) ⟨rfl, fun _ => ⟨rfl, rfl⟩⟩ hf fun h26 hf => ?_
  refine r_aload_n hc 0 (dc_at dX0_init 40 rfl) rfl ?_
  refine r_bipush (6 : Int32) hc (dc_at dX0_init 41 rfl) (by decide) ?_
  refine r_newarrN (t := 0) (N := 6) (ty := .int) hc hr (dc_at dX0_init 42 rfl) arr_int rfl (fun _ _ z => z) rfl (fun _ => rfl) (by decide) (by decide) (by decide) (Nat.le_of_ble_eq_true rfl) (Nat.le_of_ble_eq_true rfl) hf fun a27 h28 hf => ?_
  refine r_putR hc he (dc_at dX0_init 43 rfl) fp_X0_43 (fun _ => rfl) ⟨rfl, fun _ => ⟨rfl, rfl⟩⟩ hf fun h29 hf => ?_
  exact r_vret hc he (Nat.le_of_ble_eq_true rfl) (Nat.le_of_ble_eq_true rfl) (dc_at dX0_init 44 rfl) hf
def m_X0_init (h : PH) (p0 : Nat) : Option (Unit × PH) := b_X0_init_0 h p0
theorem mt_X0_init {l : Launch} {X : XT} {h hz : PH} {p0 : Nat} {r : Unit} (ex : m_X0_init h p0 = some (r, hz)) : MT l X yX0_init cX0_init 1 none 1 60 9 970 [.ref (X.1 + p0)] h none hz := MT.of (by decide) (Nat.le_of_ble_eq_true rfl) fun M hl hc hr he => by
  subst hl
  exact gg_sub [0] rfl (t_X0_init_0  hc hr he (Nat.zero_le _) (Nat.zero_le _) ex)
/-! FractionLift$House.untell()V -/
def lX0_untellL : List (Nat × Instr × Nat × Nat) := [(0, .aload_n 0, 1, 1), (1, .iconst 4, 1, 2), (2, .putfield 9, 3, 5), (5, .aload_n 0, 1, 6), (6, .iconst 0, 1, 7), (7, .putfield 46, 3, 10), (10, .aload_n 0, 1, 11), (11, .iconst 0, 1, 12), (12, .putfield 49, 3, 15), (15, .aload_n 0, 1, 16), (16, .iconst 0, 1, 17), (17, .putfield 52, 3, 20), (20, .aload_n 0, 1, 21), (21, .iconst 0, 1, 22), (22, .putfield 55, 3, 25), (25, .aload_n 0, 1, 26), (26, .iconst 1, 1, 27), (27, .putfield 15, 3, 30), (30, .aload_n 0, 1, 31), (31, .iconst 0, 1, 32), (32, .putfield 58, 3, 35), (35, .aload_n 0, 1, 36), (36, .iconst 0, 1, 37), (37, .putfield 61, 3, 40), (40, .aload_n 0, 1, 41), (41, .iconst 0, 1, 42), (42, .putfield 64, 3, 45), (45, .return_, 1, 46)]
set_option maxRecDepth 20000 in
theorem dX0_untell : dcL cX0_untell lX0_untellL = true := by decide +kernel
def b_X0_untell_0 (h : PH) (v0 : Nat) : Option (Unit × PH) := (pV 0 0 (.int (4 : Int32)) h v0).bind fun h1 => ((pV 0 1 (.int (0 : Int32)) h1 v0).bind fun h2 => ((pV 0 2 (.int (0 : Int32)) h2 v0).bind fun h3 => ((pV 0 3 (.int (0 : Int32)) h3 v0).bind fun h4 => ((pV 0 4 (.int (0 : Int32)) h4 v0).bind fun h5 => ((pV 0 5 (.int (1 : Int32)) h5 v0).bind fun h6 => ((pV 0 6 (.int (0 : Int32)) h6 v0).bind fun h7 => ((pV 0 9 (.int (0 : Int32)) h7 v0).bind fun h8 => ((pV 0 15 (.int (0 : Int32)) h8 v0).bind fun h9 => (some ((), h9))))))))))
set_option maxRecDepth 20000 in
theorem t_X0_untell_0 {M : MV} {X : XT} {h hz : PH} {r : Unit} {ce sl mc ms : Nat} {v0 : Nat} (hc : Cx M X RX0 cX0_untell) (hr : Rx M 1 60 mc ms 1) (he : Ex M X none "untell" none hz mc ms) (hm : ce ≤ mc) (hs : sl ≤ ms) (hf : b_X0_untell_0 h v0 = some (r, hz)) : GG M X h ce sl 0 [(0, .ref (X.1 + v0))] [] := by
  unfold b_X0_untell_0 at hf
  refine r_aload_n hc 0 (dc_at dX0_untell 0 rfl) rfl ?_
  refine r_iconst (4 : Int32) hc (dc_at dX0_untell 1 rfl) (by decide) ?_
  refine r_putI hc he (dc_at dX0_untell 2 rfl) fp_X0_9 (fun q => by cases q) hf fun h1 hf => ?_
  refine r_aload_n hc 0 (dc_at dX0_untell 3 rfl) rfl ?_
  refine r_iconst (0 : Int32) hc (dc_at dX0_untell 4 rfl) (by decide) ?_
  refine r_putI hc he (dc_at dX0_untell 5 rfl) fp_X0_46 (fun q => by cases q) hf fun h2 hf => ?_
  refine r_aload_n hc 0 (dc_at dX0_untell 6 rfl) rfl ?_
  refine r_iconst (0 : Int32) hc (dc_at dX0_untell 7 rfl) (by decide) ?_
  refine r_putI hc he (dc_at dX0_untell 8 rfl) fp_X0_49 (fun q => by cases q) hf fun h3 hf => ?_
  refine r_aload_n hc 0 (dc_at dX0_untell 9 rfl) rfl ?_
  refine r_iconst (0 : Int32) hc (dc_at dX0_untell 10 rfl) (by decide) ?_
  refine r_putI hc he (dc_at dX0_untell 11 rfl) fp_X0_52 (fun q => by cases q) hf fun h4 hf => ?_
  refine r_aload_n hc 0 (dc_at dX0_untell 12 rfl) rfl ?_
  refine r_iconst (0 : Int32) hc (dc_at dX0_untell 13 rfl) (by decide) ?_
  refine r_putI hc he (dc_at dX0_untell 14 rfl) fp_X0_55 (fun q => by cases q) hf fun h5 hf => ?_
  refine r_aload_n hc 0 (dc_at dX0_untell 15 rfl) rfl ?_
  refine r_iconst (1 : Int32) hc (dc_at dX0_untell 16 rfl) (by decide) ?_
  refine r_putI hc he (dc_at dX0_untell 17 rfl) fp_X0_15 (fun q => by cases q) hf fun h6 hf => ?_
  refine r_aload_n hc 0 (dc_at dX0_untell 18 rfl) rfl ?_
  refine r_iconst (0 : Int32) hc (dc_at dX0_untell 19 rfl) (by decide) ?_
  refine r_putI hc he (dc_at dX0_untell 20 rfl) fp_X0_58 (fun q => by cases q) hf fun h7 hf => ?_
  refine r_aload_n hc 0 (dc_at dX0_untell 21 rfl) rfl ?_
  refine r_iconst (0 : Int32) hc (dc_at dX0_untell 22 rfl) (by decide) ?_
  refine r_putI hc he (dc_at dX0_untell 23 rfl) fp_X0_61 (fun q => by cases q) hf fun h8 hf => ?_
  refine r_aload_n hc 0 (dc_at dX0_untell 24 rfl) rfl ?_
  refine r_iconst (0 : Int32) hc (dc_at dX0_untell 25 rfl) (by decide) ?_
  refine r_putI hc he (dc_at dX0_untell 26 rfl) fp_X0_64 (fun q => by cases q) hf fun h9 hf => ?_
  exact r_vret hc he (hm) (hs) (dc_at dX0_untell 27 rfl) hf
def m_X0_untell (h : PH) (p0 : Nat) : Option (Unit × PH) := b_X0_untell_0 h p0
theorem mt_X0_untell {l : Launch} {X : XT} {h hz : PH} {p0 : Nat} {r : Unit} (ex : m_X0_untell h p0 = some (r, hz)) : MT l X yX0_untell cX0_untell 1 none 1 60 0 0 [.ref (X.1 + p0)] h none hz := MT.of (by decide) (Nat.le_of_ble_eq_true rfl) fun M hl hc hr he => by
  subst hl
  exact gg_sub [0] rfl (t_X0_untell_0  hc hr he (Nat.zero_le _) (Nat.zero_le _) ex)
/-! FractionLift$House.takeFrom(LFractionLift$House;)V -/
def lX0_takeFromL : List (Nat × Instr × Nat × Nat) := [(0, .aload_n 0, 1, 1), (1, .aload_n 1, 1, 2), (2, .getfield 9, 3, 5), (5, .putfield 9, 3, 8), (8, .aload_n 0, 1, 9), (9, .aload_n 1, 1, 10), (10, .getfield 46, 3, 13), (13, .putfield 46, 3, 16), (16, .aload_n 0, 1, 17), (17, .aload_n 1, 1, 18), (18, .getfield 49, 3, 21), (21, .putfield 49, 3, 24), (24, .aload_n 0, 1, 25), (25, .aload_n 1, 1, 26), (26, .getfield 52, 3, 29), (29, .putfield 52, 3, 32), (32, .aload_n 0, 1, 33), (33, .aload_n 1, 1, 34), (34, .getfield 55, 3, 37), (37, .putfield 55, 3, 40), (40, .aload_n 0, 1, 41), (41, .aload_n 1, 1, 42), (42, .getfield 15, 3, 45), (45, .putfield 15, 3, 48), (48, .aload_n 0, 1, 49), (49, .aload_n 1, 1, 50), (50, .getfield 58, 3, 53), (53, .putfield 58, 3, 56), (56, .aload_n 1, 1, 57), (57, .getfield 18, 3, 60), (60, .iconst 0, 1, 61), (61, .aload_n 0, 1, 62), (62, .getfield 18, 3, 65), (65, .iconst 0, 1, 66), (66, .aload_n 0, 1, 67), (67, .getfield 18, 3, 70), (70, .arraylength, 1, 71), (71, .invokestatic 67, 3, 74), (74, .aload_n 1, 1, 75), (75, .getfield 22, 3, 78), (78, .iconst 0, 1, 79), (79, .aload_n 0, 1, 80), (80, .getfield 22, 3, 83), (83, .iconst 0, 1, 84), (84, .aload_n 0, 1, 85), (85, .getfield 22, 3, 88), (88, .arraylength, 1, 89), (89, .invokestatic 67, 3, 92), (92, .aload_n 0, 1, 93), (93, .aload_n 1, 1, 94), (94, .getfield 61, 3, 97), (97, .putfield 61, 3, 100), (100, .aload_n 1, 1, 101), (101, .getfield 25, 3, 104), (104, .iconst 0, 1, 105), (105, .aload_n 0, 1, 106), (106, .getfield 25, 3, 109), (109, .iconst 0, 1, 110), (110, .aload_n 0, 1, 111), (111, .getfield 25, 3, 114), (114, .arraylength, 1, 115), (115, .invokestatic 67, 3, 118), (118, .aload_n 1, 1, 119), (119, .getfield 28, 3, 122), (122, .iconst 0, 1, 123), (123, .aload_n 0, 1, 124), (124, .getfield 28, 3, 127), (127, .iconst 0, 1, 128), (128, .aload_n 0, 1, 129), (129, .getfield 28, 3, 132), (132, .arraylength, 1, 133), (133, .invokestatic 67, 3, 136), (136, .aload_n 1, 1, 137), (137, .getfield 31, 3, 140), (140, .iconst 0, 1, 141), (141, .aload_n 0, 1, 142), (142, .getfield 31, 3, 145), (145, .iconst 0, 1, 146), (146, .aload_n 0, 1, 147), (147, .getfield 31, 3, 150), (150, .arraylength, 1, 151), (151, .invokestatic 67, 3, 154), (154, .aload_n 1, 1, 155), (155, .getfield 37, 3, 158), (158, .iconst 0, 1, 159), (159, .aload_n 0, 1, 160), (160, .getfield 37, 3, 163), (163, .iconst 0, 1, 164), (164, .aload_n 0, 1, 165), (165, .getfield 37, 3, 168), (168, .arraylength, 1, 169), (169, .invokestatic 67, 3, 172), (172, .aload_n 0, 1, 173), (173, .aload_n 1, 1, 174), (174, .getfield 64, 3, 177), (177, .putfield 64, 3, 180), (180, .aload_n 1, 1, 181), (181, .getfield 40, 3, 184), (184, .iconst 0, 1, 185), (185, .aload_n 0, 1, 186), (186, .getfield 40, 3, 189), (189, .iconst 0, 1, 190), (190, .aload_n 0, 1, 191), (191, .getfield 40, 3, 194), (194, .arraylength, 1, 195), (195, .invokestatic 67, 3, 198), (198, .aload_n 1, 1, 199), (199, .getfield 43, 3, 202), (202, .iconst 0, 1, 203), (203, .aload_n 0, 1, 204), (204, .getfield 43, 3, 207), (207, .iconst 0, 1, 208), (208, .aload_n 0, 1, 209), (209, .getfield 43, 3, 212), (212, .arraylength, 1, 213), (213, .invokestatic 67, 3, 216), (216, .return_, 1, 217)]
set_option maxRecDepth 20000 in
theorem dX0_takeFrom : dcL cX0_takeFrom lX0_takeFromL = true := by decide +kernel
def b_X0_takeFrom_0 (h : PH) (v0 : Nat) (v1 : Nat) : Option (Unit × PH) := (gI 0 0 h v1).bind fun x1 => ((pV 0 0 (.int x1) h v0).bind fun h2 => ((gI 0 1 h2 v1).bind fun x3 => ((pV 0 1 (.int x3) h2 v0).bind fun h4 => ((gI 0 2 h4 v1).bind fun x5 => ((pV 0 2 (.int x5) h4 v0).bind fun h6 => ((gI 0 3 h6 v1).bind fun x7 => ((pV 0 3 (.int x7) h6 v0).bind fun h8 => ((gI 0 4 h8 v1).bind fun x9 => ((pV 0 4 (.int x9) h8 v0).bind fun h10 => ((gI 0 5 h10 v1).bind fun x11 => ((pV 0 5 (.int x11) h10 v0).bind fun h12 => ((gI 0 6 h12 v1).bind fun x13 => ((pV 0 6 (.int x13) h12 v0).bind fun h14 => ((gR 0 7 h14 v1).bind fun a15 => ((gR 0 7 h14 v0).bind fun a16 => ((gR 0 7 h14 v0).bind fun a17 => ((aLen h14 a17).bind fun x18 => ((cpI h14 a15 (0 : Int32) a16 (0 : Int32) x18).bind fun h19 => ((gR 0 8 h19 v1).bind fun a20 => ((gR 0 8 h19 v0).bind fun a21 => ((gR 0 8 h19 v0).bind fun a22 => ((aLen h19 a22).bind fun x23 => ((cpI h19 a20 (0 : Int32) a21 (0 : Int32) x23).bind fun h24 => ((gI 0 9 h24 v1).bind fun x25 => ((pV 0 9 (.int x25) h24 v0).bind fun h26 => ((gR 0 10 h26 v1).bind fun a27 => ((gR 0 10 h26 v0).bind fun a28 => ((gR 0 10 h26 v0).bind fun a29 => ((aLen h26 a29).bind fun x30 => ((cpI h26 a27 (0 : Int32) a28 (0 : Int32) x30).bind fun h31 => ((gR 0 11 h31 v1).bind fun a32 => ((gR 0 11 h31 v0).bind fun a33 => ((gR 0 11 h31 v0).bind fun a34 => ((aLen h31 a34).bind fun x35 => ((cpI h31 a32 (0 : Int32) a33 (0 : Int32) x35).bind fun h36 => ((gR 0 12 h36 v1).bind fun a37 => ((gR 0 12 h36 v0).bind fun a38 => ((gR 0 12 h36 v0).bind fun a39 => ((aLen h36 a39).bind fun x40 => ((cpI h36 a37 (0 : Int32) a38 (0 : Int32) x40).bind fun h41 => ((gR 0 14 h41 v1).bind fun a42 => ((gR 0 14 h41 v0).bind fun a43 => ((gR 0 14 h41 v0).bind fun a44 => ((aLen h41 a44).bind fun x45 => ((cpI h41 a42 (0 : Int32) a43 (0 : Int32) x45).bind fun h46 => ((gI 0 15 h46 v1).bind fun x47 => ((pV 0 15 (.int x47) h46 v0).bind fun h48 => ((gR 0 16 h48 v1).bind fun a49 => ((gR 0 16 h48 v0).bind fun a50 => ((gR 0 16 h48 v0).bind fun a51 => ((aLen h48 a51).bind fun x52 => ((cpI h48 a49 (0 : Int32) a50 (0 : Int32) x52).bind fun h53 => ((gR 0 17 h53 v1).bind fun a54 => ((gR 0 17 h53 v0).bind fun a55 => ((gR 0 17 h53 v0).bind fun a56 => ((aLen h53 a56).bind fun x57 => ((cpI h53 a54 (0 : Int32) a55 (0 : Int32) x57).bind fun h58 => (some ((), h58)))))))))))))))))))))))))))))))))))))))))))))))))))))))))))
set_option maxRecDepth 20000 in
theorem t_X0_takeFrom_0 {M : MV} {X : XT} {h hz : PH} {r : Unit} {ce sl mc ms : Nat} {v0 : Nat} {v1 : Nat} (hc : Cx M X RX0 cX0_takeFrom) (hr : Rx M 1 60 mc ms 2) (he : Ex M X none "takeFrom" none hz mc ms) (hm : ce ≤ mc) (hs : sl ≤ ms) (hf : b_X0_takeFrom_0 h v0 v1 = some (r, hz)) : GG M X h ce sl 0 [(0, .ref (X.1 + v0)), (1, .ref (X.1 + v1))] [] := by
  unfold b_X0_takeFrom_0 at hf
  refine r_aload_n hc 0 (dc_at dX0_takeFrom 0 rfl) rfl ?_
  refine r_aload_n hc 1 (dc_at dX0_takeFrom 1 rfl) rfl ?_
  refine r_getI hc (dc_at dX0_takeFrom 2 rfl) fl_X0_9 hf fun x1 hf => ?_
  refine r_putI hc he (dc_at dX0_takeFrom 3 rfl) fp_X0_9 (fun q => by cases q) hf fun h2 hf => ?_
  refine r_aload_n hc 0 (dc_at dX0_takeFrom 4 rfl) rfl ?_
  refine r_aload_n hc 1 (dc_at dX0_takeFrom 5 rfl) rfl ?_
  refine r_getI hc (dc_at dX0_takeFrom 6 rfl) fl_X0_46 hf fun x3 hf => ?_
  refine r_putI hc he (dc_at dX0_takeFrom 7 rfl) fp_X0_46 (fun q => by cases q) hf fun h4 hf => ?_
  refine r_aload_n hc 0 (dc_at dX0_takeFrom 8 rfl) rfl ?_
  refine r_aload_n hc 1 (dc_at dX0_takeFrom 9 rfl) rfl ?_
  refine r_getI hc (dc_at dX0_takeFrom 10 rfl) fl_X0_49 hf fun x5 hf => ?_
  refine r_putI hc he (dc_at dX0_takeFrom 11 rfl) fp_X0_49 (fun q => by cases q) hf fun h6 hf => ?_
  refine r_aload_n hc 0 (dc_at dX0_takeFrom 12 rfl) rfl ?_
  refine r_aload_n hc 1 (dc_at dX0_takeFrom 13 rfl) rfl ?_
  refine r_getI hc (dc_at dX0_takeFrom 14 rfl) fl_X0_52 hf fun x7 hf => ?_
  refine r_putI hc he (dc_at dX0_takeFrom 15 rfl) fp_X0_52 (fun q => by cases q) hf fun h8 hf => ?_
  refine r_aload_n hc 0 (dc_at dX0_takeFrom 16 rfl) rfl ?_
  refine r_aload_n hc 1 (dc_at dX0_takeFrom 17 rfl) rfl ?_
  refine r_getI hc (dc_at dX0_takeFrom 18 rfl) fl_X0_55 hf fun x9 hf => ?_
  refine r_putI hc he (dc_at dX0_takeFrom 19 rfl) fp_X0_55 (fun q => by cases q) hf fun h10 hf => ?_
  refine r_aload_n hc 0 (dc_at dX0_takeFrom 20 rfl) rfl ?_
  refine r_aload_n hc 1 (dc_at dX0_takeFrom 21 rfl) rfl ?_
  refine r_getI hc (dc_at dX0_takeFrom 22 rfl) fl_X0_15 hf fun x11 hf => ?_
  refine r_putI hc he (dc_at dX0_takeFrom 23 rfl) fp_X0_15 (fun q => by cases q) hf fun h12 hf => ?_
  refine r_aload_n hc 0 (dc_at dX0_takeFrom 24 rfl) rfl ?_
  refine r_aload_n hc 1 (dc_at dX0_takeFrom 25 rfl) rfl ?_
  refine r_getI hc (dc_at dX0_takeFrom 26 rfl) fl_X0_58 hf fun x13 hf => ?_
  refine r_putI hc he (dc_at dX0_takeFrom 27 rfl) fp_X0_58 (fun q => by cases q) hf fun h14 hf => ?_
  refine r_aload_n hc 1 (dc_at dX0_takeFrom 28 rfl) rfl ?_
  refine r_getR hc (dc_at dX0_takeFrom 29 rfl) fl_X0_18 hf fun a15 hf => ?_
  refine r_iconst (0 : Int32) hc (dc_at dX0_takeFrom 30 rfl) (by decide) ?_
  refine r_aload_n hc 0 (dc_at dX0_takeFrom 31 rfl) rfl ?_
  refine r_getR hc (dc_at dX0_takeFrom 32 rfl) fl_X0_18 hf fun a16 hf => ?_
  refine r_iconst (0 : Int32) hc (dc_at dX0_takeFrom 33 rfl) (by decide) ?_
  refine r_aload_n hc 0 (dc_at dX0_takeFrom 34 rfl) rfl ?_
  refine r_getR hc (dc_at dX0_takeFrom 35 rfl) fl_X0_18 hf fun a17 hf => ?_
  refine r_alen hc (dc_at dX0_takeFrom 36 rfl) hf fun x18 hf => ?_
  refine r_copy hc hr (dc_at dX0_takeFrom 37 rfl) ac_X0_67 acw hf (by first | exact Nat.le_of_ble_eq_true rfl | omega) (by first | exact Nat.le_of_ble_eq_true rfl | omega) fun h19 hf => ?_
  refine r_aload_n hc 1 (dc_at dX0_takeFrom 38 rfl) rfl ?_
  refine r_getR hc (dc_at dX0_takeFrom 39 rfl) fl_X0_22 hf fun a20 hf => ?_
  refine r_iconst (0 : Int32) hc (dc_at dX0_takeFrom 40 rfl) (by decide) ?_
  refine r_aload_n hc 0 (dc_at dX0_takeFrom 41 rfl) rfl ?_
  refine r_getR hc (dc_at dX0_takeFrom 42 rfl) fl_X0_22 hf fun a21 hf => ?_
  refine r_iconst (0 : Int32) hc (dc_at dX0_takeFrom 43 rfl) (by decide) ?_
  refine r_aload_n hc 0 (dc_at dX0_takeFrom 44 rfl) rfl ?_
  refine r_getR hc (dc_at dX0_takeFrom 45 rfl) fl_X0_22 hf fun a22 hf => ?_
  refine r_alen hc (dc_at dX0_takeFrom 46 rfl) hf fun x23 hf => ?_
  refine r_copy hc hr (dc_at dX0_takeFrom 47 rfl) ac_X0_67 acw hf (by first | exact Nat.le_of_ble_eq_true rfl | omega) (by first | exact Nat.le_of_ble_eq_true rfl | omega) fun h24 hf => ?_
  refine r_aload_n hc 0 (dc_at dX0_takeFrom 48 rfl) rfl ?_
  refine r_aload_n hc 1 (dc_at dX0_takeFrom 49 rfl) rfl ?_
  refine r_getI hc (dc_at dX0_takeFrom 50 rfl) fl_X0_61 hf fun x25 hf => ?_
  refine r_putI hc he (dc_at dX0_takeFrom 51 rfl) fp_X0_61 (fun q => by cases q) hf fun h26 hf => ?_
  refine r_aload_n hc 1 (dc_at dX0_takeFrom 52 rfl) rfl ?_
  refine r_getR hc (dc_at dX0_takeFrom 53 rfl) fl_X0_25 hf fun a27 hf => ?_
  refine r_iconst (0 : Int32) hc (dc_at dX0_takeFrom 54 rfl) (by decide) ?_
  refine r_aload_n hc 0 (dc_at dX0_takeFrom 55 rfl) rfl ?_
  refine r_getR hc (dc_at dX0_takeFrom 56 rfl) fl_X0_25 hf fun a28 hf => ?_
  refine r_iconst (0 : Int32) hc (dc_at dX0_takeFrom 57 rfl) (by decide) ?_
  refine r_aload_n hc 0 (dc_at dX0_takeFrom 58 rfl) rfl ?_
  refine r_getR hc (dc_at dX0_takeFrom 59 rfl) fl_X0_25 hf fun a29 hf => ?_
  refine r_alen hc (dc_at dX0_takeFrom 60 rfl) hf fun x30 hf => ?_
  refine r_copy hc hr (dc_at dX0_takeFrom 61 rfl) ac_X0_67 acw hf (by first | exact Nat.le_of_ble_eq_true rfl | omega) (by first | exact Nat.le_of_ble_eq_true rfl | omega) fun h31 hf => ?_
  refine r_aload_n hc 1 (dc_at dX0_takeFrom 62 rfl) rfl ?_
  refine r_getR hc (dc_at dX0_takeFrom 63 rfl) fl_X0_28 hf fun a32 hf => ?_
  refine r_iconst (0 : Int32) hc (dc_at dX0_takeFrom 64 rfl) (by decide) ?_
  refine r_aload_n hc 0 (dc_at dX0_takeFrom 65 rfl) rfl ?_
  refine r_getR hc (dc_at dX0_takeFrom 66 rfl) fl_X0_28 hf fun a33 hf => ?_
  refine r_iconst (0 : Int32) hc (dc_at dX0_takeFrom 67 rfl) (by decide) ?_
  refine r_aload_n hc 0 (dc_at dX0_takeFrom 68 rfl) rfl ?_
  refine r_getR hc (dc_at dX0_takeFrom 69 rfl) fl_X0_28 hf fun a34 hf => ?_
  refine r_alen hc (dc_at dX0_takeFrom 70 rfl) hf fun x35 hf => ?_
  refine r_copy hc hr (dc_at dX0_takeFrom 71 rfl) ac_X0_67 acw hf (by first | exact Nat.le_of_ble_eq_true rfl | omega) (by first | exact Nat.le_of_ble_eq_true rfl | omega) fun h36 hf => ?_
  refine r_aload_n hc 1 (dc_at dX0_takeFrom 72 rfl) rfl ?_
  refine r_getR hc (dc_at dX0_takeFrom 73 rfl) fl_X0_31 hf fun a37 hf => ?_
  refine r_iconst (0 : Int32) hc (dc_at dX0_takeFrom 74 rfl) (by decide) ?_
  refine r_aload_n hc 0 (dc_at dX0_takeFrom 75 rfl) rfl ?_
  refine r_getR hc (dc_at dX0_takeFrom 76 rfl) fl_X0_31 hf fun a38 hf => ?_
  refine r_iconst (0 : Int32) hc (dc_at dX0_takeFrom 77 rfl) (by decide) ?_
  refine r_aload_n hc 0 (dc_at dX0_takeFrom 78 rfl) rfl ?_
  refine r_getR hc (dc_at dX0_takeFrom 79 rfl) fl_X0_31 hf fun a39 hf => ?_
  refine r_alen hc (dc_at dX0_takeFrom 80 rfl) hf fun x40 hf => ?_
  refine r_copy hc hr (dc_at dX0_takeFrom 81 rfl) ac_X0_67 acw hf (by first | exact Nat.le_of_ble_eq_true rfl | omega) (by first | exact Nat.le_of_ble_eq_true rfl | omega) fun h41 hf => ?_
  refine r_aload_n hc 1 (dc_at dX0_takeFrom 82 rfl) rfl ?_
  refine r_getR hc (dc_at dX0_takeFrom 83 rfl) fl_X0_37 hf fun a42 hf => ?_
  refine r_iconst (0 : Int32) hc (dc_at dX0_takeFrom 84 rfl) (by decide) ?_
  refine r_aload_n hc 0 (dc_at dX0_takeFrom 85 rfl) rfl ?_
  refine r_getR hc (dc_at dX0_takeFrom 86 rfl) fl_X0_37 hf fun a43 hf => ?_
  refine r_iconst (0 : Int32) hc (dc_at dX0_takeFrom 87 rfl) (by decide) ?_
  refine r_aload_n hc 0 (dc_at dX0_takeFrom 88 rfl) rfl ?_
  refine r_getR hc (dc_at dX0_takeFrom 89 rfl) fl_X0_37 hf fun a44 hf => ?_
  refine r_alen hc (dc_at dX0_takeFrom 90 rfl) hf fun x45 hf => ?_
  refine r_copy hc hr (dc_at dX0_takeFrom 91 rfl) ac_X0_67 acw hf (by first | exact Nat.le_of_ble_eq_true rfl | omega) (by first | exact Nat.le_of_ble_eq_true rfl | omega) fun h46 hf => ?_
  refine r_aload_n hc 0 (dc_at dX0_takeFrom 92 rfl) rfl ?_
  refine r_aload_n hc 1 (dc_at dX0_takeFrom 93 rfl) rfl ?_
  refine r_getI hc (dc_at dX0_takeFrom 94 rfl) fl_X0_64 hf fun x47 hf => ?_
  refine r_putI hc he (dc_at dX0_takeFrom 95 rfl) fp_X0_64 (fun q => by cases q) hf fun h48 hf => ?_
  refine r_aload_n hc 1 (dc_at dX0_takeFrom 96 rfl) rfl ?_
  refine r_getR hc (dc_at dX0_takeFrom 97 rfl) fl_X0_40 hf fun a49 hf => ?_
  refine r_iconst (0 : Int32) hc (dc_at dX0_takeFrom 98 rfl) (by decide) ?_
  refine r_aload_n hc 0 (dc_at dX0_takeFrom 99 rfl) rfl ?_
  refine r_getR hc (dc_at dX0_takeFrom 100 rfl) fl_X0_40 hf fun a50 hf => ?_
  refine r_iconst (0 : Int32) hc (dc_at dX0_takeFrom 101 rfl) (by decide) ?_
  refine r_aload_n hc 0 (dc_at dX0_takeFrom 102 rfl) rfl ?_
  refine r_getR hc (dc_at dX0_takeFrom 103 rfl) fl_X0_40 hf fun a51 hf => ?_
  refine r_alen hc (dc_at dX0_takeFrom 104 rfl) hf fun x52 hf => ?_
  refine r_copy hc hr (dc_at dX0_takeFrom 105 rfl) ac_X0_67 acw hf (by first | exact Nat.le_of_ble_eq_true rfl | omega) (by first | exact Nat.le_of_ble_eq_true rfl | omega) fun h53 hf => ?_
  refine r_aload_n hc 1 (dc_at dX0_takeFrom 106 rfl) rfl ?_
  refine r_getR hc (dc_at dX0_takeFrom 107 rfl) fl_X0_43 hf fun a54 hf => ?_
  refine r_iconst (0 : Int32) hc (dc_at dX0_takeFrom 108 rfl) (by decide) ?_
  refine r_aload_n hc 0 (dc_at dX0_takeFrom 109 rfl) rfl ?_
  refine r_getR hc (dc_at dX0_takeFrom 110 rfl) fl_X0_43 hf fun a55 hf => ?_
  refine r_iconst (0 : Int32) hc (dc_at dX0_takeFrom 111 rfl) (by decide) ?_
  refine r_aload_n hc 0 (dc_at dX0_takeFrom 112 rfl) rfl ?_
  refine r_getR hc (dc_at dX0_takeFrom 113 rfl) fl_X0_43 hf fun a56 hf => ?_
  refine r_alen hc (dc_at dX0_takeFrom 114 rfl) hf fun x57 hf => ?_
  refine r_copy hc hr (dc_at dX0_takeFrom 115 rfl) ac_X0_67 acw hf (by first | exact Nat.le_of_ble_eq_true rfl | omega) (by first | exact Nat.le_of_ble_eq_true rfl | omega) fun h58 hf => ?_
  exact r_vret hc he (hm) (hs) (dc_at dX0_takeFrom 116 rfl) hf
def m_X0_takeFrom (h : PH) (p0 : Nat) (p1 : Nat) : Option (Unit × PH) := b_X0_takeFrom_0 h p0 p1
theorem mt_X0_takeFrom {l : Launch} {X : XT} {h hz : PH} {p0 : Nat} {p1 : Nat} {r : Unit} (ex : m_X0_takeFrom h p0 p1 = some (r, hz)) : MT l X yX0_takeFrom cX0_takeFrom 2 none 1 60 0 0 [.ref (X.1 + p0), .ref (X.1 + p1)] h none hz := MT.of (by decide) (Nat.le_of_ble_eq_true rfl) fun M hl hc hr he => by
  subst hl
  exact gg_sub [0, 1] rfl (t_X0_takeFrom_0  hc hr he (Nat.zero_le _) (Nat.zero_le _) ex)
/-! FractionLift$House.isFloor(JJ)Z -/
def lX0_isFloorL : List (Nat × Instr × Nat × Nat) := [(0, .lload_n 1, 1, 1), (1, .lconst 0, 1, 2), (2, .lcmp, 1, 3), (3, .ifCond .lt 41, 3, 6), (6, .lload_n 3, 1, 7), (7, .lconst 1, 1, 8), (8, .lcmp, 1, 9), (9, .ifCond .lt 35, 3, 12), (12, .lload_n 1, 1, 13), (13, .ldc2_w 73, 3, 16), (16, .lcmp, 1, 17), (17, .ifCond .gt 27, 3, 20), (20, .lload_n 3, 1, 21), (21, .ldc2_w 73, 3, 24), (24, .lcmp, 1, 25), (25, .ifCond .gt 19, 3, 28), (28, .lload_n 1, 1, 29), (29, .aload_n 0, 1, 30), (30, .getfield 9, 3, 33), (33, .i2l, 1, 34), (34, .lload_n 3, 1, 35), (35, .lmul, 1, 36), (36, .lcmp, 1, 37), (37, .ifCond .gt 7, 3, 40), (40, .iconst 1, 1, 41), (41, .goto 4, 3, 44), (44, .iconst 0, 1, 45), (45, .ireturn, 1, 46)]
set_option maxRecDepth 20000 in
theorem dX0_isFloor : dcL cX0_isFloor lX0_isFloorL = true := by decide +kernel
def b_X0_isFloor_0 (h : PH) (v0 : Nat) (v1 : Int64) (v3 : Int64) : Option Int32 := if v1 < (0 : Int64) then (rZP (0 : Int32)) else (if v3 < (1 : Int64) then (rZP (0 : Int32)) else (if (1000000 : Int64) < v1 then (rZP (0 : Int32)) else (if (1000000 : Int64) < v3 then (rZP (0 : Int32)) else ((gI 0 0 h v0).bind fun x1 => (if (((Int32.toInt64 x1) * v3)) < v1 then (rZP (0 : Int32)) else (rZP (1 : Int32)))))))
set_option maxRecDepth 20000 in
theorem t_X0_isFloor_0 {M : MV} {X : XT} {h : PH} {r : Int32} {ce sl mc ms : Nat} {v0 : Nat} {v1 : Int64} {v3 : Int64} (hc : Cx M X RX0 cX0_isFloor) (hr : Rx M 1 60 mc ms 5) (he : Ex M X (some .boolean) "isFloor" (some (.int r)) h mc ms) (hm : ce ≤ mc) (hs : sl ≤ ms) (hf : b_X0_isFloor_0 h v0 v1 v3 = some r) : GG M X h ce sl 0 [(0, .ref (X.1 + v0)), (1, .long v1), (3, .long v3)] [] := by
  unfold b_X0_isFloor_0 at hf
  refine r_lload_n hc 1 (dc_at dX0_isFloor 0 rfl) rfl ?_
  refine r_lconst (0 : Int64) hc (dc_at dX0_isFloor 1 rfl) (by decide) ?_
  refine r_lcmp_lt (tgt := 44) hc (dc_at dX0_isFloor 2 rfl) (dc_at dX0_isFloor 3 rfl) (by decide) hf (fun hf => ?_) (fun hf => ?_)
  · refine r_iconst (0 : Int32) hc (dc_at dX0_isFloor 26 rfl) (by decide) ?_
    exact r_zretP hc he (hm) (hs) (dc_at dX0_isFloor 27 rfl) hf
  · refine r_lload_n hc 2 (dc_at dX0_isFloor 4 rfl) rfl ?_
    refine r_lconst (1 : Int64) hc (dc_at dX0_isFloor 5 rfl) (by decide) ?_
    refine r_lcmp_lt (tgt := 44) hc (dc_at dX0_isFloor 6 rfl) (dc_at dX0_isFloor 7 rfl) (by decide) hf (fun hf => ?_) (fun hf => ?_)
    · refine r_iconst (0 : Int32) hc (dc_at dX0_isFloor 26 rfl) (by decide) ?_
      exact r_zretP hc he (hm) (hs) (dc_at dX0_isFloor 27 rfl) hf
    · refine r_lload_n hc 1 (dc_at dX0_isFloor 8 rfl) rfl ?_
      refine r_ldc2 hc (dc_at dX0_isFloor 9 rfl) cl2_X0_73 ?_
      refine r_lcmp_gt (tgt := 44) hc (dc_at dX0_isFloor 10 rfl) (dc_at dX0_isFloor 11 rfl) (by decide) hf (fun hf => ?_) (fun hf => ?_)
      · refine r_iconst (0 : Int32) hc (dc_at dX0_isFloor 26 rfl) (by decide) ?_
        exact r_zretP hc he (hm) (hs) (dc_at dX0_isFloor 27 rfl) hf
      · refine r_lload_n hc 2 (dc_at dX0_isFloor 12 rfl) rfl ?_
        refine r_ldc2 hc (dc_at dX0_isFloor 13 rfl) cl2_X0_73 ?_
        refine r_lcmp_gt (tgt := 44) hc (dc_at dX0_isFloor 14 rfl) (dc_at dX0_isFloor 15 rfl) (by decide) hf (fun hf => ?_) (fun hf => ?_)
        · refine r_iconst (0 : Int32) hc (dc_at dX0_isFloor 26 rfl) (by decide) ?_
          exact r_zretP hc he (hm) (hs) (dc_at dX0_isFloor 27 rfl) hf
        · refine r_lload_n hc 1 (dc_at dX0_isFloor 16 rfl) rfl ?_
          refine r_aload_n hc 0 (dc_at dX0_isFloor 17 rfl) rfl ?_
          refine r_getI hc (dc_at dX0_isFloor 18 rfl) fl_X0_9 hf fun x1 hf => ?_
          refine r_i2l hc (dc_at dX0_isFloor 19 rfl) ?_
          refine r_lload_n hc 2 (dc_at dX0_isFloor 20 rfl) rfl ?_
          refine r_lmul hc (dc_at dX0_isFloor 21 rfl) ?_
          refine r_lcmp_gt (tgt := 44) hc (dc_at dX0_isFloor 22 rfl) (dc_at dX0_isFloor 23 rfl) (by decide) hf (fun hf => ?_) (fun hf => ?_)
          · refine r_iconst (0 : Int32) hc (dc_at dX0_isFloor 26 rfl) (by decide) ?_
            exact r_zretP hc he (hm) (hs) (dc_at dX0_isFloor 27 rfl) hf
          · refine r_iconst (1 : Int32) hc (dc_at dX0_isFloor 24 rfl) (by decide) ?_
            refine r_goto (tgt := 45) hc (dc_at dX0_isFloor 25 rfl) (by decide) ?_
            exact r_zretP hc he (hm) (hs) (dc_at dX0_isFloor 27 rfl) hf
def m_X0_isFloor (h : PH) (p0 : Nat) (p1 : Int64) (p3 : Int64) : Option Int32 := b_X0_isFloor_0 h p0 p1 p3
theorem mt_X0_isFloor {l : Launch} {X : XT} {h : PH} {p0 : Nat} {p1 : Int64} {p3 : Int64} {r : Int32} (ex : m_X0_isFloor h p0 p1 p3 = some r) : MT l X yX0_isFloor cX0_isFloor 5 (some .boolean) 1 60 0 0 [.ref (X.1 + p0), .long p1, .long p3] h (some (.int r)) h := MT.of (by decide) (Nat.le_of_ble_eq_true rfl) fun M hl hc hr he => by
  subst hl
  exact gg_sub [0, 1, 2] rfl (t_X0_isFloor_0  hc hr he (Nat.zero_le _) (Nat.zero_le _) ex)
/-! FractionLift$House.stuffOf(II)I -/
def lX0_stuffOfL : List (Nat × Instr × Nat × Nat) := [(0, .iload_n 1, 1, 1), (1, .iconst 3, 1, 2), (2, .imul, 1, 3), (3, .iload_n 2, 1, 4), (4, .iadd, 1, 5), (5, .istore_n 3, 1, 6), (6, .iload_n 3, 1, 7), (7, .ifCond .lt 21, 3, 10), (10, .iload_n 3, 1, 11), (11, .aload_n 0, 1, 12), (12, .getfield 31, 3, 15), (15, .arraylength, 1, 16), (16, .if_icmp .ge 12, 3, 19), (19, .aload_n 0, 1, 20), (20, .getfield 31, 3, 23), (23, .iload_n 3, 1, 24), (24, .iaload, 1, 25), (25, .goto 4, 3, 28), (28, .iconst 0, 1, 29), (29, .ireturn, 1, 30)]
set_option maxRecDepth 20000 in
theorem dX0_stuffOf : dcL cX0_stuffOf lX0_stuffOfL = true := by decide +kernel
def b_X0_stuffOf_0 (h : PH) (v0 : Nat) (v1 : Int32) (v2 : Int32) : Option Int32 := bindv ((((v1 * (3 : Int32))) + v2)) fun x1 => (if x1 < 0 then (some (0 : Int32)) else ((gR 0 12 h v0).bind fun a2 => ((aLen h a2).bind fun x3 => (if x3 ≤ x1 then (some (0 : Int32)) else ((gR 0 12 h v0).bind fun a4 => ((aI 0 h a4 x1).bind fun x5 => (some x5)))))))
set_option maxRecDepth 20000 in
theorem t_X0_stuffOf_0 {M : MV} {X : XT} {h : PH} {r : Int32} {ce sl mc ms : Nat} {v0 : Nat} {v1 : Int32} {v2 : Int32} (hc : Cx M X RX0 cX0_stuffOf) (hr : Rx M 1 60 mc ms 4) (he : Ex M X (some .int) "stuffOf" (some (.int r)) h mc ms) (hm : ce ≤ mc) (hs : sl ≤ ms) (hf : b_X0_stuffOf_0 h v0 v1 v2 = some r) : GG M X h ce sl 0 [(0, .ref (X.1 + v0)), (1, .int v1), (2, .int v2)] [] := by
  unfold b_X0_stuffOf_0 at hf
  refine r_iload_n hc 1 (dc_at dX0_stuffOf 0 rfl) rfl ?_
  refine r_iconst (3 : Int32) hc (dc_at dX0_stuffOf 1 rfl) (by decide) ?_
  refine r_imul hc (dc_at dX0_stuffOf 2 rfl) ?_
  refine r_iload_n hc 2 (dc_at dX0_stuffOf 3 rfl) rfl ?_
  refine r_iadd hc (dc_at dX0_stuffOf 4 rfl) ?_
  refine r_nm (mk := Value.int) hf fun x1 hf => ?_
  refine r_istore_n [(3, .int x1), (0, .ref (X.1 + v0)), (1, .int v1), (2, .int v2)] hc hr (dc_at dX0_stuffOf 5 rfl) (by decide) rfl ?_
  refine r_iload_n hc 0 (dc_at dX0_stuffOf 6 rfl) rfl ?_
  refine r_if_lt (tgt := 28) hc (dc_at dX0_stuffOf 7 rfl) (by decide) hf (fun hf => ?_) (fun hf => ?_)
  · refine r_iconst (0 : Int32) hc (dc_at dX0_stuffOf 18 rfl) (by decide) ?_
    exact r_iretP hc he (hm) (hs) (dc_at dX0_stuffOf 19 rfl) hf
  · refine r_iload_n hc 0 (dc_at dX0_stuffOf 8 rfl) rfl ?_
    refine r_aload_n hc 1 (dc_at dX0_stuffOf 9 rfl) rfl ?_
    refine r_getR hc (dc_at dX0_stuffOf 10 rfl) fl_X0_31 hf fun a2 hf => ?_
    refine r_alen hc (dc_at dX0_stuffOf 11 rfl) hf fun x3 hf => ?_
    refine r_icmp_ge (tgt := 28) hc (dc_at dX0_stuffOf 12 rfl) (by decide) hf (fun hf => ?_) (fun hf => ?_)
    · refine r_iconst (0 : Int32) hc (dc_at dX0_stuffOf 18 rfl) (by decide) ?_
      exact r_iretP hc he (hm) (hs) (dc_at dX0_stuffOf 19 rfl) hf
    · refine r_aload_n hc 1 (dc_at dX0_stuffOf 13 rfl) rfl ?_
      refine r_getR hc (dc_at dX0_stuffOf 14 rfl) fl_X0_31 hf fun a4 hf => ?_
      refine r_iload_n hc 0 (dc_at dX0_stuffOf 15 rfl) rfl ?_
      refine r_iaload hc (dc_at dX0_stuffOf 16 rfl) hf fun x5 hf => ?_
      refine r_goto (tgt := 29) hc (dc_at dX0_stuffOf 17 rfl) (by decide) ?_
      exact r_iretP hc he (hm) (hs) (dc_at dX0_stuffOf 19 rfl) hf
def m_X0_stuffOf (h : PH) (p0 : Nat) (p1 : Int32) (p2 : Int32) : Option Int32 := b_X0_stuffOf_0 h p0 p1 p2
theorem mt_X0_stuffOf {l : Launch} {X : XT} {h : PH} {p0 : Nat} {p1 : Int32} {p2 : Int32} {r : Int32} (ex : m_X0_stuffOf h p0 p1 p2 = some r) : MT l X yX0_stuffOf cX0_stuffOf 4 (some .int) 1 60 0 0 [.ref (X.1 + p0), .int p1, .int p2] h (some (.int r)) h := MT.of (by decide) (Nat.le_of_ble_eq_true rfl) fun M hl hc hr he => by
  subst hl
  exact gg_sub [0, 1, 2] rfl (t_X0_stuffOf_0  hc hr he (Nat.zero_le _) (Nat.zero_le _) ex)
/-! FractionLift$House.floorAt(JJ)I -/
def lX0_floorAtL : List (Nat × Instr × Nat × Nat) := [(0, .iconst 0, 1, 1), (1, .istore 5, 2, 3), (3, .iload 5, 2, 5), (5, .aload_n 0, 1, 6), (6, .getfield 61, 3, 9), (9, .if_icmp .ge 38, 3, 12), (12, .aload_n 0, 1, 13), (13, .getfield 25, 3, 16), (16, .iload 5, 2, 18), (18, .iaload, 1, 19), (19, .i2l, 1, 20), (20, .lload_n 1, 1, 21), (21, .lcmp, 1, 22), (22, .ifCond .ne 19, 3, 25), (25, .aload_n 0, 1, 26), (26, .getfield 28, 3, 29), (29, .iload 5, 2, 31), (31, .iaload, 1, 32), (32, .i2l, 1, 33), (33, .lload_n 3, 1, 34), (34, .lcmp, 1, 35), (35, .ifCond .ne 6, 3, 38), (38, .iload 5, 2, 40), (40, .ireturn, 1, 41), (41, .iinc 5 1, 3, 44), (44, .goto (-41), 3, 47), (47, .iconst (-1), 1, 48), (48, .ireturn, 1, 49)]
set_option maxRecDepth 20000 in
theorem dX0_floorAt : dcL cX0_floorAt lX0_floorAtL = true := by decide +kernel
def b_X0_floorAt_41 (F : Nat) (self2 : Nat → Int64 → Int64 → Int32 → Option Int32) (h : PH) (v0 : Nat) (v1 : Int64) (v3 : Int64) (v5 : Int32) : Option Int32 := bindv (v5 + (1)) fun x1 => (self2 v0 v1 v3 x1)
set_option maxRecDepth 20000 in
theorem t_X0_floorAt_41 {M : MV} {X : XT} {F : Nat} {self2 : Nat → Int64 → Int64 → Int32 → Option Int32} {h : PH} {r : Int32} {ce sl mc ms : Nat} {v0 : Nat} {v1 : Int64} {v3 : Int64} {v5 : Int32} (hc : Cx M X RX0 cX0_floorAt) (hr : Rx M 1 60 mc ms 6) (he : Ex M X (some .int) "floorAt" (some (.int r)) h mc ms) (hm : ce ≤ mc) (hs : sl ≤ ms) (ih2 : ∀ (v0 : Nat) (v1 : Int64) (v3 : Int64) (v5 : Int32), self2 v0 v1 v3 v5 = some r → GG M X h ce sl 3 [(0, .ref (X.1 + v0)), (1, .long v1), (3, .long v3), (5, .int v5)] []) (hf : b_X0_floorAt_41 F self2 h v0 v1 v3 v5 = some r) : GG M X h ce sl 41 [(0, .ref (X.1 + v0)), (1, .long v1), (3, .long v3), (5, .int v5)] [] := by
  unfold b_X0_floorAt_41 at hf
  refine obv hf fun x1 e_x1 hf => ?_
  refine r_iinc 3 [(5, .int x1), (0, .ref (X.1 + v0)), (1, .long v1), (3, .long v3)] hc hr (dc_at dX0_floorAt 24 rfl) rfl (by rw [e_x1]; rfl) (by decide) rfl ?_
  refine r_goto (tgt := 3) hc (dc_at dX0_floorAt 25 rfl) (by decide) ?_
  exact gg_sub [1, 2, 3, 0] rfl (ih2 _ _ _ _ hf)
def b_X0_floorAt_3 (F : Nat) (self2 : Nat → Int64 → Int64 → Int32 → Option Int32) (h : PH) (v0 : Nat) (v1 : Int64) (v3 : Int64) (v5 : Int32) : Option Int32 := (gI 0 9 h v0).bind fun x1 => (if x1 ≤ v5 then (some (-1 : Int32)) else ((gR 0 10 h v0).bind fun a2 => ((aI 0 h a2 v5).bind fun x3 => (if (Int32.toInt64 x3) = v1 then ((gR 0 11 h v0).bind fun a4 => ((aI 0 h a4 v5).bind fun x5 => (if (Int32.toInt64 x5) = v3 then (some v5) else (b_X0_floorAt_41 F self2 h v0 v1 v3 v5)))) else (b_X0_floorAt_41 F self2 h v0 v1 v3 v5)))))
set_option maxRecDepth 20000 in
theorem tb_X0_floorAt_3 {M : MV} {X : XT} {F : Nat} {self2 : Nat → Int64 → Int64 → Int32 → Option Int32} {h : PH} {r : Int32} {ce sl mc ms : Nat} {v0 : Nat} {v1 : Int64} {v3 : Int64} {v5 : Int32} (hc : Cx M X RX0 cX0_floorAt) (hr : Rx M 1 60 mc ms 6) (he : Ex M X (some .int) "floorAt" (some (.int r)) h mc ms) (hm : ce ≤ mc) (hs : sl ≤ ms) (ih2 : ∀ (v0 : Nat) (v1 : Int64) (v3 : Int64) (v5 : Int32), self2 v0 v1 v3 v5 = some r → GG M X h ce sl 3 [(0, .ref (X.1 + v0)), (1, .long v1), (3, .long v3), (5, .int v5)] []) (hf : b_X0_floorAt_3 F self2 h v0 v1 v3 v5 = some r) : GG M X h ce sl 3 [(0, .ref (X.1 + v0)), (1, .long v1), (3, .long v3), (5, .int v5)] [] := by
  unfold b_X0_floorAt_3 at hf
  refine r_iload hc 3 (dc_at dX0_floorAt 2 rfl) rfl ?_
  refine r_aload_n hc 0 (dc_at dX0_floorAt 3 rfl) rfl ?_
  refine r_getI hc (dc_at dX0_floorAt 4 rfl) fl_X0_61 hf fun x1 hf => ?_
  refine r_icmp_ge (tgt := 47) hc (dc_at dX0_floorAt 5 rfl) (by decide) hf (fun hf => ?_) (fun hf => ?_)
  · refine r_iconst (-1 : Int32) hc (dc_at dX0_floorAt 26 rfl) (by decide) ?_
    exact r_iretP hc he (hm) (hs) (dc_at dX0_floorAt 27 rfl) hf
  · refine r_aload_n hc 0 (dc_at dX0_floorAt 6 rfl) rfl ?_
    refine r_getR hc (dc_at dX0_floorAt 7 rfl) fl_X0_25 hf fun a2 hf => ?_
    refine r_iload hc 3 (dc_at dX0_floorAt 8 rfl) rfl ?_
    refine r_iaload hc (dc_at dX0_floorAt 9 rfl) hf fun x3 hf => ?_
    refine r_i2l hc (dc_at dX0_floorAt 10 rfl) ?_
    refine r_lload_n hc 1 (dc_at dX0_floorAt 11 rfl) rfl ?_
    refine r_lcmp_ne (tgt := 41) hc (dc_at dX0_floorAt 12 rfl) (dc_at dX0_floorAt 13 rfl) (by decide) hf (fun hf => ?_) (fun hf => ?_)
    · exact gg_sub [0, 1, 2, 3] rfl (t_X0_floorAt_41 hc hr he hm hs ih2 hf)
    · refine r_aload_n hc 0 (dc_at dX0_floorAt 14 rfl) rfl ?_
      refine r_getR hc (dc_at dX0_floorAt 15 rfl) fl_X0_28 hf fun a4 hf => ?_
      refine r_iload hc 3 (dc_at dX0_floorAt 16 rfl) rfl ?_
      refine r_iaload hc (dc_at dX0_floorAt 17 rfl) hf fun x5 hf => ?_
      refine r_i2l hc (dc_at dX0_floorAt 18 rfl) ?_
      refine r_lload_n hc 2 (dc_at dX0_floorAt 19 rfl) rfl ?_
      refine r_lcmp_ne (tgt := 41) hc (dc_at dX0_floorAt 20 rfl) (dc_at dX0_floorAt 21 rfl) (by decide) hf (fun hf => ?_) (fun hf => ?_)
      · exact gg_sub [0, 1, 2, 3] rfl (t_X0_floorAt_41 hc hr he hm hs ih2 hf)
      · refine r_iload hc 3 (dc_at dX0_floorAt 22 rfl) rfl ?_
        exact r_iretP hc he (hm) (hs) (dc_at dX0_floorAt 23 rfl) hf
def l_X0_floorAt_3 (F : Nat) (h : PH) : Nat → Nat → Int64 → Int64 → Int32 → Option Int32
  | 0 => fun _ _ _ _ => none
  | n + 1 => fun v0 v1 v3 v5 => b_X0_floorAt_3 F (l_X0_floorAt_3 F h n) h v0 v1 v3 v5
theorem tl_X0_floorAt_3 {M : MV} {X : XT} {F : Nat} {h : PH} {r : Int32} {ce sl mc ms : Nat} (hc : Cx M X RX0 cX0_floorAt) (hr : Rx M 1 60 mc ms 6) (he : Ex M X (some .int) "floorAt" (some (.int r)) h mc ms) (hm : ce ≤ mc) (hs : sl ≤ ms) (n : Nat) : ∀ (v0 : Nat) (v1 : Int64) (v3 : Int64) (v5 : Int32), l_X0_floorAt_3 F h n v0 v1 v3 v5 = some r → GG M X h ce sl 3 [(0, .ref (X.1 + v0)), (1, .long v1), (3, .long v3), (5, .int v5)] [] := by
  induction n with
  | zero => intro v0 v1 v3 v5 hf; cases hf
  | succ n ih => intro v0 v1 v3 v5 hf; exact tb_X0_floorAt_3 (F := F) hc hr he hm hs  ih hf
def b_X0_floorAt_0 (F : Nat) (h : PH) (v0 : Nat) (v1 : Int64) (v3 : Int64) : Option Int32 := l_X0_floorAt_3 F h F v0 v1 v3 (0 : Int32)
set_option maxRecDepth 20000 in
theorem t_X0_floorAt_0 {M : MV} {X : XT} {F : Nat} {h : PH} {r : Int32} {ce sl mc ms : Nat} {v0 : Nat} {v1 : Int64} {v3 : Int64} (hc : Cx M X RX0 cX0_floorAt) (hr : Rx M 1 60 mc ms 6) (he : Ex M X (some .int) "floorAt" (some (.int r)) h mc ms) (hm : ce ≤ mc) (hs : sl ≤ ms) (hf : b_X0_floorAt_0 F h v0 v1 v3 = some r) : GG M X h ce sl 0 [(0, .ref (X.1 + v0)), (1, .long v1), (3, .long v3)] [] := by
  unfold b_X0_floorAt_0 at hf
  refine r_iconst (0 : Int32) hc (dc_at dX0_floorAt 0 rfl) (by decide) ?_
  refine r_istore [(5, .int ((0 : Int32))), (0, .ref (X.1 + v0)), (1, .long v1), (3, .long v3)] hc hr (dc_at dX0_floorAt 1 rfl) (by decide) rfl ?_
  exact gg_sub [1, 2, 3, 0] rfl (tl_X0_floorAt_3 hc hr he hm hs  F _ _ _ _ hf)
def m_X0_floorAt (F : Nat) (h : PH) (p0 : Nat) (p1 : Int64) (p3 : Int64) : Option Int32 := b_X0_floorAt_0 F h p0 p1 p3
theorem mt_X0_floorAt {l : Launch} {X : XT} {F : Nat} {h : PH} {p0 : Nat} {p1 : Int64} {p3 : Int64} {r : Int32} (ex : m_X0_floorAt F h p0 p1 p3 = some r) : MT l X yX0_floorAt cX0_floorAt 6 (some .int) 1 60 0 0 [.ref (X.1 + p0), .long p1, .long p3] h (some (.int r)) h := MT.of (by decide) (Nat.le_of_ble_eq_true rfl) fun M hl hc hr he => by
  subst hl
  exact gg_sub [0, 1, 2] rfl (t_X0_floorAt_0  hc hr he (Nat.zero_le _) (Nat.zero_le _) ex)
/-! FractionLift$House.placeFromBelow(I)I -/
def lX0_placeFromBelowL : List (Nat × Instr × Nat × Nat) := [(0, .iconst 0, 1, 1), (1, .istore_n 2, 1, 2), (2, .iload_n 2, 1, 3), (3, .aload_n 0, 1, 4), (4, .getfield 61, 3, 7), (7, .if_icmp .ge 21, 3, 10), (10, .aload_n 0, 1, 11), (11, .getfield 37, 3, 14), (14, .iload_n 2, 1, 15), (15, .iaload, 1, 16), (16, .iload_n 1, 1, 17), (17, .if_icmp .ne 5, 3, 20), (20, .iload_n 2, 1, 21), (21, .ireturn, 1, 22), (22, .iinc 2 1, 3, 25), (25, .goto (-23), 3, 28), (28, .iconst (-1), 1, 29), (29, .ireturn, 1, 30)]
set_option maxRecDepth 20000 in
theorem dX0_placeFromBelow : dcL cX0_placeFromBelow lX0_placeFromBelowL = true := by decide +kernel
def b_X0_placeFromBelow_2 (F : Nat) (self2 : Nat → Int32 → Int32 → Option Int32) (h : PH) (v0 : Nat) (v1 : Int32) (v2 : Int32) : Option Int32 := (gI 0 9 h v0).bind fun x1 => (if x1 ≤ v2 then (some (-1 : Int32)) else ((gR 0 14 h v0).bind fun a2 => ((aI 0 h a2 v2).bind fun x3 => (if x3 = v1 then (some v2) else (bindv (v2 + (1)) fun x4 => (self2 v0 v1 x4))))))
set_option maxRecDepth 20000 in
theorem tb_X0_placeFromBelow_2 {M : MV} {X : XT} {F : Nat} {self2 : Nat → Int32 → Int32 → Option Int32} {h : PH} {r : Int32} {ce sl mc ms : Nat} {v0 : Nat} {v1 : Int32} {v2 : Int32} (hc : Cx M X RX0 cX0_placeFromBelow) (hr : Rx M 1 60 mc ms 3) (he : Ex M X (some .int) "placeFromBelow" (some (.int r)) h mc ms) (hm : ce ≤ mc) (hs : sl ≤ ms) (ih2 : ∀ (v0 : Nat) (v1 : Int32) (v2 : Int32), self2 v0 v1 v2 = some r → GG M X h ce sl 2 [(0, .ref (X.1 + v0)), (1, .int v1), (2, .int v2)] []) (hf : b_X0_placeFromBelow_2 F self2 h v0 v1 v2 = some r) : GG M X h ce sl 2 [(0, .ref (X.1 + v0)), (1, .int v1), (2, .int v2)] [] := by
  unfold b_X0_placeFromBelow_2 at hf
  refine r_iload_n hc 2 (dc_at dX0_placeFromBelow 2 rfl) rfl ?_
  refine r_aload_n hc 0 (dc_at dX0_placeFromBelow 3 rfl) rfl ?_
  refine r_getI hc (dc_at dX0_placeFromBelow 4 rfl) fl_X0_61 hf fun x1 hf => ?_
  refine r_icmp_ge (tgt := 28) hc (dc_at dX0_placeFromBelow 5 rfl) (by decide) hf (fun hf => ?_) (fun hf => ?_)
  · refine r_iconst (-1 : Int32) hc (dc_at dX0_placeFromBelow 16 rfl) (by decide) ?_
    exact r_iretP hc he (hm) (hs) (dc_at dX0_placeFromBelow 17 rfl) hf
  · refine r_aload_n hc 0 (dc_at dX0_placeFromBelow 6 rfl) rfl ?_
    refine r_getR hc (dc_at dX0_placeFromBelow 7 rfl) fl_X0_37 hf fun a2 hf => ?_
    refine r_iload_n hc 2 (dc_at dX0_placeFromBelow 8 rfl) rfl ?_
    refine r_iaload hc (dc_at dX0_placeFromBelow 9 rfl) hf fun x3 hf => ?_
    refine r_iload_n hc 1 (dc_at dX0_placeFromBelow 10 rfl) rfl ?_
    refine r_icmp_ne (tgt := 22) hc (dc_at dX0_placeFromBelow 11 rfl) (by decide) hf (fun hf => ?_) (fun hf => ?_)
    · refine obv hf fun x4 e_x4 hf => ?_
      refine r_iinc 2 [(2, .int x4), (0, .ref (X.1 + v0)), (1, .int v1)] hc hr (dc_at dX0_placeFromBelow 14 rfl) rfl (by rw [e_x4]; rfl) (by decide) rfl ?_
      refine r_goto (tgt := 2) hc (dc_at dX0_placeFromBelow 15 rfl) (by decide) ?_
      exact gg_sub [1, 2, 0] rfl (ih2 _ _ _ hf)
    · refine r_iload_n hc 2 (dc_at dX0_placeFromBelow 12 rfl) rfl ?_
      exact r_iretP hc he (hm) (hs) (dc_at dX0_placeFromBelow 13 rfl) hf
def l_X0_placeFromBelow_2 (F : Nat) (h : PH) : Nat → Nat → Int32 → Int32 → Option Int32
  | 0 => fun _ _ _ => none
  | n + 1 => fun v0 v1 v2 => b_X0_placeFromBelow_2 F (l_X0_placeFromBelow_2 F h n) h v0 v1 v2
theorem tl_X0_placeFromBelow_2 {M : MV} {X : XT} {F : Nat} {h : PH} {r : Int32} {ce sl mc ms : Nat} (hc : Cx M X RX0 cX0_placeFromBelow) (hr : Rx M 1 60 mc ms 3) (he : Ex M X (some .int) "placeFromBelow" (some (.int r)) h mc ms) (hm : ce ≤ mc) (hs : sl ≤ ms) (n : Nat) : ∀ (v0 : Nat) (v1 : Int32) (v2 : Int32), l_X0_placeFromBelow_2 F h n v0 v1 v2 = some r → GG M X h ce sl 2 [(0, .ref (X.1 + v0)), (1, .int v1), (2, .int v2)] [] := by
  induction n with
  | zero => intro v0 v1 v2 hf; cases hf
  | succ n ih => intro v0 v1 v2 hf; exact tb_X0_placeFromBelow_2 (F := F) hc hr he hm hs  ih hf
def b_X0_placeFromBelow_0 (F : Nat) (h : PH) (v0 : Nat) (v1 : Int32) : Option Int32 := l_X0_placeFromBelow_2 F h F v0 v1 (0 : Int32)
set_option maxRecDepth 20000 in
theorem t_X0_placeFromBelow_0 {M : MV} {X : XT} {F : Nat} {h : PH} {r : Int32} {ce sl mc ms : Nat} {v0 : Nat} {v1 : Int32} (hc : Cx M X RX0 cX0_placeFromBelow) (hr : Rx M 1 60 mc ms 3) (he : Ex M X (some .int) "placeFromBelow" (some (.int r)) h mc ms) (hm : ce ≤ mc) (hs : sl ≤ ms) (hf : b_X0_placeFromBelow_0 F h v0 v1 = some r) : GG M X h ce sl 0 [(0, .ref (X.1 + v0)), (1, .int v1)] [] := by
  unfold b_X0_placeFromBelow_0 at hf
  refine r_iconst (0 : Int32) hc (dc_at dX0_placeFromBelow 0 rfl) (by decide) ?_
  refine r_istore_n [(2, .int ((0 : Int32))), (0, .ref (X.1 + v0)), (1, .int v1)] hc hr (dc_at dX0_placeFromBelow 1 rfl) (by decide) rfl ?_
  exact gg_sub [1, 2, 0] rfl (tl_X0_placeFromBelow_2 hc hr he hm hs  F _ _ _ hf)
def m_X0_placeFromBelow (F : Nat) (h : PH) (p0 : Nat) (p1 : Int32) : Option Int32 := b_X0_placeFromBelow_0 F h p0 p1
theorem mt_X0_placeFromBelow {l : Launch} {X : XT} {F : Nat} {h : PH} {p0 : Nat} {p1 : Int32} {r : Int32} (ex : m_X0_placeFromBelow F h p0 p1 = some r) : MT l X yX0_placeFromBelow cX0_placeFromBelow 3 (some .int) 1 60 0 0 [.ref (X.1 + p0), .int p1] h (some (.int r)) h := MT.of (by decide) (Nat.le_of_ble_eq_true rfl) fun M hl hc hr he => by
  subst hl
  exact gg_sub [0, 1] rfl (t_X0_placeFromBelow_0  hc hr he (Nat.zero_le _) (Nat.zero_le _) ex)
/-! FractionLift$House.toldBelow(JJ)I -/
def lX0_toldBelowL : List (Nat × Instr × Nat × Nat) := [(0, .iconst 0, 1, 1), (1, .istore 5, 2, 3), (3, .iconst 0, 1, 4), (4, .istore 6, 2, 6), (6, .iload 6, 2, 8), (8, .aload_n 0, 1, 9), (9, .getfield 61, 3, 12), (12, .if_icmp .ge 36, 3, 15), (15, .aload_n 0, 1, 16), (16, .getfield 25, 3, 19), (19, .iload 6, 2, 21), (21, .iaload, 1, 22), (22, .i2l, 1, 23), (23, .lload_n 3, 1, 24), (24, .lmul, 1, 25), (25, .lload_n 1, 1, 26), (26, .aload_n 0, 1, 27), (27, .getfield 28, 3, 30), (30, .iload 6, 2, 32), (32, .iaload, 1, 33), (33, .i2l, 1, 34), (34, .lmul, 1, 35), (35, .lcmp, 1, 36), (36, .ifCond .ge 6, 3, 39), (39, .iinc 5 1, 3, 42), (42, .iinc 6 1, 3, 45), (45, .goto (-39), 3, 48), (48, .iload 5, 2, 50), (50, .ireturn, 1, 51)]
set_option maxRecDepth 20000 in
theorem dX0_toldBelow : dcL cX0_toldBelow lX0_toldBelowL = true := by decide +kernel
def b_X0_toldBelow_42 (F : Nat) (self4 : Nat → Int64 → Int64 → Int32 → Int32 → Option Int32) (h : PH) (v0 : Nat) (v1 : Int64) (v3 : Int64) (v5 : Int32) (v6 : Int32) : Option Int32 := bindv (v6 + (1)) fun x1 => (self4 v0 v1 v3 v5 x1)
set_option maxRecDepth 20000 in
theorem t_X0_toldBelow_42 {M : MV} {X : XT} {F : Nat} {self4 : Nat → Int64 → Int64 → Int32 → Int32 → Option Int32} {h : PH} {r : Int32} {ce sl mc ms : Nat} {v0 : Nat} {v1 : Int64} {v3 : Int64} {v5 : Int32} {v6 : Int32} (hc : Cx M X RX0 cX0_toldBelow) (hr : Rx M 1 60 mc ms 7) (he : Ex M X (some .int) "toldBelow" (some (.int r)) h mc ms) (hm : ce ≤ mc) (hs : sl ≤ ms) (ih4 : ∀ (v0 : Nat) (v1 : Int64) (v3 : Int64) (v5 : Int32) (v6 : Int32), self4 v0 v1 v3 v5 v6 = some r → GG M X h ce sl 6 [(0, .ref (X.1 + v0)), (1, .long v1), (3, .long v3), (5, .int v5), (6, .int v6)] []) (hf : b_X0_toldBelow_42 F self4 h v0 v1 v3 v5 v6 = some r) : GG M X h ce sl 42 [(0, .ref (X.1 + v0)), (1, .long v1), (3, .long v3), (5, .int v5), (6, .int v6)] [] := by
  unfold b_X0_toldBelow_42 at hf
  refine obv hf fun x1 e_x1 hf => ?_
  refine r_iinc 4 [(6, .int x1), (0, .ref (X.1 + v0)), (1, .long v1), (3, .long v3), (5, .int v5)] hc hr (dc_at dX0_toldBelow 25 rfl) rfl (by rw [e_x1]; rfl) (by decide) rfl ?_
  refine r_goto (tgt := 6) hc (dc_at dX0_toldBelow 26 rfl) (by decide) ?_
  exact gg_sub [1, 2, 3, 4, 0] rfl (ih4 _ _ _ _ _ hf)
def b_X0_toldBelow_6 (F : Nat) (self4 : Nat → Int64 → Int64 → Int32 → Int32 → Option Int32) (h : PH) (v0 : Nat) (v1 : Int64) (v3 : Int64) (v5 : Int32) (v6 : Int32) : Option Int32 := (gI 0 9 h v0).bind fun x1 => (if x1 ≤ v6 then (some v5) else ((gR 0 10 h v0).bind fun a2 => ((aI 0 h a2 v6).bind fun x3 => ((gR 0 11 h v0).bind fun a4 => ((aI 0 h a4 v6).bind fun x5 => (if ((v1 * (Int32.toInt64 x5))) ≤ (((Int32.toInt64 x3) * v3)) then (b_X0_toldBelow_42 F self4 h v0 v1 v3 v5 v6) else (bindv (v5 + (1)) fun x6 => (b_X0_toldBelow_42 F self4 h v0 v1 v3 x6 v6))))))))
set_option maxRecDepth 20000 in
theorem tb_X0_toldBelow_6 {M : MV} {X : XT} {F : Nat} {self4 : Nat → Int64 → Int64 → Int32 → Int32 → Option Int32} {h : PH} {r : Int32} {ce sl mc ms : Nat} {v0 : Nat} {v1 : Int64} {v3 : Int64} {v5 : Int32} {v6 : Int32} (hc : Cx M X RX0 cX0_toldBelow) (hr : Rx M 1 60 mc ms 7) (he : Ex M X (some .int) "toldBelow" (some (.int r)) h mc ms) (hm : ce ≤ mc) (hs : sl ≤ ms) (ih4 : ∀ (v0 : Nat) (v1 : Int64) (v3 : Int64) (v5 : Int32) (v6 : Int32), self4 v0 v1 v3 v5 v6 = some r → GG M X h ce sl 6 [(0, .ref (X.1 + v0)), (1, .long v1), (3, .long v3), (5, .int v5), (6, .int v6)] []) (hf : b_X0_toldBelow_6 F self4 h v0 v1 v3 v5 v6 = some r) : GG M X h ce sl 6 [(0, .ref (X.1 + v0)), (1, .long v1), (3, .long v3), (5, .int v5), (6, .int v6)] [] := by
  unfold b_X0_toldBelow_6 at hf
  refine r_iload hc 4 (dc_at dX0_toldBelow 4 rfl) rfl ?_
  refine r_aload_n hc 0 (dc_at dX0_toldBelow 5 rfl) rfl ?_
  refine r_getI hc (dc_at dX0_toldBelow 6 rfl) fl_X0_61 hf fun x1 hf => ?_
  refine r_icmp_ge (tgt := 48) hc (dc_at dX0_toldBelow 7 rfl) (by decide) hf (fun hf => ?_) (fun hf => ?_)
  · refine r_iload hc 3 (dc_at dX0_toldBelow 27 rfl) rfl ?_
    exact r_iretP hc he (hm) (hs) (dc_at dX0_toldBelow 28 rfl) hf
  · refine r_aload_n hc 0 (dc_at dX0_toldBelow 8 rfl) rfl ?_
    refine r_getR hc (dc_at dX0_toldBelow 9 rfl) fl_X0_25 hf fun a2 hf => ?_
    refine r_iload hc 4 (dc_at dX0_toldBelow 10 rfl) rfl ?_
    refine r_iaload hc (dc_at dX0_toldBelow 11 rfl) hf fun x3 hf => ?_
    refine r_i2l hc (dc_at dX0_toldBelow 12 rfl) ?_
    refine r_lload_n hc 2 (dc_at dX0_toldBelow 13 rfl) rfl ?_
    refine r_lmul hc (dc_at dX0_toldBelow 14 rfl) ?_
    refine r_lload_n hc 1 (dc_at dX0_toldBelow 15 rfl) rfl ?_
    refine r_aload_n hc 0 (dc_at dX0_toldBelow 16 rfl) rfl ?_
    refine r_getR hc (dc_at dX0_toldBelow 17 rfl) fl_X0_28 hf fun a4 hf => ?_
    refine r_iload hc 4 (dc_at dX0_toldBelow 18 rfl) rfl ?_
    refine r_iaload hc (dc_at dX0_toldBelow 19 rfl) hf fun x5 hf => ?_
    refine r_i2l hc (dc_at dX0_toldBelow 20 rfl) ?_
    refine r_lmul hc (dc_at dX0_toldBelow 21 rfl) ?_
    refine r_lcmp_ge (tgt := 42) hc (dc_at dX0_toldBelow 22 rfl) (dc_at dX0_toldBelow 23 rfl) (by decide) hf (fun hf => ?_) (fun hf => ?_)
    · exact gg_sub [0, 1, 2, 3, 4] rfl (t_X0_toldBelow_42 hc hr he hm hs ih4 hf)
    · refine obv hf fun x6 e_x6 hf => ?_
      refine r_iinc 3 [(5, .int x6), (0, .ref (X.1 + v0)), (1, .long v1), (3, .long v3), (6, .int v6)] hc hr (dc_at dX0_toldBelow 24 rfl) rfl (by rw [e_x6]; rfl) (by decide) rfl ?_
      exact gg_sub [1, 2, 3, 0, 4] rfl (t_X0_toldBelow_42 hc hr he hm hs ih4 hf)
def l_X0_toldBelow_6 (F : Nat) (h : PH) : Nat → Nat → Int64 → Int64 → Int32 → Int32 → Option Int32
  | 0 => fun _ _ _ _ _ => none
  | n + 1 => fun v0 v1 v3 v5 v6 => b_X0_toldBelow_6 F (l_X0_toldBelow_6 F h n) h v0 v1 v3 v5 v6
theorem tl_X0_toldBelow_6 {M : MV} {X : XT} {F : Nat} {h : PH} {r : Int32} {ce sl mc ms : Nat} (hc : Cx M X RX0 cX0_toldBelow) (hr : Rx M 1 60 mc ms 7) (he : Ex M X (some .int) "toldBelow" (some (.int r)) h mc ms) (hm : ce ≤ mc) (hs : sl ≤ ms) (n : Nat) : ∀ (v0 : Nat) (v1 : Int64) (v3 : Int64) (v5 : Int32) (v6 : Int32), l_X0_toldBelow_6 F h n v0 v1 v3 v5 v6 = some r → GG M X h ce sl 6 [(0, .ref (X.1 + v0)), (1, .long v1), (3, .long v3), (5, .int v5), (6, .int v6)] [] := by
  induction n with
  | zero => intro v0 v1 v3 v5 v6 hf; cases hf
  | succ n ih => intro v0 v1 v3 v5 v6 hf; exact tb_X0_toldBelow_6 (F := F) hc hr he hm hs  ih hf
def b_X0_toldBelow_0 (F : Nat) (h : PH) (v0 : Nat) (v1 : Int64) (v3 : Int64) : Option Int32 := l_X0_toldBelow_6 F h F v0 v1 v3 (0 : Int32) (0 : Int32)
set_option maxRecDepth 20000 in
theorem t_X0_toldBelow_0 {M : MV} {X : XT} {F : Nat} {h : PH} {r : Int32} {ce sl mc ms : Nat} {v0 : Nat} {v1 : Int64} {v3 : Int64} (hc : Cx M X RX0 cX0_toldBelow) (hr : Rx M 1 60 mc ms 7) (he : Ex M X (some .int) "toldBelow" (some (.int r)) h mc ms) (hm : ce ≤ mc) (hs : sl ≤ ms) (hf : b_X0_toldBelow_0 F h v0 v1 v3 = some r) : GG M X h ce sl 0 [(0, .ref (X.1 + v0)), (1, .long v1), (3, .long v3)] [] := by
  unfold b_X0_toldBelow_0 at hf
  refine r_iconst (0 : Int32) hc (dc_at dX0_toldBelow 0 rfl) (by decide) ?_
  refine r_istore [(5, .int ((0 : Int32))), (0, .ref (X.1 + v0)), (1, .long v1), (3, .long v3)] hc hr (dc_at dX0_toldBelow 1 rfl) (by decide) rfl ?_
  refine r_iconst (0 : Int32) hc (dc_at dX0_toldBelow 2 rfl) (by decide) ?_
  refine r_istore [(6, .int ((0 : Int32))), (5, .int ((0 : Int32))), (0, .ref (X.1 + v0)), (1, .long v1), (3, .long v3)] hc hr (dc_at dX0_toldBelow 3 rfl) (by decide) rfl ?_
  exact gg_sub [2, 3, 4, 1, 0] rfl (tl_X0_toldBelow_6 hc hr he hm hs  F _ _ _ _ _ hf)
def m_X0_toldBelow (F : Nat) (h : PH) (p0 : Nat) (p1 : Int64) (p3 : Int64) : Option Int32 := b_X0_toldBelow_0 F h p0 p1 p3
theorem mt_X0_toldBelow {l : Launch} {X : XT} {F : Nat} {h : PH} {p0 : Nat} {p1 : Int64} {p3 : Int64} {r : Int32} (ex : m_X0_toldBelow F h p0 p1 p3 = some r) : MT l X yX0_toldBelow cX0_toldBelow 7 (some .int) 1 60 0 0 [.ref (X.1 + p0), .long p1, .long p3] h (some (.int r)) h := MT.of (by decide) (Nat.le_of_ble_eq_true rfl) fun M hl hc hr he => by
  subst hl
  exact gg_sub [0, 1, 2] rfl (t_X0_toldBelow_0  hc hr he (Nat.zero_le _) (Nat.zero_le _) ex)
/-! FractionLift$House.addFloor(II)V -/
def lX0_addFloorL : List (Nat × Instr × Nat × Nat) := [(0, .aload_n 0, 1, 1), (1, .getfield 61, 3, 4), (4, .bipush 8, 2, 6), (6, .if_icmp .lt 4, 3, 9), (9, .return_, 1, 10), (10, .aload_n 0, 1, 11), (11, .iload_n 1, 1, 12), (12, .i2l, 1, 13), (13, .iload_n 2, 1, 14), (14, .i2l, 1, 15), (15, .invokevirtual 75, 3, 18), (18, .istore_n 3, 1, 19), (19, .aload_n 0, 1, 20), (20, .getfield 61, 3, 23), (23, .istore 4, 2, 25), (25, .iload 4, 2, 27), (27, .iload_n 3, 1, 28), (28, .if_icmp .le 25, 3, 31), (31, .aload_n 0, 1, 32), (32, .getfield 37, 3, 35), (35, .iload 4, 2, 37), (37, .aload_n 0, 1, 38), (38, .getfield 37, 3, 41), (41, .iload 4, 2, 43), (43, .iconst 1, 1, 44), (44, .isub, 1, 45), (45, .iaload, 1, 46), (46, .iastore, 1, 47), (47, .iinc 4 (-1), 3, 50), (50, .goto (-25), 3, 53), (53, .aload_n 0, 1, 54), (54, .getfield 37, 3, 57), (57, .iload_n 3, 1, 58), (58, .aload_n 0, 1, 59), (59, .getfield 61, 3, 62), (62, .iastore, 1, 63), (63, .aload_n 0, 1, 64), (64, .getfield 25, 3, 67), (67, .aload_n 0, 1, 68), (68, .getfield 61, 3, 71), (71, .iload_n 1, 1, 72), (72, .iastore, 1, 73), (73, .aload_n 0, 1, 74), (74, .getfield 28, 3, 77), (77, .aload_n 0, 1, 78), (78, .getfield 61, 3, 81), (81, .iload_n 2, 1, 82), (82, .iastore, 1, 83), (83, .aload_n 0, 1, 84), (84, .getfield 34, 3, 87), (87, .iconst 0, 1, 88), (88, .aload_n 0, 1, 89), (89, .getfield 31, 3, 92), (92, .aload_n 0, 1, 93), (93, .getfield 61, 3, 96), (96, .iconst 3, 1, 97), (97, .imul, 1, 98), (98, .iconst 3, 1, 99), (99, .invokestatic 67, 3, 102), (102, .aload_n 0, 1, 103), (103, .dup, 1, 104), (104, .getfield 61, 3, 107), (107, .iconst 1, 1, 108), (108, .iadd, 1, 109), (109, .putfield 61, 3, 112), (112, .return_, 1, 113)]
set_option maxRecDepth 20000 in
theorem dX0_addFloor : dcL cX0_addFloor lX0_addFloorL = true := by decide +kernel
def b_X0_addFloor_25 (F : Nat) (self15 : PH → Nat → Int32 → Int32 → Int32 → Int32 → Option (Unit × PH)) (h : PH) (v0 : Nat) (v1 : Int32) (v2 : Int32) (v3 : Int32) (v4 : Int32) : Option (Unit × PH) := if v4 ≤ v3 then ((gR 0 14 h v0).bind fun a1 => ((gI 0 9 h v0).bind fun x2 => ((sI 0 h a1 v3 x2).bind fun h3 => ((gR 0 10 h3 v0).bind fun a4 => ((gI 0 9 h3 v0).bind fun x5 => ((sI 0 h3 a4 x5 v1).bind fun h6 => ((gR 0 11 h6 v0).bind fun a7 => ((gI 0 9 h6 v0).bind fun x8 => ((sI 0 h6 a7 x8 v2).bind fun h9 => ((gR 0 13 h9 v0).bind fun a10 => ((gR 0 12 h9 v0).bind fun a11 => ((gI 0 9 h9 v0).bind fun x12 => ((cpI h9 a10 (0 : Int32) a11 ((x12 * (3 : Int32))) (3 : Int32)).bind fun h13 => ((gI 0 9 h13 v0).bind fun x14 => ((pV 0 9 (.int ((x14 + (1 : Int32)))) h13 v0).bind fun h15 => (some ((), h15))))))))))))))))) else ((gR 0 14 h v0).bind fun a16 => ((gR 0 14 h v0).bind fun a17 => ((aI 0 h a17 ((v4 - (1 : Int32)))).bind fun x18 => ((sI 0 h a16 v4 x18).bind fun h19 => (bindv (v4 + (-1)) fun x20 => (self15 h19 v0 v1 v2 v3 x20))))))
set_option maxRecDepth 20000 in
theorem tb_X0_addFloor_25 {M : MV} {X : XT} {F : Nat} {self15 : PH → Nat → Int32 → Int32 → Int32 → Int32 → Option (Unit × PH)} {h hz : PH} {r : Unit} {ce sl mc ms : Nat} {v0 : Nat} {v1 : Int32} {v2 : Int32} {v3 : Int32} {v4 : Int32} (hc : Cx M X RX0 cX0_addFloor) (hr : Rx M 2 118 mc ms 5) (he : Ex M X none "addFloor" none hz mc ms) (hm : ce ≤ mc) (hs : sl ≤ ms) (ih15 : ∀ (h : PH) (v0 : Nat) (v1 : Int32) (v2 : Int32) (v3 : Int32) (v4 : Int32), self15 h v0 v1 v2 v3 v4 = some (r, hz) → GG M X h ce sl 25 [(0, .ref (X.1 + v0)), (1, .int v1), (2, .int v2), (3, .int v3), (4, .int v4)] []) (hf : b_X0_addFloor_25 F self15 h v0 v1 v2 v3 v4 = some (r, hz)) : GG M X h ce sl 25 [(0, .ref (X.1 + v0)), (1, .int v1), (2, .int v2), (3, .int v3), (4, .int v4)] [] := by
  unfold b_X0_addFloor_25 at hf
  refine r_iload hc 4 (dc_at dX0_addFloor 15 rfl) rfl ?_
  refine r_iload_n hc 3 (dc_at dX0_addFloor 16 rfl) rfl ?_
  refine r_icmp_le (tgt := 53) hc (dc_at dX0_addFloor 17 rfl) (by decide) hf (fun hf => ?_) (fun hf => ?_)
  · refine r_aload_n hc 0 (dc_at dX0_addFloor 30 rfl) rfl ?_
    refine r_getR hc (dc_at dX0_addFloor 31 rfl) fl_X0_37 hf fun a1 hf => ?_
    refine r_iload_n hc 3 (dc_at dX0_addFloor 32 rfl) rfl ?_
    refine r_aload_n hc 0 (dc_at dX0_addFloor 33 rfl) rfl ?_
    refine r_getI hc (dc_at dX0_addFloor 34 rfl) fl_X0_61 hf fun x2 hf => ?_
    refine r_iastore hc (dc_at dX0_addFloor 35 rfl) hf fun h3 hf => ?_
    refine r_aload_n hc 0 (dc_at dX0_addFloor 36 rfl) rfl ?_
    refine r_getR hc (dc_at dX0_addFloor 37 rfl) fl_X0_25 hf fun a4 hf => ?_
    refine r_aload_n hc 0 (dc_at dX0_addFloor 38 rfl) rfl ?_
    refine r_getI hc (dc_at dX0_addFloor 39 rfl) fl_X0_61 hf fun x5 hf => ?_
    refine r_iload_n hc 1 (dc_at dX0_addFloor 40 rfl) rfl ?_
    refine r_iastore hc (dc_at dX0_addFloor 41 rfl) hf fun h6 hf => ?_
    refine r_aload_n hc 0 (dc_at dX0_addFloor 42 rfl) rfl ?_
    refine r_getR hc (dc_at dX0_addFloor 43 rfl) fl_X0_28 hf fun a7 hf => ?_
    refine r_aload_n hc 0 (dc_at dX0_addFloor 44 rfl) rfl ?_
    refine r_getI hc (dc_at dX0_addFloor 45 rfl) fl_X0_61 hf fun x8 hf => ?_
    refine r_iload_n hc 2 (dc_at dX0_addFloor 46 rfl) rfl ?_
    refine r_iastore hc (dc_at dX0_addFloor 47 rfl) hf fun h9 hf => ?_
    refine r_aload_n hc 0 (dc_at dX0_addFloor 48 rfl) rfl ?_
    refine r_getR hc (dc_at dX0_addFloor 49 rfl) fl_X0_34 hf fun a10 hf => ?_
    refine r_iconst (0 : Int32) hc (dc_at dX0_addFloor 50 rfl) (by decide) ?_
    refine r_aload_n hc 0 (dc_at dX0_addFloor 51 rfl) rfl ?_
    refine r_getR hc (dc_at dX0_addFloor 52 rfl) fl_X0_31 hf fun a11 hf => ?_
    refine r_aload_n hc 0 (dc_at dX0_addFloor 53 rfl) rfl ?_
    refine r_getI hc (dc_at dX0_addFloor 54 rfl) fl_X0_61 hf fun x12 hf => ?_
    refine r_iconst (3 : Int32) hc (dc_at dX0_addFloor 55 rfl) (by decide) ?_
    refine r_imul hc (dc_at dX0_addFloor 56 rfl) ?_
    refine r_iconst (3 : Int32) hc (dc_at dX0_addFloor 57 rfl) (by decide) ?_
    refine r_copy hc hr (dc_at dX0_addFloor 58 rfl) ac_X0_67 acw hf (by first | exact Nat.le_of_ble_eq_true rfl | omega) (by first | exact Nat.le_of_ble_eq_true rfl | omega) fun h13 hf => ?_
    refine r_aload_n hc 0 (dc_at dX0_addFloor 59 rfl) rfl ?_
    refine r_dup hc (dc_at dX0_addFloor 60 rfl) rfl ?_
    refine r_getI hc (dc_at dX0_addFloor 61 rfl) fl_X0_61 hf fun x14 hf => ?_
    refine r_iconst (1 : Int32) hc (dc_at dX0_addFloor 62 rfl) (by decide) ?_
    refine r_iadd hc (dc_at dX0_addFloor 63 rfl) ?_
    refine r_putI hc he (dc_at dX0_addFloor 64 rfl) fp_X0_61 (fun q => by cases q) hf fun h15 hf => ?_
    exact r_vret hc he (hm) (hs) (dc_at dX0_addFloor 65 rfl) hf
  · refine r_aload_n hc 0 (dc_at dX0_addFloor 18 rfl) rfl ?_
    refine r_getR hc (dc_at dX0_addFloor 19 rfl) fl_X0_37 hf fun a16 hf => ?_
    refine r_iload hc 4 (dc_at dX0_addFloor 20 rfl) rfl ?_
    refine r_aload_n hc 0 (dc_at dX0_addFloor 21 rfl) rfl ?_
    refine r_getR hc (dc_at dX0_addFloor 22 rfl) fl_X0_37 hf fun a17 hf => ?_
    refine r_iload hc 4 (dc_at dX0_addFloor 23 rfl) rfl ?_
    refine r_iconst (1 : Int32) hc (dc_at dX0_addFloor 24 rfl) (by decide) ?_
    refine r_isub hc (dc_at dX0_addFloor 25 rfl) ?_
    refine r_iaload hc (dc_at dX0_addFloor 26 rfl) hf fun x18 hf => ?_
    refine r_iastore hc (dc_at dX0_addFloor 27 rfl) hf fun h19 hf => ?_
    refine obv hf fun x20 e_x20 hf => ?_
    refine r_iinc 4 [(4, .int x20), (0, .ref (X.1 + v0)), (1, .int v1), (2, .int v2), (3, .int v3)] hc hr (dc_at dX0_addFloor 28 rfl) rfl (by rw [e_x20]; rfl) (by decide) rfl ?_
    refine r_goto (tgt := 25) hc (dc_at dX0_addFloor 29 rfl) (by decide) ?_
    exact gg_sub [1, 2, 3, 4, 0] rfl (ih15 _ _ _ _ _ _ hf)
def l_X0_addFloor_25 (F : Nat) : Nat → PH → Nat → Int32 → Int32 → Int32 → Int32 → Option (Unit × PH)
  | 0 => fun _ _ _ _ _ _ => none
  | n + 1 => fun h v0 v1 v2 v3 v4 => b_X0_addFloor_25 F (l_X0_addFloor_25 F n) h v0 v1 v2 v3 v4
theorem tl_X0_addFloor_25 {M : MV} {X : XT} {F : Nat} {hz : PH} {r : Unit} {ce sl mc ms : Nat} (hc : Cx M X RX0 cX0_addFloor) (hr : Rx M 2 118 mc ms 5) (he : Ex M X none "addFloor" none hz mc ms) (hm : ce ≤ mc) (hs : sl ≤ ms) (n : Nat) : ∀ (h : PH) (v0 : Nat) (v1 : Int32) (v2 : Int32) (v3 : Int32) (v4 : Int32), l_X0_addFloor_25 F n h v0 v1 v2 v3 v4 = some (r, hz) → GG M X h ce sl 25 [(0, .ref (X.1 + v0)), (1, .int v1), (2, .int v2), (3, .int v3), (4, .int v4)] [] := by
  induction n with
  | zero => intro h v0 v1 v2 v3 v4 hf; cases hf
  | succ n ih => intro h v0 v1 v2 v3 v4 hf; exact tb_X0_addFloor_25 (F := F) hc hr he hm hs  ih hf
def b_X0_addFloor_0 (F : Nat) (h : PH) (v0 : Nat) (v1 : Int32) (v2 : Int32) : Option (Unit × PH) := (gI 0 9 h v0).bind fun x1 => (if x1 < (8 : Int32) then (cO 0 h v0 ((m_X0_toldBelow F h v0 (Int32.toInt64 v1) (Int32.toInt64 v2)).bind fun x2 => ((gI 0 9 h v0).bind fun x3 => (l_X0_addFloor_25 F F h v0 v1 v2 x2 x3)))) else (some ((), h)))
set_option maxRecDepth 20000 in
theorem t_X0_addFloor_0 {M : MV} {X : XT} {F : Nat} {h hz : PH} {r : Unit} {ce sl mc ms : Nat} {v0 : Nat} {v1 : Int32} {v2 : Int32} (hc : Cx M X RX0 cX0_addFloor) (hr : Rx M 2 118 mc ms 5) (he : Ex M X none "addFloor" none hz mc ms) (hm : ce ≤ mc) (hs : sl ≤ ms) (hf : b_X0_addFloor_0 F h v0 v1 v2 = some (r, hz)) : GG M X h ce sl 0 [(0, .ref (X.1 + v0)), (1, .int v1), (2, .int v2)] [] := by
  unfold b_X0_addFloor_0 at hf
  refine r_aload_n hc 0 (dc_at dX0_addFloor 0 rfl) rfl ?_
  refine r_getI hc (dc_at dX0_addFloor 1 rfl) fl_X0_61 hf fun x1 hf => ?_
  refine r_bipush (8 : Int32) hc (dc_at dX0_addFloor 2 rfl) (by decide) ?_
  refine r_icmp_lt (tgt := 10) hc (dc_at dX0_addFloor 3 rfl) (by decide) hf (fun hf => ?_) (fun hf => ?_)
  · refine r_aload_n hc 0 (dc_at dX0_addFloor 5 rfl) rfl ?_
    refine r_iload_n hc 1 (dc_at dX0_addFloor 6 rfl) rfl ?_
    refine r_i2l hc (dc_at dX0_addFloor 7 rfl) ?_
    refine r_iload_n hc 2 (dc_at dX0_addFloor 8 rfl) rfl ?_
    refine r_i2l hc (dc_at dX0_addFloor 9 rfl) ?_
    obtain ⟨ho, hf⟩ := cO_some hf
    refine ob hf fun x2 ex hf => ?_
    refine r_callVi (As := [.long ((Int32.toInt64 v1)), .long ((Int32.toInt64 v2))]) (ci := 0) hc hr (dc_at dX0_addFloor 10 rfl) ml_X0_75 mv_X0_toldBelow vi_X0_toldBelow rfl ho rfl (mt_X0_toldBelow ex) (by first | exact Nat.le_of_ble_eq_true rfl | omega) (by first | exact Nat.le_of_ble_eq_true rfl | omega) (by first | exact Nat.le_of_ble_eq_true rfl | omega) hm hs ?_
    refine r_istore_n [(3, .int x2), (0, .ref (X.1 + v0)), (1, .int v1), (2, .int v2)] hc hr (dc_at dX0_addFloor 11 rfl) (by decide) rfl ?_
    refine r_aload_n hc 1 (dc_at dX0_addFloor 12 rfl) rfl ?_
    refine r_getI hc (dc_at dX0_addFloor 13 rfl) fl_X0_61 hf fun x3 hf => ?_
    refine r_istore [(4, .int x3), (3, .int x2), (0, .ref (X.1 + v0)), (1, .int v1), (2, .int v2)] hc hr (dc_at dX0_addFloor 14 rfl) (by decide) rfl ?_
    exact gg_sub [2, 3, 4, 1, 0] rfl (tl_X0_addFloor_25 hc hr he hm hs  F _ _ _ _ _ _ hf)
  · exact r_vret hc he (hm) (hs) (dc_at dX0_addFloor 4 rfl) hf
def m_X0_addFloor (F : Nat) (h : PH) (p0 : Nat) (p1 : Int32) (p2 : Int32) : Option (Unit × PH) := b_X0_addFloor_0 F h p0 p1 p2
theorem mt_X0_addFloor {l : Launch} {X : XT} {F : Nat} {h hz : PH} {p0 : Nat} {p1 : Int32} {p2 : Int32} {r : Unit} (ex : m_X0_addFloor F h p0 p1 p2 = some (r, hz)) : MT l X yX0_addFloor cX0_addFloor 5 none 2 118 0 0 [.ref (X.1 + p0), .int p1, .int p2] h none hz := MT.of (by decide) (Nat.le_of_ble_eq_true rfl) fun M hl hc hr he => by
  subst hl
  exact gg_sub [0, 1, 2] rfl (t_X0_addFloor_0  hc hr he (Nat.zero_le _) (Nat.zero_le _) ex)
/-! FractionLift$House.addTenant(II)V -/
def lX0_addTenantL : List (Nat × Instr × Nat × Nat) := [(0, .aload_n 0, 1, 1), (1, .getfield 64, 3, 4), (4, .bipush 6, 2, 6), (6, .if_icmp .ge 33, 3, 9), (9, .aload_n 0, 1, 10), (10, .getfield 40, 3, 13), (13, .aload_n 0, 1, 14), (14, .getfield 64, 3, 17), (17, .iload_n 1, 1, 18), (18, .iastore, 1, 19), (19, .aload_n 0, 1, 20), (20, .getfield 43, 3, 23), (23, .aload_n 0, 1, 24), (24, .getfield 64, 3, 27), (27, .iload_n 2, 1, 28), (28, .iastore, 1, 29), (29, .aload_n 0, 1, 30), (30, .dup, 1, 31), (31, .getfield 64, 3, 34), (34, .iconst 1, 1, 35), (35, .iadd, 1, 36), (36, .putfield 64, 3, 39), (39, .return_, 1, 40)]
set_option maxRecDepth 20000 in
theorem dX0_addTenant : dcL cX0_addTenant lX0_addTenantL = true := by decide +kernel
def b_X0_addTenant_0 (h : PH) (v0 : Nat) (v1 : Int32) (v2 : Int32) : Option (Unit × PH) := (gI 0 15 h v0).bind fun x1 => (if (6 : Int32) ≤ x1 then (some ((), h)) else ((gR 0 16 h v0).bind fun a2 => ((gI 0 15 h v0).bind fun x3 => ((sI 0 h a2 x3 v1).bind fun h4 => ((gR 0 17 h4 v0).bind fun a5 => ((gI 0 15 h4 v0).bind fun x6 => ((sI 0 h4 a5 x6 v2).bind fun h7 => ((gI 0 15 h7 v0).bind fun x8 => ((pV 0 15 (.int ((x8 + (1 : Int32)))) h7 v0).bind fun h9 => (some ((), h9)))))))))))
set_option maxRecDepth 20000 in
theorem t_X0_addTenant_0 {M : MV} {X : XT} {h hz : PH} {r : Unit} {ce sl mc ms : Nat} {v0 : Nat} {v1 : Int32} {v2 : Int32} (hc : Cx M X RX0 cX0_addTenant) (hr : Rx M 1 60 mc ms 3) (he : Ex M X none "addTenant" none hz mc ms) (hm : ce ≤ mc) (hs : sl ≤ ms) (hf : b_X0_addTenant_0 h v0 v1 v2 = some (r, hz)) : GG M X h ce sl 0 [(0, .ref (X.1 + v0)), (1, .int v1), (2, .int v2)] [] := by
  unfold b_X0_addTenant_0 at hf
  refine r_aload_n hc 0 (dc_at dX0_addTenant 0 rfl) rfl ?_
  refine r_getI hc (dc_at dX0_addTenant 1 rfl) fl_X0_64 hf fun x1 hf => ?_
  refine r_bipush (6 : Int32) hc (dc_at dX0_addTenant 2 rfl) (by decide) ?_
  refine r_icmp_ge (tgt := 39) hc (dc_at dX0_addTenant 3 rfl) (by decide) hf (fun hf => ?_) (fun hf => ?_)
  · exact r_vret hc he (hm) (hs) (dc_at dX0_addTenant 22 rfl) hf
  · refine r_aload_n hc 0 (dc_at dX0_addTenant 4 rfl) rfl ?_
    refine r_getR hc (dc_at dX0_addTenant 5 rfl) fl_X0_40 hf fun a2 hf => ?_
    refine r_aload_n hc 0 (dc_at dX0_addTenant 6 rfl) rfl ?_
    refine r_getI hc (dc_at dX0_addTenant 7 rfl) fl_X0_64 hf fun x3 hf => ?_
    refine r_iload_n hc 1 (dc_at dX0_addTenant 8 rfl) rfl ?_
    refine r_iastore hc (dc_at dX0_addTenant 9 rfl) hf fun h4 hf => ?_
    refine r_aload_n hc 0 (dc_at dX0_addTenant 10 rfl) rfl ?_
    refine r_getR hc (dc_at dX0_addTenant 11 rfl) fl_X0_43 hf fun a5 hf => ?_
    refine r_aload_n hc 0 (dc_at dX0_addTenant 12 rfl) rfl ?_
    refine r_getI hc (dc_at dX0_addTenant 13 rfl) fl_X0_64 hf fun x6 hf => ?_
    refine r_iload_n hc 2 (dc_at dX0_addTenant 14 rfl) rfl ?_
    refine r_iastore hc (dc_at dX0_addTenant 15 rfl) hf fun h7 hf => ?_
    refine r_aload_n hc 0 (dc_at dX0_addTenant 16 rfl) rfl ?_
    refine r_dup hc (dc_at dX0_addTenant 17 rfl) rfl ?_
    refine r_getI hc (dc_at dX0_addTenant 18 rfl) fl_X0_64 hf fun x8 hf => ?_
    refine r_iconst (1 : Int32) hc (dc_at dX0_addTenant 19 rfl) (by decide) ?_
    refine r_iadd hc (dc_at dX0_addTenant 20 rfl) ?_
    refine r_putI hc he (dc_at dX0_addTenant 21 rfl) fp_X0_64 (fun q => by cases q) hf fun h9 hf => ?_
    exact r_vret hc he (hm) (hs) (dc_at dX0_addTenant 22 rfl) hf
def m_X0_addTenant (h : PH) (p0 : Nat) (p1 : Int32) (p2 : Int32) : Option (Unit × PH) := b_X0_addTenant_0 h p0 p1 p2
theorem mt_X0_addTenant {l : Launch} {X : XT} {h hz : PH} {p0 : Nat} {p1 : Int32} {p2 : Int32} {r : Unit} (ex : m_X0_addTenant h p0 p1 p2 = some (r, hz)) : MT l X yX0_addTenant cX0_addTenant 3 none 1 60 0 0 [.ref (X.1 + p0), .int p1, .int p2] h none hz := MT.of (by decide) (Nat.le_of_ble_eq_true rfl) fun M hl hc hr he => by
  subst hl
  exact gg_sub [0, 1, 2] rfl (t_X0_addTenant_0  hc hr he (Nat.zero_le _) (Nat.zero_le _) ex)
/-! FractionLift.commonFactor(JJ)J -/
def lX9_commonFactorL : List (Nat × Instr × Nat × Nat) := [(0, .lload_n 0, 1, 1), (1, .lstore 4, 2, 3), (3, .lload_n 2, 1, 4), (4, .lstore 6, 2, 6), (6, .iconst 0, 1, 7), (7, .istore 8, 2, 9), (9, .iload 8, 2, 11), (11, .sipush 128, 3, 14), (14, .if_icmp .ge 31, 3, 17), (17, .lload 6, 2, 19), (19, .lconst 0, 1, 20), (20, .lcmp, 1, 21), (21, .ifCond .eq 24, 3, 24), (24, .lload 4, 2, 26), (26, .lload 6, 2, 28), (28, .lrem, 1, 29), (29, .lstore 9, 2, 31), (31, .lload 6, 2, 33), (33, .lstore 4, 2, 35), (35, .lload 9, 2, 37), (37, .lstore 6, 2, 39), (39, .iinc 8 1, 3, 42), (42, .goto (-33), 3, 45), (45, .lload 4, 2, 47), (47, .lconst 0, 1, 48), (48, .lcmp, 1, 49), (49, .ifCond .ge 9, 3, 52), (52, .lload 4, 2, 54), (54, .lneg, 1, 55), (55, .goto 5, 3, 58), (58, .lload 4, 2, 60), (60, .lreturn, 1, 61)]
set_option maxRecDepth 20000 in
theorem dX9_commonFactor : dcL cX9_commonFactor lX9_commonFactorL = true := by decide +kernel
def b_X9_commonFactor_45 (F : Nat) (v4 : Int64) : Option Int64 := if (0 : Int64) ≤ v4 then (some v4) else (some (-v4))
set_option maxRecDepth 20000 in
theorem t_X9_commonFactor_45 {M : MV} {X : XT} {F : Nat} {h : PH} {r : Int64} {ce sl mc ms : Nat} {v4 : Int64} (hc : Cx M X RX9 cX9_commonFactor) (hr : Rx M 1 60 mc ms 11) (he : Ex M X (some .long) "commonFactor" (some (.long r)) h mc ms) (hm : ce ≤ mc) (hs : sl ≤ ms) (hf : b_X9_commonFactor_45 F v4 = some r) : GG M X h ce sl 45 [(4, .long v4)] [] := by
  unfold b_X9_commonFactor_45 at hf
  refine r_lload hc 0 (dc_at dX9_commonFactor 23 rfl) rfl ?_
  refine r_lconst (0 : Int64) hc (dc_at dX9_commonFactor 24 rfl) (by decide) ?_
  refine r_lcmp_ge (tgt := 58) hc (dc_at dX9_commonFactor 25 rfl) (dc_at dX9_commonFactor 26 rfl) (by decide) hf (fun hf => ?_) (fun hf => ?_)
  · refine r_lload hc 0 (dc_at dX9_commonFactor 30 rfl) rfl ?_
    exact r_lretP hc he (hm) (hs) (dc_at dX9_commonFactor 31 rfl) hf
  · refine r_lload hc 0 (dc_at dX9_commonFactor 27 rfl) rfl ?_
    refine r_lneg hc (dc_at dX9_commonFactor 28 rfl) ?_
    refine r_goto (tgt := 60) hc (dc_at dX9_commonFactor 29 rfl) (by decide) ?_
    exact r_lretP hc he (hm) (hs) (dc_at dX9_commonFactor 31 rfl) hf
def b_X9_commonFactor_9 (F : Nat) (self6 : Int64 → Int64 → Int32 → Option Int64) (v4 : Int64) (v6 : Int64) (v8 : Int32) : Option Int64 := if (128 : Int32) ≤ v8 then (b_X9_commonFactor_45 F v4) else (if v6 = (0 : Int64) then (b_X9_commonFactor_45 F v4) else (if v6 = 0 then none else (bindv (remL v4 v6) fun x1 => (bindv (v8 + (1)) fun x2 => (self6 v6 x1 x2)))))
set_option maxRecDepth 20000 in
theorem tb_X9_commonFactor_9 {M : MV} {X : XT} {F : Nat} {self6 : Int64 → Int64 → Int32 → Option Int64} {h : PH} {r : Int64} {ce sl mc ms : Nat} {v4 : Int64} {v6 : Int64} {v8 : Int32} (hc : Cx M X RX9 cX9_commonFactor) (hr : Rx M 1 60 mc ms 11) (he : Ex M X (some .long) "commonFactor" (some (.long r)) h mc ms) (hm : ce ≤ mc) (hs : sl ≤ ms) (ih6 : ∀ (v4 : Int64) (v6 : Int64) (v8 : Int32), self6 v4 v6 v8 = some r → GG M X h ce sl 9 [(4, .long v4), (6, .long v6), (8, .int v8)] []) (hf : b_X9_commonFactor_9 F self6 v4 v6 v8 = some r) : GG M X h ce sl 9 [(4, .long v4), (6, .long v6), (8, .int v8)] [] := by
  unfold b_X9_commonFactor_9 at hf
  refine r_iload hc 2 (dc_at dX9_commonFactor 6 rfl) rfl ?_
  refine r_sipush (128 : Int32) hc (dc_at dX9_commonFactor 7 rfl) (by decide) ?_
  refine r_icmp_ge (tgt := 45) hc (dc_at dX9_commonFactor 8 rfl) (by decide) hf (fun hf => ?_) (fun hf => ?_)
  · exact gg_sub [0] rfl (t_X9_commonFactor_45 hc hr he hm hs  hf)
  · refine r_lload hc 1 (dc_at dX9_commonFactor 9 rfl) rfl ?_
    refine r_lconst (0 : Int64) hc (dc_at dX9_commonFactor 10 rfl) (by decide) ?_
    refine r_lcmp_eq (tgt := 45) hc (dc_at dX9_commonFactor 11 rfl) (dc_at dX9_commonFactor 12 rfl) (by decide) hf (fun hf => ?_) (fun hf => ?_)
    · exact gg_sub [0] rfl (t_X9_commonFactor_45 hc hr he hm hs  hf)
    · refine r_lload hc 0 (dc_at dX9_commonFactor 13 rfl) rfl ?_
      refine r_lload hc 1 (dc_at dX9_commonFactor 14 rfl) rfl ?_
      refine r_lrem hc (dc_at dX9_commonFactor 15 rfl) hf (fun hf => ?_)
      refine r_nm (mk := Value.long) hf fun x1 hf => ?_
      refine r_lstore [(9, .long x1), (4, .long v4), (6, .long v6), (8, .int v8)] hc hr (dc_at dX9_commonFactor 16 rfl) (by decide) rfl ?_
      refine r_lload hc 2 (dc_at dX9_commonFactor 17 rfl) rfl ?_
      refine r_lstore [(4, .long v6), (9, .long x1), (6, .long v6), (8, .int v8)] hc hr (dc_at dX9_commonFactor 18 rfl) (by decide) rfl ?_
      refine r_lload hc 1 (dc_at dX9_commonFactor 19 rfl) rfl ?_
      refine r_lstore [(6, .long x1), (4, .long v6), (9, .long x1), (8, .int v8)] hc hr (dc_at dX9_commonFactor 20 rfl) (by decide) rfl ?_
      refine obv hf fun x2 e_x2 hf => ?_
      refine r_iinc 3 [(8, .int x2), (6, .long x1), (4, .long v6), (9, .long x1)] hc hr (dc_at dX9_commonFactor 21 rfl) rfl (by rw [e_x2]; rfl) (by decide) rfl ?_
      refine r_goto (tgt := 9) hc (dc_at dX9_commonFactor 22 rfl) (by decide) ?_
      exact gg_sub [2, 1, 0] rfl (ih6 _ _ _ hf)
def l_X9_commonFactor_9 (F : Nat) : Nat → Int64 → Int64 → Int32 → Option Int64
  | 0 => fun _ _ _ => none
  | n + 1 => fun v4 v6 v8 => b_X9_commonFactor_9 F (l_X9_commonFactor_9 F n) v4 v6 v8
theorem tl_X9_commonFactor_9 {M : MV} {X : XT} {F : Nat} {h : PH} {r : Int64} {ce sl mc ms : Nat} (hc : Cx M X RX9 cX9_commonFactor) (hr : Rx M 1 60 mc ms 11) (he : Ex M X (some .long) "commonFactor" (some (.long r)) h mc ms) (hm : ce ≤ mc) (hs : sl ≤ ms) (n : Nat) : ∀ (v4 : Int64) (v6 : Int64) (v8 : Int32), l_X9_commonFactor_9 F n v4 v6 v8 = some r → GG M X h ce sl 9 [(4, .long v4), (6, .long v6), (8, .int v8)] [] := by
  induction n with
  | zero => intro v4 v6 v8 hf; cases hf
  | succ n ih => intro v4 v6 v8 hf; exact tb_X9_commonFactor_9 (F := F) hc hr he hm hs  ih hf
def b_X9_commonFactor_0 (F : Nat) (v0 : Int64) (v2 : Int64) : Option Int64 := l_X9_commonFactor_9 F F v0 v2 (0 : Int32)
set_option maxRecDepth 20000 in
theorem t_X9_commonFactor_0 {M : MV} {X : XT} {F : Nat} {h : PH} {r : Int64} {ce sl mc ms : Nat} {v0 : Int64} {v2 : Int64} (hc : Cx M X RX9 cX9_commonFactor) (hr : Rx M 1 60 mc ms 11) (he : Ex M X (some .long) "commonFactor" (some (.long r)) h mc ms) (hm : ce ≤ mc) (hs : sl ≤ ms) (hf : b_X9_commonFactor_0 F v0 v2 = some r) : GG M X h ce sl 0 [(0, .long v0), (2, .long v2)] [] := by
  unfold b_X9_commonFactor_0 at hf
  refine r_lload_n hc 0 (dc_at dX9_commonFactor 0 rfl) rfl ?_
  refine r_lstore [(4, .long v0), (0, .long v0), (2, .long v2)] hc hr (dc_at dX9_commonFactor 1 rfl) (by decide) rfl ?_
  refine r_lload_n hc 2 (dc_at dX9_commonFactor 2 rfl) rfl ?_
  refine r_lstore [(6, .long v2), (4, .long v0), (0, .long v0), (2, .long v2)] hc hr (dc_at dX9_commonFactor 3 rfl) (by decide) rfl ?_
  refine r_iconst (0 : Int32) hc (dc_at dX9_commonFactor 4 rfl) (by decide) ?_
  refine r_istore [(8, .int ((0 : Int32))), (6, .long v2), (4, .long v0), (0, .long v0), (2, .long v2)] hc hr (dc_at dX9_commonFactor 5 rfl) (by decide) rfl ?_
  exact gg_sub [2, 1, 0] rfl (tl_X9_commonFactor_9 hc hr he hm hs  F _ _ _ hf)
def m_X9_commonFactor (F : Nat) (p0 : Int64) (p2 : Int64) : Option Int64 := b_X9_commonFactor_0 F p0 p2
theorem mt_X9_commonFactor {l : Launch} {X : XT} {F : Nat} {h : PH} {p0 : Int64} {p2 : Int64} {r : Int64} (ex : m_X9_commonFactor F p0 p2 = some r) : MT l X yX9_commonFactor cX9_commonFactor 11 (some .long) 1 60 0 0 [.long p0, .long p2] h (some (.long r)) h := MT.of (by decide) (Nat.le_of_ble_eq_true rfl) fun M hl hc hr he => by
  subst hl
  exact gg_sub [0, 1] rfl (t_X9_commonFactor_0  hc hr he (Nat.zero_le _) (Nat.zero_le _) ex)
/-! FractionLift$Ratio.put(JJ)V -/
def lX2_putL : List (Nat × Instr × Nat × Nat) := [(0, .lload_n 1, 1, 1), (1, .lload_n 3, 1, 2), (2, .invokestatic 16, 3, 5), (5, .lstore 5, 2, 7), (7, .lload 5, 2, 9), (9, .lconst 0, 1, 10), (10, .lcmp, 1, 11), (11, .ifCond .ne 6, 3, 14), (14, .lconst 1, 1, 15), (15, .lstore 5, 2, 17), (17, .lload_n 3, 1, 18), (18, .lconst 0, 1, 19), (19, .lcmp, 1, 20), (20, .ifCond .ge 8, 3, 23), (23, .lload 5, 2, 25), (25, .lneg, 1, 26), (26, .lstore 5, 2, 28), (28, .aload_n 0, 1, 29), (29, .lload_n 1, 1, 30), (30, .lload 5, 2, 32), (32, .ldiv, 1, 33), (33, .putfield 7, 3, 36), (36, .aload_n 0, 1, 37), (37, .lload_n 3, 1, 38), (38, .lload 5, 2, 40), (40, .ldiv, 1, 41), (41, .putfield 13, 3, 44), (44, .return_, 1, 45)]
set_option maxRecDepth 20000 in
theorem dX2_put : dcL cX2_put lX2_putL = true := by decide +kernel
def b_X2_put_28 (F : Nat) (h : PH) (v0 : Nat) (v1 : Int64) (v3 : Int64) (v5 : Int64) : Option (Unit × PH) := if v5 = 0 then none else ((pV 2 0 (.long (v1 / v5)) h v0).bind fun h1 => (if v5 = 0 then none else ((pV 2 1 (.long (v3 / v5)) h1 v0).bind fun h2 => (some ((), h2)))))
set_option maxRecDepth 20000 in
theorem t_X2_put_28 {M : MV} {X : XT} {F : Nat} {h hz : PH} {r : Unit} {ce sl mc ms : Nat} {v0 : Nat} {v1 : Int64} {v3 : Int64} {v5 : Int64} (hc : Cx M X RX2 cX2_put) (hr : Rx M 2 118 mc ms 7) (he : Ex M X none "put" none hz mc ms) (hm : ce ≤ mc) (hs : sl ≤ ms) (hf : b_X2_put_28 F h v0 v1 v3 v5 = some (r, hz)) : GG M X h ce sl 28 [(0, .ref (X.1 + v0)), (1, .long v1), (3, .long v3), (5, .long v5)] [] := by
  unfold b_X2_put_28 at hf
  refine r_aload_n hc 0 (dc_at dX2_put 17 rfl) rfl ?_
  refine r_lload_n hc 1 (dc_at dX2_put 18 rfl) rfl ?_
  refine r_lload hc 3 (dc_at dX2_put 19 rfl) rfl ?_
  refine r_ldiv hc (dc_at dX2_put 20 rfl) hf (fun hf => ?_)
  refine r_putL hc he (dc_at dX2_put 21 rfl) fp_X2_7 (fun q => by cases q) hf fun h1 hf => ?_
  refine r_aload_n hc 0 (dc_at dX2_put 22 rfl) rfl ?_
  refine r_lload_n hc 2 (dc_at dX2_put 23 rfl) rfl ?_
  refine r_lload hc 3 (dc_at dX2_put 24 rfl) rfl ?_
  refine r_ldiv hc (dc_at dX2_put 25 rfl) hf (fun hf => ?_)
  refine r_putL hc he (dc_at dX2_put 26 rfl) fp_X2_13 (fun q => by cases q) hf fun h2 hf => ?_
  exact r_vret hc he (hm) (hs) (dc_at dX2_put 27 rfl) hf
def b_X2_put_17 (F : Nat) (h : PH) (v0 : Nat) (v1 : Int64) (v3 : Int64) (v5 : Int64) : Option (Unit × PH) := if (0 : Int64) ≤ v3 then (b_X2_put_28 F h v0 v1 v3 v5) else (bindv (-v5) fun x1 => (b_X2_put_28 F h v0 v1 v3 x1))
set_option maxRecDepth 20000 in
theorem t_X2_put_17 {M : MV} {X : XT} {F : Nat} {h hz : PH} {r : Unit} {ce sl mc ms : Nat} {v0 : Nat} {v1 : Int64} {v3 : Int64} {v5 : Int64} (hc : Cx M X RX2 cX2_put) (hr : Rx M 2 118 mc ms 7) (he : Ex M X none "put" none hz mc ms) (hm : ce ≤ mc) (hs : sl ≤ ms) (hf : b_X2_put_17 F h v0 v1 v3 v5 = some (r, hz)) : GG M X h ce sl 17 [(0, .ref (X.1 + v0)), (1, .long v1), (3, .long v3), (5, .long v5)] [] := by
  unfold b_X2_put_17 at hf
  refine r_lload_n hc 2 (dc_at dX2_put 10 rfl) rfl ?_
  refine r_lconst (0 : Int64) hc (dc_at dX2_put 11 rfl) (by decide) ?_
  refine r_lcmp_ge (tgt := 28) hc (dc_at dX2_put 12 rfl) (dc_at dX2_put 13 rfl) (by decide) hf (fun hf => ?_) (fun hf => ?_)
  · exact gg_sub [0, 1, 2, 3] rfl (t_X2_put_28 hc hr he hm hs  hf)
  · refine r_lload hc 3 (dc_at dX2_put 14 rfl) rfl ?_
    refine r_lneg hc (dc_at dX2_put 15 rfl) ?_
    refine r_nm (mk := Value.long) hf fun x1 hf => ?_
    refine r_lstore [(5, .long x1), (0, .ref (X.1 + v0)), (1, .long v1), (3, .long v3)] hc hr (dc_at dX2_put 16 rfl) (by decide) rfl ?_
    exact gg_sub [1, 2, 3, 0] rfl (t_X2_put_28 hc hr he hm hs  hf)
def b_X2_put_0 (F : Nat) (h : PH) (v0 : Nat) (v1 : Int64) (v3 : Int64) : Option (Unit × PH) := (m_X9_commonFactor F v1 v3).bind fun x1 => (if x1 = (0 : Int64) then (b_X2_put_17 F h v0 v1 v3 (1 : Int64)) else (b_X2_put_17 F h v0 v1 v3 x1))
set_option maxRecDepth 20000 in
theorem t_X2_put_0 {M : MV} {X : XT} {F : Nat} {h hz : PH} {r : Unit} {ce sl mc ms : Nat} {v0 : Nat} {v1 : Int64} {v3 : Int64} (hc : Cx M X RX2 cX2_put) (hr : Rx M 2 118 mc ms 7) (he : Ex M X none "put" none hz mc ms) (hm : ce ≤ mc) (hs : sl ≤ ms) (hf : b_X2_put_0 F h v0 v1 v3 = some (r, hz)) : GG M X h ce sl 0 [(0, .ref (X.1 + v0)), (1, .long v1), (3, .long v3)] [] := by
  unfold b_X2_put_0 at hf
  refine r_lload_n hc 1 (dc_at dX2_put 0 rfl) rfl ?_
  refine r_lload_n hc 2 (dc_at dX2_put 1 rfl) rfl ?_
  refine ob hf fun x1 ex hf => ?_
  refine r_callSNl (As := [.long v1, .long v3]) 0 (by decide) hc hr (dc_at dX2_put 2 rfl) rfl mv_X9_commonFactor st_X9_commonFactor rfl (mt_X9_commonFactor ex) (by first | exact Nat.le_of_ble_eq_true rfl | omega) (by first | exact Nat.le_of_ble_eq_true rfl | omega) (by first | exact Nat.le_of_ble_eq_true rfl | omega) hm hs ?_
  refine r_lstore [(5, .long x1), (0, .ref (X.1 + v0)), (1, .long v1), (3, .long v3)] hc hr (dc_at dX2_put 3 rfl) (by decide) rfl ?_
  refine r_lload hc 0 (dc_at dX2_put 4 rfl) rfl ?_
  refine r_lconst (0 : Int64) hc (dc_at dX2_put 5 rfl) (by decide) ?_
  refine r_lcmp_ne (tgt := 17) hc (dc_at dX2_put 6 rfl) (dc_at dX2_put 7 rfl) (by decide) hf (fun hf => ?_) (fun hf => ?_)
  · exact gg_sub [1, 2, 3, 0] rfl (t_X2_put_17 hc hr he hm hs  hf)
  · refine r_lconst (1 : Int64) hc (dc_at dX2_put 8 rfl) (by decide) ?_
    refine r_lstore [(5, .long ((1 : Int64))), (0, .ref (X.1 + v0)), (1, .long v1), (3, .long v3)] hc hr (dc_at dX2_put 9 rfl) (by decide) rfl ?_
    exact gg_sub [1, 2, 3, 0] rfl (t_X2_put_17 hc hr he hm hs  hf)
def m_X2_put (F : Nat) (h : PH) (p0 : Nat) (p1 : Int64) (p3 : Int64) : Option (Unit × PH) := b_X2_put_0 F h p0 p1 p3
theorem mt_X2_put {l : Launch} {X : XT} {F : Nat} {h hz : PH} {p0 : Nat} {p1 : Int64} {p3 : Int64} {r : Unit} (ex : m_X2_put F h p0 p1 p3 = some (r, hz)) : MT l X yX2_put cX2_put 7 none 2 118 0 0 [.ref (X.1 + p0), .long p1, .long p3] h none hz := MT.of (by decide) (Nat.le_of_ble_eq_true rfl) fun M hl hc hr he => by
  subst hl
  exact gg_sub [0, 1, 2] rfl (t_X2_put_0  hc hr he (Nat.zero_le _) (Nat.zero_le _) ex)
/-! FractionLift$House.widthBetween(II)J -/
def lX0_widthBetweenL : List (Nat × Instr × Nat × Nat) := [(0, .aload_n 0, 1, 1), (1, .getfield 25, 3, 4), (4, .iload_n 2, 1, 5), (5, .iaload, 1, 6), (6, .i2l, 1, 7), (7, .aload_n 0, 1, 8), (8, .getfield 28, 3, 11), (11, .iload_n 1, 1, 12), (12, .iaload, 1, 13), (13, .i2l, 1, 14), (14, .lmul, 1, 15), (15, .aload_n 0, 1, 16), (16, .getfield 25, 3, 19), (19, .iload_n 1, 1, 20), (20, .iaload, 1, 21), (21, .i2l, 1, 22), (22, .aload_n 0, 1, 23), (23, .getfield 28, 3, 26), (26, .iload_n 2, 1, 27), (27, .iaload, 1, 28), (28, .i2l, 1, 29), (29, .lmul, 1, 30), (30, .lsub, 1, 31), (31, .lreturn, 1, 32)]
set_option maxRecDepth 20000 in
theorem dX0_widthBetween : dcL cX0_widthBetween lX0_widthBetweenL = true := by decide +kernel
def b_X0_widthBetween_0 (h : PH) (v0 : Nat) (v1 : Int32) (v2 : Int32) : Option Int64 := (gR 0 10 h v0).bind fun a1 => ((aI 0 h a1 v2).bind fun x2 => ((gR 0 11 h v0).bind fun a3 => ((aI 0 h a3 v1).bind fun x4 => ((gR 0 10 h v0).bind fun a5 => ((aI 0 h a5 v1).bind fun x6 => ((gR 0 11 h v0).bind fun a7 => ((aI 0 h a7 v2).bind fun x8 => (some (((((Int32.toInt64 x2) * (Int32.toInt64 x4))) - (((Int32.toInt64 x6) * (Int32.toInt64 x8)))))))))))))
set_option maxRecDepth 20000 in
theorem t_X0_widthBetween_0 {M : MV} {X : XT} {h : PH} {r : Int64} {ce sl mc ms : Nat} {v0 : Nat} {v1 : Int32} {v2 : Int32} (hc : Cx M X RX0 cX0_widthBetween) (hr : Rx M 1 60 mc ms 3) (he : Ex M X (some .long) "widthBetween" (some (.long r)) h mc ms) (hm : ce ≤ mc) (hs : sl ≤ ms) (hf : b_X0_widthBetween_0 h v0 v1 v2 = some r) : GG M X h ce sl 0 [(0, .ref (X.1 + v0)), (1, .int v1), (2, .int v2)] [] := by
  unfold b_X0_widthBetween_0 at hf
  refine r_aload_n hc 0 (dc_at dX0_widthBetween 0 rfl) rfl ?_
  refine r_getR hc (dc_at dX0_widthBetween 1 rfl) fl_X0_25 hf fun a1 hf => ?_
  refine r_iload_n hc 2 (dc_at dX0_widthBetween 2 rfl) rfl ?_
  refine r_iaload hc (dc_at dX0_widthBetween 3 rfl) hf fun x2 hf => ?_
  refine r_i2l hc (dc_at dX0_widthBetween 4 rfl) ?_
  refine r_aload_n hc 0 (dc_at dX0_widthBetween 5 rfl) rfl ?_
  refine r_getR hc (dc_at dX0_widthBetween 6 rfl) fl_X0_28 hf fun a3 hf => ?_
  refine r_iload_n hc 1 (dc_at dX0_widthBetween 7 rfl) rfl ?_
  refine r_iaload hc (dc_at dX0_widthBetween 8 rfl) hf fun x4 hf => ?_
  refine r_i2l hc (dc_at dX0_widthBetween 9 rfl) ?_
  refine r_lmul hc (dc_at dX0_widthBetween 10 rfl) ?_
  refine r_aload_n hc 0 (dc_at dX0_widthBetween 11 rfl) rfl ?_
  refine r_getR hc (dc_at dX0_widthBetween 12 rfl) fl_X0_25 hf fun a5 hf => ?_
  refine r_iload_n hc 1 (dc_at dX0_widthBetween 13 rfl) rfl ?_
  refine r_iaload hc (dc_at dX0_widthBetween 14 rfl) hf fun x6 hf => ?_
  refine r_i2l hc (dc_at dX0_widthBetween 15 rfl) ?_
  refine r_aload_n hc 0 (dc_at dX0_widthBetween 16 rfl) rfl ?_
  refine r_getR hc (dc_at dX0_widthBetween 17 rfl) fl_X0_28 hf fun a7 hf => ?_
  refine r_iload_n hc 2 (dc_at dX0_widthBetween 18 rfl) rfl ?_
  refine r_iaload hc (dc_at dX0_widthBetween 19 rfl) hf fun x8 hf => ?_
  refine r_i2l hc (dc_at dX0_widthBetween 20 rfl) ?_
  refine r_lmul hc (dc_at dX0_widthBetween 21 rfl) ?_
  refine r_lsub hc (dc_at dX0_widthBetween 22 rfl) ?_
  exact r_lretP hc he (hm) (hs) (dc_at dX0_widthBetween 23 rfl) hf
def m_X0_widthBetween (h : PH) (p0 : Nat) (p1 : Int32) (p2 : Int32) : Option Int64 := b_X0_widthBetween_0 h p0 p1 p2
theorem mt_X0_widthBetween {l : Launch} {X : XT} {h : PH} {p0 : Nat} {p1 : Int32} {p2 : Int32} {r : Int64} (ex : m_X0_widthBetween h p0 p1 p2 = some r) : MT l X yX0_widthBetween cX0_widthBetween 3 (some .long) 1 60 0 0 [.ref (X.1 + p0), .int p1, .int p2] h (some (.long r)) h := MT.of (by decide) (Nat.le_of_ble_eq_true rfl) fun M hl hc hr he => by
  subst hl
  exact gg_sub [0, 1, 2] rfl (t_X0_widthBetween_0  hc hr he (Nat.zero_le _) (Nat.zero_le _) ex)
/-! FractionLift$House.stuffAt(IJJLFractionLift$Ratio;)V -/
def lX0_stuffAtL : List (Nat × Instr × Nat × Nat) := [(0, .aload_n 0, 1, 1), (1, .getfield 61, 3, 4), (4, .ifCond .ne 11, 3, 7), (7, .aload 6, 2, 9), (9, .lconst 0, 1, 10), (10, .lconst 1, 1, 11), (11, .invokevirtual 79, 3, 14), (14, .return_, 1, 15), (15, .aload_n 0, 1, 16), (16, .lload_n 2, 1, 17), (17, .lload 4, 2, 19), (19, .invokevirtual 75, 3, 22), (22, .istore 7, 2, 24), (24, .iload 7, 2, 26), (26, .aload_n 0, 1, 27), (27, .getfield 61, 3, 30), (30, .if_icmp .ne 25, 3, 33), (33, .aload 6, 2, 35), (35, .aload_n 0, 1, 36), (36, .aload_n 0, 1, 37), (37, .getfield 37, 3, 40), (40, .iload 7, 2, 42), (42, .iconst 1, 1, 43), (43, .isub, 1, 44), (44, .iaload, 1, 45), (45, .iload_n 1, 1, 46), (46, .invokevirtual 85, 3, 49), (49, .i2l, 1, 50), (50, .lconst 1, 1, 51), (51, .invokevirtual 79, 3, 54), (54, .return_, 1, 55), (55, .aload_n 0, 1, 56), (56, .getfield 37, 3, 59), (59, .iload 7, 2, 61), (61, .iaload, 1, 62), (62, .istore 8, 2, 64), (64, .iload 7, 2, 66), (66, .ifCond .ne 18, 3, 69), (69, .aload 6, 2, 71), (71, .aload_n 0, 1, 72), (72, .iload 8, 2, 74), (74, .iload_n 1, 1, 75), (75, .invokevirtual 85, 3, 78), (78, .i2l, 1, 79), (79, .lconst 1, 1, 80), (80, .invokevirtual 79, 3, 83), (83, .return_, 1, 84), (84, .aload_n 0, 1, 85), (85, .getfield 37, 3, 88), (88, .iload 7, 2, 90), (90, .iconst 1, 1, 91), (91, .isub, 1, 92), (92, .iaload, 1, 93), (93, .istore 9, 2, 95), (95, .aload_n 0, 1, 96), (96, .iload 9, 2, 98), (98, .iload 8, 2, 100), (100, .invokevirtual 89, 3, 103), (103, .lstore 10, 2, 105), (105, .lload_n 2, 1, 106), (106, .aload_n 0, 1, 107), (107, .getfield 28, 3, 110), (110, .iload 9, 2, 112), (112, .iaload, 1, 113), (113, .i2l, 1, 114), (114, .lmul, 1, 115), (115, .aload_n 0, 1, 116), (116, .getfield 25, 3, 119), (119, .iload 9, 2, 121), (121, .iaload, 1, 122), (122, .i2l, 1, 123), (123, .lload 4, 2, 125), (125, .lmul, 1, 126), (126, .lsub, 1, 127), (127, .lstore 12, 2, 129), (129, .aload_n 0, 1, 130), (130, .iload 8, 2, 132), (132, .iload_n 1, 1, 133), (133, .invokevirtual 85, 3, 136), (136, .aload_n 0, 1, 137), (137, .iload 9, 2, 139), (139, .iload_n 1, 1, 140), (140, .invokevirtual 85, 3, 143), (143, .isub, 1, 144), (144, .i2l, 1, 145), (145, .lstore 14, 2, 147), (147, .aload 6, 2, 149), (149, .aload_n 0, 1, 150), (150, .iload 9, 2, 152), (152, .iload_n 1, 1, 153), (153, .invokevirtual 85, 3, 156), (156, .i2l, 1, 157), (157, .lload 4, 2, 159), (159, .lmul, 1, 160), (160, .lload 10, 2, 162), (162, .lmul, 1, 163), (163, .lload 14, 2, 165), (165, .lload 12, 2, 167), (167, .lmul, 1, 168), (168, .aload_n 0, 1, 169), (169, .getfield 28, 3, 172), (172, .iload 8, 2, 174), (174, .iaload, 1, 175), (175, .i2l, 1, 176), (176, .lmul, 1, 177), (177, .ladd, 1, 178), (178, .lload 4, 2, 180), (180, .lload 10, 2, 182), (182, .lmul, 1, 183), (183, .invokevirtual 79, 3, 186), (186, .return_, 1, 187)]
set_option maxRecDepth 20000 in
theorem dX0_stuffAt : dcL cX0_stuffAt lX0_stuffAtL = true := by decide +kernel
def b_X0_stuffAt_0 (F : Nat) (h : PH) (v0 : Nat) (v1 : Int32) (v2 : Int64) (v4 : Int64) (v6 : Nat) : Option (Unit × PH) := (gI 0 9 h v0).bind fun x1 => (if x1 = 0 then (cO 2 h v6 (bind2 (m_X2_put F h v6 (0 : Int64) (1 : Int64)) fun _ h31 => (some ((), h31)))) else (cO 0 h v0 ((m_X0_toldBelow F h v0 v2 v4).bind fun x2 => ((gI 0 9 h v0).bind fun x3 => (if x2 = x3 then ((gR 0 14 h v0).bind fun a25 => ((aI 0 h a25 ((x2 - (1 : Int32)))).bind fun x26 => (cO 0 h v0 ((m_X0_stuffOf h v0 x26 v1).bind fun x27 => (cO 2 h v6 (bind2 (m_X2_put F h v6 (Int32.toInt64 x27) (1 : Int64)) fun _ h29 => (some ((), h29)))))))) else ((gR 0 14 h v0).bind fun a4 => ((aI 0 h a4 x2).bind fun x5 => (if x2 = 0 then (cO 0 h v0 ((m_X0_stuffOf h v0 x5 v1).bind fun x22 => (cO 2 h v6 (bind2 (m_X2_put F h v6 (Int32.toInt64 x22) (1 : Int64)) fun _ h24 => (some ((), h24)))))) else ((gR 0 14 h v0).bind fun a6 => ((aI 0 h a6 ((x2 - (1 : Int32)))).bind fun x7 => (cO 0 h v0 ((m_X0_widthBetween h v0 x7 x5).bind fun x8 => ((gR 0 11 h v0).bind fun a9 => ((aI 0 h a9 x7).bind fun x10 => ((gR 0 10 h v0).bind fun a11 => ((aI 0 h a11 x7).bind fun x12 => (bindv ((((v2 * (Int32.toInt64 x10))) - (((Int32.toInt64 x12) * v4)))) fun x13 => (cO 0 h v0 ((m_X0_stuffOf h v0 x5 v1).bind fun x14 => (cO 0 h v0 ((m_X0_stuffOf h v0 x7 v1).bind fun x15 => (bindv ((Int32.toInt64 (x14 - x15))) fun x16 => (cO 0 h v0 ((m_X0_stuffOf h v0 x7 v1).bind fun x17 => ((gR 0 11 h v0).bind fun a18 => ((aI 0 h a18 x5).bind fun x19 => (cO 2 h v6 (bind2 (m_X2_put F h v6 (((((((Int32.toInt64 x17) * v4)) * x8)) + (((x16 * x13) * (Int32.toInt64 x19))))) (v4 * x8)) fun _ h21 => (some ((), h21))))))))))))))))))))))))))))))
set_option maxRecDepth 20000 in
theorem t_X0_stuffAt_0 {M : MV} {X : XT} {F : Nat} {h hz : PH} {r : Unit} {ce sl mc ms : Nat} {v0 : Nat} {v1 : Int32} {v2 : Int64} {v4 : Int64} {v6 : Nat} (hc : Cx M X RX0 cX0_stuffAt) (hr : Rx M 3 176 mc ms 16) (he : Ex M X none "stuffAt" none hz mc ms) (hm : ce ≤ mc) (hs : sl ≤ ms) (hf : b_X0_stuffAt_0 F h v0 v1 v2 v4 v6 = some (r, hz)) : GG M X h ce sl 0 [(0, .ref (X.1 + v0)), (1, .int v1), (2, .long v2), (4, .long v4), (6, .ref (X.1 + v6))] [] := by
  unfold b_X0_stuffAt_0 at hf
  refine r_aload_n hc 0 (dc_at dX0_stuffAt 0 rfl) rfl ?_
  refine r_getI hc (dc_at dX0_stuffAt 1 rfl) fl_X0_61 hf fun x1 hf => ?_
  refine r_if_ne (tgt := 15) hc (dc_at dX0_stuffAt 2 rfl) (by decide) hf (fun hf => ?_) (fun hf => ?_)
  · refine r_aload_n hc 0 (dc_at dX0_stuffAt 8 rfl) rfl ?_
    refine r_lload_n hc 2 (dc_at dX0_stuffAt 9 rfl) rfl ?_
    refine r_lload hc 3 (dc_at dX0_stuffAt 10 rfl) rfl ?_
    obtain ⟨ho, hf⟩ := cO_some hf
    refine ob hf fun x2 ex hf => ?_
    refine r_callVi (As := [.long v2, .long v4]) (ci := 0) hc hr (dc_at dX0_stuffAt 11 rfl) ml_X0_75 mv_X0_toldBelow vi_X0_toldBelow rfl ho rfl (mt_X0_toldBelow ex) (by first | exact Nat.le_of_ble_eq_true rfl | omega) (by first | exact Nat.le_of_ble_eq_true rfl | omega) (by first | exact Nat.le_of_ble_eq_true rfl | omega) hm hs ?_
    refine r_istore [(7, .int x2), (0, .ref (X.1 + v0)), (1, .int v1), (2, .long v2), (4, .long v4), (6, .ref (X.1 + v6))] hc hr (dc_at dX0_stuffAt 12 rfl) (by decide) rfl ?_
    refine r_iload hc 0 (dc_at dX0_stuffAt 13 rfl) rfl ?_
    refine r_aload_n hc 1 (dc_at dX0_stuffAt 14 rfl) rfl ?_
    refine r_getI hc (dc_at dX0_stuffAt 15 rfl) fl_X0_61 hf fun x3 hf => ?_
    refine r_icmp_ne (tgt := 55) hc (dc_at dX0_stuffAt 16 rfl) (by decide) hf (fun hf => ?_) (fun hf => ?_)
    · refine r_aload_n hc 1 (dc_at dX0_stuffAt 31 rfl) rfl ?_
      refine r_getR hc (dc_at dX0_stuffAt 32 rfl) fl_X0_37 hf fun a4 hf => ?_
      refine r_iload hc 0 (dc_at dX0_stuffAt 33 rfl) rfl ?_
      refine r_iaload hc (dc_at dX0_stuffAt 34 rfl) hf fun x5 hf => ?_
      refine r_istore [(8, .int x5), (7, .int x2), (0, .ref (X.1 + v0)), (1, .int v1), (2, .long v2), (4, .long v4), (6, .ref (X.1 + v6))] hc hr (dc_at dX0_stuffAt 35 rfl) (by decide) rfl ?_
      refine r_iload hc 1 (dc_at dX0_stuffAt 36 rfl) rfl ?_
      refine r_if_ne (tgt := 84) hc (dc_at dX0_stuffAt 37 rfl) (by decide) hf (fun hf => ?_) (fun hf => ?_)
      · refine r_aload_n hc 2 (dc_at dX0_stuffAt 47 rfl) rfl ?_
        refine r_getR hc (dc_at dX0_stuffAt 48 rfl) fl_X0_37 hf fun a6 hf => ?_
        refine r_iload hc 1 (dc_at dX0_stuffAt 49 rfl) rfl ?_
        refine r_iconst (1 : Int32) hc (dc_at dX0_stuffAt 50 rfl) (by decide) ?_
        refine r_isub hc (dc_at dX0_stuffAt 51 rfl) ?_
        refine r_iaload hc (dc_at dX0_stuffAt 52 rfl) hf fun x7 hf => ?_
        refine r_istore [(9, .int x7), (8, .int x5), (7, .int x2), (0, .ref (X.1 + v0)), (1, .int v1), (2, .long v2), (4, .long v4), (6, .ref (X.1 + v6))] hc hr (dc_at dX0_stuffAt 53 rfl) (by decide) rfl ?_
        refine r_aload_n hc 3 (dc_at dX0_stuffAt 54 rfl) rfl ?_
        refine r_iload hc 0 (dc_at dX0_stuffAt 55 rfl) rfl ?_
        refine r_iload hc 1 (dc_at dX0_stuffAt 56 rfl) rfl ?_
        obtain ⟨ho, hf⟩ := cO_some hf
        refine ob hf fun x8 ex hf => ?_
        refine r_callVl (As := [.int x7, .int x5]) (ci := 0) hc hr (dc_at dX0_stuffAt 57 rfl) ml_X0_89 mv_X0_widthBetween vi_X0_widthBetween rfl ho rfl (mt_X0_widthBetween ex) (by first | exact Nat.le_of_ble_eq_true rfl | omega) (by first | exact Nat.le_of_ble_eq_true rfl | omega) (by first | exact Nat.le_of_ble_eq_true rfl | omega) hm hs ?_
        refine r_lstore [(10, .long x8), (9, .int x7), (8, .int x5), (7, .int x2), (0, .ref (X.1 + v0)), (1, .int v1), (2, .long v2), (4, .long v4), (6, .ref (X.1 + v6))] hc hr (dc_at dX0_stuffAt 58 rfl) (by decide) rfl ?_
        refine r_lload_n hc 6 (dc_at dX0_stuffAt 59 rfl) rfl ?_
        refine r_aload_n hc 4 (dc_at dX0_stuffAt 60 rfl) rfl ?_
        refine r_getR hc (dc_at dX0_stuffAt 61 rfl) fl_X0_28 hf fun a9 hf => ?_
        refine r_iload hc 1 (dc_at dX0_stuffAt 62 rfl) rfl ?_
        refine r_iaload hc (dc_at dX0_stuffAt 63 rfl) hf fun x10 hf => ?_
        refine r_i2l hc (dc_at dX0_stuffAt 64 rfl) ?_
        refine r_lmul hc (dc_at dX0_stuffAt 65 rfl) ?_
        refine r_aload_n hc 4 (dc_at dX0_stuffAt 66 rfl) rfl ?_
        refine r_getR hc (dc_at dX0_stuffAt 67 rfl) fl_X0_25 hf fun a11 hf => ?_
        refine r_iload hc 1 (dc_at dX0_stuffAt 68 rfl) rfl ?_
        refine r_iaload hc (dc_at dX0_stuffAt 69 rfl) hf fun x12 hf => ?_
        refine r_i2l hc (dc_at dX0_stuffAt 70 rfl) ?_
        refine r_lload hc 7 (dc_at dX0_stuffAt 71 rfl) rfl ?_
        refine r_lmul hc (dc_at dX0_stuffAt 72 rfl) ?_
        refine r_lsub hc (dc_at dX0_stuffAt 73 rfl) ?_
        refine r_nm (mk := Value.long) hf fun x13 hf => ?_
        refine r_lstore [(12, .long x13), (10, .long x8), (9, .int x7), (8, .int x5), (7, .int x2), (0, .ref (X.1 + v0)), (1, .int v1), (2, .long v2), (4, .long v4), (6, .ref (X.1 + v6))] hc hr (dc_at dX0_stuffAt 74 rfl) (by decide) rfl ?_
        refine r_aload_n hc 5 (dc_at dX0_stuffAt 75 rfl) rfl ?_
        refine r_iload hc 3 (dc_at dX0_stuffAt 76 rfl) rfl ?_
        refine r_iload_n hc 6 (dc_at dX0_stuffAt 77 rfl) rfl ?_
        obtain ⟨ho, hf⟩ := cO_some hf
        refine ob hf fun x14 ex hf => ?_
        refine r_callVi (As := [.int x5, .int v1]) (ci := 0) hc hr (dc_at dX0_stuffAt 78 rfl) ml_X0_85 mv_X0_stuffOf vi_X0_stuffOf rfl ho rfl (mt_X0_stuffOf ex) (by first | exact Nat.le_of_ble_eq_true rfl | omega) (by first | exact Nat.le_of_ble_eq_true rfl | omega) (by first | exact Nat.le_of_ble_eq_true rfl | omega) hm hs ?_
        refine r_aload_n hc 5 (dc_at dX0_stuffAt 79 rfl) rfl ?_
        refine r_iload hc 2 (dc_at dX0_stuffAt 80 rfl) rfl ?_
        refine r_iload_n hc 6 (dc_at dX0_stuffAt 81 rfl) rfl ?_
        obtain ⟨ho, hf⟩ := cO_some hf
        refine ob hf fun x15 ex hf => ?_
        refine r_callVi (As := [.int x7, .int v1]) (ci := 0) hc hr (dc_at dX0_stuffAt 82 rfl) ml_X0_85 mv_X0_stuffOf vi_X0_stuffOf rfl ho rfl (mt_X0_stuffOf ex) (by first | exact Nat.le_of_ble_eq_true rfl | omega) (by first | exact Nat.le_of_ble_eq_true rfl | omega) (by first | exact Nat.le_of_ble_eq_true rfl | omega) hm hs ?_
        refine r_isub hc (dc_at dX0_stuffAt 83 rfl) ?_
        refine r_i2l hc (dc_at dX0_stuffAt 84 rfl) ?_
        refine r_nm (mk := Value.long) hf fun x16 hf => ?_
        refine r_lstore [(14, .long x16), (12, .long x13), (10, .long x8), (9, .int x7), (8, .int x5), (7, .int x2), (0, .ref (X.1 + v0)), (1, .int v1), (2, .long v2), (4, .long v4), (6, .ref (X.1 + v6))] hc hr (dc_at dX0_stuffAt 85 rfl) (by decide) rfl ?_
        refine r_aload hc 10 (dc_at dX0_stuffAt 86 rfl) rfl ?_
        refine r_aload_n hc 6 (dc_at dX0_stuffAt 87 rfl) rfl ?_
        refine r_iload hc 3 (dc_at dX0_stuffAt 88 rfl) rfl ?_
        refine r_iload_n hc 7 (dc_at dX0_stuffAt 89 rfl) rfl ?_
        obtain ⟨ho, hf⟩ := cO_some hf
        refine ob hf fun x17 ex hf => ?_
        refine r_callVi (As := [.int x7, .int v1]) (ci := 0) hc hr (dc_at dX0_stuffAt 90 rfl) ml_X0_85 mv_X0_stuffOf vi_X0_stuffOf rfl ho rfl (mt_X0_stuffOf ex) (by first | exact Nat.le_of_ble_eq_true rfl | omega) (by first | exact Nat.le_of_ble_eq_true rfl | omega) (by first | exact Nat.le_of_ble_eq_true rfl | omega) hm hs ?_
        refine r_i2l hc (dc_at dX0_stuffAt 91 rfl) ?_
        refine r_lload hc 9 (dc_at dX0_stuffAt 92 rfl) rfl ?_
        refine r_lmul hc (dc_at dX0_stuffAt 93 rfl) ?_
        refine r_lload hc 2 (dc_at dX0_stuffAt 94 rfl) rfl ?_
        refine r_lmul hc (dc_at dX0_stuffAt 95 rfl) ?_
        refine r_lload hc 0 (dc_at dX0_stuffAt 96 rfl) rfl ?_
        refine r_lload hc 1 (dc_at dX0_stuffAt 97 rfl) rfl ?_
        refine r_lmul hc (dc_at dX0_stuffAt 98 rfl) ?_
        refine r_aload_n hc 6 (dc_at dX0_stuffAt 99 rfl) rfl ?_
        refine r_getR hc (dc_at dX0_stuffAt 100 rfl) fl_X0_28 hf fun a18 hf => ?_
        refine r_iload hc 4 (dc_at dX0_stuffAt 101 rfl) rfl ?_
        refine r_iaload hc (dc_at dX0_stuffAt 102 rfl) hf fun x19 hf => ?_
        refine r_i2l hc (dc_at dX0_stuffAt 103 rfl) ?_
        refine r_lmul hc (dc_at dX0_stuffAt 104 rfl) ?_
        refine r_ladd hc (dc_at dX0_stuffAt 105 rfl) ?_
        refine r_lload hc 9 (dc_at dX0_stuffAt 106 rfl) rfl ?_
        refine r_lload hc 2 (dc_at dX0_stuffAt 107 rfl) rfl ?_
        refine r_lmul hc (dc_at dX0_stuffAt 108 rfl) ?_
        obtain ⟨ho, hf⟩ := cO_some hf
        refine ob2 hf fun u h21 ex hf => ?_
        refine r_callVv (As := [.long (((((((Int32.toInt64 x17) * v4)) * x8)) + (((x16 * x13) * (Int32.toInt64 x19))))), .long ((v4 * x8))]) (ci := 2) hc hr (dc_at dX0_stuffAt 109 rfl) ml_X0_79 mv_X2_put vi_X2_put rfl ho rfl (mt_X2_put ex) (by first | exact Nat.le_of_ble_eq_true rfl | omega) (by first | exact Nat.le_of_ble_eq_true rfl | omega) (by first | exact Nat.le_of_ble_eq_true rfl | omega) hm hs ?_
        exact r_vret hc he (hm) (hs) (dc_at dX0_stuffAt 110 rfl) hf
      · refine r_aload hc 6 (dc_at dX0_stuffAt 38 rfl) rfl ?_
        refine r_aload_n hc 2 (dc_at dX0_stuffAt 39 rfl) rfl ?_
        refine r_iload hc 0 (dc_at dX0_stuffAt 40 rfl) rfl ?_
        refine r_iload_n hc 3 (dc_at dX0_stuffAt 41 rfl) rfl ?_
        obtain ⟨ho, hf⟩ := cO_some hf
        refine ob hf fun x22 ex hf => ?_
        refine r_callVi (As := [.int x5, .int v1]) (ci := 0) hc hr (dc_at dX0_stuffAt 42 rfl) ml_X0_85 mv_X0_stuffOf vi_X0_stuffOf rfl ho rfl (mt_X0_stuffOf ex) (by first | exact Nat.le_of_ble_eq_true rfl | omega) (by first | exact Nat.le_of_ble_eq_true rfl | omega) (by first | exact Nat.le_of_ble_eq_true rfl | omega) hm hs ?_
        refine r_i2l hc (dc_at dX0_stuffAt 43 rfl) ?_
        refine r_lconst (1 : Int64) hc (dc_at dX0_stuffAt 44 rfl) (by decide) ?_
        obtain ⟨ho, hf⟩ := cO_some hf
        refine ob2 hf fun u h24 ex hf => ?_
        refine r_callVv (As := [.long ((Int32.toInt64 x22)), .long ((1 : Int64))]) (ci := 2) hc hr (dc_at dX0_stuffAt 45 rfl) ml_X0_79 mv_X2_put vi_X2_put rfl ho rfl (mt_X2_put ex) (by first | exact Nat.le_of_ble_eq_true rfl | omega) (by first | exact Nat.le_of_ble_eq_true rfl | omega) (by first | exact Nat.le_of_ble_eq_true rfl | omega) hm hs ?_
        exact r_vret hc he (hm) (hs) (dc_at dX0_stuffAt 46 rfl) hf
    · refine r_aload hc 5 (dc_at dX0_stuffAt 17 rfl) rfl ?_
      refine r_aload_n hc 1 (dc_at dX0_stuffAt 18 rfl) rfl ?_
      refine r_aload_n hc 1 (dc_at dX0_stuffAt 19 rfl) rfl ?_
      refine r_getR hc (dc_at dX0_stuffAt 20 rfl) fl_X0_37 hf fun a25 hf => ?_
      refine r_iload hc 0 (dc_at dX0_stuffAt 21 rfl) rfl ?_
      refine r_iconst (1 : Int32) hc (dc_at dX0_stuffAt 22 rfl) (by decide) ?_
      refine r_isub hc (dc_at dX0_stuffAt 23 rfl) ?_
      refine r_iaload hc (dc_at dX0_stuffAt 24 rfl) hf fun x26 hf => ?_
      refine r_iload_n hc 2 (dc_at dX0_stuffAt 25 rfl) rfl ?_
      obtain ⟨ho, hf⟩ := cO_some hf
      refine ob hf fun x27 ex hf => ?_
      refine r_callVi (As := [.int x26, .int v1]) (ci := 0) hc hr (dc_at dX0_stuffAt 26 rfl) ml_X0_85 mv_X0_stuffOf vi_X0_stuffOf rfl ho rfl (mt_X0_stuffOf ex) (by first | exact Nat.le_of_ble_eq_true rfl | omega) (by first | exact Nat.le_of_ble_eq_true rfl | omega) (by first | exact Nat.le_of_ble_eq_true rfl | omega) hm hs ?_
      refine r_i2l hc (dc_at dX0_stuffAt 27 rfl) ?_
      refine r_lconst (1 : Int64) hc (dc_at dX0_stuffAt 28 rfl) (by decide) ?_
      obtain ⟨ho, hf⟩ := cO_some hf
      refine ob2 hf fun u h29 ex hf => ?_
      refine r_callVv (As := [.long ((Int32.toInt64 x27)), .long ((1 : Int64))]) (ci := 2) hc hr (dc_at dX0_stuffAt 29 rfl) ml_X0_79 mv_X2_put vi_X2_put rfl ho rfl (mt_X2_put ex) (by first | exact Nat.le_of_ble_eq_true rfl | omega) (by first | exact Nat.le_of_ble_eq_true rfl | omega) (by first | exact Nat.le_of_ble_eq_true rfl | omega) hm hs ?_
      exact r_vret hc he (hm) (hs) (dc_at dX0_stuffAt 30 rfl) hf
  · refine r_aload hc 4 (dc_at dX0_stuffAt 3 rfl) rfl ?_
    refine r_lconst (0 : Int64) hc (dc_at dX0_stuffAt 4 rfl) (by decide) ?_
    refine r_lconst (1 : Int64) hc (dc_at dX0_stuffAt 5 rfl) (by decide) ?_
    obtain ⟨ho, hf⟩ := cO_some hf
    refine ob2 hf fun u h31 ex hf => ?_
    refine r_callVv (As := [.long ((0 : Int64)), .long ((1 : Int64))]) (ci := 2) hc hr (dc_at dX0_stuffAt 6 rfl) ml_X0_79 mv_X2_put vi_X2_put rfl ho rfl (mt_X2_put ex) (by first | exact Nat.le_of_ble_eq_true rfl | omega) (by first | exact Nat.le_of_ble_eq_true rfl | omega) (by first | exact Nat.le_of_ble_eq_true rfl | omega) hm hs ?_
    exact r_vret hc he (hm) (hs) (dc_at dX0_stuffAt 7 rfl) hf
def m_X0_stuffAt (F : Nat) (h : PH) (p0 : Nat) (p1 : Int32) (p2 : Int64) (p4 : Int64) (p6 : Nat) : Option (Unit × PH) := b_X0_stuffAt_0 F h p0 p1 p2 p4 p6
theorem mt_X0_stuffAt {l : Launch} {X : XT} {F : Nat} {h hz : PH} {p0 : Nat} {p1 : Int32} {p2 : Int64} {p4 : Int64} {p6 : Nat} {r : Unit} (ex : m_X0_stuffAt F h p0 p1 p2 p4 p6 = some (r, hz)) : MT l X yX0_stuffAt cX0_stuffAt 16 none 3 176 0 0 [.ref (X.1 + p0), .int p1, .long p2, .long p4, .ref (X.1 + p6)] h none hz := MT.of (by decide) (Nat.le_of_ble_eq_true rfl) fun M hl hc hr he => by
  subst hl
  exact gg_sub [0, 1, 2, 3, 4] rfl (t_X0_stuffAt_0  hc hr he (Nat.zero_le _) (Nat.zero_le _) ex)
/-! FractionLift$House.overAt(IIII)I -/
def lX0_overAtL : List (Nat × Instr × Nat × Nat) := [(0, .aload_n 0, 1, 1), (1, .iload_n 1, 1, 2), (2, .iload_n 2, 1, 3), (3, .invokevirtual 85, 3, 6), (6, .iload_n 3, 1, 7), (7, .iconst (-1), 1, 8), (8, .if_icmp .ne 8, 3, 11), (11, .iload 4, 2, 13), (13, .goto 9, 3, 16), (16, .aload_n 0, 1, 17), (17, .iload_n 1, 1, 18), (18, .iload_n 3, 1, 19), (19, .invokevirtual 85, 3, 22), (22, .isub, 1, 23), (23, .ireturn, 1, 24)]
set_option maxRecDepth 20000 in
theorem dX0_overAt : dcL cX0_overAt lX0_overAtL = true := by decide +kernel
def b_X0_overAt_0 (h : PH) (v0 : Nat) (v1 : Int32) (v2 : Int32) (v3 : Int32) (v4 : Int32) : Option Int32 := cO 0 h v0 ((m_X0_stuffOf h v0 v1 v2).bind fun x1 => (if v3 = (-1 : Int32) then (some (x1 - v4)) else (cO 0 h v0 ((m_X0_stuffOf h v0 v1 v3).bind fun x2 => (some (x1 - x2))))))
set_option maxRecDepth 20000 in
theorem t_X0_overAt_0 {M : MV} {X : XT} {h : PH} {r : Int32} {ce sl mc ms : Nat} {v0 : Nat} {v1 : Int32} {v2 : Int32} {v3 : Int32} {v4 : Int32} (hc : Cx M X RX0 cX0_overAt) (hr : Rx M 2 118 mc ms 5) (he : Ex M X (some .int) "overAt" (some (.int r)) h mc ms) (hm : ce ≤ mc) (hs : sl ≤ ms) (hf : b_X0_overAt_0 h v0 v1 v2 v3 v4 = some r) : GG M X h ce sl 0 [(0, .ref (X.1 + v0)), (1, .int v1), (2, .int v2), (3, .int v3), (4, .int v4)] [] := by
  unfold b_X0_overAt_0 at hf
  refine r_aload_n hc 0 (dc_at dX0_overAt 0 rfl) rfl ?_
  refine r_iload_n hc 1 (dc_at dX0_overAt 1 rfl) rfl ?_
  refine r_iload_n hc 2 (dc_at dX0_overAt 2 rfl) rfl ?_
  obtain ⟨ho, hf⟩ := cO_some hf
  refine ob hf fun x1 ex hf => ?_
  refine r_callVi (As := [.int v1, .int v2]) (ci := 0) hc hr (dc_at dX0_overAt 3 rfl) ml_X0_85 mv_X0_stuffOf vi_X0_stuffOf rfl ho rfl (mt_X0_stuffOf ex) (by first | exact Nat.le_of_ble_eq_true rfl | omega) (by first | exact Nat.le_of_ble_eq_true rfl | omega) (by first | exact Nat.le_of_ble_eq_true rfl | omega) hm hs ?_
  refine r_iload_n hc 3 (dc_at dX0_overAt 4 rfl) rfl ?_
  refine r_iconst (-1 : Int32) hc (dc_at dX0_overAt 5 rfl) (by decide) ?_
  refine r_icmp_ne (tgt := 16) hc (dc_at dX0_overAt 6 rfl) (by decide) hf (fun hf => ?_) (fun hf => ?_)
  · refine r_aload_n hc 0 (dc_at dX0_overAt 9 rfl) rfl ?_
    refine r_iload_n hc 1 (dc_at dX0_overAt 10 rfl) rfl ?_
    refine r_iload_n hc 3 (dc_at dX0_overAt 11 rfl) rfl ?_
    obtain ⟨ho, hf⟩ := cO_some hf
    refine ob hf fun x2 ex hf => ?_
    refine r_callVi (As := [.int v1, .int v3]) (ci := 0) hc hr (dc_at dX0_overAt 12 rfl) ml_X0_85 mv_X0_stuffOf vi_X0_stuffOf rfl ho rfl (mt_X0_stuffOf ex) (by first | exact Nat.le_of_ble_eq_true rfl | omega) (by first | exact Nat.le_of_ble_eq_true rfl | omega) (by first | exact Nat.le_of_ble_eq_true rfl | omega) hm hs ?_
    refine r_isub hc (dc_at dX0_overAt 13 rfl) ?_
    exact r_iretP hc he (hm) (hs) (dc_at dX0_overAt 14 rfl) hf
  · refine r_iload hc 4 (dc_at dX0_overAt 7 rfl) rfl ?_
    refine r_goto (tgt := 22) hc (dc_at dX0_overAt 8 rfl) (by decide) ?_
    refine r_isub hc (dc_at dX0_overAt 13 rfl) ?_
    exact r_iretP hc he (hm) (hs) (dc_at dX0_overAt 14 rfl) hf
def m_X0_overAt (h : PH) (p0 : Nat) (p1 : Int32) (p2 : Int32) (p3 : Int32) (p4 : Int32) : Option Int32 := b_X0_overAt_0 h p0 p1 p2 p3 p4
theorem mt_X0_overAt {l : Launch} {X : XT} {h : PH} {p0 : Nat} {p1 : Int32} {p2 : Int32} {p3 : Int32} {p4 : Int32} {r : Int32} (ex : m_X0_overAt h p0 p1 p2 p3 p4 = some r) : MT l X yX0_overAt cX0_overAt 5 (some .int) 2 118 0 0 [.ref (X.1 + p0), .int p1, .int p2, .int p3, .int p4] h (some (.int r)) h := MT.of (by decide) (Nat.le_of_ble_eq_true rfl) fun M hl hc hr he => by
  subst hl
  exact gg_sub [0, 1, 2, 3, 4] rfl (t_X0_overAt_0  hc hr he (Nat.zero_le _) (Nat.zero_le _) ex)
/-! FractionLift$House.putCrossing(IIIILFractionLift$Ratio;)V -/
def lX0_putCrossingL : List (Nat × Instr × Nat × Nat) := [(0, .iload_n 3, 1, 1), (1, .iload 4, 2, 3), (3, .isub, 1, 4), (4, .i2l, 1, 5), (5, .lstore 6, 2, 7), (7, .aload_n 0, 1, 8), (8, .getfield 28, 3, 11), (11, .iload_n 1, 1, 12), (12, .iaload, 1, 13), (13, .i2l, 1, 14), (14, .aload_n 0, 1, 15), (15, .getfield 28, 3, 18), (18, .iload_n 2, 1, 19), (19, .iaload, 1, 20), (20, .i2l, 1, 21), (21, .lmul, 1, 22), (22, .lstore 8, 2, 24), (24, .aload_n 0, 1, 25), (25, .getfield 25, 3, 28), (28, .iload_n 1, 1, 29), (29, .iaload, 1, 30), (30, .aload_n 0, 1, 31), (31, .getfield 28, 3, 34), (34, .iload_n 2, 1, 35), (35, .iaload, 1, 36), (36, .imul, 1, 37), (37, .i2l, 1, 38), (38, .lload 6, 2, 40), (40, .lmul, 1, 41), (41, .aload_n 0, 1, 42), (42, .iload_n 1, 1, 43), (43, .iload_n 2, 1, 44), (44, .invokevirtual 89, 3, 47), (47, .iload_n 3, 1, 48), (48, .i2l, 1, 49), (49, .lmul, 1, 50), (50, .ladd, 1, 51), (51, .lstore 10, 2, 53), (53, .aload 5, 2, 55), (55, .lload 10, 2, 57), (57, .lload 8, 2, 59), (59, .lload 6, 2, 61), (61, .lmul, 1, 62), (62, .invokevirtual 79, 3, 65), (65, .return_, 1, 66)]
set_option maxRecDepth 20000 in
theorem dX0_putCrossing : dcL cX0_putCrossing lX0_putCrossingL = true := by decide +kernel
def b_X0_putCrossing_0 (F : Nat) (h : PH) (v0 : Nat) (v1 : Int32) (v2 : Int32) (v3 : Int32) (v4 : Int32) (v5 : Nat) : Option (Unit × PH) := bindv ((Int32.toInt64 (v3 - v4))) fun x1 => ((gR 0 11 h v0).bind fun a2 => ((aI 0 h a2 v1).bind fun x3 => ((gR 0 11 h v0).bind fun a4 => ((aI 0 h a4 v2).bind fun x5 => (bindv (((Int32.toInt64 x3) * (Int32.toInt64 x5))) fun x6 => ((gR 0 10 h v0).bind fun a7 => ((aI 0 h a7 v1).bind fun x8 => ((gR 0 11 h v0).bind fun a9 => ((aI 0 h a9 v2).bind fun x10 => (cO 0 h v0 ((m_X0_widthBetween h v0 v1 v2).bind fun x11 => (bindv ((((((Int32.toInt64 (x8 * x10))) * x1)) + ((x11 * (Int32.toInt64 v3))))) fun x12 => (cO 2 h v5 (bind2 (m_X2_put F h v5 x12 (x6 * x1)) fun _ h14 => (some ((), h14))))))))))))))))
set_option maxRecDepth 20000 in
theorem t_X0_putCrossing_0 {M : MV} {X : XT} {F : Nat} {h hz : PH} {r : Unit} {ce sl mc ms : Nat} {v0 : Nat} {v1 : Int32} {v2 : Int32} {v3 : Int32} {v4 : Int32} {v5 : Nat} (hc : Cx M X RX0 cX0_putCrossing) (hr : Rx M 3 176 mc ms 12) (he : Ex M X none "putCrossing" none hz mc ms) (hm : ce ≤ mc) (hs : sl ≤ ms) (hf : b_X0_putCrossing_0 F h v0 v1 v2 v3 v4 v5 = some (r, hz)) : GG M X h ce sl 0 [(0, .ref (X.1 + v0)), (1, .int v1), (2, .int v2), (3, .int v3), (4, .int v4), (5, .ref (X.1 + v5))] [] := by
  unfold b_X0_putCrossing_0 at hf
  refine r_iload_n hc 3 (dc_at dX0_putCrossing 0 rfl) rfl ?_
  refine r_iload hc 4 (dc_at dX0_putCrossing 1 rfl) rfl ?_
  refine r_isub hc (dc_at dX0_putCrossing 2 rfl) ?_
  refine r_i2l hc (dc_at dX0_putCrossing 3 rfl) ?_
  refine r_nm (mk := Value.long) hf fun x1 hf => ?_
  refine r_lstore [(6, .long x1), (0, .ref (X.1 + v0)), (1, .int v1), (2, .int v2), (3, .int v3), (4, .int v4), (5, .ref (X.1 + v5))] hc hr (dc_at dX0_putCrossing 4 rfl) (by decide) rfl ?_
  refine r_aload_n hc 1 (dc_at dX0_putCrossing 5 rfl) rfl ?_
  refine r_getR hc (dc_at dX0_putCrossing 6 rfl) fl_X0_28 hf fun a2 hf => ?_
  refine r_iload_n hc 2 (dc_at dX0_putCrossing 7 rfl) rfl ?_
  refine r_iaload hc (dc_at dX0_putCrossing 8 rfl) hf fun x3 hf => ?_
  refine r_i2l hc (dc_at dX0_putCrossing 9 rfl) ?_
  refine r_aload_n hc 1 (dc_at dX0_putCrossing 10 rfl) rfl ?_
  refine r_getR hc (dc_at dX0_putCrossing 11 rfl) fl_X0_28 hf fun a4 hf => ?_
  refine r_iload_n hc 3 (dc_at dX0_putCrossing 12 rfl) rfl ?_
  refine r_iaload hc (dc_at dX0_putCrossing 13 rfl) hf fun x5 hf => ?_
  refine r_i2l hc (dc_at dX0_putCrossing 14 rfl) ?_
  refine r_lmul hc (dc_at dX0_putCrossing 15 rfl) ?_
  refine r_nm (mk := Value.long) hf fun x6 hf => ?_
  refine r_lstore [(8, .long x6), (6, .long x1), (0, .ref (X.1 + v0)), (1, .int v1), (2, .int v2), (3, .int v3), (4, .int v4), (5, .ref (X.1 + v5))] hc hr (dc_at dX0_putCrossing 16 rfl) (by decide) rfl ?_
  refine r_aload_n hc 2 (dc_at dX0_putCrossing 17 rfl) rfl ?_
  refine r_getR hc (dc_at dX0_putCrossing 18 rfl) fl_X0_25 hf fun a7 hf => ?_
  refine r_iload_n hc 3 (dc_at dX0_putCrossing 19 rfl) rfl ?_
  refine r_iaload hc (dc_at dX0_putCrossing 20 rfl) hf fun x8 hf => ?_
  refine r_aload_n hc 2 (dc_at dX0_putCrossing 21 rfl) rfl ?_
  refine r_getR hc (dc_at dX0_putCrossing 22 rfl) fl_X0_28 hf fun a9 hf => ?_
  refine r_iload_n hc 4 (dc_at dX0_putCrossing 23 rfl) rfl ?_
  refine r_iaload hc (dc_at dX0_putCrossing 24 rfl) hf fun x10 hf => ?_
  refine r_imul hc (dc_at dX0_putCrossing 25 rfl) ?_
  refine r_i2l hc (dc_at dX0_putCrossing 26 rfl) ?_
  refine r_lload hc 1 (dc_at dX0_putCrossing 27 rfl) rfl ?_
  refine r_lmul hc (dc_at dX0_putCrossing 28 rfl) ?_
  refine r_aload_n hc 2 (dc_at dX0_putCrossing 29 rfl) rfl ?_
  refine r_iload_n hc 3 (dc_at dX0_putCrossing 30 rfl) rfl ?_
  refine r_iload_n hc 4 (dc_at dX0_putCrossing 31 rfl) rfl ?_
  obtain ⟨ho, hf⟩ := cO_some hf
  refine ob hf fun x11 ex hf => ?_
  refine r_callVl (As := [.int v1, .int v2]) (ci := 0) hc hr (dc_at dX0_putCrossing 32 rfl) ml_X0_89 mv_X0_widthBetween vi_X0_widthBetween rfl ho rfl (mt_X0_widthBetween ex) (by first | exact Nat.le_of_ble_eq_true rfl | omega) (by first | exact Nat.le_of_ble_eq_true rfl | omega) (by first | exact Nat.le_of_ble_eq_true rfl | omega) hm hs ?_
  refine r_iload_n hc 5 (dc_at dX0_putCrossing 33 rfl) rfl ?_
  refine r_i2l hc (dc_at dX0_putCrossing 34 rfl) ?_
  refine r_lmul hc (dc_at dX0_putCrossing 35 rfl) ?_
  refine r_ladd hc (dc_at dX0_putCrossing 36 rfl) ?_
  refine r_nm (mk := Value.long) hf fun x12 hf => ?_
  refine r_lstore [(10, .long x12), (8, .long x6), (6, .long x1), (0, .ref (X.1 + v0)), (1, .int v1), (2, .int v2), (3, .int v3), (4, .int v4), (5, .ref (X.1 + v5))] hc hr (dc_at dX0_putCrossing 37 rfl) (by decide) rfl ?_
  refine r_aload hc 8 (dc_at dX0_putCrossing 38 rfl) rfl ?_
  refine r_lload hc 0 (dc_at dX0_putCrossing 39 rfl) rfl ?_
  refine r_lload hc 1 (dc_at dX0_putCrossing 40 rfl) rfl ?_
  refine r_lload hc 2 (dc_at dX0_putCrossing 41 rfl) rfl ?_
  refine r_lmul hc (dc_at dX0_putCrossing 42 rfl) ?_
  obtain ⟨ho, hf⟩ := cO_some hf
  refine ob2 hf fun u h14 ex hf => ?_
  refine r_callVv (As := [.long x12, .long ((x6 * x1))]) (ci := 2) hc hr (dc_at dX0_putCrossing 43 rfl) ml_X0_79 mv_X2_put vi_X2_put rfl ho rfl (mt_X2_put ex) (by first | exact Nat.le_of_ble_eq_true rfl | omega) (by first | exact Nat.le_of_ble_eq_true rfl | omega) (by first | exact Nat.le_of_ble_eq_true rfl | omega) hm hs ?_
  exact r_vret hc he (hm) (hs) (dc_at dX0_putCrossing 44 rfl) hf
def m_X0_putCrossing (F : Nat) (h : PH) (p0 : Nat) (p1 : Int32) (p2 : Int32) (p3 : Int32) (p4 : Int32) (p5 : Nat) : Option (Unit × PH) := b_X0_putCrossing_0 F h p0 p1 p2 p3 p4 p5
theorem mt_X0_putCrossing {l : Launch} {X : XT} {F : Nat} {h hz : PH} {p0 : Nat} {p1 : Int32} {p2 : Int32} {p3 : Int32} {p4 : Int32} {p5 : Nat} {r : Unit} (ex : m_X0_putCrossing F h p0 p1 p2 p3 p4 p5 = some (r, hz)) : MT l X yX0_putCrossing cX0_putCrossing 12 none 3 176 0 0 [.ref (X.1 + p0), .int p1, .int p2, .int p3, .int p4, .ref (X.1 + p5)] h none hz := MT.of (by decide) (Nat.le_of_ble_eq_true rfl) fun M hl hc hr he => by
  subst hl
  exact gg_sub [0, 1, 2, 3, 4, 5] rfl (t_X0_putCrossing_0  hc hr he (Nat.zero_le _) (Nat.zero_le _) ex)
/-! FractionLift$House.leastLevel(IIILFractionLift$Ratio;)Z -/
def lX0_leastLevelL : List (Nat × Instr × Nat × Nat) := [(0, .aload 4, 2, 2), (2, .lconst 0, 1, 3), (3, .lconst 1, 1, 4), (4, .invokevirtual 79, 3, 7), (7, .aload_n 0, 1, 8), (8, .getfield 61, 3, 11), (11, .ifCond .ne 13, 3, 14), (14, .iload_n 3, 1, 15), (15, .ifCond .ne 7, 3, 18), (18, .iconst 1, 1, 19), (19, .goto 4, 3, 22), (22, .iconst 0, 1, 23), (23, .ireturn, 1, 24), (24, .aload_n 0, 1, 25), (25, .aload_n 0, 1, 26), (26, .getfield 37, 3, 29), (29, .iconst 0, 1, 30), (30, .iaload, 1, 31), (31, .iload_n 1, 1, 32), (32, .iload_n 2, 1, 33), (33, .iload_n 3, 1, 34), (34, .invokevirtual 93, 3, 37), (37, .istore 5, 2, 39), (39, .iload 5, 2, 41), (41, .ifCond .ne 5, 3, 44), (44, .iconst 1, 1, 45), (45, .ireturn, 1, 46), (46, .iconst 1, 1, 47), (47, .istore 6, 2, 49), (49, .iload 6, 2, 51), (51, .aload_n 0, 1, 52), (52, .getfield 61, 3, 55), (55, .if_icmp .ge 85, 3, 58), (58, .aload_n 0, 1, 59), (59, .aload_n 0, 1, 60), (60, .getfield 37, 3, 63), (63, .iload 6, 2, 65), (65, .iaload, 1, 66), (66, .iload_n 1, 1, 67), (67, .iload_n 2, 1, 68), (68, .iload_n 3, 1, 69), (69, .invokevirtual 93, 3, 72), (72, .istore 7, 2, 74), (74, .iload 7, 2, 76), (76, .ifCond .eq 26, 3, 79), (79, .iload 7, 2, 81), (81, .ifCond .le 7, 3, 84), (84, .iconst 1, 1, 85), (85, .goto 4, 3, 88), (88, .iconst 0, 1, 89), (89, .iload 5, 2, 91), (91, .ifCond .le 7, 3, 94), (94, .iconst 1, 1, 95), (95, .goto 4, 3, 98), (98, .iconst 0, 1, 99), (99, .if_icmp .eq 31, 3, 102), (102, .aload_n 0, 1, 103), (103, .aload_n 0, 1, 104), (104, .getfield 37, 3, 107), (107, .iload 6, 2, 109), (109, .iconst 1, 1, 110), (110, .isub, 1, 111), (111, .iaload, 1, 112), (112, .aload_n 0, 1, 113), (113, .getfield 37, 3, 116), (116, .iload 6, 2, 118), (118, .iaload, 1, 119), (119, .iload 5, 2, 121), (121, .iload 7, 2, 123), (123, .aload 4, 2, 125), (125, .invokevirtual 97, 3, 128), (128, .iconst 1, 1, 129), (129, .ireturn, 1, 130), (130, .iload 7, 2, 132), (132, .istore 5, 2, 134), (134, .iinc 6 1, 3, 137), (137, .goto (-88), 3, 140), (140, .iconst 0, 1, 141), (141, .ireturn, 1, 142)]
set_option maxRecDepth 20000 in
theorem dX0_leastLevel : dcL cX0_leastLevel lX0_leastLevelL = true := by decide +kernel
def b_X0_leastLevel_102 (F : Nat) (h : PH) (v0 : Nat) (v4 : Nat) (v5 : Int32) (v6 : Int32) (v7 : Int32) : Option (Int32 × PH) := (gR 0 14 h v0).bind fun a1 => ((aI 0 h a1 ((v6 - (1 : Int32)))).bind fun x2 => ((gR 0 14 h v0).bind fun a3 => ((aI 0 h a3 v6).bind fun x4 => (cO 0 h v0 (bind2 (m_X0_putCrossing F h v0 x2 x4 v5 v7 v4) fun _ h6 => (rZ (1 : Int32) h6))))))
set_option maxRecDepth 20000 in
theorem t_X0_leastLevel_102 {M : MV} {X : XT} {F : Nat} {h hz : PH} {r : Int32} {ce sl mc ms : Nat} {v0 : Nat} {v4 : Nat} {v5 : Int32} {v6 : Int32} {v7 : Int32} (hc : Cx M X RX0 cX0_leastLevel) (hr : Rx M 4 234 mc ms 8) (he : Ex M X (some .boolean) "leastLevel" (some (.int r)) hz mc ms) (hm : ce ≤ mc) (hs : sl ≤ ms) (hf : b_X0_leastLevel_102 F h v0 v4 v5 v6 v7 = some (r, hz)) : GG M X h ce sl 102 [(0, .ref (X.1 + v0)), (4, .ref (X.1 + v4)), (5, .int v5), (6, .int v6), (7, .int v7)] [] := by
  unfold b_X0_leastLevel_102 at hf
  refine r_aload_n hc 0 (dc_at dX0_leastLevel 56 rfl) rfl ?_
  refine r_aload_n hc 0 (dc_at dX0_leastLevel 57 rfl) rfl ?_
  refine r_getR hc (dc_at dX0_leastLevel 58 rfl) fl_X0_37 hf fun a1 hf => ?_
  refine r_iload hc 3 (dc_at dX0_leastLevel 59 rfl) rfl ?_
  refine r_iconst (1 : Int32) hc (dc_at dX0_leastLevel 60 rfl) (by decide) ?_
  refine r_isub hc (dc_at dX0_leastLevel 61 rfl) ?_
  refine r_iaload hc (dc_at dX0_leastLevel 62 rfl) hf fun x2 hf => ?_
  refine r_aload_n hc 0 (dc_at dX0_leastLevel 63 rfl) rfl ?_
  refine r_getR hc (dc_at dX0_leastLevel 64 rfl) fl_X0_37 hf fun a3 hf => ?_
  refine r_iload hc 3 (dc_at dX0_leastLevel 65 rfl) rfl ?_
  refine r_iaload hc (dc_at dX0_leastLevel 66 rfl) hf fun x4 hf => ?_
  refine r_iload hc 2 (dc_at dX0_leastLevel 67 rfl) rfl ?_
  refine r_iload hc 4 (dc_at dX0_leastLevel 68 rfl) rfl ?_
  refine r_aload hc 1 (dc_at dX0_leastLevel 69 rfl) rfl ?_
  obtain ⟨ho, hf⟩ := cO_some hf
  refine ob2 hf fun u h6 ex hf => ?_
  refine r_callVv (As := [.int x2, .int x4, .int v5, .int v7, .ref (X.1 + v4)]) (ci := 0) hc hr (dc_at dX0_leastLevel 70 rfl) ml_X0_97 mv_X0_putCrossing vi_X0_putCrossing rfl ho rfl (mt_X0_putCrossing ex) (by first | exact Nat.le_of_ble_eq_true rfl | omega) (by first | exact Nat.le_of_ble_eq_true rfl | omega) (by first | exact Nat.le_of_ble_eq_true rfl | omega) hm hs ?_
  refine r_iconst (1 : Int32) hc (dc_at dX0_leastLevel 71 rfl) (by decide) ?_
  exact r_zret hc he (hm) (hs) (dc_at dX0_leastLevel 72 rfl) hf
def b_X0_leastLevel_99 (F : Nat) (self29 : PH → Nat → Int32 → Int32 → Int32 → Nat → Int32 → Int32 → Option (Int32 × PH)) (h : PH) (v0 : Nat) (v1 : Int32) (v2 : Int32) (v3 : Int32) (v4 : Nat) (v5 : Int32) (v6 : Int32) (v7 : Int32) (s0 : Int32) (s1 : Int32) : Option (Int32 × PH) := if s0 = s1 then (bindv (v6 + (1)) fun x1 => (self29 h v0 v1 v2 v3 v4 v7 x1)) else (b_X0_leastLevel_102 F h v0 v4 v5 v6 v7)
set_option maxRecDepth 20000 in
theorem t_X0_leastLevel_99 {M : MV} {X : XT} {F : Nat} {self29 : PH → Nat → Int32 → Int32 → Int32 → Nat → Int32 → Int32 → Option (Int32 × PH)} {h hz : PH} {r : Int32} {ce sl mc ms : Nat} {v0 : Nat} {v1 : Int32} {v2 : Int32} {v3 : Int32} {v4 : Nat} {v5 : Int32} {v6 : Int32} {v7 : Int32} {s0 : Int32} {s1 : Int32} (hc : Cx M X RX0 cX0_leastLevel) (hr : Rx M 4 234 mc ms 8) (he : Ex M X (some .boolean) "leastLevel" (some (.int r)) hz mc ms) (hm : ce ≤ mc) (hs : sl ≤ ms) (ih29 : ∀ (h : PH) (v0 : Nat) (v1 : Int32) (v2 : Int32) (v3 : Int32) (v4 : Nat) (v5 : Int32) (v6 : Int32), self29 h v0 v1 v2 v3 v4 v5 v6 = some (r, hz) → GG M X h ce sl 49 [(0, .ref (X.1 + v0)), (1, .int v1), (2, .int v2), (3, .int v3), (4, .ref (X.1 + v4)), (5, .int v5), (6, .int v6)] []) (hf : b_X0_leastLevel_99 F self29 h v0 v1 v2 v3 v4 v5 v6 v7 s0 s1 = some (r, hz)) : GG M X h ce sl 99 [(0, .ref (X.1 + v0)), (1, .int v1), (2, .int v2), (3, .int v3), (4, .ref (X.1 + v4)), (5, .int v5), (6, .int v6), (7, .int v7)] [.int s1, .int s0] := by
  unfold b_X0_leastLevel_99 at hf
  refine r_icmp_eq (tgt := 130) hc (dc_at dX0_leastLevel 55 rfl) (by decide) hf (fun hf => ?_) (fun hf => ?_)
  · refine r_iload hc 7 (dc_at dX0_leastLevel 73 rfl) rfl ?_
    refine r_istore [(5, .int v7), (0, .ref (X.1 + v0)), (1, .int v1), (2, .int v2), (3, .int v3), (4, .ref (X.1 + v4)), (6, .int v6), (7, .int v7)] hc hr (dc_at dX0_leastLevel 74 rfl) (by decide) rfl ?_
    refine obv hf fun x1 e_x1 hf => ?_
    refine r_iinc 6 [(6, .int x1), (5, .int v7), (0, .ref (X.1 + v0)), (1, .int v1), (2, .int v2), (3, .int v3), (4, .ref (X.1 + v4)), (7, .int v7)] hc hr (dc_at dX0_leastLevel 75 rfl) rfl (by rw [e_x1]; rfl) (by decide) rfl ?_
    refine r_goto (tgt := 49) hc (dc_at dX0_leastLevel 76 rfl) (by decide) ?_
    exact gg_sub [2, 3, 4, 5, 6, 1, 0] rfl (ih29 _ _ _ _ _ _ _ _ hf)
  · exact gg_sub [0, 4, 5, 6, 7] rfl (t_X0_leastLevel_102 hc hr he hm hs  hf)
def b_X0_leastLevel_89 (F : Nat) (self29 : PH → Nat → Int32 → Int32 → Int32 → Nat → Int32 → Int32 → Option (Int32 × PH)) (h : PH) (v0 : Nat) (v1 : Int32) (v2 : Int32) (v3 : Int32) (v4 : Nat) (v5 : Int32) (v6 : Int32) (v7 : Int32) (s0 : Int32) : Option (Int32 × PH) := if v5 ≤ 0 then (b_X0_leastLevel_99 F self29 h v0 v1 v2 v3 v4 v5 v6 v7 s0 (0 : Int32)) else (b_X0_leastLevel_99 F self29 h v0 v1 v2 v3 v4 v5 v6 v7 s0 (1 : Int32))
set_option maxRecDepth 20000 in
theorem t_X0_leastLevel_89 {M : MV} {X : XT} {F : Nat} {self29 : PH → Nat → Int32 → Int32 → Int32 → Nat → Int32 → Int32 → Option (Int32 × PH)} {h hz : PH} {r : Int32} {ce sl mc ms : Nat} {v0 : Nat} {v1 : Int32} {v2 : Int32} {v3 : Int32} {v4 : Nat} {v5 : Int32} {v6 : Int32} {v7 : Int32} {s0 : Int32} (hc : Cx M X RX0 cX0_leastLevel) (hr : Rx M 4 234 mc ms 8) (he : Ex M X (some .boolean) "leastLevel" (some (.int r)) hz mc ms) (hm : ce ≤ mc) (hs : sl ≤ ms) (ih29 : ∀ (h : PH) (v0 : Nat) (v1 : Int32) (v2 : Int32) (v3 : Int32) (v4 : Nat) (v5 : Int32) (v6 : Int32), self29 h v0 v1 v2 v3 v4 v5 v6 = some (r, hz) → GG M X h ce sl 49 [(0, .ref (X.1 + v0)), (1, .int v1), (2, .int v2), (3, .int v3), (4, .ref (X.1 + v4)), (5, .int v5), (6, .int v6)] []) (hf : b_X0_leastLevel_89 F self29 h v0 v1 v2 v3 v4 v5 v6 v7 s0 = some (r, hz)) : GG M X h ce sl 89 [(0, .ref (X.1 + v0)), (1, .int v1), (2, .int v2), (3, .int v3), (4, .ref (X.1 + v4)), (5, .int v5), (6, .int v6), (7, .int v7)] [.int s0] := by
  unfold b_X0_leastLevel_89 at hf
  refine r_iload hc 5 (dc_at dX0_leastLevel 50 rfl) rfl ?_
  refine r_if_le (tgt := 98) hc (dc_at dX0_leastLevel 51 rfl) (by decide) hf (fun hf => ?_) (fun hf => ?_)
  · refine r_iconst (0 : Int32) hc (dc_at dX0_leastLevel 54 rfl) (by decide) ?_
    exact gg_sub [0, 1, 2, 3, 4, 5, 6, 7] rfl (t_X0_leastLevel_99 hc hr he hm hs ih29 hf)
  · refine r_iconst (1 : Int32) hc (dc_at dX0_leastLevel 52 rfl) (by decide) ?_
    refine r_goto (tgt := 99) hc (dc_at dX0_leastLevel 53 rfl) (by decide) ?_
    exact gg_sub [0, 1, 2, 3, 4, 5, 6, 7] rfl (t_X0_leastLevel_99 hc hr he hm hs ih29 hf)
def b_X0_leastLevel_49 (F : Nat) (self29 : PH → Nat → Int32 → Int32 → Int32 → Nat → Int32 → Int32 → Option (Int32 × PH)) (h : PH) (v0 : Nat) (v1 : Int32) (v2 : Int32) (v3 : Int32) (v4 : Nat) (v5 : Int32) (v6 : Int32) : Option (Int32 × PH) := (gI 0 9 h v0).bind fun x1 => (if x1 ≤ v6 then (rZ (0 : Int32) h) else ((gR 0 14 h v0).bind fun a2 => ((aI 0 h a2 v6).bind fun x3 => (cO 0 h v0 ((m_X0_overAt h v0 x3 v1 v2 v3).bind fun x4 => (if x4 = 0 then (b_X0_leastLevel_102 F h v0 v4 v5 v6 x4) else (if x4 ≤ 0 then (b_X0_leastLevel_89 F self29 h v0 v1 v2 v3 v4 v5 v6 x4 (0 : Int32)) else (b_X0_leastLevel_89 F self29 h v0 v1 v2 v3 v4 v5 v6 x4 (1 : Int32)))))))))
set_option maxRecDepth 20000 in
theorem tb_X0_leastLevel_49 {M : MV} {X : XT} {F : Nat} {self29 : PH → Nat → Int32 → Int32 → Int32 → Nat → Int32 → Int32 → Option (Int32 × PH)} {h hz : PH} {r : Int32} {ce sl mc ms : Nat} {v0 : Nat} {v1 : Int32} {v2 : Int32} {v3 : Int32} {v4 : Nat} {v5 : Int32} {v6 : Int32} (hc : Cx M X RX0 cX0_leastLevel) (hr : Rx M 4 234 mc ms 8) (he : Ex M X (some .boolean) "leastLevel" (some (.int r)) hz mc ms) (hm : ce ≤ mc) (hs : sl ≤ ms) (ih29 : ∀ (h : PH) (v0 : Nat) (v1 : Int32) (v2 : Int32) (v3 : Int32) (v4 : Nat) (v5 : Int32) (v6 : Int32), self29 h v0 v1 v2 v3 v4 v5 v6 = some (r, hz) → GG M X h ce sl 49 [(0, .ref (X.1 + v0)), (1, .int v1), (2, .int v2), (3, .int v3), (4, .ref (X.1 + v4)), (5, .int v5), (6, .int v6)] []) (hf : b_X0_leastLevel_49 F self29 h v0 v1 v2 v3 v4 v5 v6 = some (r, hz)) : GG M X h ce sl 49 [(0, .ref (X.1 + v0)), (1, .int v1), (2, .int v2), (3, .int v3), (4, .ref (X.1 + v4)), (5, .int v5), (6, .int v6)] [] := by
  unfold b_X0_leastLevel_49 at hf
  refine r_iload hc 6 (dc_at dX0_leastLevel 29 rfl) rfl ?_
  refine r_aload_n hc 0 (dc_at dX0_leastLevel 30 rfl) rfl ?_
  refine r_getI hc (dc_at dX0_leastLevel 31 rfl) fl_X0_61 hf fun x1 hf => ?_
  refine r_icmp_ge (tgt := 140) hc (dc_at dX0_leastLevel 32 rfl) (by decide) hf (fun hf => ?_) (fun hf => ?_)
  · refine r_iconst (0 : Int32) hc (dc_at dX0_leastLevel 77 rfl) (by decide) ?_
    exact r_zret hc he (hm) (hs) (dc_at dX0_leastLevel 78 rfl) hf
  · refine r_aload_n hc 0 (dc_at dX0_leastLevel 33 rfl) rfl ?_
    refine r_aload_n hc 0 (dc_at dX0_leastLevel 34 rfl) rfl ?_
    refine r_getR hc (dc_at dX0_leastLevel 35 rfl) fl_X0_37 hf fun a2 hf => ?_
    refine r_iload hc 6 (dc_at dX0_leastLevel 36 rfl) rfl ?_
    refine r_iaload hc (dc_at dX0_leastLevel 37 rfl) hf fun x3 hf => ?_
    refine r_iload_n hc 1 (dc_at dX0_leastLevel 38 rfl) rfl ?_
    refine r_iload_n hc 2 (dc_at dX0_leastLevel 39 rfl) rfl ?_
    refine r_iload_n hc 3 (dc_at dX0_leastLevel 40 rfl) rfl ?_
    obtain ⟨ho, hf⟩ := cO_some hf
    refine ob hf fun x4 ex hf => ?_
    refine r_callVi (As := [.int x3, .int v1, .int v2, .int v3]) (ci := 0) hc hr (dc_at dX0_leastLevel 41 rfl) ml_X0_93 mv_X0_overAt vi_X0_overAt rfl ho rfl (mt_X0_overAt ex) (by first | exact Nat.le_of_ble_eq_true rfl | omega) (by first | exact Nat.le_of_ble_eq_true rfl | omega) (by first | exact Nat.le_of_ble_eq_true rfl | omega) hm hs ?_
    refine r_istore [(7, .int x4), (0, .ref (X.1 + v0)), (1, .int v1), (2, .int v2), (3, .int v3), (4, .ref (X.1 + v4)), (5, .int v5), (6, .int v6)] hc hr (dc_at dX0_leastLevel 42 rfl) (by decide) rfl ?_
    refine r_iload hc 0 (dc_at dX0_leastLevel 43 rfl) rfl ?_
    refine r_if_eq (tgt := 102) hc (dc_at dX0_leastLevel 44 rfl) (by decide) hf (fun hf => ?_) (fun hf => ?_)
    · exact gg_sub [1, 5, 6, 7, 0] rfl (t_X0_leastLevel_102 hc hr he hm hs  hf)
    · refine r_iload hc 0 (dc_at dX0_leastLevel 45 rfl) rfl ?_
      refine r_if_le (tgt := 88) hc (dc_at dX0_leastLevel 46 rfl) (by decide) hf (fun hf => ?_) (fun hf => ?_)
      · refine r_iconst (0 : Int32) hc (dc_at dX0_leastLevel 49 rfl) (by decide) ?_
        exact gg_sub [1, 2, 3, 4, 5, 6, 7, 0] rfl (t_X0_leastLevel_89 hc hr he hm hs ih29 hf)
      · refine r_iconst (1 : Int32) hc (dc_at dX0_leastLevel 47 rfl) (by decide) ?_
        refine r_goto (tgt := 89) hc (dc_at dX0_leastLevel 48 rfl) (by decide) ?_
        exact gg_sub [1, 2, 3, 4, 5, 6, 7, 0] rfl (t_X0_leastLevel_89 hc hr he hm hs ih29 hf)
def l_X0_leastLevel_49 (F : Nat) : Nat → PH → Nat → Int32 → Int32 → Int32 → Nat → Int32 → Int32 → Option (Int32 × PH)
  | 0 => fun _ _ _ _ _ _ _ _ => none
  | n + 1 => fun h v0 v1 v2 v3 v4 v5 v6 => b_X0_leastLevel_49 F (l_X0_leastLevel_49 F n) h v0 v1 v2 v3 v4 v5 v6
theorem tl_X0_leastLevel_49 {M : MV} {X : XT} {F : Nat} {hz : PH} {r : Int32} {ce sl mc ms : Nat} (hc : Cx M X RX0 cX0_leastLevel) (hr : Rx M 4 234 mc ms 8) (he : Ex M X (some .boolean) "leastLevel" (some (.int r)) hz mc ms) (hm : ce ≤ mc) (hs : sl ≤ ms) (n : Nat) : ∀ (h : PH) (v0 : Nat) (v1 : Int32) (v2 : Int32) (v3 : Int32) (v4 : Nat) (v5 : Int32) (v6 : Int32), l_X0_leastLevel_49 F n h v0 v1 v2 v3 v4 v5 v6 = some (r, hz) → GG M X h ce sl 49 [(0, .ref (X.1 + v0)), (1, .int v1), (2, .int v2), (3, .int v3), (4, .ref (X.1 + v4)), (5, .int v5), (6, .int v6)] [] := by
  induction n with
  | zero => intro h v0 v1 v2 v3 v4 v5 v6 hf; cases hf
  | succ n ih => intro h v0 v1 v2 v3 v4 v5 v6 hf; exact tb_X0_leastLevel_49 (F := F) hc hr he hm hs  ih hf
def b_X0_leastLevel_0 (F : Nat) (h : PH) (v0 : Nat) (v1 : Int32) (v2 : Int32) (v3 : Int32) (v4 : Nat) : Option (Int32 × PH) := cO 2 h v4 (bind2 (m_X2_put F h v4 (0 : Int64) (1 : Int64)) fun _ h2 => ((gI 0 9 h2 v0).bind fun x3 => (if x3 = 0 then (if v3 = 0 then (rZ (1 : Int32) h2) else (rZ (0 : Int32) h2)) else ((gR 0 14 h2 v0).bind fun a4 => ((aI 0 h2 a4 (0 : Int32)).bind fun x5 => (cO 0 h2 v0 ((m_X0_overAt h2 v0 x5 v1 v2 v3).bind fun x6 => (if x6 = 0 then (rZ (1 : Int32) h2) else (l_X0_leastLevel_49 F F h2 v0 v1 v2 v3 v4 x6 (1 : Int32))))))))))
set_option maxRecDepth 20000 in
theorem t_X0_leastLevel_0 {M : MV} {X : XT} {F : Nat} {h hz : PH} {r : Int32} {ce sl mc ms : Nat} {v0 : Nat} {v1 : Int32} {v2 : Int32} {v3 : Int32} {v4 : Nat} (hc : Cx M X RX0 cX0_leastLevel) (hr : Rx M 4 234 mc ms 8) (he : Ex M X (some .boolean) "leastLevel" (some (.int r)) hz mc ms) (hm : ce ≤ mc) (hs : sl ≤ ms) (hf : b_X0_leastLevel_0 F h v0 v1 v2 v3 v4 = some (r, hz)) : GG M X h ce sl 0 [(0, .ref (X.1 + v0)), (1, .int v1), (2, .int v2), (3, .int v3), (4, .ref (X.1 + v4))] [] := by
  unfold b_X0_leastLevel_0 at hf
  refine r_aload hc 4 (dc_at dX0_leastLevel 0 rfl) rfl ?_
  refine r_lconst (0 : Int64) hc (dc_at dX0_leastLevel 1 rfl) (by decide) ?_
  refine r_lconst (1 : Int64) hc (dc_at dX0_leastLevel 2 rfl) (by decide) ?_
  obtain ⟨ho, hf⟩ := cO_some hf
  refine ob2 hf fun u h2 ex hf => ?_
  refine r_callVv (As := [.long ((0 : Int64)), .long ((1 : Int64))]) (ci := 2) hc hr (dc_at dX0_leastLevel 3 rfl) ml_X0_79 mv_X2_put vi_X2_put rfl ho rfl (mt_X2_put ex) (by first | exact Nat.le_of_ble_eq_true rfl | omega) (by first | exact Nat.le_of_ble_eq_true rfl | omega) (by first | exact Nat.le_of_ble_eq_true rfl | omega) hm hs ?_
  refine r_aload_n hc 0 (dc_at dX0_leastLevel 4 rfl) rfl ?_
  refine r_getI hc (dc_at dX0_leastLevel 5 rfl) fl_X0_61 hf fun x3 hf => ?_
  refine r_if_ne (tgt := 24) hc (dc_at dX0_leastLevel 6 rfl) (by decide) hf (fun hf => ?_) (fun hf => ?_)
  · refine r_aload_n hc 0 (dc_at dX0_leastLevel 13 rfl) rfl ?_
    refine r_aload_n hc 0 (dc_at dX0_leastLevel 14 rfl) rfl ?_
    refine r_getR hc (dc_at dX0_leastLevel 15 rfl) fl_X0_37 hf fun a4 hf => ?_
    refine r_iconst (0 : Int32) hc (dc_at dX0_leastLevel 16 rfl) (by decide) ?_
    refine r_iaload hc (dc_at dX0_leastLevel 17 rfl) hf fun x5 hf => ?_
    refine r_iload_n hc 1 (dc_at dX0_leastLevel 18 rfl) rfl ?_
    refine r_iload_n hc 2 (dc_at dX0_leastLevel 19 rfl) rfl ?_
    refine r_iload_n hc 3 (dc_at dX0_leastLevel 20 rfl) rfl ?_
    obtain ⟨ho, hf⟩ := cO_some hf
    refine ob hf fun x6 ex hf => ?_
    refine r_callVi (As := [.int x5, .int v1, .int v2, .int v3]) (ci := 0) hc hr (dc_at dX0_leastLevel 21 rfl) ml_X0_93 mv_X0_overAt vi_X0_overAt rfl ho rfl (mt_X0_overAt ex) (by first | exact Nat.le_of_ble_eq_true rfl | omega) (by first | exact Nat.le_of_ble_eq_true rfl | omega) (by first | exact Nat.le_of_ble_eq_true rfl | omega) hm hs ?_
    refine r_istore [(5, .int x6), (0, .ref (X.1 + v0)), (1, .int v1), (2, .int v2), (3, .int v3), (4, .ref (X.1 + v4))] hc hr (dc_at dX0_leastLevel 22 rfl) (by decide) rfl ?_
    refine r_iload hc 0 (dc_at dX0_leastLevel 23 rfl) rfl ?_
    refine r_if_ne (tgt := 46) hc (dc_at dX0_leastLevel 24 rfl) (by decide) hf (fun hf => ?_) (fun hf => ?_)
    · refine r_iconst (1 : Int32) hc (dc_at dX0_leastLevel 27 rfl) (by decide) ?_
      refine r_istore [(6, .int ((1 : Int32))), (5, .int x6), (0, .ref (X.1 + v0)), (1, .int v1), (2, .int v2), (3, .int v3), (4, .ref (X.1 + v4))] hc hr (dc_at dX0_leastLevel 28 rfl) (by decide) rfl ?_
      exact gg_sub [2, 3, 4, 5, 6, 1, 0] rfl (tl_X0_leastLevel_49 hc hr he hm hs  F _ _ _ _ _ _ _ _ hf)
    · refine r_iconst (1 : Int32) hc (dc_at dX0_leastLevel 25 rfl) (by decide) ?_
      exact r_zret hc he (hm) (hs) (dc_at dX0_leastLevel 26 rfl) hf
  · refine r_iload_n hc 3 (dc_at dX0_leastLevel 7 rfl) rfl ?_
    refine r_if_ne (tgt := 22) hc (dc_at dX0_leastLevel 8 rfl) (by decide) hf (fun hf => ?_) (fun hf => ?_)
    · refine r_iconst (0 : Int32) hc (dc_at dX0_leastLevel 11 rfl) (by decide) ?_
      exact r_zret hc he (hm) (hs) (dc_at dX0_leastLevel 12 rfl) hf
    · refine r_iconst (1 : Int32) hc (dc_at dX0_leastLevel 9 rfl) (by decide) ?_
      refine r_goto (tgt := 23) hc (dc_at dX0_leastLevel 10 rfl) (by decide) ?_
      exact r_zret hc he (hm) (hs) (dc_at dX0_leastLevel 12 rfl) hf
def m_X0_leastLevel (F : Nat) (h : PH) (p0 : Nat) (p1 : Int32) (p2 : Int32) (p3 : Int32) (p4 : Nat) : Option (Int32 × PH) := b_X0_leastLevel_0 F h p0 p1 p2 p3 p4
theorem mt_X0_leastLevel {l : Launch} {X : XT} {F : Nat} {h hz : PH} {p0 : Nat} {p1 : Int32} {p2 : Int32} {p3 : Int32} {p4 : Nat} {r : Int32} (ex : m_X0_leastLevel F h p0 p1 p2 p3 p4 = some (r, hz)) : MT l X yX0_leastLevel cX0_leastLevel 8 (some .boolean) 4 234 0 0 [.ref (X.1 + p0), .int p1, .int p2, .int p3, .ref (X.1 + p4)] h (some (.int r)) hz := MT.of (by decide) (Nat.le_of_ble_eq_true rfl) fun M hl hc hr he => by
  subst hl
  exact gg_sub [0, 1, 2, 3, 4] rfl (t_X0_leastLevel_0  hc hr he (Nat.zero_le _) (Nat.zero_le _) ex)
/-! FractionLift$House.rentOf(ILFractionLift$Ratio;)V -/
def lX0_rentOfL : List (Nat × Instr × Nat × Nat) := [(0, .aload_n 0, 1, 1), (1, .iconst 0, 1, 2), (2, .aload_n 0, 1, 3), (3, .getfield 40, 3, 6), (6, .iload_n 1, 1, 7), (7, .iaload, 1, 8), (8, .i2l, 1, 9), (9, .aload_n 0, 1, 10), (10, .getfield 43, 3, 13), (13, .iload_n 1, 1, 14), (14, .iaload, 1, 15), (15, .i2l, 1, 16), (16, .aload_n 2, 1, 17), (17, .invokevirtual 101, 3, 20), (20, .return_, 1, 21)]
set_option maxRecDepth 20000 in
theorem dX0_rentOf : dcL cX0_rentOf lX0_rentOfL = true := by decide +kernel
def b_X0_rentOf_0 (F : Nat) (h : PH) (v0 : Nat) (v1 : Int32) (v2 : Nat) : Option (Unit × PH) := (gR 0 16 h v0).bind fun a1 => ((aI 0 h a1 v1).bind fun x2 => ((gR 0 17 h v0).bind fun a3 => ((aI 0 h a3 v1).bind fun x4 => (cO 0 h v0 (bind2 (m_X0_stuffAt F h v0 (0 : Int32) (Int32.toInt64 x2) (Int32.toInt64 x4) v2) fun _ h6 => (some ((), h6)))))))
set_option maxRecDepth 20000 in
theorem t_X0_rentOf_0 {M : MV} {X : XT} {F : Nat} {h hz : PH} {r : Unit} {ce sl mc ms : Nat} {v0 : Nat} {v1 : Int32} {v2 : Nat} (hc : Cx M X RX0 cX0_rentOf) (hr : Rx M 4 234 mc ms 3) (he : Ex M X none "rentOf" none hz mc ms) (hm : ce ≤ mc) (hs : sl ≤ ms) (hf : b_X0_rentOf_0 F h v0 v1 v2 = some (r, hz)) : GG M X h ce sl 0 [(0, .ref (X.1 + v0)), (1, .int v1), (2, .ref (X.1 + v2))] [] := by
  unfold b_X0_rentOf_0 at hf
  refine r_aload_n hc 0 (dc_at dX0_rentOf 0 rfl) rfl ?_
  refine r_iconst (0 : Int32) hc (dc_at dX0_rentOf 1 rfl) (by decide) ?_
  refine r_aload_n hc 0 (dc_at dX0_rentOf 2 rfl) rfl ?_
  refine r_getR hc (dc_at dX0_rentOf 3 rfl) fl_X0_40 hf fun a1 hf => ?_
  refine r_iload_n hc 1 (dc_at dX0_rentOf 4 rfl) rfl ?_
  refine r_iaload hc (dc_at dX0_rentOf 5 rfl) hf fun x2 hf => ?_
  refine r_i2l hc (dc_at dX0_rentOf 6 rfl) ?_
  refine r_aload_n hc 0 (dc_at dX0_rentOf 7 rfl) rfl ?_
  refine r_getR hc (dc_at dX0_rentOf 8 rfl) fl_X0_43 hf fun a3 hf => ?_
  refine r_iload_n hc 1 (dc_at dX0_rentOf 9 rfl) rfl ?_
  refine r_iaload hc (dc_at dX0_rentOf 10 rfl) hf fun x4 hf => ?_
  refine r_i2l hc (dc_at dX0_rentOf 11 rfl) ?_
  refine r_aload_n hc 2 (dc_at dX0_rentOf 12 rfl) rfl ?_
  obtain ⟨ho, hf⟩ := cO_some hf
  refine ob2 hf fun u h6 ex hf => ?_
  refine r_callVv (As := [.int ((0 : Int32)), .long ((Int32.toInt64 x2)), .long ((Int32.toInt64 x4)), .ref (X.1 + v2)]) (ci := 0) hc hr (dc_at dX0_rentOf 13 rfl) ml_X0_101 mv_X0_stuffAt vi_X0_stuffAt rfl ho rfl (mt_X0_stuffAt ex) (by first | exact Nat.le_of_ble_eq_true rfl | omega) (by first | exact Nat.le_of_ble_eq_true rfl | omega) (by first | exact Nat.le_of_ble_eq_true rfl | omega) hm hs ?_
  exact r_vret hc he (hm) (hs) (dc_at dX0_rentOf 14 rfl) hf
def m_X0_rentOf (F : Nat) (h : PH) (p0 : Nat) (p1 : Int32) (p2 : Nat) : Option (Unit × PH) := b_X0_rentOf_0 F h p0 p1 p2
theorem mt_X0_rentOf {l : Launch} {X : XT} {F : Nat} {h hz : PH} {p0 : Nat} {p1 : Int32} {p2 : Nat} {r : Unit} (ex : m_X0_rentOf F h p0 p1 p2 = some (r, hz)) : MT l X yX0_rentOf cX0_rentOf 3 none 4 234 0 0 [.ref (X.1 + p0), .int p1, .ref (X.1 + p2)] h none hz := MT.of (by decide) (Nat.le_of_ble_eq_true rfl) fun M hl hc hr he => by
  subst hl
  exact gg_sub [0, 1, 2] rfl (t_X0_rentOf_0  hc hr he (Nat.zero_le _) (Nat.zero_le _) ex)
/-! FractionLift$Landings.<init>()V -/
def lX1_initL : List (Nat × Instr × Nat × Nat) := [(0, .aload_n 0, 1, 1), (1, .invokespecial 3, 3, 4), (4, .aload_n 0, 1, 5), (5, .sipush 9331, 3, 8), (8, .newarray .int, 2, 10), (10, .putfield 9, 3, 13), (13, .aload_n 0, 1, 14), (14, .sipush 9331, 3, 17), (17, .newarray .int, 2, 19), (19, .putfield 15, 3, 22), (22, .aload_n 0, 1, 23), (23, .sipush 9331, 3, 26), (26, .newarray .int, 2, 28), (28, .putfield 18, 3, 31), (31, .aload_n 0, 1, 32), (32, .sipush 9331, 3, 35), (35, .newarray .int, 2, 37), (37, .putfield 21, 3, 40), (40, .aload_n 0, 1, 41), (41, .sipush 8192, 3, 44), (44, .newarray .int, 2, 46), (46, .putfield 24, 3, 49), (49, .aload_n 0, 1, 50), (50, .sipush 511, 3, 53), (53, .newarray .long, 2, 55), (55, .putfield 27, 3, 58), (58, .return_, 1, 59)]
set_option maxRecDepth 20000 in
theorem dX1_init : dcL cX1_init lX1_initL = true := by decide +kernel
def b_X1_init_0 (h : PH) (v0 : Nat) : Option (Unit × PH) := bindv h.length fun a1 => (bindv (h ++ [.inl (0, 9331, .inl (fun _ => 0))]) fun h2 => ((pV 1 0 (.ref a1) h2 v0).bind fun h3 => (bindv h3.length fun a4 => (bindv (h3 ++ [.inl (0, 9331, .inl (fun _ => 0))]) fun h5 => ((pV 1 1 (.ref a4) h5 v0).bind fun h6 => (bindv h6.length fun a7 => (bindv (h6 ++ [.inl (0, 9331, .inl (fun _ => 0))]) fun h8 => ((pV 1 2 (.ref a7) h8 v0).bind fun h9 => (bindv h9.length fun a10 => (bindv (h9 ++ [.inl (0, 9331, .inl (fun _ => 0))]) fun h11 => ((pV 1 6 (.ref a10) h11 v0).bind fun h12 => (bindv h12.length fun a13 => (bindv (h12 ++ [.inl (0, 8192, .inl (fun _ => 0))]) fun h14 => ((pV 1 5 (.ref a13) h14 v0).bind fun h15 => (bindv h15.length fun a16 => (bindv (h15 ++ [.inl (1, 511, .inr (.inl (fun _ => 0)))]) fun h17 => ((pV 1 3 (.ref a16) h17 v0).bind fun h18 => (some ((), h18)))))))))))))))))))
set_option maxRecDepth 20000 in
theorem t_X1_init_0 {M : MV} {X : XT} {h hz : PH} {r : Unit} {v0 : Nat} (hc : Cx M X RX1 cX1_init) (hr : Rx M 1 60 6 46027 1) (he : Ex M X none "<init>" none hz 6 46027) (hm : 0 ≤ 6) (hs : 0 ≤ 46027) (hf : b_X1_init_0 h v0 = some (r, hz)) : GG M X h 0 0 0 [(0, .ref (X.1 + v0))] [] := by
  unfold b_X1_init_0 at hf
  refine r_aload_n hc 0 (dc_at dX1_init 0 rfl) rfl ?_
  refine r_objinit hc hr (dc_at dX1_init 1 rfl) oi_X1_3 oiw (by first | exact Nat.le_of_ble_eq_true rfl | omega) (by first | exact Nat.le_of_ble_eq_true rfl | omega) ?_
  refine r_aload_n hc 0 (dc_at dX1_init 2 rfl) rfl ?_
  refine r_sipush (9331 : Int32) hc (dc_at dX1_init 3 rfl) (by decide) ?_
  refine r_newarrN (t := 0) (N := 9331) (ty := .int) hc hr (dc_at dX1_init 4 rfl) arr_int rfl (fun _ _ z => z) rfl (fun _ => rfl) (by decide) (by decide) (by decide) (Nat.le_of_ble_eq_true rfl) (Nat.le_of_ble_eq_true rfl) hf fun a1 h2 hf => ?_
  refine r_putR hc he (dc_at dX1_init 5 rfl) fp_X1_9 (fun _ => rfl) ⟨rfl, fun _ => ⟨rfl, rfl⟩⟩ hf fun h3 hf => ?_
  refine r_aload_n hc 0 (dc_at dX1_init 6 rfl) rfl ?_
  refine r_sipush (9331 : Int32) hc (dc_at dX1_init 7 rfl) (by decide) ?_
  refine r_newarrN (t := 0) (N := 9331) (ty := .int) hc hr (dc_at dX1_init 8 rfl) arr_int rfl (fun _ _ z => z) rfl (fun _ => rfl) (by decide) (by decide) (by decide) (Nat.le_of_ble_eq_true rfl) (Nat.le_of_ble_eq_true rfl) hf fun a4 h5 hf => ?_
  refine r_putR hc he (dc_at dX1_init 9 rfl) fp_X1_15 (fun _ => rfl) ⟨rfl, fun _ => ⟨rfl, rfl⟩⟩ hf fun h6 hf => ?_
  refine r_aload_n hc 0 (dc_at dX1_init 10 rfl) rfl ?_
  refine r_sipush (9331 : Int32) hc (dc_at dX1_init 11 rfl) (by decide) ?_
  refine r_newarrN (t := 0) (N := 9331) (ty := .int) hc hr (dc_at dX1_init 12 rfl) arr_int rfl (fun _ _ z => z) rfl (fun _ => rfl) (by decide) (by decide) (by decide) (Nat.le_of_ble_eq_true rfl) (Nat.le_of_ble_eq_true rfl) hf fun a7 h8 hf => ?_
  refine r_putR hc he (dc_at dX1_init 13 rfl) fp_X1_18 (fun _ => rfl) ⟨rfl, fun _ => ⟨rfl, rfl⟩⟩ hf fun h9 hf => ?_
  refine r_aload_n hc 0 (dc_at dX1_init 14 rfl) rfl ?_
  refine r_sipush (9331 : Int32) hc (dc_at dX1_init 15 rfl) (by decide) ?_
  refine r_newarrN (t := 0) (N := 9331) (ty := .int) hc hr (dc_at dX1_init 16 rfl) arr_int rfl (fun _ _ z => z) rfl (fun _ => rfl) (by decide) (by decide) (by decide) (Nat.le_of_ble_eq_true rfl) (Nat.le_of_ble_eq_true rfl) hf fun a10 h11 hf => ?_
  refine r_putR hc he (dc_at dX1_init 17 rfl) fp_X1_21 (fun _ => rfl) ⟨rfl, fun _ => ⟨rfl, rfl⟩⟩ hf fun h12 hf => ?_
  refine r_aload_n hc 0 (dc_at dX1_init 18 rfl) rfl ?_
  refine r_sipush (8192 : Int32) hc (dc_at dX1_init 19 rfl) (by decide) ?_
  refine r_newarrN (t := 0) (N := 8192) (ty := .int) hc hr (dc_at dX1_init 20 rfl) arr_int rfl (fun _ _ z => z) rfl (fun _ => rfl) (by decide) (by decide) (by decide) (Nat.le_of_ble_eq_true rfl) (Nat.le_of_ble_eq_true rfl) hf fun a13 h14 hf => ?_
  refine r_putR hc he (dc_at dX1_init 21 rfl) fp_X1_24 (fun _ => rfl) ⟨rfl, fun _ => ⟨rfl, rfl⟩⟩ hf fun h15 hf => ?_
  refine r_aload_n hc 0 (dc_at dX1_init 22 rfl) rfl ?_
  refine r_sipush (511 : Int32) hc (dc_at dX1_init 23 rfl) (by decide) ?_
  refine r_newarrN (t := 1) (N := 511) (ty := .long) hc hr (dc_at dX1_init 24 rfl) arr_long rfl (fun _ _ z => z) rfl (fun _ => rfl) (by decide) (by decide) (by decide) (Nat.le_of_ble_eq_true rfl) (Nat.le_of_ble_eq_true rfl) hf fun a16 h17 hf => ?_
  refine r_putR hc he (dc_at dX1_init 25 rfl) fp_X1_27 (fun _ => rfl) ⟨rfl, fun _ => ⟨rfl, rfl⟩⟩ hf fun h18 hf => ?_
  exact r_vret hc he (Nat.le_of_ble_eq_true rfl) (Nat.le_of_ble_eq_true rfl) (dc_at dX1_init 26 rfl) hf
def m_X1_init (h : PH) (p0 : Nat) : Option (Unit × PH) := b_X1_init_0 h p0
theorem mt_X1_init {l : Launch} {X : XT} {h hz : PH} {p0 : Nat} {r : Unit} (ex : m_X1_init h p0 = some (r, hz)) : MT l X yX1_init cX1_init 1 none 1 60 6 46027 [.ref (X.1 + p0)] h none hz := MT.of (by decide) (Nat.le_of_ble_eq_true rfl) fun M hl hc hr he => by
  subst hl
  exact gg_sub [0] rfl (t_X1_init_0  hc hr he (Nat.zero_le _) (Nat.zero_le _) ex)
/-! java/util/Arrays.fill([II)V -/
def lJ7_fill_53178L : List (Nat × Instr × Nat × Nat) := [(0, .iconst 0, 1, 1), (1, .istore_n 2, 1, 2), (2, .aload_n 0, 1, 3), (3, .arraylength, 1, 4), (4, .istore_n 3, 1, 5), (5, .iload_n 2, 1, 6), (6, .iload_n 3, 1, 7), (7, .if_icmp .ge 13, 3, 10), (10, .aload_n 0, 1, 11), (11, .iload_n 2, 1, 12), (12, .iload_n 1, 1, 13), (13, .iastore, 1, 14), (14, .iinc 2 1, 3, 17), (17, .goto (-12), 3, 20), (20, .return_, 1, 21)]
set_option maxRecDepth 20000 in
theorem dJ7_fill_53178 : dcL cJ7_fill_53178 lJ7_fill_53178L = true := by decide +kernel
def b_J7_fill_53178_5 (F : Nat) (self5 : PH → Nat → Int32 → Int32 → Int32 → Option (Unit × PH)) (h : PH) (v0 : Nat) (v1 : Int32) (v2 : Int32) (v3 : Int32) : Option (Unit × PH) := if v3 ≤ v2 then (some ((), h)) else ((sI 0 h v0 v2 v1).bind fun h1 => (bindv (v2 + (1)) fun x2 => (self5 h1 v0 v1 x2 v3)))
set_option maxRecDepth 20000 in
theorem tb_J7_fill_53178_5 {M : MV} {X : XT} {F : Nat} {self5 : PH → Nat → Int32 → Int32 → Int32 → Option (Unit × PH)} {h hz : PH} {r : Unit} {ce sl mc ms : Nat} {v0 : Nat} {v1 : Int32} {v2 : Int32} {v3 : Int32} (hc : Cx M X RJ7 cJ7_fill_53178) (hr : Rx M 1 60 mc ms 4) (he : Ex M X none "fill" none hz mc ms) (hm : ce ≤ mc) (hs : sl ≤ ms) (ih5 : ∀ (h : PH) (v0 : Nat) (v1 : Int32) (v2 : Int32) (v3 : Int32), self5 h v0 v1 v2 v3 = some (r, hz) → GG M X h ce sl 5 [(0, .ref (X.1 + v0)), (1, .int v1), (2, .int v2), (3, .int v3)] []) (hf : b_J7_fill_53178_5 F self5 h v0 v1 v2 v3 = some (r, hz)) : GG M X h ce sl 5 [(0, .ref (X.1 + v0)), (1, .int v1), (2, .int v2), (3, .int v3)] [] := by
  unfold b_J7_fill_53178_5 at hf
  refine r_iload_n hc 2 (dc_at dJ7_fill_53178 5 rfl) rfl ?_
  refine r_iload_n hc 3 (dc_at dJ7_fill_53178 6 rfl) rfl ?_
  refine r_icmp_ge (tgt := 20) hc (dc_at dJ7_fill_53178 7 rfl) (by decide) hf (fun hf => ?_) (fun hf => ?_)
  · exact r_vret hc he (hm) (hs) (dc_at dJ7_fill_53178 14 rfl) hf
  · refine r_aload_n hc 0 (dc_at dJ7_fill_53178 8 rfl) rfl ?_
    refine r_iload_n hc 2 (dc_at dJ7_fill_53178 9 rfl) rfl ?_
    refine r_iload_n hc 1 (dc_at dJ7_fill_53178 10 rfl) rfl ?_
    refine r_iastore hc (dc_at dJ7_fill_53178 11 rfl) hf fun h1 hf => ?_
    refine obv hf fun x2 e_x2 hf => ?_
    refine r_iinc 2 [(2, .int x2), (0, .ref (X.1 + v0)), (1, .int v1), (3, .int v3)] hc hr (dc_at dJ7_fill_53178 12 rfl) rfl (by rw [e_x2]; rfl) (by decide) rfl ?_
    refine r_goto (tgt := 5) hc (dc_at dJ7_fill_53178 13 rfl) (by decide) ?_
    exact gg_sub [1, 2, 0, 3] rfl (ih5 _ _ _ _ _ hf)
def l_J7_fill_53178_5 (F : Nat) : Nat → PH → Nat → Int32 → Int32 → Int32 → Option (Unit × PH)
  | 0 => fun _ _ _ _ _ => none
  | n + 1 => fun h v0 v1 v2 v3 => b_J7_fill_53178_5 F (l_J7_fill_53178_5 F n) h v0 v1 v2 v3
theorem tl_J7_fill_53178_5 {M : MV} {X : XT} {F : Nat} {hz : PH} {r : Unit} {ce sl mc ms : Nat} (hc : Cx M X RJ7 cJ7_fill_53178) (hr : Rx M 1 60 mc ms 4) (he : Ex M X none "fill" none hz mc ms) (hm : ce ≤ mc) (hs : sl ≤ ms) (n : Nat) : ∀ (h : PH) (v0 : Nat) (v1 : Int32) (v2 : Int32) (v3 : Int32), l_J7_fill_53178_5 F n h v0 v1 v2 v3 = some (r, hz) → GG M X h ce sl 5 [(0, .ref (X.1 + v0)), (1, .int v1), (2, .int v2), (3, .int v3)] [] := by
  induction n with
  | zero => intro h v0 v1 v2 v3 hf; cases hf
  | succ n ih => intro h v0 v1 v2 v3 hf; exact tb_J7_fill_53178_5 (F := F) hc hr he hm hs  ih hf
def b_J7_fill_53178_0 (F : Nat) (h : PH) (v0 : Nat) (v1 : Int32) : Option (Unit × PH) := (aLen h v0).bind fun x1 => (l_J7_fill_53178_5 F F h v0 v1 (0 : Int32) x1)
set_option maxRecDepth 20000 in
theorem t_J7_fill_53178_0 {M : MV} {X : XT} {F : Nat} {h hz : PH} {r : Unit} {ce sl mc ms : Nat} {v0 : Nat} {v1 : Int32} (hc : Cx M X RJ7 cJ7_fill_53178) (hr : Rx M 1 60 mc ms 4) (he : Ex M X none "fill" none hz mc ms) (hm : ce ≤ mc) (hs : sl ≤ ms) (hf : b_J7_fill_53178_0 F h v0 v1 = some (r, hz)) : GG M X h ce sl 0 [(0, .ref (X.1 + v0)), (1, .int v1)] [] := by
  unfold b_J7_fill_53178_0 at hf
  refine r_iconst (0 : Int32) hc (dc_at dJ7_fill_53178 0 rfl) (by decide) ?_
  refine r_istore_n [(2, .int ((0 : Int32))), (0, .ref (X.1 + v0)), (1, .int v1)] hc hr (dc_at dJ7_fill_53178 1 rfl) (by decide) rfl ?_
  refine r_aload_n hc 1 (dc_at dJ7_fill_53178 2 rfl) rfl ?_
  refine r_alen hc (dc_at dJ7_fill_53178 3 rfl) hf fun x1 hf => ?_
  refine r_istore_n [(3, .int x1), (2, .int ((0 : Int32))), (0, .ref (X.1 + v0)), (1, .int v1)] hc hr (dc_at dJ7_fill_53178 4 rfl) (by decide) rfl ?_
  exact gg_sub [2, 3, 1, 0] rfl (tl_J7_fill_53178_5 hc hr he hm hs  F _ _ _ _ _ hf)
def m_J7_fill_53178 (F : Nat) (h : PH) (p0 : Nat) (p1 : Int32) : Option (Unit × PH) := b_J7_fill_53178_0 F h p0 p1
theorem mt_J7_fill_53178 {l : Launch} {X : XT} {F : Nat} {h hz : PH} {p0 : Nat} {p1 : Int32} {r : Unit} (ex : m_J7_fill_53178 F h p0 p1 = some (r, hz)) : MT l X yJ7_fill_53178 cJ7_fill_53178 4 none 1 60 0 0 [.ref (X.1 + p0), .int p1] h none hz := MT.of (by decide) (Nat.le_of_ble_eq_true rfl) fun M hl hc hr he => by
  subst hl
  exact gg_sub [0, 1] rfl (t_J7_fill_53178_0  hc hr he (Nat.zero_le _) (Nat.zero_le _) ex)
/-! FractionLift$Landings.clearAll()V -/
def lX1_clearAllL : List (Nat × Instr × Nat × Nat) := [(0, .aload_n 0, 1, 1), (1, .iconst 0, 1, 2), (2, .putfield 31, 3, 5), (5, .aload_n 0, 1, 6), (6, .getfield 24, 3, 9), (9, .iconst (-1), 1, 10), (10, .invokestatic 35, 3, 13), (13, .return_, 1, 14)]
set_option maxRecDepth 20000 in
theorem dX1_clearAll : dcL cX1_clearAll lX1_clearAllL = true := by decide +kernel
def b_X1_clearAll_0 (F : Nat) (h : PH) (v0 : Nat) : Option (Unit × PH) := (pV 1 4 (.int (0 : Int32)) h v0).bind fun h1 => ((gR 1 5 h1 v0).bind fun a2 => (bind2 (m_J7_fill_53178 F h1 a2 (-1 : Int32)) fun _ h4 => (some ((), h4))))
set_option maxRecDepth 20000 in
theorem t_X1_clearAll_0 {M : MV} {X : XT} {F : Nat} {h hz : PH} {r : Unit} {ce sl mc ms : Nat} {v0 : Nat} (hc : Cx M X RX1 cX1_clearAll) (hr : Rx M 2 118 mc ms 1) (he : Ex M X none "clearAll" none hz mc ms) (hm : ce ≤ mc) (hs : sl ≤ ms) (hf : b_X1_clearAll_0 F h v0 = some (r, hz)) : GG M X h ce sl 0 [(0, .ref (X.1 + v0))] [] := by
  unfold b_X1_clearAll_0 at hf
  refine r_aload_n hc 0 (dc_at dX1_clearAll 0 rfl) rfl ?_
  refine r_iconst (0 : Int32) hc (dc_at dX1_clearAll 1 rfl) (by decide) ?_
  refine r_putI hc he (dc_at dX1_clearAll 2 rfl) fp_X1_31 (fun q => by cases q) hf fun h1 hf => ?_
  refine r_aload_n hc 0 (dc_at dX1_clearAll 3 rfl) rfl ?_
  refine r_getR hc (dc_at dX1_clearAll 4 rfl) fl_X1_24 hf fun a2 hf => ?_
  refine r_iconst (-1 : Int32) hc (dc_at dX1_clearAll 5 rfl) (by decide) ?_
  refine ob2 hf fun u h4 ex hf => ?_
  refine r_callSv (As := [.ref (X.1 + a2), .int ((-1 : Int32))]) hc hr (dc_at dX1_clearAll 6 rfl) ml_X1_35 mv_J7_fill_53178 st_J7_fill_53178 rfl (mt_J7_fill_53178 ex) (by first | exact Nat.le_of_ble_eq_true rfl | omega) (by first | exact Nat.le_of_ble_eq_true rfl | omega) (by first | exact Nat.le_of_ble_eq_true rfl | omega) hm hs ?_
  exact r_vret hc he (hm) (hs) (dc_at dX1_clearAll 7 rfl) hf
def m_X1_clearAll (F : Nat) (h : PH) (p0 : Nat) : Option (Unit × PH) := b_X1_clearAll_0 F h p0
theorem mt_X1_clearAll {l : Launch} {X : XT} {F : Nat} {h hz : PH} {p0 : Nat} {r : Unit} (ex : m_X1_clearAll F h p0 = some (r, hz)) : MT l X yX1_clearAll cX1_clearAll 1 none 2 118 0 0 [.ref (X.1 + p0)] h none hz := MT.of (by decide) (Nat.le_of_ble_eq_true rfl) fun M hl hc hr he => by
  subst hl
  exact gg_sub [0] rfl (t_X1_clearAll_0  hc hr he (Nat.zero_le _) (Nat.zero_le _) ex)
/-! FractionLift$Landings.headOf(II)I -/
def lX1_headOfL : List (Nat × Instr × Nat × Nat) := [(0, .iload_n 0, 1, 1), (1, .bipush 31, 2, 3), (3, .imul, 1, 4), (4, .iload_n 1, 1, 5), (5, .ldc 41, 2, 7), (7, .imul, 1, 8), (8, .iadd, 1, 9), (9, .istore_n 2, 1, 10), (10, .iload_n 2, 1, 11), (11, .iload_n 2, 1, 12), (12, .bipush 15, 2, 14), (14, .iushr, 1, 15), (15, .ixor, 1, 16), (16, .sipush 8191, 3, 19), (19, .iand, 1, 20), (20, .ireturn, 1, 21)]
set_option maxRecDepth 20000 in
theorem dX1_headOf : dcL cX1_headOf lX1_headOfL = true := by decide +kernel
def b_X1_headOf_0 (v0 : Int32) (v1 : Int32) : Option Int32 := bindv ((((v0 * (31 : Int32))) + ((v1 * (1000003 : Int32))))) fun x1 => (some ((((x1 ^^^ ((ushr x1 (15 : Int32))))) &&& (8191 : Int32))))
set_option maxRecDepth 20000 in
theorem t_X1_headOf_0 {M : MV} {X : XT} {h : PH} {r : Int32} {ce sl mc ms : Nat} {v0 : Int32} {v1 : Int32} (hc : Cx M X RX1 cX1_headOf) (hr : Rx M 1 60 mc ms 3) (he : Ex M X (some .int) "headOf" (some (.int r)) h mc ms) (hm : ce ≤ mc) (hs : sl ≤ ms) (hf : b_X1_headOf_0 v0 v1 = some r) : GG M X h ce sl 0 [(0, .int v0), (1, .int v1)] [] := by
  unfold b_X1_headOf_0 at hf
  refine r_iload_n hc 0 (dc_at dX1_headOf 0 rfl) rfl ?_
  refine r_bipush (31 : Int32) hc (dc_at dX1_headOf 1 rfl) (by decide) ?_
  refine r_imul hc (dc_at dX1_headOf 2 rfl) ?_
  refine r_iload_n hc 1 (dc_at dX1_headOf 3 rfl) rfl ?_
  refine r_ldc hc (dc_at dX1_headOf 4 rfl) cc_X1_41 ?_
  refine r_imul hc (dc_at dX1_headOf 5 rfl) ?_
  refine r_iadd hc (dc_at dX1_headOf 6 rfl) ?_
  refine r_nm (mk := Value.int) hf fun x1 hf => ?_
  refine r_istore_n [(2, .int x1), (0, .int v0), (1, .int v1)] hc hr (dc_at dX1_headOf 7 rfl) (by decide) rfl ?_
  refine r_iload_n hc 0 (dc_at dX1_headOf 8 rfl) rfl ?_
  refine r_iload_n hc 0 (dc_at dX1_headOf 9 rfl) rfl ?_
  refine r_bipush (15 : Int32) hc (dc_at dX1_headOf 10 rfl) (by decide) ?_
  refine r_iushr hc (dc_at dX1_headOf 11 rfl) ?_
  refine r_ixor hc (dc_at dX1_headOf 12 rfl) ?_
  refine r_sipush (8191 : Int32) hc (dc_at dX1_headOf 13 rfl) (by decide) ?_
  refine r_iand hc (dc_at dX1_headOf 14 rfl) ?_
  exact r_iretP hc he (hm) (hs) (dc_at dX1_headOf 15 rfl) hf
def m_X1_headOf (p0 : Int32) (p1 : Int32) : Option Int32 := b_X1_headOf_0 p0 p1
theorem mt_X1_headOf {l : Launch} {X : XT} {h : PH} {p0 : Int32} {p1 : Int32} {r : Int32} (ex : m_X1_headOf p0 p1 = some r) : MT l X yX1_headOf cX1_headOf 3 (some .int) 1 60 0 0 [.int p0, .int p1] h (some (.int r)) h := MT.of (by decide) (Nat.le_of_ble_eq_true rfl) fun M hl hc hr he => by
  subst hl
  exact gg_sub [0, 1] rfl (t_X1_headOf_0  hc hr he (Nat.zero_le _) (Nat.zero_le _) ex)
/-! FractionLift$Landings.put(III)V -/
def lX1_putL : List (Nat × Instr × Nat × Nat) := [(0, .aload_n 0, 1, 1), (1, .getfield 31, 3, 4), (4, .sipush 9331, 3, 7), (7, .if_icmp .lt 4, 3, 10), (10, .return_, 1, 11), (11, .iload_n 1, 1, 12), (12, .iload_n 2, 1, 13), (13, .invokestatic 42, 3, 16), (16, .istore 4, 2, 18), (18, .aload_n 0, 1, 19), (19, .getfield 9, 3, 22), (22, .aload_n 0, 1, 23), (23, .getfield 31, 3, 26), (26, .iload_n 1, 1, 27), (27, .iastore, 1, 28), (28, .aload_n 0, 1, 29), (29, .getfield 15, 3, 32), (32, .aload_n 0, 1, 33), (33, .getfield 31, 3, 36), (36, .iload_n 2, 1, 37), (37, .iastore, 1, 38), (38, .aload_n 0, 1, 39), (39, .getfield 18, 3, 42), (42, .aload_n 0, 1, 43), (43, .getfield 31, 3, 46), (46, .iload_n 3, 1, 47), (47, .iastore, 1, 48), (48, .aload_n 0, 1, 49), (49, .getfield 21, 3, 52), (52, .aload_n 0, 1, 53), (53, .getfield 31, 3, 56), (56, .aload_n 0, 1, 57), (57, .getfield 24, 3, 60), (60, .iload 4, 2, 62), (62, .iaload, 1, 63), (63, .iastore, 1, 64), (64, .aload_n 0, 1, 65), (65, .getfield 24, 3, 68), (68, .iload 4, 2, 70), (70, .aload_n 0, 1, 71), (71, .getfield 31, 3, 74), (74, .iastore, 1, 75), (75, .aload_n 0, 1, 76), (76, .dup, 1, 77), (77, .getfield 31, 3, 80), (80, .iconst 1, 1, 81), (81, .iadd, 1, 82), (82, .putfield 31, 3, 85), (85, .return_, 1, 86)]
set_option maxRecDepth 20000 in
theorem dX1_put : dcL cX1_put lX1_putL = true := by decide +kernel
def b_X1_put_0 (h : PH) (v0 : Nat) (v1 : Int32) (v2 : Int32) (v3 : Int32) : Option (Unit × PH) := (gI 1 4 h v0).bind fun x1 => (if x1 < (9331 : Int32) then ((m_X1_headOf v1 v2).bind fun x2 => ((gR 1 0 h v0).bind fun a3 => ((gI 1 4 h v0).bind fun x4 => ((sI 0 h a3 x4 v1).bind fun h5 => ((gR 1 1 h5 v0).bind fun a6 => ((gI 1 4 h5 v0).bind fun x7 => ((sI 0 h5 a6 x7 v2).bind fun h8 => ((gR 1 2 h8 v0).bind fun a9 => ((gI 1 4 h8 v0).bind fun x10 => ((sI 0 h8 a9 x10 v3).bind fun h11 => ((gR 1 6 h11 v0).bind fun a12 => ((gI 1 4 h11 v0).bind fun x13 => ((gR 1 5 h11 v0).bind fun a14 => ((aI 0 h11 a14 x2).bind fun x15 => ((sI 0 h11 a12 x13 x15).bind fun h16 => ((gR 1 5 h16 v0).bind fun a17 => ((gI 1 4 h16 v0).bind fun x18 => ((sI 0 h16 a17 x2 x18).bind fun h19 => ((gI 1 4 h19 v0).bind fun x20 => ((pV 1 4 (.int ((x20 + (1 : Int32)))) h19 v0).bind fun h21 => (some ((), h21)))))))))))))))))))))) else (some ((), h)))
set_option maxRecDepth 20000 in
theorem t_X1_put_0 {M : MV} {X : XT} {h hz : PH} {r : Unit} {ce sl mc ms : Nat} {v0 : Nat} {v1 : Int32} {v2 : Int32} {v3 : Int32} (hc : Cx M X RX1 cX1_put) (hr : Rx M 2 118 mc ms 5) (he : Ex M X none "put" none hz mc ms) (hm : ce ≤ mc) (hs : sl ≤ ms) (hf : b_X1_put_0 h v0 v1 v2 v3 = some (r, hz)) : GG M X h ce sl 0 [(0, .ref (X.1 + v0)), (1, .int v1), (2, .int v2), (3, .int v3)] [] := by
  unfold b_X1_put_0 at hf
  refine r_aload_n hc 0 (dc_at dX1_put 0 rfl) rfl ?_
  refine r_getI hc (dc_at dX1_put 1 rfl) fl_X1_31 hf fun x1 hf => ?_
  refine r_sipush (9331 : Int32) hc (dc_at dX1_put 2 rfl) (by decide) ?_
  refine r_icmp_lt (tgt := 11) hc (dc_at dX1_put 3 rfl) (by decide) hf (fun hf => ?_) (fun hf => ?_)
  · refine r_iload_n hc 1 (dc_at dX1_put 5 rfl) rfl ?_
    refine r_iload_n hc 2 (dc_at dX1_put 6 rfl) rfl ?_
    refine ob hf fun x2 ex hf => ?_
    refine r_callSi (As := [.int v1, .int v2]) hc hr (dc_at dX1_put 7 rfl) ml_X1_42 mv_X1_headOf st_X1_headOf rfl (mt_X1_headOf ex) (by first | exact Nat.le_of_ble_eq_true rfl | omega) (by first | exact Nat.le_of_ble_eq_true rfl | omega) (by first | exact Nat.le_of_ble_eq_true rfl | omega) hm hs ?_
    refine r_istore [(4, .int x2), (0, .ref (X.1 + v0)), (1, .int v1), (2, .int v2), (3, .int v3)] hc hr (dc_at dX1_put 8 rfl) (by decide) rfl ?_
    refine r_aload_n hc 1 (dc_at dX1_put 9 rfl) rfl ?_
    refine r_getR hc (dc_at dX1_put 10 rfl) fl_X1_9 hf fun a3 hf => ?_
    refine r_aload_n hc 1 (dc_at dX1_put 11 rfl) rfl ?_
    refine r_getI hc (dc_at dX1_put 12 rfl) fl_X1_31 hf fun x4 hf => ?_
    refine r_iload_n hc 2 (dc_at dX1_put 13 rfl) rfl ?_
    refine r_iastore hc (dc_at dX1_put 14 rfl) hf fun h5 hf => ?_
    refine r_aload_n hc 1 (dc_at dX1_put 15 rfl) rfl ?_
    refine r_getR hc (dc_at dX1_put 16 rfl) fl_X1_15 hf fun a6 hf => ?_
    refine r_aload_n hc 1 (dc_at dX1_put 17 rfl) rfl ?_
    refine r_getI hc (dc_at dX1_put 18 rfl) fl_X1_31 hf fun x7 hf => ?_
    refine r_iload_n hc 3 (dc_at dX1_put 19 rfl) rfl ?_
    refine r_iastore hc (dc_at dX1_put 20 rfl) hf fun h8 hf => ?_
    refine r_aload_n hc 1 (dc_at dX1_put 21 rfl) rfl ?_
    refine r_getR hc (dc_at dX1_put 22 rfl) fl_X1_18 hf fun a9 hf => ?_
    refine r_aload_n hc 1 (dc_at dX1_put 23 rfl) rfl ?_
    refine r_getI hc (dc_at dX1_put 24 rfl) fl_X1_31 hf fun x10 hf => ?_
    refine r_iload_n hc 4 (dc_at dX1_put 25 rfl) rfl ?_
    refine r_iastore hc (dc_at dX1_put 26 rfl) hf fun h11 hf => ?_
    refine r_aload_n hc 1 (dc_at dX1_put 27 rfl) rfl ?_
    refine r_getR hc (dc_at dX1_put 28 rfl) fl_X1_21 hf fun a12 hf => ?_
    refine r_aload_n hc 1 (dc_at dX1_put 29 rfl) rfl ?_
    refine r_getI hc (dc_at dX1_put 30 rfl) fl_X1_31 hf fun x13 hf => ?_
    refine r_aload_n hc 1 (dc_at dX1_put 31 rfl) rfl ?_
    refine r_getR hc (dc_at dX1_put 32 rfl) fl_X1_24 hf fun a14 hf => ?_
    refine r_iload hc 0 (dc_at dX1_put 33 rfl) rfl ?_
    refine r_iaload hc (dc_at dX1_put 34 rfl) hf fun x15 hf => ?_
    refine r_iastore hc (dc_at dX1_put 35 rfl) hf fun h16 hf => ?_
    refine r_aload_n hc 1 (dc_at dX1_put 36 rfl) rfl ?_
    refine r_getR hc (dc_at dX1_put 37 rfl) fl_X1_24 hf fun a17 hf => ?_
    refine r_iload hc 0 (dc_at dX1_put 38 rfl) rfl ?_
    refine r_aload_n hc 1 (dc_at dX1_put 39 rfl) rfl ?_
    refine r_getI hc (dc_at dX1_put 40 rfl) fl_X1_31 hf fun x18 hf => ?_
    refine r_iastore hc (dc_at dX1_put 41 rfl) hf fun h19 hf => ?_
    refine r_aload_n hc 1 (dc_at dX1_put 42 rfl) rfl ?_
    refine r_dup hc (dc_at dX1_put 43 rfl) rfl ?_
    refine r_getI hc (dc_at dX1_put 44 rfl) fl_X1_31 hf fun x20 hf => ?_
    refine r_iconst (1 : Int32) hc (dc_at dX1_put 45 rfl) (by decide) ?_
    refine r_iadd hc (dc_at dX1_put 46 rfl) ?_
    refine r_putI hc he (dc_at dX1_put 47 rfl) fp_X1_31 (fun q => by cases q) hf fun h21 hf => ?_
    exact r_vret hc he (hm) (hs) (dc_at dX1_put 48 rfl) hf
  · exact r_vret hc he (hm) (hs) (dc_at dX1_put 4 rfl) hf
def m_X1_put (h : PH) (p0 : Nat) (p1 : Int32) (p2 : Int32) (p3 : Int32) : Option (Unit × PH) := b_X1_put_0 h p0 p1 p2 p3
theorem mt_X1_put {l : Launch} {X : XT} {h hz : PH} {p0 : Nat} {p1 : Int32} {p2 : Int32} {p3 : Int32} {r : Unit} (ex : m_X1_put h p0 p1 p2 p3 = some (r, hz)) : MT l X yX1_put cX1_put 5 none 2 118 0 0 [.ref (X.1 + p0), .int p1, .int p2, .int p3] h none hz := MT.of (by decide) (Nat.le_of_ble_eq_true rfl) fun M hl hc hr he => by
  subst hl
  exact gg_sub [0, 1, 2, 3] rfl (t_X1_put_0  hc hr he (Nat.zero_le _) (Nat.zero_le _) ex)
/-! FractionLift$Landings.find(IIII)I -/
def lX1_findL : List (Nat × Instr × Nat × Nat) := [(0, .aload_n 0, 1, 1), (1, .getfield 24, 3, 4), (4, .iload_n 1, 1, 5), (5, .iload_n 2, 1, 6), (6, .invokestatic 42, 3, 9), (9, .iaload, 1, 10), (10, .istore 5, 2, 12), (12, .iconst 0, 1, 13), (13, .istore 6, 2, 15), (15, .iload 6, 2, 17), (17, .sipush 9331, 3, 20), (20, .if_icmp .ge 61, 3, 23), (23, .iload 5, 2, 25), (25, .iload_n 3, 1, 26), (26, .if_icmp .lt 55, 3, 29), (29, .iload 5, 2, 31), (31, .ifCond .lt 50, 3, 34), (34, .iload 5, 2, 36), (36, .iload 4, 2, 38), (38, .if_icmp .ge 28, 3, 41), (41, .aload_n 0, 1, 42), (42, .getfield 9, 3, 45), (45, .iload 5, 2, 47), (47, .iaload, 1, 48), (48, .iload_n 1, 1, 49), (49, .if_icmp .ne 17, 3, 52), (52, .aload_n 0, 1, 53), (53, .getfield 15, 3, 56), (56, .iload 5, 2, 58), (58, .iaload, 1, 59), (59, .iload_n 2, 1, 60), (60, .if_icmp .ne 6, 3, 63), (63, .iload 5, 2, 65), (65, .ireturn, 1, 66), (66, .aload_n 0, 1, 67), (67, .getfield 21, 3, 70), (70, .iload 5, 2, 72), (72, .iaload, 1, 73), (73, .istore 5, 2, 75), (75, .iinc 6 1, 3, 78), (78, .goto (-63), 3, 81), (81, .iconst (-1), 1, 82), (82, .ireturn, 1, 83)]
set_option maxRecDepth 20000 in
theorem dX1_find : dcL cX1_find lX1_findL = true := by decide +kernel
def b_X1_find_66 (F : Nat) (self9 : Nat → Int32 → Int32 → Int32 → Int32 → Int32 → Int32 → Option Int32) (h : PH) (v0 : Nat) (v1 : Int32) (v2 : Int32) (v3 : Int32) (v4 : Int32) (v5 : Int32) (v6 : Int32) : Option Int32 := (gR 1 6 h v0).bind fun a1 => ((aI 0 h a1 v5).bind fun x2 => (bindv (v6 + (1)) fun x3 => (self9 v0 v1 v2 v3 v4 x2 x3)))
set_option maxRecDepth 20000 in
theorem t_X1_find_66 {M : MV} {X : XT} {F : Nat} {self9 : Nat → Int32 → Int32 → Int32 → Int32 → Int32 → Int32 → Option Int32} {h : PH} {r : Int32} {ce sl mc ms : Nat} {v0 : Nat} {v1 : Int32} {v2 : Int32} {v3 : Int32} {v4 : Int32} {v5 : Int32} {v6 : Int32} (hc : Cx M X RX1 cX1_find) (hr : Rx M 2 118 mc ms 7) (he : Ex M X (some .int) "find" (some (.int r)) h mc ms) (hm : ce ≤ mc) (hs : sl ≤ ms) (ih9 : ∀ (v0 : Nat) (v1 : Int32) (v2 : Int32) (v3 : Int32) (v4 : Int32) (v5 : Int32) (v6 : Int32), self9 v0 v1 v2 v3 v4 v5 v6 = some r → GG M X h ce sl 15 [(0, .ref (X.1 + v0)), (1, .int v1), (2, .int v2), (3, .int v3), (4, .int v4), (5, .int v5), (6, .int v6)] []) (hf : b_X1_find_66 F self9 h v0 v1 v2 v3 v4 v5 v6 = some r) : GG M X h ce sl 66 [(0, .ref (X.1 + v0)), (1, .int v1), (2, .int v2), (3, .int v3), (4, .int v4), (5, .int v5), (6, .int v6)] [] := by
  unfold b_X1_find_66 at hf
  refine r_aload_n hc 0 (dc_at dX1_find 34 rfl) rfl ?_
  refine r_getR hc (dc_at dX1_find 35 rfl) fl_X1_21 hf fun a1 hf => ?_
  refine r_iload hc 5 (dc_at dX1_find 36 rfl) rfl ?_
  refine r_iaload hc (dc_at dX1_find 37 rfl) hf fun x2 hf => ?_
  refine r_istore [(5, .int x2), (0, .ref (X.1 + v0)), (1, .int v1), (2, .int v2), (3, .int v3), (4, .int v4), (6, .int v6)] hc hr (dc_at dX1_find 38 rfl) (by decide) rfl ?_
  refine obv hf fun x3 e_x3 hf => ?_
  refine r_iinc 6 [(6, .int x3), (5, .int x2), (0, .ref (X.1 + v0)), (1, .int v1), (2, .int v2), (3, .int v3), (4, .int v4)] hc hr (dc_at dX1_find 39 rfl) rfl (by rw [e_x3]; rfl) (by decide) rfl ?_
  refine r_goto (tgt := 15) hc (dc_at dX1_find 40 rfl) (by decide) ?_
  exact gg_sub [2, 3, 4, 5, 6, 1, 0] rfl (ih9 _ _ _ _ _ _ _ hf)
def b_X1_find_15 (F : Nat) (self9 : Nat → Int32 → Int32 → Int32 → Int32 → Int32 → Int32 → Option Int32) (h : PH) (v0 : Nat) (v1 : Int32) (v2 : Int32) (v3 : Int32) (v4 : Int32) (v5 : Int32) (v6 : Int32) : Option Int32 := if (9331 : Int32) ≤ v6 then (some (-1 : Int32)) else (if v5 < v3 then (some (-1 : Int32)) else (if v5 < 0 then (some (-1 : Int32)) else (if v4 ≤ v5 then (b_X1_find_66 F self9 h v0 v1 v2 v3 v4 v5 v6) else ((gR 1 0 h v0).bind fun a1 => ((aI 0 h a1 v5).bind fun x2 => (if x2 = v1 then ((gR 1 1 h v0).bind fun a3 => ((aI 0 h a3 v5).bind fun x4 => (if x4 = v2 then (some v5) else (b_X1_find_66 F self9 h v0 v1 v2 v3 v4 v5 v6)))) else (b_X1_find_66 F self9 h v0 v1 v2 v3 v4 v5 v6)))))))
set_option maxRecDepth 20000 in
theorem tb_X1_find_15 {M : MV} {X : XT} {F : Nat} {self9 : Nat → Int32 → Int32 → Int32 → Int32 → Int32 → Int32 → Option Int32} {h : PH} {r : Int32} {ce sl mc ms : Nat} {v0 : Nat} {v1 : Int32} {v2 : Int32} {v3 : Int32} {v4 : Int32} {v5 : Int32} {v6 : Int32} (hc : Cx M X RX1 cX1_find) (hr : Rx M 2 118 mc ms 7) (he : Ex M X (some .int) "find" (some (.int r)) h mc ms) (hm : ce ≤ mc) (hs : sl ≤ ms) (ih9 : ∀ (v0 : Nat) (v1 : Int32) (v2 : Int32) (v3 : Int32) (v4 : Int32) (v5 : Int32) (v6 : Int32), self9 v0 v1 v2 v3 v4 v5 v6 = some r → GG M X h ce sl 15 [(0, .ref (X.1 + v0)), (1, .int v1), (2, .int v2), (3, .int v3), (4, .int v4), (5, .int v5), (6, .int v6)] []) (hf : b_X1_find_15 F self9 h v0 v1 v2 v3 v4 v5 v6 = some r) : GG M X h ce sl 15 [(0, .ref (X.1 + v0)), (1, .int v1), (2, .int v2), (3, .int v3), (4, .int v4), (5, .int v5), (6, .int v6)] [] := by
  unfold b_X1_find_15 at hf
  refine r_iload hc 6 (dc_at dX1_find 9 rfl) rfl ?_
  refine r_sipush (9331 : Int32) hc (dc_at dX1_find 10 rfl) (by decide) ?_
  refine r_icmp_ge (tgt := 81) hc (dc_at dX1_find 11 rfl) (by decide) hf (fun hf => ?_) (fun hf => ?_)
  · refine r_iconst (-1 : Int32) hc (dc_at dX1_find 41 rfl) (by decide) ?_
    exact r_iretP hc he (hm) (hs) (dc_at dX1_find 42 rfl) hf
  · refine r_iload hc 5 (dc_at dX1_find 12 rfl) rfl ?_
    refine r_iload_n hc 3 (dc_at dX1_find 13 rfl) rfl ?_
    refine r_icmp_lt (tgt := 81) hc (dc_at dX1_find 14 rfl) (by decide) hf (fun hf => ?_) (fun hf => ?_)
    · refine r_iconst (-1 : Int32) hc (dc_at dX1_find 41 rfl) (by decide) ?_
      exact r_iretP hc he (hm) (hs) (dc_at dX1_find 42 rfl) hf
    · refine r_iload hc 5 (dc_at dX1_find 15 rfl) rfl ?_
      refine r_if_lt (tgt := 81) hc (dc_at dX1_find 16 rfl) (by decide) hf (fun hf => ?_) (fun hf => ?_)
      · refine r_iconst (-1 : Int32) hc (dc_at dX1_find 41 rfl) (by decide) ?_
        exact r_iretP hc he (hm) (hs) (dc_at dX1_find 42 rfl) hf
      · refine r_iload hc 5 (dc_at dX1_find 17 rfl) rfl ?_
        refine r_iload hc 4 (dc_at dX1_find 18 rfl) rfl ?_
        refine r_icmp_ge (tgt := 66) hc (dc_at dX1_find 19 rfl) (by decide) hf (fun hf => ?_) (fun hf => ?_)
        · exact gg_sub [0, 1, 2, 3, 4, 5, 6] rfl (t_X1_find_66 hc hr he hm hs ih9 hf)
        · refine r_aload_n hc 0 (dc_at dX1_find 20 rfl) rfl ?_
          refine r_getR hc (dc_at dX1_find 21 rfl) fl_X1_9 hf fun a1 hf => ?_
          refine r_iload hc 5 (dc_at dX1_find 22 rfl) rfl ?_
          refine r_iaload hc (dc_at dX1_find 23 rfl) hf fun x2 hf => ?_
          refine r_iload_n hc 1 (dc_at dX1_find 24 rfl) rfl ?_
          refine r_icmp_ne (tgt := 66) hc (dc_at dX1_find 25 rfl) (by decide) hf (fun hf => ?_) (fun hf => ?_)
          · exact gg_sub [0, 1, 2, 3, 4, 5, 6] rfl (t_X1_find_66 hc hr he hm hs ih9 hf)
          · refine r_aload_n hc 0 (dc_at dX1_find 26 rfl) rfl ?_
            refine r_getR hc (dc_at dX1_find 27 rfl) fl_X1_15 hf fun a3 hf => ?_
            refine r_iload hc 5 (dc_at dX1_find 28 rfl) rfl ?_
            refine r_iaload hc (dc_at dX1_find 29 rfl) hf fun x4 hf => ?_
            refine r_iload_n hc 2 (dc_at dX1_find 30 rfl) rfl ?_
            refine r_icmp_ne (tgt := 66) hc (dc_at dX1_find 31 rfl) (by decide) hf (fun hf => ?_) (fun hf => ?_)
            · exact gg_sub [0, 1, 2, 3, 4, 5, 6] rfl (t_X1_find_66 hc hr he hm hs ih9 hf)
            · refine r_iload hc 5 (dc_at dX1_find 32 rfl) rfl ?_
              exact r_iretP hc he (hm) (hs) (dc_at dX1_find 33 rfl) hf
def l_X1_find_15 (F : Nat) (h : PH) : Nat → Nat → Int32 → Int32 → Int32 → Int32 → Int32 → Int32 → Option Int32
  | 0 => fun _ _ _ _ _ _ _ => none
  | n + 1 => fun v0 v1 v2 v3 v4 v5 v6 => b_X1_find_15 F (l_X1_find_15 F h n) h v0 v1 v2 v3 v4 v5 v6
theorem tl_X1_find_15 {M : MV} {X : XT} {F : Nat} {h : PH} {r : Int32} {ce sl mc ms : Nat} (hc : Cx M X RX1 cX1_find) (hr : Rx M 2 118 mc ms 7) (he : Ex M X (some .int) "find" (some (.int r)) h mc ms) (hm : ce ≤ mc) (hs : sl ≤ ms) (n : Nat) : ∀ (v0 : Nat) (v1 : Int32) (v2 : Int32) (v3 : Int32) (v4 : Int32) (v5 : Int32) (v6 : Int32), l_X1_find_15 F h n v0 v1 v2 v3 v4 v5 v6 = some r → GG M X h ce sl 15 [(0, .ref (X.1 + v0)), (1, .int v1), (2, .int v2), (3, .int v3), (4, .int v4), (5, .int v5), (6, .int v6)] [] := by
  induction n with
  | zero => intro v0 v1 v2 v3 v4 v5 v6 hf; cases hf
  | succ n ih => intro v0 v1 v2 v3 v4 v5 v6 hf; exact tb_X1_find_15 (F := F) hc hr he hm hs  ih hf
def b_X1_find_0 (F : Nat) (h : PH) (v0 : Nat) (v1 : Int32) (v2 : Int32) (v3 : Int32) (v4 : Int32) : Option Int32 := (gR 1 5 h v0).bind fun a1 => ((m_X1_headOf v1 v2).bind fun x2 => ((aI 0 h a1 x2).bind fun x3 => (l_X1_find_15 F h F v0 v1 v2 v3 v4 x3 (0 : Int32))))
set_option maxRecDepth 20000 in
theorem t_X1_find_0 {M : MV} {X : XT} {F : Nat} {h : PH} {r : Int32} {ce sl mc ms : Nat} {v0 : Nat} {v1 : Int32} {v2 : Int32} {v3 : Int32} {v4 : Int32} (hc : Cx M X RX1 cX1_find) (hr : Rx M 2 118 mc ms 7) (he : Ex M X (some .int) "find" (some (.int r)) h mc ms) (hm : ce ≤ mc) (hs : sl ≤ ms) (hf : b_X1_find_0 F h v0 v1 v2 v3 v4 = some r) : GG M X h ce sl 0 [(0, .ref (X.1 + v0)), (1, .int v1), (2, .int v2), (3, .int v3), (4, .int v4)] [] := by
  unfold b_X1_find_0 at hf
  refine r_aload_n hc 0 (dc_at dX1_find 0 rfl) rfl ?_
  refine r_getR hc (dc_at dX1_find 1 rfl) fl_X1_24 hf fun a1 hf => ?_
  refine r_iload_n hc 1 (dc_at dX1_find 2 rfl) rfl ?_
  refine r_iload_n hc 2 (dc_at dX1_find 3 rfl) rfl ?_
  refine ob hf fun x2 ex hf => ?_
  refine r_callSi (As := [.int v1, .int v2]) hc hr (dc_at dX1_find 4 rfl) ml_X1_42 mv_X1_headOf st_X1_headOf rfl (mt_X1_headOf ex) (by first | exact Nat.le_of_ble_eq_true rfl | omega) (by first | exact Nat.le_of_ble_eq_true rfl | omega) (by first | exact Nat.le_of_ble_eq_true rfl | omega) hm hs ?_
  refine r_iaload hc (dc_at dX1_find 5 rfl) hf fun x3 hf => ?_
  refine r_istore [(5, .int x3), (0, .ref (X.1 + v0)), (1, .int v1), (2, .int v2), (3, .int v3), (4, .int v4)] hc hr (dc_at dX1_find 6 rfl) (by decide) rfl ?_
  refine r_iconst (0 : Int32) hc (dc_at dX1_find 7 rfl) (by decide) ?_
  refine r_istore [(6, .int ((0 : Int32))), (5, .int x3), (0, .ref (X.1 + v0)), (1, .int v1), (2, .int v2), (3, .int v3), (4, .int v4)] hc hr (dc_at dX1_find 8 rfl) (by decide) rfl ?_
  exact gg_sub [2, 3, 4, 5, 6, 1, 0] rfl (tl_X1_find_15 hc hr he hm hs  F _ _ _ _ _ _ _ hf)
def m_X1_find (F : Nat) (h : PH) (p0 : Nat) (p1 : Int32) (p2 : Int32) (p3 : Int32) (p4 : Int32) : Option Int32 := b_X1_find_0 F h p0 p1 p2 p3 p4
theorem mt_X1_find {l : Launch} {X : XT} {F : Nat} {h : PH} {p0 : Nat} {p1 : Int32} {p2 : Int32} {p3 : Int32} {p4 : Int32} {r : Int32} (ex : m_X1_find F h p0 p1 p2 p3 p4 = some r) : MT l X yX1_find cX1_find 7 (some .int) 2 118 0 0 [.ref (X.1 + p0), .int p1, .int p2, .int p3, .int p4] h (some (.int r)) h := MT.of (by decide) (Nat.le_of_ble_eq_true rfl) fun M hl hc hr he => by
  subst hl
  exact gg_sub [0, 1, 2, 3, 4] rfl (t_X1_find_0  hc hr he (Nat.zero_le _) (Nat.zero_le _) ex)
