/-! FractionLiftModel.tellsCode(I)V -/
def lX10_tellsCodeL : List (Nat × Instr × Nat × Nat) := [(0, .aload_n 0, 1, 1), (1, .getfield 156, 3, 4), (4, .ifCond .eq 4, 3, 7), (7, .return_, 1, 8), (8, .aload_n 0, 1, 9), (9, .getfield 24, 3, 12), (12, .bipush 99, 2, 14), (14, .aload_n 0, 1, 15), (15, .getfield 24, 3, 18), (18, .bipush 98, 2, 20), (20, .iaload, 1, 21), (21, .iadd, 1, 22), (22, .iload_n 1, 1, 23), (23, .iastore, 1, 24), (24, .aload_n 0, 1, 25), (25, .getfield 24, 3, 28), (28, .bipush 98, 2, 30), (30, .dup2, 1, 31), (31, .iaload, 1, 32), (32, .iconst 1, 1, 33), (33, .iadd, 1, 34), (34, .iastore, 1, 35), (35, .return_, 1, 36)]
set_option maxRecDepth 20000 in
theorem dX10_tellsCode : dcL cX10_tellsCode lX10_tellsCodeL = true := by decide +kernel
def b_X10_tellsCode_0 (h : PH) (v0 : Nat) (v1 : Int32) : Option (Unit × PH) := (gI 10 11 h v0).bind fun x1 => (if x1 = 0 then ((gR 10 4 h v0).bind fun a2 => ((gR 10 4 h v0).bind fun a3 => ((aI 0 h a3 (98 : Int32)).bind fun x4 => ((sI 0 h a2 (((99 : Int32) + x4)) v1).bind fun h5 => ((gR 10 4 h5 v0).bind fun a6 => ((aI 0 h5 a6 (98 : Int32)).bind fun x7 => ((sI 0 h5 a6 (98 : Int32) ((x7 + (1 : Int32)))).bind fun h8 => (some ((), h8))))))))) else (some ((), h)))
set_option maxRecDepth 20000 in
theorem t_X10_tellsCode_0 {M : MV} {X : XT} {h hz : PH} {r : Unit} {ce sl mc ms : Nat} {v0 : Nat} {v1 : Int32} (hc : Cx M X RX10 cX10_tellsCode) (hr : Rx M 1 60 mc ms 2) (he : Ex M X none "tellsCode" none hz mc ms) (hm : ce ≤ mc) (hs : sl ≤ ms) (hf : b_X10_tellsCode_0 h v0 v1 = some (r, hz)) : GG M X h ce sl 0 [(0, .ref (X.1 + v0)), (1, .int v1)] [] := by
  unfold b_X10_tellsCode_0 at hf
  refine r_aload_n hc 0 (dc_at dX10_tellsCode 0 rfl) rfl ?_
  refine r_getI hc (dc_at dX10_tellsCode 1 rfl) fl_X10_156 hf fun x1 hf => ?_
  refine r_if_eq (tgt := 8) hc (dc_at dX10_tellsCode 2 rfl) (by decide) hf (fun hf => ?_) (fun hf => ?_)
  · refine r_aload_n hc 0 (dc_at dX10_tellsCode 4 rfl) rfl ?_
    refine r_getR hc (dc_at dX10_tellsCode 5 rfl) fl_X10_24 hf fun a2 hf => ?_
    refine r_bipush (99 : Int32) hc (dc_at dX10_tellsCode 6 rfl) (by decide) ?_
    refine r_aload_n hc 0 (dc_at dX10_tellsCode 7 rfl) rfl ?_
    refine r_getR hc (dc_at dX10_tellsCode 8 rfl) fl_X10_24 hf fun a3 hf => ?_
    refine r_bipush (98 : Int32) hc (dc_at dX10_tellsCode 9 rfl) (by decide) ?_
    refine r_iaload hc (dc_at dX10_tellsCode 10 rfl) hf fun x4 hf => ?_
    refine r_iadd hc (dc_at dX10_tellsCode 11 rfl) ?_
    refine r_iload_n hc 1 (dc_at dX10_tellsCode 12 rfl) rfl ?_
    refine r_iastore hc (dc_at dX10_tellsCode 13 rfl) hf fun h5 hf => ?_
    refine r_aload_n hc 0 (dc_at dX10_tellsCode 14 rfl) rfl ?_
    refine r_getR hc (dc_at dX10_tellsCode 15 rfl) fl_X10_24 hf fun a6 hf => ?_
    refine r_bipush (98 : Int32) hc (dc_at dX10_tellsCode 16 rfl) (by decide) ?_
    refine r_dup2 hc (dc_at dX10_tellsCode 17 rfl) rfl rfl ?_
    refine r_iaload hc (dc_at dX10_tellsCode 18 rfl) hf fun x7 hf => ?_
    refine r_iconst (1 : Int32) hc (dc_at dX10_tellsCode 19 rfl) (by decide) ?_
    refine r_iadd hc (dc_at dX10_tellsCode 20 rfl) ?_
    refine r_iastore hc (dc_at dX10_tellsCode 21 rfl) hf fun h8 hf => ?_
    exact r_vret hc he (hm) (hs) (dc_at dX10_tellsCode 22 rfl) hf
  · exact r_vret hc he (hm) (hs) (dc_at dX10_tellsCode 3 rfl) hf
def m_X10_tellsCode (h : PH) (p0 : Nat) (p1 : Int32) : Option (Unit × PH) := b_X10_tellsCode_0 h p0 p1
theorem mt_X10_tellsCode {l : Launch} {X : XT} {h hz : PH} {p0 : Nat} {p1 : Int32} {r : Unit} (ex : m_X10_tellsCode h p0 p1 = some (r, hz)) : MT l X yX10_tellsCode cX10_tellsCode 2 none 1 60 0 0 [.ref (X.1 + p0), .int p1] h none hz := MT.of (by decide) (Nat.le_of_ble_eq_true rfl) fun M hl hc hr he => by
  subst hl
  exact gg_sub [0, 1] rfl (t_X10_tellsCode_0  hc hr he (Nat.zero_le _) (Nat.zero_le _) ex)
/-! FractionLiftModel.readAtom(I)V -/
def lX10_readAtomL : List (Nat × Instr × Nat × Nat) := [(0, .aload_n 0, 1, 1), (1, .bipush 16, 2, 3), (3, .invokevirtual 162, 3, 6), (6, .ifCond .eq 18, 3, 9), (9, .aload_n 0, 1, 10), (10, .aload_n 0, 1, 11), (11, .getfield 151, 3, 14), (14, .invokevirtual 216, 3, 17), (17, .aload_n 0, 1, 18), (18, .invokevirtual 165, 3, 21), (21, .goto 101, 3, 24), (24, .aload_n 0, 1, 25), (25, .bipush 7, 2, 27), (27, .invokevirtual 191, 3, 30), (30, .ifCond .eq 13, 3, 33), (33, .aload_n 0, 1, 34), (34, .sipush 1000, 3, 37), (37, .invokevirtual 216, 3, 40), (40, .goto 82, 3, 43), (43, .aload_n 0, 1, 44), (44, .iconst 0, 1, 45), (45, .invokevirtual 191, 3, 48), (48, .ifCond .eq 13, 3, 51), (51, .aload_n 0, 1, 52), (52, .sipush 1001, 3, 55), (55, .invokevirtual 216, 3, 58), (58, .goto 64, 3, 61), (61, .aload_n 0, 1, 62), (62, .bipush 26, 2, 64), (64, .invokevirtual 162, 3, 67), (67, .ifCond .eq 50, 3, 70), (70, .iload_n 1, 1, 71), (71, .bipush 6, 2, 73), (73, .if_icmp .ne 8, 3, 76), (76, .aload_n 0, 1, 77), (77, .iconst 4, 1, 78), (78, .invokevirtual 168, 3, 81), (81, .aload_n 0, 1, 82), (82, .getfield 156, 3, 85), (85, .ifCond .eq 4, 3, 88), (88, .return_, 1, 89), (89, .aload_n 0, 1, 90), (90, .invokevirtual 165, 3, 93), (93, .aload_n 0, 1, 94), (94, .iload_n 1, 1, 95), (95, .iconst 1, 1, 96), (96, .iadd, 1, 97), (97, .invokevirtual 219, 3, 100), (100, .aload_n 0, 1, 101), (101, .bipush 27, 2, 103), (103, .invokevirtual 191, 3, 106), (106, .ifCond .ne 16, 3, 109), (109, .aload_n 0, 1, 110), (110, .iconst 2, 1, 111), (111, .invokevirtual 168, 3, 114), (114, .goto 8, 3, 117), (117, .aload_n 0, 1, 118), (118, .iconst 2, 1, 119), (119, .invokevirtual 168, 3, 122), (122, .return_, 1, 123)]
set_option maxRecDepth 20000 in
theorem dX10_readAtom : dcL cX10_readAtom lX10_readAtomL = true := by decide +kernel
def b_X10_readAtom_81 (rc : PH → Nat → Int32 → Option (Unit × PH)) (F : Nat) (h : PH) (v0 : Nat) (v1 : Int32) : Option (Unit × PH) := (gI 10 11 h v0).bind fun x1 => (if x1 = 0 then (cO 10 h v0 (bind2 (m_X10_next F h v0) fun _ h3 => (cO 10 h3 v0 (bind2 (rc h3 v0 ((v1 + (1 : Int32)))) fun _ h5 => (cO 10 h5 v0 (bind2 (m_X10_eats F h5 v0 (27 : Int32)) fun x6 h7 => (if x6 = 0 then (cO 10 h7 v0 (bind2 (m_X10_fails h7 v0 (2 : Int32)) fun _ h9 => (some ((), h9)))) else (some ((), h7))))))))) else (some ((), h)))
set_option maxRecDepth 20000 in
theorem t_X10_readAtom_81 {M : MV} {X : XT} {rc : PH → Nat → Int32 → Option (Unit × PH)} {d : Nat} {F : Nat} {h hz : PH} {r : Unit} {ce sl mc ms : Nat} {v0 : Nat} {v1 : Int32} (hrc : ∀ {h hz : PH} {p0 : Nat} {p1 : Int32} {r : Unit}, rc h p0 p1 = some (r, hz) → MT M.2.1 X yX10_readSum cX10_readSum 3 none (3 * d + 12) (174 * d + 696) 0 0 [.ref (X.1 + p0), .int p1] h none hz) (hc : Cx M X RX10 cX10_readAtom) (hr : Rx M (3 * d + 13) (174 * d + 754) mc ms 2) (he : Ex M X none "readAtom" none hz mc ms) (hm : ce ≤ mc) (hs : sl ≤ ms) (hf : b_X10_readAtom_81 rc F h v0 v1 = some (r, hz)) : GG M X h ce sl 81 [(0, .ref (X.1 + v0)), (1, .int v1)] [] := by
  unfold b_X10_readAtom_81 at hf
  refine r_aload_n hc 0 (dc_at dX10_readAtom 37 rfl) rfl ?_
  refine r_getI hc (dc_at dX10_readAtom 38 rfl) fl_X10_156 hf fun x1 hf => ?_
  refine r_if_eq (tgt := 89) hc (dc_at dX10_readAtom 39 rfl) (by decide) hf (fun hf => ?_) (fun hf => ?_)
  · refine r_aload_n hc 0 (dc_at dX10_readAtom 41 rfl) rfl ?_
    obtain ⟨ho, hf⟩ := cO_some hf
    refine ob2 hf fun u h3 ex hf => ?_
    refine r_callVv (As := []) (ci := 10) hc hr (dc_at dX10_readAtom 42 rfl) ml_X10_165 mv_X10_next vi_X10_next rfl ho rfl (mt_X10_next ex) (by first | exact Nat.le_of_ble_eq_true rfl | omega) (by first | exact Nat.le_of_ble_eq_true rfl | omega) (by first | exact Nat.le_of_ble_eq_true rfl | omega) hm hs ?_
    refine r_aload_n hc 0 (dc_at dX10_readAtom 43 rfl) rfl ?_
    refine r_iload_n hc 1 (dc_at dX10_readAtom 44 rfl) rfl ?_
    refine r_iconst (1 : Int32) hc (dc_at dX10_readAtom 45 rfl) (by decide) ?_
    refine r_iadd hc (dc_at dX10_readAtom 46 rfl) ?_
    obtain ⟨ho, hf⟩ := cO_some hf
    refine ob2 hf fun u h5 ex hf => ?_
    refine r_callVv (As := [.int ((v1 + (1 : Int32)))]) (ci := 10) hc hr (dc_at dX10_readAtom 47 rfl) ml_X10_219 mv_X10_readSum vi_X10_readSum rfl ho rfl (hrc  ex) (by first | exact Nat.le_of_ble_eq_true rfl | omega) (by first | exact Nat.le_of_ble_eq_true rfl | omega) (by first | exact Nat.le_of_ble_eq_true rfl | omega) hm hs ?_
    refine r_aload_n hc 0 (dc_at dX10_readAtom 48 rfl) rfl ?_
    refine r_bipush (27 : Int32) hc (dc_at dX10_readAtom 49 rfl) (by decide) ?_
    obtain ⟨ho, hf⟩ := cO_some hf
    refine ob2 hf fun x6 h7 ex hf => ?_
    refine r_callVi (As := [.int ((27 : Int32))]) (ci := 10) hc hr (dc_at dX10_readAtom 50 rfl) ml_X10_191 mv_X10_eats vi_X10_eats rfl ho rfl (mt_X10_eats ex) (by first | exact Nat.le_of_ble_eq_true rfl | omega) (by first | exact Nat.le_of_ble_eq_true rfl | omega) (by first | exact Nat.le_of_ble_eq_true rfl | omega) hm hs ?_
    refine r_if_ne (tgt := 122) hc (dc_at dX10_readAtom 51 rfl) (by decide) hf (fun hf => ?_) (fun hf => ?_)
    · exact r_vret hc he (hm) (hs) (dc_at dX10_readAtom 59 rfl) hf
    · refine r_aload_n hc 0 (dc_at dX10_readAtom 52 rfl) rfl ?_
      refine r_iconst (2 : Int32) hc (dc_at dX10_readAtom 53 rfl) (by decide) ?_
      obtain ⟨ho, hf⟩ := cO_some hf
      refine ob2 hf fun u h9 ex hf => ?_
      refine r_callVv (As := [.int ((2 : Int32))]) (ci := 10) hc hr (dc_at dX10_readAtom 54 rfl) ml_X10_168 mv_X10_fails vi_X10_fails rfl ho rfl (mt_X10_fails ex) (by first | exact Nat.le_of_ble_eq_true rfl | omega) (by first | exact Nat.le_of_ble_eq_true rfl | omega) (by first | exact Nat.le_of_ble_eq_true rfl | omega) hm hs ?_
      refine r_goto (tgt := 122) hc (dc_at dX10_readAtom 55 rfl) (by decide) ?_
      exact r_vret hc he (hm) (hs) (dc_at dX10_readAtom 59 rfl) hf
  · exact r_vret hc he (hm) (hs) (dc_at dX10_readAtom 40 rfl) hf
def b_X10_readAtom_0 (rc : PH → Nat → Int32 → Option (Unit × PH)) (F : Nat) (h : PH) (v0 : Nat) (v1 : Int32) : Option (Unit × PH) := cO 10 h v0 ((m_X10_is h v0 (16 : Int32)).bind fun x1 => (if x1 = 0 then (cO 10 h v0 (bind2 (m_X10_eats F h v0 (7 : Int32)) fun x2 h3 => (if x2 = 0 then (cO 10 h3 v0 (bind2 (m_X10_eats F h3 v0 (0 : Int32)) fun x4 h5 => (if x4 = 0 then (cO 10 h5 v0 ((m_X10_is h5 v0 (26 : Int32)).bind fun x6 => (if x6 = 0 then (cO 10 h5 v0 (bind2 (m_X10_fails h5 v0 (2 : Int32)) fun _ h8 => (some ((), h8)))) else (if v1 = (6 : Int32) then (cO 10 h5 v0 (bind2 (m_X10_fails h5 v0 (4 : Int32)) fun _ h10 => (b_X10_readAtom_81 rc F h10 v0 v1))) else (b_X10_readAtom_81 rc F h5 v0 v1))))) else (cO 10 h5 v0 (bind2 (m_X10_tellsCode h5 v0 (1001 : Int32)) fun _ h12 => (some ((), h12))))))) else (cO 10 h3 v0 (bind2 (m_X10_tellsCode h3 v0 (1000 : Int32)) fun _ h14 => (some ((), h14))))))) else ((gI 10 10 h v0).bind fun x15 => (cO 10 h v0 (bind2 (m_X10_tellsCode h v0 x15) fun _ h17 => (cO 10 h17 v0 (bind2 (m_X10_next F h17 v0) fun _ h19 => (some ((), h19)))))))))
set_option maxRecDepth 20000 in
theorem t_X10_readAtom_0 {M : MV} {X : XT} {rc : PH → Nat → Int32 → Option (Unit × PH)} {d : Nat} {F : Nat} {h hz : PH} {r : Unit} {ce sl mc ms : Nat} {v0 : Nat} {v1 : Int32} (hrc : ∀ {h hz : PH} {p0 : Nat} {p1 : Int32} {r : Unit}, rc h p0 p1 = some (r, hz) → MT M.2.1 X yX10_readSum cX10_readSum 3 none (3 * d + 12) (174 * d + 696) 0 0 [.ref (X.1 + p0), .int p1] h none hz) (hc : Cx M X RX10 cX10_readAtom) (hr : Rx M (3 * d + 13) (174 * d + 754) mc ms 2) (he : Ex M X none "readAtom" none hz mc ms) (hm : ce ≤ mc) (hs : sl ≤ ms) (hf : b_X10_readAtom_0 rc F h v0 v1 = some (r, hz)) : GG M X h ce sl 0 [(0, .ref (X.1 + v0)), (1, .int v1)] [] := by
  unfold b_X10_readAtom_0 at hf
  refine r_aload_n hc 0 (dc_at dX10_readAtom 0 rfl) rfl ?_
  refine r_bipush (16 : Int32) hc (dc_at dX10_readAtom 1 rfl) (by decide) ?_
  obtain ⟨ho, hf⟩ := cO_some hf
  refine ob hf fun x1 ex hf => ?_
  refine r_callVi (As := [.int ((16 : Int32))]) (ci := 10) hc hr (dc_at dX10_readAtom 2 rfl) ml_X10_162 mv_X10_is vi_X10_is rfl ho rfl (mt_X10_is ex) (by first | exact Nat.le_of_ble_eq_true rfl | omega) (by first | exact Nat.le_of_ble_eq_true rfl | omega) (by first | exact Nat.le_of_ble_eq_true rfl | omega) hm hs ?_
  refine r_if_eq (tgt := 24) hc (dc_at dX10_readAtom 3 rfl) (by decide) hf (fun hf => ?_) (fun hf => ?_)
  · refine r_aload_n hc 0 (dc_at dX10_readAtom 11 rfl) rfl ?_
    refine r_bipush (7 : Int32) hc (dc_at dX10_readAtom 12 rfl) (by decide) ?_
    obtain ⟨ho, hf⟩ := cO_some hf
    refine ob2 hf fun x2 h3 ex hf => ?_
    refine r_callVi (As := [.int ((7 : Int32))]) (ci := 10) hc hr (dc_at dX10_readAtom 13 rfl) ml_X10_191 mv_X10_eats vi_X10_eats rfl ho rfl (mt_X10_eats ex) (by first | exact Nat.le_of_ble_eq_true rfl | omega) (by first | exact Nat.le_of_ble_eq_true rfl | omega) (by first | exact Nat.le_of_ble_eq_true rfl | omega) hm hs ?_
    refine r_if_eq (tgt := 43) hc (dc_at dX10_readAtom 14 rfl) (by decide) hf (fun hf => ?_) (fun hf => ?_)
    · refine r_aload_n hc 0 (dc_at dX10_readAtom 19 rfl) rfl ?_
      refine r_iconst (0 : Int32) hc (dc_at dX10_readAtom 20 rfl) (by decide) ?_
      obtain ⟨ho, hf⟩ := cO_some hf
      refine ob2 hf fun x4 h5 ex hf => ?_
      refine r_callVi (As := [.int ((0 : Int32))]) (ci := 10) hc hr (dc_at dX10_readAtom 21 rfl) ml_X10_191 mv_X10_eats vi_X10_eats rfl ho rfl (mt_X10_eats ex) (by first | exact Nat.le_of_ble_eq_true rfl | omega) (by first | exact Nat.le_of_ble_eq_true rfl | omega) (by first | exact Nat.le_of_ble_eq_true rfl | omega) hm hs ?_
      refine r_if_eq (tgt := 61) hc (dc_at dX10_readAtom 22 rfl) (by decide) hf (fun hf => ?_) (fun hf => ?_)
      · refine r_aload_n hc 0 (dc_at dX10_readAtom 27 rfl) rfl ?_
        refine r_bipush (26 : Int32) hc (dc_at dX10_readAtom 28 rfl) (by decide) ?_
        obtain ⟨ho, hf⟩ := cO_some hf
        refine ob hf fun x6 ex hf => ?_
        refine r_callVi (As := [.int ((26 : Int32))]) (ci := 10) hc hr (dc_at dX10_readAtom 29 rfl) ml_X10_162 mv_X10_is vi_X10_is rfl ho rfl (mt_X10_is ex) (by first | exact Nat.le_of_ble_eq_true rfl | omega) (by first | exact Nat.le_of_ble_eq_true rfl | omega) (by first | exact Nat.le_of_ble_eq_true rfl | omega) hm hs ?_
        refine r_if_eq (tgt := 117) hc (dc_at dX10_readAtom 30 rfl) (by decide) hf (fun hf => ?_) (fun hf => ?_)
        · refine r_aload_n hc 0 (dc_at dX10_readAtom 56 rfl) rfl ?_
          refine r_iconst (2 : Int32) hc (dc_at dX10_readAtom 57 rfl) (by decide) ?_
          obtain ⟨ho, hf⟩ := cO_some hf
          refine ob2 hf fun u h8 ex hf => ?_
          refine r_callVv (As := [.int ((2 : Int32))]) (ci := 10) hc hr (dc_at dX10_readAtom 58 rfl) ml_X10_168 mv_X10_fails vi_X10_fails rfl ho rfl (mt_X10_fails ex) (by first | exact Nat.le_of_ble_eq_true rfl | omega) (by first | exact Nat.le_of_ble_eq_true rfl | omega) (by first | exact Nat.le_of_ble_eq_true rfl | omega) hm hs ?_
          exact r_vret hc he (hm) (hs) (dc_at dX10_readAtom 59 rfl) hf
        · refine r_iload_n hc 1 (dc_at dX10_readAtom 31 rfl) rfl ?_
          refine r_bipush (6 : Int32) hc (dc_at dX10_readAtom 32 rfl) (by decide) ?_
          refine r_icmp_ne (tgt := 81) hc (dc_at dX10_readAtom 33 rfl) (by decide) hf (fun hf => ?_) (fun hf => ?_)
          · exact gg_sub [0, 1] rfl (t_X10_readAtom_81 hrc hc hr he hm hs  hf)
          · refine r_aload_n hc 0 (dc_at dX10_readAtom 34 rfl) rfl ?_
            refine r_iconst (4 : Int32) hc (dc_at dX10_readAtom 35 rfl) (by decide) ?_
            obtain ⟨ho, hf⟩ := cO_some hf
            refine ob2 hf fun u h10 ex hf => ?_
            refine r_callVv (As := [.int ((4 : Int32))]) (ci := 10) hc hr (dc_at dX10_readAtom 36 rfl) ml_X10_168 mv_X10_fails vi_X10_fails rfl ho rfl (mt_X10_fails ex) (by first | exact Nat.le_of_ble_eq_true rfl | omega) (by first | exact Nat.le_of_ble_eq_true rfl | omega) (by first | exact Nat.le_of_ble_eq_true rfl | omega) hm hs ?_
            exact gg_sub [0, 1] rfl (t_X10_readAtom_81 hrc hc hr he hm hs  hf)
      · refine r_aload_n hc 0 (dc_at dX10_readAtom 23 rfl) rfl ?_
        refine r_sipush (1001 : Int32) hc (dc_at dX10_readAtom 24 rfl) (by decide) ?_
        obtain ⟨ho, hf⟩ := cO_some hf
        refine ob2 hf fun u h12 ex hf => ?_
        refine r_callVv (As := [.int ((1001 : Int32))]) (ci := 10) hc hr (dc_at dX10_readAtom 25 rfl) ml_X10_216 mv_X10_tellsCode vi_X10_tellsCode rfl ho rfl (mt_X10_tellsCode ex) (by first | exact Nat.le_of_ble_eq_true rfl | omega) (by first | exact Nat.le_of_ble_eq_true rfl | omega) (by first | exact Nat.le_of_ble_eq_true rfl | omega) hm hs ?_
        refine r_goto (tgt := 122) hc (dc_at dX10_readAtom 26 rfl) (by decide) ?_
        exact r_vret hc he (hm) (hs) (dc_at dX10_readAtom 59 rfl) hf
    · refine r_aload_n hc 0 (dc_at dX10_readAtom 15 rfl) rfl ?_
      refine r_sipush (1000 : Int32) hc (dc_at dX10_readAtom 16 rfl) (by decide) ?_
      obtain ⟨ho, hf⟩ := cO_some hf
      refine ob2 hf fun u h14 ex hf => ?_
      refine r_callVv (As := [.int ((1000 : Int32))]) (ci := 10) hc hr (dc_at dX10_readAtom 17 rfl) ml_X10_216 mv_X10_tellsCode vi_X10_tellsCode rfl ho rfl (mt_X10_tellsCode ex) (by first | exact Nat.le_of_ble_eq_true rfl | omega) (by first | exact Nat.le_of_ble_eq_true rfl | omega) (by first | exact Nat.le_of_ble_eq_true rfl | omega) hm hs ?_
      refine r_goto (tgt := 122) hc (dc_at dX10_readAtom 18 rfl) (by decide) ?_
      exact r_vret hc he (hm) (hs) (dc_at dX10_readAtom 59 rfl) hf
  · refine r_aload_n hc 0 (dc_at dX10_readAtom 4 rfl) rfl ?_
    refine r_aload_n hc 0 (dc_at dX10_readAtom 5 rfl) rfl ?_
    refine r_getI hc (dc_at dX10_readAtom 6 rfl) fl_X10_151 hf fun x15 hf => ?_
    obtain ⟨ho, hf⟩ := cO_some hf
    refine ob2 hf fun u h17 ex hf => ?_
    refine r_callVv (As := [.int x15]) (ci := 10) hc hr (dc_at dX10_readAtom 7 rfl) ml_X10_216 mv_X10_tellsCode vi_X10_tellsCode rfl ho rfl (mt_X10_tellsCode ex) (by first | exact Nat.le_of_ble_eq_true rfl | omega) (by first | exact Nat.le_of_ble_eq_true rfl | omega) (by first | exact Nat.le_of_ble_eq_true rfl | omega) hm hs ?_
    refine r_aload_n hc 0 (dc_at dX10_readAtom 8 rfl) rfl ?_
    obtain ⟨ho, hf⟩ := cO_some hf
    refine ob2 hf fun u h19 ex hf => ?_
    refine r_callVv (As := []) (ci := 10) hc hr (dc_at dX10_readAtom 9 rfl) ml_X10_165 mv_X10_next vi_X10_next rfl ho rfl (mt_X10_next ex) (by first | exact Nat.le_of_ble_eq_true rfl | omega) (by first | exact Nat.le_of_ble_eq_true rfl | omega) (by first | exact Nat.le_of_ble_eq_true rfl | omega) hm hs ?_
    refine r_goto (tgt := 122) hc (dc_at dX10_readAtom 10 rfl) (by decide) ?_
    exact r_vret hc he (hm) (hs) (dc_at dX10_readAtom 59 rfl) hf
def g_X10_readAtom (rc : PH → Nat → Int32 → Option (Unit × PH)) (F : Nat) (h : PH) (p0 : Nat) (p1 : Int32) : Option (Unit × PH) := b_X10_readAtom_0 rc F h p0 p1
theorem mg_X10_readAtom {l : Launch} {X : XT} {rc : PH → Nat → Int32 → Option (Unit × PH)} {d : Nat} {F : Nat} {h hz : PH} {p0 : Nat} {p1 : Int32} {r : Unit} (hrc : ∀ {h hz : PH} {p0 : Nat} {p1 : Int32} {r : Unit}, rc h p0 p1 = some (r, hz) → MT l X yX10_readSum cX10_readSum 3 none (3 * d + 12) (174 * d + 696) 0 0 [.ref (X.1 + p0), .int p1] h none hz) (ex : g_X10_readAtom rc F h p0 p1 = some (r, hz)) : MT l X yX10_readAtom cX10_readAtom 2 none (3 * d + 13) (174 * d + 754) 0 0 [.ref (X.1 + p0), .int p1] h none hz := MT.of (by decide) (Nat.le_of_ble_eq_true rfl) fun M hl hc hr he => by
  subst hl
  exact gg_sub [0, 1] rfl (t_X10_readAtom_0 hrc hc hr he (Nat.zero_le _) (Nat.zero_le _) ex)
/-! FractionLiftModel.readTerm(I)V -/
def lX10_readTermL : List (Nat × Instr × Nat × Nat) := [(0, .aload_n 0, 1, 1), (1, .iload_n 1, 1, 2), (2, .invokevirtual 222, 3, 5), (5, .aload_n 0, 1, 6), (6, .bipush 24, 2, 8), (8, .invokevirtual 162, 3, 11), (11, .ifCond .ne 12, 3, 14), (14, .aload_n 0, 1, 15), (15, .bipush 25, 2, 17), (17, .invokevirtual 162, 3, 20), (20, .ifCond .eq 39, 3, 23), (23, .aload_n 0, 1, 24), (24, .getfield 138, 3, 27), (27, .bipush 24, 2, 29), (29, .if_icmp .ne 9, 3, 32), (32, .sipush 3002, 3, 35), (35, .goto 6, 3, 38), (38, .sipush 3003, 3, 41), (41, .istore_n 2, 1, 42), (42, .aload_n 0, 1, 43), (43, .invokevirtual 165, 3, 46), (46, .aload_n 0, 1, 47), (47, .iload_n 1, 1, 48), (48, .invokevirtual 222, 3, 51), (51, .aload_n 0, 1, 52), (52, .iload_n 2, 1, 53), (53, .invokevirtual 216, 3, 56), (56, .goto (-51), 3, 59), (59, .return_, 1, 60)]
set_option maxRecDepth 20000 in
theorem dX10_readTerm : dcL cX10_readTerm lX10_readTermL = true := by decide +kernel
def b_X10_readTerm_41 (rc : PH → Nat → Int32 → Option (Unit × PH)) (F : Nat) (self3 : PH → Nat → Int32 → Option (Unit × PH)) (h : PH) (v0 : Nat) (v1 : Int32) (s0 : Int32) : Option (Unit × PH) := cO 10 h v0 (bind2 (m_X10_next F h v0) fun _ h2 => (cO 10 h2 v0 (bind2 (g_X10_readAtom rc F h2 v0 v1) fun _ h4 => (cO 10 h4 v0 (bind2 (m_X10_tellsCode h4 v0 s0) fun _ h6 => (self3 h6 v0 v1))))))
set_option maxRecDepth 20000 in
theorem t_X10_readTerm_41 {M : MV} {X : XT} {rc : PH → Nat → Int32 → Option (Unit × PH)} {d : Nat} {F : Nat} {self3 : PH → Nat → Int32 → Option (Unit × PH)} {h hz : PH} {r : Unit} {ce sl mc ms : Nat} {v0 : Nat} {v1 : Int32} {s0 : Int32} (hrc : ∀ {h hz : PH} {p0 : Nat} {p1 : Int32} {r : Unit}, rc h p0 p1 = some (r, hz) → MT M.2.1 X yX10_readSum cX10_readSum 3 none (3 * d + 12) (174 * d + 696) 0 0 [.ref (X.1 + p0), .int p1] h none hz) (hc : Cx M X RX10 cX10_readTerm) (hr : Rx M (3 * d + 14) (174 * d + 812) mc ms 3) (he : Ex M X none "readTerm" none hz mc ms) (hm : ce ≤ mc) (hs : sl ≤ ms) (ih3 : ∀ (h : PH) (v0 : Nat) (v1 : Int32), self3 h v0 v1 = some (r, hz) → GG M X h ce sl 5 [(0, .ref (X.1 + v0)), (1, .int v1)] []) (hf : b_X10_readTerm_41 rc F self3 h v0 v1 s0 = some (r, hz)) : GG M X h ce sl 41 [(0, .ref (X.1 + v0)), (1, .int v1)] [.int s0] := by
  unfold b_X10_readTerm_41 at hf
  refine r_istore_n [(2, .int s0), (0, .ref (X.1 + v0)), (1, .int v1)] hc hr (dc_at dX10_readTerm 18 rfl) (by decide) rfl ?_
  refine r_aload_n hc 1 (dc_at dX10_readTerm 19 rfl) rfl ?_
  obtain ⟨ho, hf⟩ := cO_some hf
  refine ob2 hf fun u h2 ex hf => ?_
  refine r_callVv (As := []) (ci := 10) hc hr (dc_at dX10_readTerm 20 rfl) ml_X10_165 mv_X10_next vi_X10_next rfl ho rfl (mt_X10_next ex) (by first | exact Nat.le_of_ble_eq_true rfl | omega) (by first | exact Nat.le_of_ble_eq_true rfl | omega) (by first | exact Nat.le_of_ble_eq_true rfl | omega) hm hs ?_
  refine r_aload_n hc 1 (dc_at dX10_readTerm 21 rfl) rfl ?_
  refine r_iload_n hc 2 (dc_at dX10_readTerm 22 rfl) rfl ?_
  obtain ⟨ho, hf⟩ := cO_some hf
  refine ob2 hf fun u h4 ex hf => ?_
  refine r_callVv (As := [.int v1]) (ci := 10) hc hr (dc_at dX10_readTerm 23 rfl) ml_X10_222 mv_X10_readAtom vi_X10_readAtom rfl ho rfl (mg_X10_readAtom hrc ex) (by first | exact Nat.le_of_ble_eq_true rfl | omega) (by first | exact Nat.le_of_ble_eq_true rfl | omega) (by first | exact Nat.le_of_ble_eq_true rfl | omega) hm hs ?_
  refine r_aload_n hc 1 (dc_at dX10_readTerm 24 rfl) rfl ?_
  refine r_iload_n hc 0 (dc_at dX10_readTerm 25 rfl) rfl ?_
  obtain ⟨ho, hf⟩ := cO_some hf
  refine ob2 hf fun u h6 ex hf => ?_
  refine r_callVv (As := [.int s0]) (ci := 10) hc hr (dc_at dX10_readTerm 26 rfl) ml_X10_216 mv_X10_tellsCode vi_X10_tellsCode rfl ho rfl (mt_X10_tellsCode ex) (by first | exact Nat.le_of_ble_eq_true rfl | omega) (by first | exact Nat.le_of_ble_eq_true rfl | omega) (by first | exact Nat.le_of_ble_eq_true rfl | omega) hm hs ?_
  refine r_goto (tgt := 5) hc (dc_at dX10_readTerm 27 rfl) (by decide) ?_
  exact gg_sub [1, 2] rfl (ih3 _ _ _ hf)
def b_X10_readTerm_23 (rc : PH → Nat → Int32 → Option (Unit × PH)) (F : Nat) (self3 : PH → Nat → Int32 → Option (Unit × PH)) (h : PH) (v0 : Nat) (v1 : Int32) : Option (Unit × PH) := (gI 10 9 h v0).bind fun x1 => (if x1 = (24 : Int32) then (b_X10_readTerm_41 rc F self3 h v0 v1 (3002 : Int32)) else (b_X10_readTerm_41 rc F self3 h v0 v1 (3003 : Int32)))
set_option maxRecDepth 20000 in
theorem t_X10_readTerm_23 {M : MV} {X : XT} {rc : PH → Nat → Int32 → Option (Unit × PH)} {d : Nat} {F : Nat} {self3 : PH → Nat → Int32 → Option (Unit × PH)} {h hz : PH} {r : Unit} {ce sl mc ms : Nat} {v0 : Nat} {v1 : Int32} (hrc : ∀ {h hz : PH} {p0 : Nat} {p1 : Int32} {r : Unit}, rc h p0 p1 = some (r, hz) → MT M.2.1 X yX10_readSum cX10_readSum 3 none (3 * d + 12) (174 * d + 696) 0 0 [.ref (X.1 + p0), .int p1] h none hz) (hc : Cx M X RX10 cX10_readTerm) (hr : Rx M (3 * d + 14) (174 * d + 812) mc ms 3) (he : Ex M X none "readTerm" none hz mc ms) (hm : ce ≤ mc) (hs : sl ≤ ms) (ih3 : ∀ (h : PH) (v0 : Nat) (v1 : Int32), self3 h v0 v1 = some (r, hz) → GG M X h ce sl 5 [(0, .ref (X.1 + v0)), (1, .int v1)] []) (hf : b_X10_readTerm_23 rc F self3 h v0 v1 = some (r, hz)) : GG M X h ce sl 23 [(0, .ref (X.1 + v0)), (1, .int v1)] [] := by
  unfold b_X10_readTerm_23 at hf
  refine r_aload_n hc 0 (dc_at dX10_readTerm 11 rfl) rfl ?_
  refine r_getI hc (dc_at dX10_readTerm 12 rfl) fl_X10_138 hf fun x1 hf => ?_
  refine r_bipush (24 : Int32) hc (dc_at dX10_readTerm 13 rfl) (by decide) ?_
  refine r_icmp_ne (tgt := 38) hc (dc_at dX10_readTerm 14 rfl) (by decide) hf (fun hf => ?_) (fun hf => ?_)
  · refine r_sipush (3003 : Int32) hc (dc_at dX10_readTerm 17 rfl) (by decide) ?_
    exact gg_sub [0, 1] rfl (t_X10_readTerm_41 hrc hc hr he hm hs ih3 hf)
  · refine r_sipush (3002 : Int32) hc (dc_at dX10_readTerm 15 rfl) (by decide) ?_
    refine r_goto (tgt := 41) hc (dc_at dX10_readTerm 16 rfl) (by decide) ?_
    exact gg_sub [0, 1] rfl (t_X10_readTerm_41 hrc hc hr he hm hs ih3 hf)
def b_X10_readTerm_5 (rc : PH → Nat → Int32 → Option (Unit × PH)) (F : Nat) (self3 : PH → Nat → Int32 → Option (Unit × PH)) (h : PH) (v0 : Nat) (v1 : Int32) : Option (Unit × PH) := cO 10 h v0 ((m_X10_is h v0 (24 : Int32)).bind fun x1 => (if x1 = 0 then (cO 10 h v0 ((m_X10_is h v0 (25 : Int32)).bind fun x2 => (if x2 = 0 then (some ((), h)) else (b_X10_readTerm_23 rc F self3 h v0 v1)))) else (b_X10_readTerm_23 rc F self3 h v0 v1)))
set_option maxRecDepth 20000 in
theorem tb_X10_readTerm_5 {M : MV} {X : XT} {rc : PH → Nat → Int32 → Option (Unit × PH)} {d : Nat} {F : Nat} {self3 : PH → Nat → Int32 → Option (Unit × PH)} {h hz : PH} {r : Unit} {ce sl mc ms : Nat} {v0 : Nat} {v1 : Int32} (hrc : ∀ {h hz : PH} {p0 : Nat} {p1 : Int32} {r : Unit}, rc h p0 p1 = some (r, hz) → MT M.2.1 X yX10_readSum cX10_readSum 3 none (3 * d + 12) (174 * d + 696) 0 0 [.ref (X.1 + p0), .int p1] h none hz) (hc : Cx M X RX10 cX10_readTerm) (hr : Rx M (3 * d + 14) (174 * d + 812) mc ms 3) (he : Ex M X none "readTerm" none hz mc ms) (hm : ce ≤ mc) (hs : sl ≤ ms) (ih3 : ∀ (h : PH) (v0 : Nat) (v1 : Int32), self3 h v0 v1 = some (r, hz) → GG M X h ce sl 5 [(0, .ref (X.1 + v0)), (1, .int v1)] []) (hf : b_X10_readTerm_5 rc F self3 h v0 v1 = some (r, hz)) : GG M X h ce sl 5 [(0, .ref (X.1 + v0)), (1, .int v1)] [] := by
  unfold b_X10_readTerm_5 at hf
  refine r_aload_n hc 0 (dc_at dX10_readTerm 3 rfl) rfl ?_
  refine r_bipush (24 : Int32) hc (dc_at dX10_readTerm 4 rfl) (by decide) ?_
  obtain ⟨ho, hf⟩ := cO_some hf
  refine ob hf fun x1 ex hf => ?_
  refine r_callVi (As := [.int ((24 : Int32))]) (ci := 10) hc hr (dc_at dX10_readTerm 5 rfl) ml_X10_162 mv_X10_is vi_X10_is rfl ho rfl (mt_X10_is ex) (by first | exact Nat.le_of_ble_eq_true rfl | omega) (by first | exact Nat.le_of_ble_eq_true rfl | omega) (by first | exact Nat.le_of_ble_eq_true rfl | omega) hm hs ?_
  refine r_if_ne (tgt := 23) hc (dc_at dX10_readTerm 6 rfl) (by decide) hf (fun hf => ?_) (fun hf => ?_)
  · exact gg_sub [0, 1] rfl (t_X10_readTerm_23 hrc hc hr he hm hs ih3 hf)
  · refine r_aload_n hc 0 (dc_at dX10_readTerm 7 rfl) rfl ?_
    refine r_bipush (25 : Int32) hc (dc_at dX10_readTerm 8 rfl) (by decide) ?_
    obtain ⟨ho, hf⟩ := cO_some hf
    refine ob hf fun x2 ex hf => ?_
    refine r_callVi (As := [.int ((25 : Int32))]) (ci := 10) hc hr (dc_at dX10_readTerm 9 rfl) ml_X10_162 mv_X10_is vi_X10_is rfl ho rfl (mt_X10_is ex) (by first | exact Nat.le_of_ble_eq_true rfl | omega) (by first | exact Nat.le_of_ble_eq_true rfl | omega) (by first | exact Nat.le_of_ble_eq_true rfl | omega) hm hs ?_
    refine r_if_eq (tgt := 59) hc (dc_at dX10_readTerm 10 rfl) (by decide) hf (fun hf => ?_) (fun hf => ?_)
    · exact r_vret hc he (hm) (hs) (dc_at dX10_readTerm 28 rfl) hf
    · exact gg_sub [0, 1] rfl (t_X10_readTerm_23 hrc hc hr he hm hs ih3 hf)
def l_X10_readTerm_5 (rc : PH → Nat → Int32 → Option (Unit × PH)) (F : Nat) : Nat → PH → Nat → Int32 → Option (Unit × PH)
  | 0 => fun _ _ _ => none
  | n + 1 => fun h v0 v1 => b_X10_readTerm_5 rc F (l_X10_readTerm_5 rc F n) h v0 v1
theorem tl_X10_readTerm_5 {M : MV} {X : XT} {rc : PH → Nat → Int32 → Option (Unit × PH)} {d : Nat} {F : Nat} {hz : PH} {r : Unit} {ce sl mc ms : Nat} (hrc : ∀ {h hz : PH} {p0 : Nat} {p1 : Int32} {r : Unit}, rc h p0 p1 = some (r, hz) → MT M.2.1 X yX10_readSum cX10_readSum 3 none (3 * d + 12) (174 * d + 696) 0 0 [.ref (X.1 + p0), .int p1] h none hz) (hc : Cx M X RX10 cX10_readTerm) (hr : Rx M (3 * d + 14) (174 * d + 812) mc ms 3) (he : Ex M X none "readTerm" none hz mc ms) (hm : ce ≤ mc) (hs : sl ≤ ms) (n : Nat) : ∀ (h : PH) (v0 : Nat) (v1 : Int32), l_X10_readTerm_5 rc F n h v0 v1 = some (r, hz) → GG M X h ce sl 5 [(0, .ref (X.1 + v0)), (1, .int v1)] [] := by
  induction n with
  | zero => intro h v0 v1 hf; cases hf
  | succ n ih => intro h v0 v1 hf; exact tb_X10_readTerm_5 (F := F) hrc hc hr he hm hs  ih hf
def b_X10_readTerm_0 (rc : PH → Nat → Int32 → Option (Unit × PH)) (F : Nat) (h : PH) (v0 : Nat) (v1 : Int32) : Option (Unit × PH) := cO 10 h v0 (bind2 (g_X10_readAtom rc F h v0 v1) fun _ h2 => (l_X10_readTerm_5 rc F F h2 v0 v1))
set_option maxRecDepth 20000 in
theorem t_X10_readTerm_0 {M : MV} {X : XT} {rc : PH → Nat → Int32 → Option (Unit × PH)} {d : Nat} {F : Nat} {h hz : PH} {r : Unit} {ce sl mc ms : Nat} {v0 : Nat} {v1 : Int32} (hrc : ∀ {h hz : PH} {p0 : Nat} {p1 : Int32} {r : Unit}, rc h p0 p1 = some (r, hz) → MT M.2.1 X yX10_readSum cX10_readSum 3 none (3 * d + 12) (174 * d + 696) 0 0 [.ref (X.1 + p0), .int p1] h none hz) (hc : Cx M X RX10 cX10_readTerm) (hr : Rx M (3 * d + 14) (174 * d + 812) mc ms 3) (he : Ex M X none "readTerm" none hz mc ms) (hm : ce ≤ mc) (hs : sl ≤ ms) (hf : b_X10_readTerm_0 rc F h v0 v1 = some (r, hz)) : GG M X h ce sl 0 [(0, .ref (X.1 + v0)), (1, .int v1)] [] := by
  unfold b_X10_readTerm_0 at hf
  refine r_aload_n hc 0 (dc_at dX10_readTerm 0 rfl) rfl ?_
  refine r_iload_n hc 1 (dc_at dX10_readTerm 1 rfl) rfl ?_
  obtain ⟨ho, hf⟩ := cO_some hf
  refine ob2 hf fun u h2 ex hf => ?_
  refine r_callVv (As := [.int v1]) (ci := 10) hc hr (dc_at dX10_readTerm 2 rfl) ml_X10_222 mv_X10_readAtom vi_X10_readAtom rfl ho rfl (mg_X10_readAtom hrc ex) (by first | exact Nat.le_of_ble_eq_true rfl | omega) (by first | exact Nat.le_of_ble_eq_true rfl | omega) (by first | exact Nat.le_of_ble_eq_true rfl | omega) hm hs ?_
  exact gg_sub [0, 1] rfl (tl_X10_readTerm_5 hrc hc hr he hm hs  F _ _ _ hf)
def g_X10_readTerm (rc : PH → Nat → Int32 → Option (Unit × PH)) (F : Nat) (h : PH) (p0 : Nat) (p1 : Int32) : Option (Unit × PH) := b_X10_readTerm_0 rc F h p0 p1
theorem mg_X10_readTerm {l : Launch} {X : XT} {rc : PH → Nat → Int32 → Option (Unit × PH)} {d : Nat} {F : Nat} {h hz : PH} {p0 : Nat} {p1 : Int32} {r : Unit} (hrc : ∀ {h hz : PH} {p0 : Nat} {p1 : Int32} {r : Unit}, rc h p0 p1 = some (r, hz) → MT l X yX10_readSum cX10_readSum 3 none (3 * d + 12) (174 * d + 696) 0 0 [.ref (X.1 + p0), .int p1] h none hz) (ex : g_X10_readTerm rc F h p0 p1 = some (r, hz)) : MT l X yX10_readTerm cX10_readTerm 3 none (3 * d + 14) (174 * d + 812) 0 0 [.ref (X.1 + p0), .int p1] h none hz := MT.of (by decide) (Nat.le_of_ble_eq_true rfl) fun M hl hc hr he => by
  subst hl
  exact gg_sub [0, 1] rfl (t_X10_readTerm_0 hrc hc hr he (Nat.zero_le _) (Nat.zero_le _) ex)
/-! FractionLiftModel.readSum(I)V -/
def lX10_readSumL : List (Nat × Instr × Nat × Nat) := [(0, .aload_n 0, 1, 1), (1, .iload_n 1, 1, 2), (2, .invokevirtual 225, 3, 5), (5, .aload_n 0, 1, 6), (6, .bipush 22, 2, 8), (8, .invokevirtual 162, 3, 11), (11, .ifCond .ne 12, 3, 14), (14, .aload_n 0, 1, 15), (15, .bipush 23, 2, 17), (17, .invokevirtual 162, 3, 20), (20, .ifCond .eq 39, 3, 23), (23, .aload_n 0, 1, 24), (24, .getfield 138, 3, 27), (27, .bipush 22, 2, 29), (29, .if_icmp .ne 9, 3, 32), (32, .sipush 3000, 3, 35), (35, .goto 6, 3, 38), (38, .sipush 3001, 3, 41), (41, .istore_n 2, 1, 42), (42, .aload_n 0, 1, 43), (43, .invokevirtual 165, 3, 46), (46, .aload_n 0, 1, 47), (47, .iload_n 1, 1, 48), (48, .invokevirtual 225, 3, 51), (51, .aload_n 0, 1, 52), (52, .iload_n 2, 1, 53), (53, .invokevirtual 216, 3, 56), (56, .goto (-51), 3, 59), (59, .return_, 1, 60)]
set_option maxRecDepth 20000 in
theorem dX10_readSum : dcL cX10_readSum lX10_readSumL = true := by decide +kernel
def b_X10_readSum_41 (rc : PH → Nat → Int32 → Option (Unit × PH)) (F : Nat) (self3 : PH → Nat → Int32 → Option (Unit × PH)) (h : PH) (v0 : Nat) (v1 : Int32) (s0 : Int32) : Option (Unit × PH) := cO 10 h v0 (bind2 (m_X10_next F h v0) fun _ h2 => (cO 10 h2 v0 (bind2 (g_X10_readTerm rc F h2 v0 v1) fun _ h4 => (cO 10 h4 v0 (bind2 (m_X10_tellsCode h4 v0 s0) fun _ h6 => (self3 h6 v0 v1))))))
set_option maxRecDepth 20000 in
theorem t_X10_readSum_41 {M : MV} {X : XT} {rc : PH → Nat → Int32 → Option (Unit × PH)} {d : Nat} {F : Nat} {self3 : PH → Nat → Int32 → Option (Unit × PH)} {h hz : PH} {r : Unit} {ce sl mc ms : Nat} {v0 : Nat} {v1 : Int32} {s0 : Int32} (hrc : ∀ {h hz : PH} {p0 : Nat} {p1 : Int32} {r : Unit}, rc h p0 p1 = some (r, hz) → MT M.2.1 X yX10_readSum cX10_readSum 3 none (3 * d + 12) (174 * d + 696) 0 0 [.ref (X.1 + p0), .int p1] h none hz) (hc : Cx M X RX10 cX10_readSum) (hr : Rx M (3 * d + 15) (174 * d + 870) mc ms 3) (he : Ex M X none "readSum" none hz mc ms) (hm : ce ≤ mc) (hs : sl ≤ ms) (ih3 : ∀ (h : PH) (v0 : Nat) (v1 : Int32), self3 h v0 v1 = some (r, hz) → GG M X h ce sl 5 [(0, .ref (X.1 + v0)), (1, .int v1)] []) (hf : b_X10_readSum_41 rc F self3 h v0 v1 s0 = some (r, hz)) : GG M X h ce sl 41 [(0, .ref (X.1 + v0)), (1, .int v1)] [.int s0] := by
  unfold b_X10_readSum_41 at hf
  refine r_istore_n [(2, .int s0), (0, .ref (X.1 + v0)), (1, .int v1)] hc hr (dc_at dX10_readSum 18 rfl) (by decide) rfl ?_
  refine r_aload_n hc 1 (dc_at dX10_readSum 19 rfl) rfl ?_
  obtain ⟨ho, hf⟩ := cO_some hf
  refine ob2 hf fun u h2 ex hf => ?_
  refine r_callVv (As := []) (ci := 10) hc hr (dc_at dX10_readSum 20 rfl) ml_X10_165 mv_X10_next vi_X10_next rfl ho rfl (mt_X10_next ex) (by first | exact Nat.le_of_ble_eq_true rfl | omega) (by first | exact Nat.le_of_ble_eq_true rfl | omega) (by first | exact Nat.le_of_ble_eq_true rfl | omega) hm hs ?_
  refine r_aload_n hc 1 (dc_at dX10_readSum 21 rfl) rfl ?_
  refine r_iload_n hc 2 (dc_at dX10_readSum 22 rfl) rfl ?_
  obtain ⟨ho, hf⟩ := cO_some hf
  refine ob2 hf fun u h4 ex hf => ?_
  refine r_callVv (As := [.int v1]) (ci := 10) hc hr (dc_at dX10_readSum 23 rfl) ml_X10_225 mv_X10_readTerm vi_X10_readTerm rfl ho rfl (mg_X10_readTerm hrc ex) (by first | exact Nat.le_of_ble_eq_true rfl | omega) (by first | exact Nat.le_of_ble_eq_true rfl | omega) (by first | exact Nat.le_of_ble_eq_true rfl | omega) hm hs ?_
  refine r_aload_n hc 1 (dc_at dX10_readSum 24 rfl) rfl ?_
  refine r_iload_n hc 0 (dc_at dX10_readSum 25 rfl) rfl ?_
  obtain ⟨ho, hf⟩ := cO_some hf
  refine ob2 hf fun u h6 ex hf => ?_
  refine r_callVv (As := [.int s0]) (ci := 10) hc hr (dc_at dX10_readSum 26 rfl) ml_X10_216 mv_X10_tellsCode vi_X10_tellsCode rfl ho rfl (mt_X10_tellsCode ex) (by first | exact Nat.le_of_ble_eq_true rfl | omega) (by first | exact Nat.le_of_ble_eq_true rfl | omega) (by first | exact Nat.le_of_ble_eq_true rfl | omega) hm hs ?_
  refine r_goto (tgt := 5) hc (dc_at dX10_readSum 27 rfl) (by decide) ?_
  exact gg_sub [1, 2] rfl (ih3 _ _ _ hf)
def b_X10_readSum_23 (rc : PH → Nat → Int32 → Option (Unit × PH)) (F : Nat) (self3 : PH → Nat → Int32 → Option (Unit × PH)) (h : PH) (v0 : Nat) (v1 : Int32) : Option (Unit × PH) := (gI 10 9 h v0).bind fun x1 => (if x1 = (22 : Int32) then (b_X10_readSum_41 rc F self3 h v0 v1 (3000 : Int32)) else (b_X10_readSum_41 rc F self3 h v0 v1 (3001 : Int32)))
set_option maxRecDepth 20000 in
theorem t_X10_readSum_23 {M : MV} {X : XT} {rc : PH → Nat → Int32 → Option (Unit × PH)} {d : Nat} {F : Nat} {self3 : PH → Nat → Int32 → Option (Unit × PH)} {h hz : PH} {r : Unit} {ce sl mc ms : Nat} {v0 : Nat} {v1 : Int32} (hrc : ∀ {h hz : PH} {p0 : Nat} {p1 : Int32} {r : Unit}, rc h p0 p1 = some (r, hz) → MT M.2.1 X yX10_readSum cX10_readSum 3 none (3 * d + 12) (174 * d + 696) 0 0 [.ref (X.1 + p0), .int p1] h none hz) (hc : Cx M X RX10 cX10_readSum) (hr : Rx M (3 * d + 15) (174 * d + 870) mc ms 3) (he : Ex M X none "readSum" none hz mc ms) (hm : ce ≤ mc) (hs : sl ≤ ms) (ih3 : ∀ (h : PH) (v0 : Nat) (v1 : Int32), self3 h v0 v1 = some (r, hz) → GG M X h ce sl 5 [(0, .ref (X.1 + v0)), (1, .int v1)] []) (hf : b_X10_readSum_23 rc F self3 h v0 v1 = some (r, hz)) : GG M X h ce sl 23 [(0, .ref (X.1 + v0)), (1, .int v1)] [] := by
  unfold b_X10_readSum_23 at hf
  refine r_aload_n hc 0 (dc_at dX10_readSum 11 rfl) rfl ?_
  refine r_getI hc (dc_at dX10_readSum 12 rfl) fl_X10_138 hf fun x1 hf => ?_
  refine r_bipush (22 : Int32) hc (dc_at dX10_readSum 13 rfl) (by decide) ?_
  refine r_icmp_ne (tgt := 38) hc (dc_at dX10_readSum 14 rfl) (by decide) hf (fun hf => ?_) (fun hf => ?_)
  · refine r_sipush (3001 : Int32) hc (dc_at dX10_readSum 17 rfl) (by decide) ?_
    exact gg_sub [0, 1] rfl (t_X10_readSum_41 hrc hc hr he hm hs ih3 hf)
  · refine r_sipush (3000 : Int32) hc (dc_at dX10_readSum 15 rfl) (by decide) ?_
    refine r_goto (tgt := 41) hc (dc_at dX10_readSum 16 rfl) (by decide) ?_
    exact gg_sub [0, 1] rfl (t_X10_readSum_41 hrc hc hr he hm hs ih3 hf)
def b_X10_readSum_5 (rc : PH → Nat → Int32 → Option (Unit × PH)) (F : Nat) (self3 : PH → Nat → Int32 → Option (Unit × PH)) (h : PH) (v0 : Nat) (v1 : Int32) : Option (Unit × PH) := cO 10 h v0 ((m_X10_is h v0 (22 : Int32)).bind fun x1 => (if x1 = 0 then (cO 10 h v0 ((m_X10_is h v0 (23 : Int32)).bind fun x2 => (if x2 = 0 then (some ((), h)) else (b_X10_readSum_23 rc F self3 h v0 v1)))) else (b_X10_readSum_23 rc F self3 h v0 v1)))
set_option maxRecDepth 20000 in
theorem tb_X10_readSum_5 {M : MV} {X : XT} {rc : PH → Nat → Int32 → Option (Unit × PH)} {d : Nat} {F : Nat} {self3 : PH → Nat → Int32 → Option (Unit × PH)} {h hz : PH} {r : Unit} {ce sl mc ms : Nat} {v0 : Nat} {v1 : Int32} (hrc : ∀ {h hz : PH} {p0 : Nat} {p1 : Int32} {r : Unit}, rc h p0 p1 = some (r, hz) → MT M.2.1 X yX10_readSum cX10_readSum 3 none (3 * d + 12) (174 * d + 696) 0 0 [.ref (X.1 + p0), .int p1] h none hz) (hc : Cx M X RX10 cX10_readSum) (hr : Rx M (3 * d + 15) (174 * d + 870) mc ms 3) (he : Ex M X none "readSum" none hz mc ms) (hm : ce ≤ mc) (hs : sl ≤ ms) (ih3 : ∀ (h : PH) (v0 : Nat) (v1 : Int32), self3 h v0 v1 = some (r, hz) → GG M X h ce sl 5 [(0, .ref (X.1 + v0)), (1, .int v1)] []) (hf : b_X10_readSum_5 rc F self3 h v0 v1 = some (r, hz)) : GG M X h ce sl 5 [(0, .ref (X.1 + v0)), (1, .int v1)] [] := by
  unfold b_X10_readSum_5 at hf
  refine r_aload_n hc 0 (dc_at dX10_readSum 3 rfl) rfl ?_
  refine r_bipush (22 : Int32) hc (dc_at dX10_readSum 4 rfl) (by decide) ?_
  obtain ⟨ho, hf⟩ := cO_some hf
  refine ob hf fun x1 ex hf => ?_
  refine r_callVi (As := [.int ((22 : Int32))]) (ci := 10) hc hr (dc_at dX10_readSum 5 rfl) ml_X10_162 mv_X10_is vi_X10_is rfl ho rfl (mt_X10_is ex) (by first | exact Nat.le_of_ble_eq_true rfl | omega) (by first | exact Nat.le_of_ble_eq_true rfl | omega) (by first | exact Nat.le_of_ble_eq_true rfl | omega) hm hs ?_
  refine r_if_ne (tgt := 23) hc (dc_at dX10_readSum 6 rfl) (by decide) hf (fun hf => ?_) (fun hf => ?_)
  · exact gg_sub [0, 1] rfl (t_X10_readSum_23 hrc hc hr he hm hs ih3 hf)
  · refine r_aload_n hc 0 (dc_at dX10_readSum 7 rfl) rfl ?_
    refine r_bipush (23 : Int32) hc (dc_at dX10_readSum 8 rfl) (by decide) ?_
    obtain ⟨ho, hf⟩ := cO_some hf
    refine ob hf fun x2 ex hf => ?_
    refine r_callVi (As := [.int ((23 : Int32))]) (ci := 10) hc hr (dc_at dX10_readSum 9 rfl) ml_X10_162 mv_X10_is vi_X10_is rfl ho rfl (mt_X10_is ex) (by first | exact Nat.le_of_ble_eq_true rfl | omega) (by first | exact Nat.le_of_ble_eq_true rfl | omega) (by first | exact Nat.le_of_ble_eq_true rfl | omega) hm hs ?_
    refine r_if_eq (tgt := 59) hc (dc_at dX10_readSum 10 rfl) (by decide) hf (fun hf => ?_) (fun hf => ?_)
    · exact r_vret hc he (hm) (hs) (dc_at dX10_readSum 28 rfl) hf
    · exact gg_sub [0, 1] rfl (t_X10_readSum_23 hrc hc hr he hm hs ih3 hf)
def l_X10_readSum_5 (rc : PH → Nat → Int32 → Option (Unit × PH)) (F : Nat) : Nat → PH → Nat → Int32 → Option (Unit × PH)
  | 0 => fun _ _ _ => none
  | n + 1 => fun h v0 v1 => b_X10_readSum_5 rc F (l_X10_readSum_5 rc F n) h v0 v1
theorem tl_X10_readSum_5 {M : MV} {X : XT} {rc : PH → Nat → Int32 → Option (Unit × PH)} {d : Nat} {F : Nat} {hz : PH} {r : Unit} {ce sl mc ms : Nat} (hrc : ∀ {h hz : PH} {p0 : Nat} {p1 : Int32} {r : Unit}, rc h p0 p1 = some (r, hz) → MT M.2.1 X yX10_readSum cX10_readSum 3 none (3 * d + 12) (174 * d + 696) 0 0 [.ref (X.1 + p0), .int p1] h none hz) (hc : Cx M X RX10 cX10_readSum) (hr : Rx M (3 * d + 15) (174 * d + 870) mc ms 3) (he : Ex M X none "readSum" none hz mc ms) (hm : ce ≤ mc) (hs : sl ≤ ms) (n : Nat) : ∀ (h : PH) (v0 : Nat) (v1 : Int32), l_X10_readSum_5 rc F n h v0 v1 = some (r, hz) → GG M X h ce sl 5 [(0, .ref (X.1 + v0)), (1, .int v1)] [] := by
  induction n with
  | zero => intro h v0 v1 hf; cases hf
  | succ n ih => intro h v0 v1 hf; exact tb_X10_readSum_5 (F := F) hrc hc hr he hm hs  ih hf
def b_X10_readSum_0 (rc : PH → Nat → Int32 → Option (Unit × PH)) (F : Nat) (h : PH) (v0 : Nat) (v1 : Int32) : Option (Unit × PH) := cO 10 h v0 (bind2 (g_X10_readTerm rc F h v0 v1) fun _ h2 => (l_X10_readSum_5 rc F F h2 v0 v1))
set_option maxRecDepth 20000 in
theorem t_X10_readSum_0 {M : MV} {X : XT} {rc : PH → Nat → Int32 → Option (Unit × PH)} {d : Nat} {F : Nat} {h hz : PH} {r : Unit} {ce sl mc ms : Nat} {v0 : Nat} {v1 : Int32} (hrc : ∀ {h hz : PH} {p0 : Nat} {p1 : Int32} {r : Unit}, rc h p0 p1 = some (r, hz) → MT M.2.1 X yX10_readSum cX10_readSum 3 none (3 * d + 12) (174 * d + 696) 0 0 [.ref (X.1 + p0), .int p1] h none hz) (hc : Cx M X RX10 cX10_readSum) (hr : Rx M (3 * d + 15) (174 * d + 870) mc ms 3) (he : Ex M X none "readSum" none hz mc ms) (hm : ce ≤ mc) (hs : sl ≤ ms) (hf : b_X10_readSum_0 rc F h v0 v1 = some (r, hz)) : GG M X h ce sl 0 [(0, .ref (X.1 + v0)), (1, .int v1)] [] := by
  unfold b_X10_readSum_0 at hf
  refine r_aload_n hc 0 (dc_at dX10_readSum 0 rfl) rfl ?_
  refine r_iload_n hc 1 (dc_at dX10_readSum 1 rfl) rfl ?_
  obtain ⟨ho, hf⟩ := cO_some hf
  refine ob2 hf fun u h2 ex hf => ?_
  refine r_callVv (As := [.int v1]) (ci := 10) hc hr (dc_at dX10_readSum 2 rfl) ml_X10_225 mv_X10_readTerm vi_X10_readTerm rfl ho rfl (mg_X10_readTerm hrc ex) (by first | exact Nat.le_of_ble_eq_true rfl | omega) (by first | exact Nat.le_of_ble_eq_true rfl | omega) (by first | exact Nat.le_of_ble_eq_true rfl | omega) hm hs ?_
  exact gg_sub [0, 1] rfl (tl_X10_readSum_5 hrc hc hr he hm hs  F _ _ _ hf)
def g_X10_readSum (rc : PH → Nat → Int32 → Option (Unit × PH)) (F : Nat) (h : PH) (p0 : Nat) (p1 : Int32) : Option (Unit × PH) := b_X10_readSum_0 rc F h p0 p1
theorem mg_X10_readSum {l : Launch} {X : XT} {rc : PH → Nat → Int32 → Option (Unit × PH)} {d : Nat} {F : Nat} {h hz : PH} {p0 : Nat} {p1 : Int32} {r : Unit} (hrc : ∀ {h hz : PH} {p0 : Nat} {p1 : Int32} {r : Unit}, rc h p0 p1 = some (r, hz) → MT l X yX10_readSum cX10_readSum 3 none (3 * d + 12) (174 * d + 696) 0 0 [.ref (X.1 + p0), .int p1] h none hz) (ex : g_X10_readSum rc F h p0 p1 = some (r, hz)) : MT l X yX10_readSum cX10_readSum 3 none (3 * d + 15) (174 * d + 870) 0 0 [.ref (X.1 + p0), .int p1] h none hz := MT.of (by decide) (Nat.le_of_ble_eq_true rfl) fun M hl hc hr he => by
  subst hl
  exact gg_sub [0, 1] rfl (t_X10_readSum_0 hrc hc hr he (Nat.zero_le _) (Nat.zero_le _) ex)
def m_X10_readSum (F : Nat) : Nat → PH → Nat → Int32 → Option (Unit × PH)
  | 0 => fun _ _ _ => none
  | d + 1 => fun h p0 p1 => g_X10_readSum (m_X10_readSum F d) F h p0 p1
theorem mr_X10_readSum {l : Launch} {X : XT} {F : Nat} (d : Nat) : ∀ {h hz : PH} {p0 : Nat} {p1 : Int32} {r : Unit}, m_X10_readSum F d h p0 p1 = some (r, hz) → MT l X yX10_readSum cX10_readSum 3 none (3 * d + 12) (174 * d + 696) 0 0 [.ref (X.1 + p0), .int p1] h none hz := by
  induction d with
  | zero => intro _ _ _ _ _ hf; cases hf
  | succ d ih => intro _ _ _ _ _ hf; exact (show 3 * (d + 1) + 12 = 3 * d + 15 by omega) ▸ (show 174 * (d + 1) + 696 = 174 * d + 870 by omega) ▸ mg_X10_readSum ih hf
theorem mt_X10_readSum {l : Launch} {X : XT} {F : Nat} {h hz : PH} {p0 : Nat} {p1 : Int32} {r : Unit} (ex : m_X10_readSum F 10 h p0 p1 = some (r, hz)) : MT l X yX10_readSum cX10_readSum 3 none 42 2436 0 0 [.ref (X.1 + p0), .int p1] h none hz := mr_X10_readSum 10 ex
/-! FractionLiftModel.readButton()V -/
def lX10_readButtonL : List (Nat × Instr × Nat × Nat) := [(0, .aload_n 0, 1, 1), (1, .getfield 24, 3, 4), (4, .iconst 2, 1, 5), (5, .iaload, 1, 6), (6, .istore_n 1, 1, 7), (7, .iload_n 1, 1, 8), (8, .bipush 6, 2, 10), (10, .if_icmp .ne 8, 3, 13), (13, .aload_n 0, 1, 14), (14, .iconst 4, 1, 15), (15, .invokevirtual 168, 3, 18), (18, .aload_n 0, 1, 19), (19, .getfield 156, 3, 22), (22, .ifCond .eq 4, 3, 25), (25, .return_, 1, 26), (26, .aload_n 0, 1, 27), (27, .invokevirtual 165, 3, 30), (30, .aload_n 0, 1, 31), (31, .bipush 21, 2, 33), (33, .invokevirtual 191, 3, 36), (36, .ifCond .ne 8, 3, 39), (39, .aload_n 0, 1, 40), (40, .iconst 2, 1, 41), (41, .invokevirtual 168, 3, 44), (44, .aload_n 0, 1, 45), (45, .getfield 24, 3, 48), (48, .bipush 98, 2, 50), (50, .iaload, 1, 51), (51, .istore_n 2, 1, 52), (52, .aload_n 0, 1, 53), (53, .iconst 0, 1, 54), (54, .invokevirtual 219, 3, 57), (57, .aload_n 0, 1, 58), (58, .getfield 156, 3, 61), (61, .ifCond .eq 4, 3, 64), (64, .return_, 1, 65), (65, .aload_n 0, 1, 66), (66, .getfield 24, 3, 69), (69, .bipush 61, 2, 71), (71, .iload_n 1, 1, 72), (72, .iadd, 1, 73), (73, .iload_n 2, 1, 74), (74, .iastore, 1, 75), (75, .aload_n 0, 1, 76), (76, .getfield 24, 3, 79), (79, .bipush 67, 2, 81), (81, .iload_n 1, 1, 82), (82, .iadd, 1, 83), (83, .aload_n 0, 1, 84), (84, .getfield 24, 3, 87), (87, .bipush 98, 2, 89), (89, .iaload, 1, 90), (90, .iload_n 2, 1, 91), (91, .isub, 1, 92), (92, .iastore, 1, 93), (93, .aload_n 0, 1, 94), (94, .getfield 24, 3, 97), (97, .iconst 2, 1, 98), (98, .dup2, 1, 99), (99, .iaload, 1, 100), (100, .iconst 1, 1, 101), (101, .iadd, 1, 102), (102, .iastore, 1, 103), (103, .return_, 1, 104)]
set_option maxRecDepth 20000 in
theorem dX10_readButton : dcL cX10_readButton lX10_readButtonL = true := by decide +kernel
def b_X10_readButton_44 (F : Nat) (h : PH) (v0 : Nat) (v1 : Int32) : Option (Unit × PH) := (gR 10 4 h v0).bind fun a1 => ((aI 0 h a1 (98 : Int32)).bind fun x2 => (cO 10 h v0 (bind2 (m_X10_readSum F 10 h v0 (0 : Int32)) fun _ h4 => ((gI 10 11 h4 v0).bind fun x5 => (if x5 = 0 then ((gR 10 4 h4 v0).bind fun a6 => ((sI 0 h4 a6 (((61 : Int32) + v1)) x2).bind fun h7 => ((gR 10 4 h7 v0).bind fun a8 => ((gR 10 4 h7 v0).bind fun a9 => ((aI 0 h7 a9 (98 : Int32)).bind fun x10 => ((sI 0 h7 a8 (((67 : Int32) + v1)) (x10 - x2)).bind fun h11 => ((gR 10 4 h11 v0).bind fun a12 => ((aI 0 h11 a12 (2 : Int32)).bind fun x13 => ((sI 0 h11 a12 (2 : Int32) ((x13 + (1 : Int32)))).bind fun h14 => (some ((), h14))))))))))) else (some ((), h4)))))))
set_option maxRecDepth 20000 in
theorem t_X10_readButton_44 {M : MV} {X : XT} {F : Nat} {h hz : PH} {r : Unit} {ce sl mc ms : Nat} {v0 : Nat} {v1 : Int32} (hc : Cx M X RX10 cX10_readButton) (hr : Rx M 43 2494 mc ms 3) (he : Ex M X none "readButton" none hz mc ms) (hm : ce ≤ mc) (hs : sl ≤ ms) (hf : b_X10_readButton_44 F h v0 v1 = some (r, hz)) : GG M X h ce sl 44 [(0, .ref (X.1 + v0)), (1, .int v1)] [] := by
  unfold b_X10_readButton_44 at hf
  refine r_aload_n hc 0 (dc_at dX10_readButton 24 rfl) rfl ?_
  refine r_getR hc (dc_at dX10_readButton 25 rfl) fl_X10_24 hf fun a1 hf => ?_
  refine r_bipush (98 : Int32) hc (dc_at dX10_readButton 26 rfl) (by decide) ?_
  refine r_iaload hc (dc_at dX10_readButton 27 rfl) hf fun x2 hf => ?_
  refine r_istore_n [(2, .int x2), (0, .ref (X.1 + v0)), (1, .int v1)] hc hr (dc_at dX10_readButton 28 rfl) (by decide) rfl ?_
  refine r_aload_n hc 1 (dc_at dX10_readButton 29 rfl) rfl ?_
  refine r_iconst (0 : Int32) hc (dc_at dX10_readButton 30 rfl) (by decide) ?_
  obtain ⟨ho, hf⟩ := cO_some hf
  refine ob2 hf fun u h4 ex hf => ?_
  refine r_callVv (As := [.int ((0 : Int32))]) (ci := 10) hc hr (dc_at dX10_readButton 31 rfl) ml_X10_219 mv_X10_readSum vi_X10_readSum rfl ho rfl (mt_X10_readSum ex) (by first | exact Nat.le_of_ble_eq_true rfl | omega) (by first | exact Nat.le_of_ble_eq_true rfl | omega) (by first | exact Nat.le_of_ble_eq_true rfl | omega) hm hs ?_
  refine r_aload_n hc 1 (dc_at dX10_readButton 32 rfl) rfl ?_
  refine r_getI hc (dc_at dX10_readButton 33 rfl) fl_X10_156 hf fun x5 hf => ?_
  refine r_if_eq (tgt := 65) hc (dc_at dX10_readButton 34 rfl) (by decide) hf (fun hf => ?_) (fun hf => ?_)
  · refine r_aload_n hc 1 (dc_at dX10_readButton 36 rfl) rfl ?_
    refine r_getR hc (dc_at dX10_readButton 37 rfl) fl_X10_24 hf fun a6 hf => ?_
    refine r_bipush (61 : Int32) hc (dc_at dX10_readButton 38 rfl) (by decide) ?_
    refine r_iload_n hc 2 (dc_at dX10_readButton 39 rfl) rfl ?_
    refine r_iadd hc (dc_at dX10_readButton 40 rfl) ?_
    refine r_iload_n hc 0 (dc_at dX10_readButton 41 rfl) rfl ?_
    refine r_iastore hc (dc_at dX10_readButton 42 rfl) hf fun h7 hf => ?_
    refine r_aload_n hc 1 (dc_at dX10_readButton 43 rfl) rfl ?_
    refine r_getR hc (dc_at dX10_readButton 44 rfl) fl_X10_24 hf fun a8 hf => ?_
    refine r_bipush (67 : Int32) hc (dc_at dX10_readButton 45 rfl) (by decide) ?_
    refine r_iload_n hc 2 (dc_at dX10_readButton 46 rfl) rfl ?_
    refine r_iadd hc (dc_at dX10_readButton 47 rfl) ?_
    refine r_aload_n hc 1 (dc_at dX10_readButton 48 rfl) rfl ?_
    refine r_getR hc (dc_at dX10_readButton 49 rfl) fl_X10_24 hf fun a9 hf => ?_
    refine r_bipush (98 : Int32) hc (dc_at dX10_readButton 50 rfl) (by decide) ?_
    refine r_iaload hc (dc_at dX10_readButton 51 rfl) hf fun x10 hf => ?_
    refine r_iload_n hc 0 (dc_at dX10_readButton 52 rfl) rfl ?_
    refine r_isub hc (dc_at dX10_readButton 53 rfl) ?_
    refine r_iastore hc (dc_at dX10_readButton 54 rfl) hf fun h11 hf => ?_
    refine r_aload_n hc 1 (dc_at dX10_readButton 55 rfl) rfl ?_
    refine r_getR hc (dc_at dX10_readButton 56 rfl) fl_X10_24 hf fun a12 hf => ?_
    refine r_iconst (2 : Int32) hc (dc_at dX10_readButton 57 rfl) (by decide) ?_
    refine r_dup2 hc (dc_at dX10_readButton 58 rfl) rfl rfl ?_
    refine r_iaload hc (dc_at dX10_readButton 59 rfl) hf fun x13 hf => ?_
    refine r_iconst (1 : Int32) hc (dc_at dX10_readButton 60 rfl) (by decide) ?_
    refine r_iadd hc (dc_at dX10_readButton 61 rfl) ?_
    refine r_iastore hc (dc_at dX10_readButton 62 rfl) hf fun h14 hf => ?_
    exact r_vret hc he (hm) (hs) (dc_at dX10_readButton 63 rfl) hf
  · exact r_vret hc he (hm) (hs) (dc_at dX10_readButton 35 rfl) hf
def b_X10_readButton_18 (F : Nat) (h : PH) (v0 : Nat) (v1 : Int32) : Option (Unit × PH) := (gI 10 11 h v0).bind fun x1 => (if x1 = 0 then (cO 10 h v0 (bind2 (m_X10_next F h v0) fun _ h3 => (cO 10 h3 v0 (bind2 (m_X10_eats F h3 v0 (21 : Int32)) fun x4 h5 => (if x4 = 0 then (cO 10 h5 v0 (bind2 (m_X10_fails h5 v0 (2 : Int32)) fun _ h7 => (b_X10_readButton_44 F h7 v0 v1))) else (b_X10_readButton_44 F h5 v0 v1)))))) else (some ((), h)))
set_option maxRecDepth 20000 in
theorem t_X10_readButton_18 {M : MV} {X : XT} {F : Nat} {h hz : PH} {r : Unit} {ce sl mc ms : Nat} {v0 : Nat} {v1 : Int32} (hc : Cx M X RX10 cX10_readButton) (hr : Rx M 43 2494 mc ms 3) (he : Ex M X none "readButton" none hz mc ms) (hm : ce ≤ mc) (hs : sl ≤ ms) (hf : b_X10_readButton_18 F h v0 v1 = some (r, hz)) : GG M X h ce sl 18 [(0, .ref (X.1 + v0)), (1, .int v1)] [] := by
  unfold b_X10_readButton_18 at hf
  refine r_aload_n hc 0 (dc_at dX10_readButton 11 rfl) rfl ?_
  refine r_getI hc (dc_at dX10_readButton 12 rfl) fl_X10_156 hf fun x1 hf => ?_
  refine r_if_eq (tgt := 26) hc (dc_at dX10_readButton 13 rfl) (by decide) hf (fun hf => ?_) (fun hf => ?_)
  · refine r_aload_n hc 0 (dc_at dX10_readButton 15 rfl) rfl ?_
    obtain ⟨ho, hf⟩ := cO_some hf
    refine ob2 hf fun u h3 ex hf => ?_
    refine r_callVv (As := []) (ci := 10) hc hr (dc_at dX10_readButton 16 rfl) ml_X10_165 mv_X10_next vi_X10_next rfl ho rfl (mt_X10_next ex) (by first | exact Nat.le_of_ble_eq_true rfl | omega) (by first | exact Nat.le_of_ble_eq_true rfl | omega) (by first | exact Nat.le_of_ble_eq_true rfl | omega) hm hs ?_
    refine r_aload_n hc 0 (dc_at dX10_readButton 17 rfl) rfl ?_
    refine r_bipush (21 : Int32) hc (dc_at dX10_readButton 18 rfl) (by decide) ?_
    obtain ⟨ho, hf⟩ := cO_some hf
    refine ob2 hf fun x4 h5 ex hf => ?_
    refine r_callVi (As := [.int ((21 : Int32))]) (ci := 10) hc hr (dc_at dX10_readButton 19 rfl) ml_X10_191 mv_X10_eats vi_X10_eats rfl ho rfl (mt_X10_eats ex) (by first | exact Nat.le_of_ble_eq_true rfl | omega) (by first | exact Nat.le_of_ble_eq_true rfl | omega) (by first | exact Nat.le_of_ble_eq_true rfl | omega) hm hs ?_
    refine r_if_ne (tgt := 44) hc (dc_at dX10_readButton 20 rfl) (by decide) hf (fun hf => ?_) (fun hf => ?_)
    · exact gg_sub [0, 1] rfl (t_X10_readButton_44 hc hr he hm hs  hf)
    · refine r_aload_n hc 0 (dc_at dX10_readButton 21 rfl) rfl ?_
      refine r_iconst (2 : Int32) hc (dc_at dX10_readButton 22 rfl) (by decide) ?_
      obtain ⟨ho, hf⟩ := cO_some hf
      refine ob2 hf fun u h7 ex hf => ?_
      refine r_callVv (As := [.int ((2 : Int32))]) (ci := 10) hc hr (dc_at dX10_readButton 23 rfl) ml_X10_168 mv_X10_fails vi_X10_fails rfl ho rfl (mt_X10_fails ex) (by first | exact Nat.le_of_ble_eq_true rfl | omega) (by first | exact Nat.le_of_ble_eq_true rfl | omega) (by first | exact Nat.le_of_ble_eq_true rfl | omega) hm hs ?_
      exact gg_sub [0, 1] rfl (t_X10_readButton_44 hc hr he hm hs  hf)
  · exact r_vret hc he (hm) (hs) (dc_at dX10_readButton 14 rfl) hf
def b_X10_readButton_0 (F : Nat) (h : PH) (v0 : Nat) : Option (Unit × PH) := (gR 10 4 h v0).bind fun a1 => ((aI 0 h a1 (2 : Int32)).bind fun x2 => (if x2 = (6 : Int32) then (cO 10 h v0 (bind2 (m_X10_fails h v0 (4 : Int32)) fun _ h4 => (b_X10_readButton_18 F h4 v0 x2))) else (b_X10_readButton_18 F h v0 x2)))
set_option maxRecDepth 20000 in
theorem t_X10_readButton_0 {M : MV} {X : XT} {F : Nat} {h hz : PH} {r : Unit} {ce sl mc ms : Nat} {v0 : Nat} (hc : Cx M X RX10 cX10_readButton) (hr : Rx M 43 2494 mc ms 3) (he : Ex M X none "readButton" none hz mc ms) (hm : ce ≤ mc) (hs : sl ≤ ms) (hf : b_X10_readButton_0 F h v0 = some (r, hz)) : GG M X h ce sl 0 [(0, .ref (X.1 + v0))] [] := by
  unfold b_X10_readButton_0 at hf
  refine r_aload_n hc 0 (dc_at dX10_readButton 0 rfl) rfl ?_
  refine r_getR hc (dc_at dX10_readButton 1 rfl) fl_X10_24 hf fun a1 hf => ?_
  refine r_iconst (2 : Int32) hc (dc_at dX10_readButton 2 rfl) (by decide) ?_
  refine r_iaload hc (dc_at dX10_readButton 3 rfl) hf fun x2 hf => ?_
  refine r_istore_n [(1, .int x2), (0, .ref (X.1 + v0))] hc hr (dc_at dX10_readButton 4 rfl) (by decide) rfl ?_
  refine r_iload_n hc 0 (dc_at dX10_readButton 5 rfl) rfl ?_
  refine r_bipush (6 : Int32) hc (dc_at dX10_readButton 6 rfl) (by decide) ?_
  refine r_icmp_ne (tgt := 18) hc (dc_at dX10_readButton 7 rfl) (by decide) hf (fun hf => ?_) (fun hf => ?_)
  · exact gg_sub [1, 0] rfl (t_X10_readButton_18 hc hr he hm hs  hf)
  · refine r_aload_n hc 1 (dc_at dX10_readButton 8 rfl) rfl ?_
    refine r_iconst (4 : Int32) hc (dc_at dX10_readButton 9 rfl) (by decide) ?_
    obtain ⟨ho, hf⟩ := cO_some hf
    refine ob2 hf fun u h4 ex hf => ?_
    refine r_callVv (As := [.int ((4 : Int32))]) (ci := 10) hc hr (dc_at dX10_readButton 10 rfl) ml_X10_168 mv_X10_fails vi_X10_fails rfl ho rfl (mt_X10_fails ex) (by first | exact Nat.le_of_ble_eq_true rfl | omega) (by first | exact Nat.le_of_ble_eq_true rfl | omega) (by first | exact Nat.le_of_ble_eq_true rfl | omega) hm hs ?_
    exact gg_sub [1, 0] rfl (t_X10_readButton_18 hc hr he hm hs  hf)
def m_X10_readButton (F : Nat) (h : PH) (p0 : Nat) : Option (Unit × PH) := b_X10_readButton_0 F h p0
theorem mt_X10_readButton {l : Launch} {X : XT} {F : Nat} {h hz : PH} {p0 : Nat} {r : Unit} (ex : m_X10_readButton F h p0 = some (r, hz)) : MT l X yX10_readButton cX10_readButton 3 none 43 2494 0 0 [.ref (X.1 + p0)] h none hz := MT.of (by decide) (Nat.le_of_ble_eq_true rfl) fun M hl hc hr he => by
  subst hl
  exact gg_sub [0] rfl (t_X10_readButton_0  hc hr he (Nat.zero_le _) (Nat.zero_le _) ex)
/-! FractionLiftModel.readLine()V -/
def lX10_readLineL : List (Nat × Instr × Nat × Nat) := [(0, .aload_n 0, 1, 1), (1, .iconst 0, 1, 2), (2, .invokevirtual 162, 3, 5), (5, .ifCond .eq 30, 3, 8), (8, .aload_n 0, 1, 9), (9, .getfield 213, 3, 12), (12, .ifCond .ne 23, 3, 15), (15, .aload_n 0, 1, 16), (16, .invokevirtual 165, 3, 19), (19, .aload_n 0, 1, 20), (20, .getfield 24, 3, 23), (23, .iconst 1, 1, 24), (24, .aload_n 0, 1, 25), (25, .iconst 1, 1, 26), (26, .bipush 9, 2, 28), (28, .invokevirtual 187, 3, 31), (31, .iastore, 1, 32), (32, .goto 107, 3, 35), (35, .aload_n 0, 1, 36), (36, .iconst 1, 1, 37), (37, .invokevirtual 162, 3, 40), (40, .ifCond .eq 10, 3, 43), (43, .aload_n 0, 1, 44), (44, .invokevirtual 228, 3, 47), (47, .goto 92, 3, 50), (50, .aload_n 0, 1, 51), (51, .iconst 2, 1, 52), (52, .invokevirtual 162, 3, 55), (55, .ifCond .eq 15, 3, 58), (58, .aload_n 0, 1, 59), (59, .invokevirtual 231, 3, 62), (62, .aload_n 0, 1, 63), (63, .iconst 1, 1, 64), (64, .putfield 213, 3, 67), (67, .goto 72, 3, 70), (70, .aload_n 0, 1, 71), (71, .iconst 4, 1, 72), (72, .invokevirtual 162, 3, 75), (75, .ifCond .eq 10, 3, 78), (78, .aload_n 0, 1, 79), (79, .invokevirtual 234, 3, 82), (82, .goto 57, 3, 85), (85, .aload_n 0, 1, 86), (86, .iconst 5, 1, 87), (87, .invokevirtual 191, 3, 90), (90, .ifCond .eq 19, 3, 93), (93, .aload_n 0, 1, 94), (94, .bipush 7, 2, 96), (96, .bipush 8, 2, 98), (98, .invokevirtual 209, 3, 101), (101, .aload_n 0, 1, 102), (102, .iconst 1, 1, 103), (103, .putfield 213, 3, 106), (106, .goto 33, 3, 109), (109, .aload_n 0, 1, 110), (110, .bipush 6, 2, 112), (112, .invokevirtual 191, 3, 115), (115, .ifCond .eq 19, 3, 118), (118, .aload_n 0, 1, 119), (119, .getfield 24, 3, 122), (122, .iconst 5, 1, 123), (123, .aload_n 0, 1, 124), (124, .iconst 0, 1, 125), (125, .bipush 9, 2, 127), (127, .invokevirtual 187, 3, 130), (130, .iastore, 1, 131), (131, .goto 8, 3, 134), (134, .aload_n 0, 1, 135), (135, .iconst 2, 1, 136), (136, .invokevirtual 168, 3, 139), (139, .return_, 1, 140)]
set_option maxRecDepth 20000 in
theorem dX10_readLine : dcL cX10_readLine lX10_readLineL = true := by decide +kernel
def b_X10_readLine_35 (F : Nat) (h : PH) (v0 : Nat) : Option (Unit × PH) := cO 10 h v0 ((m_X10_is h v0 (1 : Int32)).bind fun x1 => (if x1 = 0 then (cO 10 h v0 ((m_X10_is h v0 (2 : Int32)).bind fun x2 => (if x2 = 0 then (cO 10 h v0 ((m_X10_is h v0 (4 : Int32)).bind fun x3 => (if x3 = 0 then (cO 10 h v0 (bind2 (m_X10_eats F h v0 (5 : Int32)) fun x4 h5 => (if x4 = 0 then (cO 10 h5 v0 (bind2 (m_X10_eats F h5 v0 (6 : Int32)) fun x6 h7 => (if x6 = 0 then (cO 10 h7 v0 (bind2 (m_X10_fails h7 v0 (2 : Int32)) fun _ h9 => (some ((), h9)))) else ((gR 10 4 h7 v0).bind fun a10 => (cO 10 h7 v0 (bind2 (m_X10_takes F h7 v0 (0 : Int32) (9 : Int32)) fun x11 h12 => ((sI 0 h12 a10 (5 : Int32) x11).bind fun h13 => (some ((), h13))))))))) else (cO 10 h5 v0 (bind2 (m_X10_readAt F h5 v0 (7 : Int32) (8 : Int32)) fun _ h15 => ((pZ 10 18 (1 : Int32) h15 v0).bind fun h16 => (some ((), h16)))))))) else (cO 10 h v0 (bind2 (m_X10_readTenant F h v0) fun _ h18 => (some ((), h18))))))) else (cO 10 h v0 (bind2 (m_X10_readFloor F h v0) fun _ h20 => ((pZ 10 18 (1 : Int32) h20 v0).bind fun h21 => (some ((), h21)))))))) else (cO 10 h v0 (bind2 (m_X10_readButton F h v0) fun _ h23 => (some ((), h23))))))
set_option maxRecDepth 20000 in
theorem t_X10_readLine_35 {M : MV} {X : XT} {F : Nat} {h hz : PH} {r : Unit} {ce sl mc ms : Nat} {v0 : Nat} (hc : Cx M X RX10 cX10_readLine) (hr : Rx M 136 7890 mc ms 1) (he : Ex M X none "readLine" none hz mc ms) (hm : ce ≤ mc) (hs : sl ≤ ms) (hf : b_X10_readLine_35 F h v0 = some (r, hz)) : GG M X h ce sl 35 [(0, .ref (X.1 + v0))] [] := by
  unfold b_X10_readLine_35 at hf
  refine r_aload_n hc 0 (dc_at dX10_readLine 18 rfl) rfl ?_
  refine r_iconst (1 : Int32) hc (dc_at dX10_readLine 19 rfl) (by decide) ?_
  obtain ⟨ho, hf⟩ := cO_some hf
  refine ob hf fun x1 ex hf => ?_
  refine r_callVi (As := [.int ((1 : Int32))]) (ci := 10) hc hr (dc_at dX10_readLine 20 rfl) ml_X10_162 mv_X10_is vi_X10_is rfl ho rfl (mt_X10_is ex) (by first | exact Nat.le_of_ble_eq_true rfl | omega) (by first | exact Nat.le_of_ble_eq_true rfl | omega) (by first | exact Nat.le_of_ble_eq_true rfl | omega) hm hs ?_
  refine r_if_eq (tgt := 50) hc (dc_at dX10_readLine 21 rfl) (by decide) hf (fun hf => ?_) (fun hf => ?_)
  · refine r_aload_n hc 0 (dc_at dX10_readLine 25 rfl) rfl ?_
    refine r_iconst (2 : Int32) hc (dc_at dX10_readLine 26 rfl) (by decide) ?_
    obtain ⟨ho, hf⟩ := cO_some hf
    refine ob hf fun x2 ex hf => ?_
    refine r_callVi (As := [.int ((2 : Int32))]) (ci := 10) hc hr (dc_at dX10_readLine 27 rfl) ml_X10_162 mv_X10_is vi_X10_is rfl ho rfl (mt_X10_is ex) (by first | exact Nat.le_of_ble_eq_true rfl | omega) (by first | exact Nat.le_of_ble_eq_true rfl | omega) (by first | exact Nat.le_of_ble_eq_true rfl | omega) hm hs ?_
    refine r_if_eq (tgt := 70) hc (dc_at dX10_readLine 28 rfl) (by decide) hf (fun hf => ?_) (fun hf => ?_)
    · refine r_aload_n hc 0 (dc_at dX10_readLine 35 rfl) rfl ?_
      refine r_iconst (4 : Int32) hc (dc_at dX10_readLine 36 rfl) (by decide) ?_
      obtain ⟨ho, hf⟩ := cO_some hf
      refine ob hf fun x3 ex hf => ?_
      refine r_callVi (As := [.int ((4 : Int32))]) (ci := 10) hc hr (dc_at dX10_readLine 37 rfl) ml_X10_162 mv_X10_is vi_X10_is rfl ho rfl (mt_X10_is ex) (by first | exact Nat.le_of_ble_eq_true rfl | omega) (by first | exact Nat.le_of_ble_eq_true rfl | omega) (by first | exact Nat.le_of_ble_eq_true rfl | omega) hm hs ?_
      refine r_if_eq (tgt := 85) hc (dc_at dX10_readLine 38 rfl) (by decide) hf (fun hf => ?_) (fun hf => ?_)
      · refine r_aload_n hc 0 (dc_at dX10_readLine 42 rfl) rfl ?_
        refine r_iconst (5 : Int32) hc (dc_at dX10_readLine 43 rfl) (by decide) ?_
        obtain ⟨ho, hf⟩ := cO_some hf
        refine ob2 hf fun x4 h5 ex hf => ?_
        refine r_callVi (As := [.int ((5 : Int32))]) (ci := 10) hc hr (dc_at dX10_readLine 44 rfl) ml_X10_191 mv_X10_eats vi_X10_eats rfl ho rfl (mt_X10_eats ex) (by first | exact Nat.le_of_ble_eq_true rfl | omega) (by first | exact Nat.le_of_ble_eq_true rfl | omega) (by first | exact Nat.le_of_ble_eq_true rfl | omega) hm hs ?_
        refine r_if_eq (tgt := 109) hc (dc_at dX10_readLine 45 rfl) (by decide) hf (fun hf => ?_) (fun hf => ?_)
        · refine r_aload_n hc 0 (dc_at dX10_readLine 54 rfl) rfl ?_
          refine r_bipush (6 : Int32) hc (dc_at dX10_readLine 55 rfl) (by decide) ?_
          obtain ⟨ho, hf⟩ := cO_some hf
          refine ob2 hf fun x6 h7 ex hf => ?_
          refine r_callVi (As := [.int ((6 : Int32))]) (ci := 10) hc hr (dc_at dX10_readLine 56 rfl) ml_X10_191 mv_X10_eats vi_X10_eats rfl ho rfl (mt_X10_eats ex) (by first | exact Nat.le_of_ble_eq_true rfl | omega) (by first | exact Nat.le_of_ble_eq_true rfl | omega) (by first | exact Nat.le_of_ble_eq_true rfl | omega) hm hs ?_
          refine r_if_eq (tgt := 134) hc (dc_at dX10_readLine 57 rfl) (by decide) hf (fun hf => ?_) (fun hf => ?_)
          · refine r_aload_n hc 0 (dc_at dX10_readLine 67 rfl) rfl ?_
            refine r_iconst (2 : Int32) hc (dc_at dX10_readLine 68 rfl) (by decide) ?_
            obtain ⟨ho, hf⟩ := cO_some hf
            refine ob2 hf fun u h9 ex hf => ?_
            refine r_callVv (As := [.int ((2 : Int32))]) (ci := 10) hc hr (dc_at dX10_readLine 69 rfl) ml_X10_168 mv_X10_fails vi_X10_fails rfl ho rfl (mt_X10_fails ex) (by first | exact Nat.le_of_ble_eq_true rfl | omega) (by first | exact Nat.le_of_ble_eq_true rfl | omega) (by first | exact Nat.le_of_ble_eq_true rfl | omega) hm hs ?_
            exact r_vret hc he (hm) (hs) (dc_at dX10_readLine 70 rfl) hf
          · refine r_aload_n hc 0 (dc_at dX10_readLine 58 rfl) rfl ?_
            refine r_getR hc (dc_at dX10_readLine 59 rfl) fl_X10_24 hf fun a10 hf => ?_
            refine r_iconst (5 : Int32) hc (dc_at dX10_readLine 60 rfl) (by decide) ?_
            refine r_aload_n hc 0 (dc_at dX10_readLine 61 rfl) rfl ?_
            refine r_iconst (0 : Int32) hc (dc_at dX10_readLine 62 rfl) (by decide) ?_
            refine r_bipush (9 : Int32) hc (dc_at dX10_readLine 63 rfl) (by decide) ?_
            obtain ⟨ho, hf⟩ := cO_some hf
            refine ob2 hf fun x11 h12 ex hf => ?_
            refine r_callVi (As := [.int ((0 : Int32)), .int ((9 : Int32))]) (ci := 10) hc hr (dc_at dX10_readLine 64 rfl) ml_X10_187 mv_X10_takes vi_X10_takes rfl ho rfl (mt_X10_takes ex) (by first | exact Nat.le_of_ble_eq_true rfl | omega) (by first | exact Nat.le_of_ble_eq_true rfl | omega) (by first | exact Nat.le_of_ble_eq_true rfl | omega) hm hs ?_
            refine r_iastore hc (dc_at dX10_readLine 65 rfl) hf fun h13 hf => ?_
            refine r_goto (tgt := 139) hc (dc_at dX10_readLine 66 rfl) (by decide) ?_
            exact r_vret hc he (hm) (hs) (dc_at dX10_readLine 70 rfl) hf
        · refine r_aload_n hc 0 (dc_at dX10_readLine 46 rfl) rfl ?_
          refine r_bipush (7 : Int32) hc (dc_at dX10_readLine 47 rfl) (by decide) ?_
          refine r_bipush (8 : Int32) hc (dc_at dX10_readLine 48 rfl) (by decide) ?_
          obtain ⟨ho, hf⟩ := cO_some hf
          refine ob2 hf fun u h15 ex hf => ?_
          refine r_callVv (As := [.int ((7 : Int32)), .int ((8 : Int32))]) (ci := 10) hc hr (dc_at dX10_readLine 49 rfl) ml_X10_209 mv_X10_readAt vi_X10_readAt rfl ho rfl (mt_X10_readAt ex) (by first | exact Nat.le_of_ble_eq_true rfl | omega) (by first | exact Nat.le_of_ble_eq_true rfl | omega) (by first | exact Nat.le_of_ble_eq_true rfl | omega) hm hs ?_
          refine r_aload_n hc 0 (dc_at dX10_readLine 50 rfl) rfl ?_
          refine r_iconst (1 : Int32) hc (dc_at dX10_readLine 51 rfl) (by decide) ?_
          refine r_putZ hc he (dc_at dX10_readLine 52 rfl) fp_X10_213 (fun q => by cases q) hf fun h16 hf => ?_
          refine r_goto (tgt := 139) hc (dc_at dX10_readLine 53 rfl) (by decide) ?_
          exact r_vret hc he (hm) (hs) (dc_at dX10_readLine 70 rfl) hf
      · refine r_aload_n hc 0 (dc_at dX10_readLine 39 rfl) rfl ?_
        obtain ⟨ho, hf⟩ := cO_some hf
        refine ob2 hf fun u h18 ex hf => ?_
        refine r_callVv (As := []) (ci := 10) hc hr (dc_at dX10_readLine 40 rfl) ml_X10_234 mv_X10_readTenant vi_X10_readTenant rfl ho rfl (mt_X10_readTenant ex) (by first | exact Nat.le_of_ble_eq_true rfl | omega) (by first | exact Nat.le_of_ble_eq_true rfl | omega) (by first | exact Nat.le_of_ble_eq_true rfl | omega) hm hs ?_
        refine r_goto (tgt := 139) hc (dc_at dX10_readLine 41 rfl) (by decide) ?_
        exact r_vret hc he (hm) (hs) (dc_at dX10_readLine 70 rfl) hf
    · refine r_aload_n hc 0 (dc_at dX10_readLine 29 rfl) rfl ?_
      obtain ⟨ho, hf⟩ := cO_some hf
      refine ob2 hf fun u h20 ex hf => ?_
      refine r_callVv (As := []) (ci := 10) hc hr (dc_at dX10_readLine 30 rfl) ml_X10_231 mv_X10_readFloor vi_X10_readFloor rfl ho rfl (mt_X10_readFloor ex) (by first | exact Nat.le_of_ble_eq_true rfl | omega) (by first | exact Nat.le_of_ble_eq_true rfl | omega) (by first | exact Nat.le_of_ble_eq_true rfl | omega) hm hs ?_
      refine r_aload_n hc 0 (dc_at dX10_readLine 31 rfl) rfl ?_
      refine r_iconst (1 : Int32) hc (dc_at dX10_readLine 32 rfl) (by decide) ?_
      refine r_putZ hc he (dc_at dX10_readLine 33 rfl) fp_X10_213 (fun q => by cases q) hf fun h21 hf => ?_
      refine r_goto (tgt := 139) hc (dc_at dX10_readLine 34 rfl) (by decide) ?_
      exact r_vret hc he (hm) (hs) (dc_at dX10_readLine 70 rfl) hf
  · refine r_aload_n hc 0 (dc_at dX10_readLine 22 rfl) rfl ?_
    obtain ⟨ho, hf⟩ := cO_some hf
    refine ob2 hf fun u h23 ex hf => ?_
    refine r_callVv (As := []) (ci := 10) hc hr (dc_at dX10_readLine 23 rfl) ml_X10_228 mv_X10_readButton vi_X10_readButton rfl ho rfl (mt_X10_readButton ex) (by first | exact Nat.le_of_ble_eq_true rfl | omega) (by first | exact Nat.le_of_ble_eq_true rfl | omega) (by first | exact Nat.le_of_ble_eq_true rfl | omega) hm hs ?_
    refine r_goto (tgt := 139) hc (dc_at dX10_readLine 24 rfl) (by decide) ?_
    exact r_vret hc he (hm) (hs) (dc_at dX10_readLine 70 rfl) hf
def b_X10_readLine_0 (F : Nat) (h : PH) (v0 : Nat) : Option (Unit × PH) := cO 10 h v0 ((m_X10_is h v0 (0 : Int32)).bind fun x1 => (if x1 = 0 then (b_X10_readLine_35 F h v0) else ((gI 10 18 h v0).bind fun x2 => (if x2 = 0 then (cO 10 h v0 (bind2 (m_X10_next F h v0) fun _ h4 => ((gR 10 4 h4 v0).bind fun a5 => (cO 10 h4 v0 (bind2 (m_X10_takes F h4 v0 (1 : Int32) (9 : Int32)) fun x6 h7 => ((sI 0 h7 a5 (1 : Int32) x6).bind fun h8 => (some ((), h8)))))))) else (b_X10_readLine_35 F h v0)))))
set_option maxRecDepth 20000 in
theorem t_X10_readLine_0 {M : MV} {X : XT} {F : Nat} {h hz : PH} {r : Unit} {ce sl mc ms : Nat} {v0 : Nat} (hc : Cx M X RX10 cX10_readLine) (hr : Rx M 136 7890 mc ms 1) (he : Ex M X none "readLine" none hz mc ms) (hm : ce ≤ mc) (hs : sl ≤ ms) (hf : b_X10_readLine_0 F h v0 = some (r, hz)) : GG M X h ce sl 0 [(0, .ref (X.1 + v0))] [] := by
  unfold b_X10_readLine_0 at hf
  refine r_aload_n hc 0 (dc_at dX10_readLine 0 rfl) rfl ?_
  refine r_iconst (0 : Int32) hc (dc_at dX10_readLine 1 rfl) (by decide) ?_
  obtain ⟨ho, hf⟩ := cO_some hf
  refine ob hf fun x1 ex hf => ?_
  refine r_callVi (As := [.int ((0 : Int32))]) (ci := 10) hc hr (dc_at dX10_readLine 2 rfl) ml_X10_162 mv_X10_is vi_X10_is rfl ho rfl (mt_X10_is ex) (by first | exact Nat.le_of_ble_eq_true rfl | omega) (by first | exact Nat.le_of_ble_eq_true rfl | omega) (by first | exact Nat.le_of_ble_eq_true rfl | omega) hm hs ?_
  refine r_if_eq (tgt := 35) hc (dc_at dX10_readLine 3 rfl) (by decide) hf (fun hf => ?_) (fun hf => ?_)
  · exact gg_sub [0] rfl (t_X10_readLine_35 hc hr he hm hs  hf)
  · refine r_aload_n hc 0 (dc_at dX10_readLine 4 rfl) rfl ?_
    refine r_getI hc (dc_at dX10_readLine 5 rfl) fl_X10_213 hf fun x2 hf => ?_
    refine r_if_ne (tgt := 35) hc (dc_at dX10_readLine 6 rfl) (by decide) hf (fun hf => ?_) (fun hf => ?_)
    · exact gg_sub [0] rfl (t_X10_readLine_35 hc hr he hm hs  hf)
    · refine r_aload_n hc 0 (dc_at dX10_readLine 7 rfl) rfl ?_
      obtain ⟨ho, hf⟩ := cO_some hf
      refine ob2 hf fun u h4 ex hf => ?_
      refine r_callVv (As := []) (ci := 10) hc hr (dc_at dX10_readLine 8 rfl) ml_X10_165 mv_X10_next vi_X10_next rfl ho rfl (mt_X10_next ex) (by first | exact Nat.le_of_ble_eq_true rfl | omega) (by first | exact Nat.le_of_ble_eq_true rfl | omega) (by first | exact Nat.le_of_ble_eq_true rfl | omega) hm hs ?_
      refine r_aload_n hc 0 (dc_at dX10_readLine 9 rfl) rfl ?_
      refine r_getR hc (dc_at dX10_readLine 10 rfl) fl_X10_24 hf fun a5 hf => ?_
      refine r_iconst (1 : Int32) hc (dc_at dX10_readLine 11 rfl) (by decide) ?_
      refine r_aload_n hc 0 (dc_at dX10_readLine 12 rfl) rfl ?_
      refine r_iconst (1 : Int32) hc (dc_at dX10_readLine 13 rfl) (by decide) ?_
      refine r_bipush (9 : Int32) hc (dc_at dX10_readLine 14 rfl) (by decide) ?_
      obtain ⟨ho, hf⟩ := cO_some hf
      refine ob2 hf fun x6 h7 ex hf => ?_
      refine r_callVi (As := [.int ((1 : Int32)), .int ((9 : Int32))]) (ci := 10) hc hr (dc_at dX10_readLine 15 rfl) ml_X10_187 mv_X10_takes vi_X10_takes rfl ho rfl (mt_X10_takes ex) (by first | exact Nat.le_of_ble_eq_true rfl | omega) (by first | exact Nat.le_of_ble_eq_true rfl | omega) (by first | exact Nat.le_of_ble_eq_true rfl | omega) hm hs ?_
      refine r_iastore hc (dc_at dX10_readLine 16 rfl) hf fun h8 hf => ?_
      refine r_goto (tgt := 139) hc (dc_at dX10_readLine 17 rfl) (by decide) ?_
      exact r_vret hc he (hm) (hs) (dc_at dX10_readLine 70 rfl) hf
def m_X10_readLine (F : Nat) (h : PH) (p0 : Nat) : Option (Unit × PH) := b_X10_readLine_0 F h p0
theorem mt_X10_readLine {l : Launch} {X : XT} {F : Nat} {h hz : PH} {p0 : Nat} {r : Unit} (ex : m_X10_readLine F h p0 = some (r, hz)) : MT l X yX10_readLine cX10_readLine 1 none 136 7890 0 0 [.ref (X.1 + p0)] h none hz := MT.of (by decide) (Nat.le_of_ble_eq_true rfl) fun M hl hc hr he => by
  subst hl
  exact gg_sub [0] rfl (t_X10_readLine_0  hc hr he (Nat.zero_le _) (Nat.zero_le _) ex)
/-! FractionLiftModel.house(I)I -/
def lX10_houseL : List (Nat × Instr × Nat × Nat) := [(0, .aload_n 0, 1, 1), (1, .iconst 0, 1, 2), (2, .putfield 1, 3, 5), (5, .iload_n 1, 1, 6), (6, .i2l, 1, 7), (7, .lconst 0, 1, 8), (8, .aload_n 0, 1, 9), (9, .getfield 110, 3, 12), (12, .i2l, 1, 13), (13, .invokestatic 172, 3, 16), (16, .ifCond .ne 6, 3, 19), (19, .bipush (-3), 2, 21), (21, .ireturn, 1, 22), (22, .aload_n 0, 1, 23), (23, .iload_n 1, 1, 24), (24, .putfield 113, 3, 27), (27, .aload_n 0, 1, 28), (28, .iconst 0, 1, 29), (29, .putfield 110, 3, 32), (32, .aload_n 0, 1, 33), (33, .iconst 0, 1, 34), (34, .putfield 131, 3, 37), (37, .aload_n 0, 1, 38), (38, .iconst 0, 1, 39), (39, .putfield 156, 3, 42), (42, .aload_n 0, 1, 43), (43, .iconst 0, 1, 44), (44, .putfield 213, 3, 47), (47, .aload_n 0, 1, 48), (48, .getfield 24, 3, 51), (51, .invokestatic 106, 3, 54), (54, .aload_n 0, 1, 55), (55, .invokevirtual 165, 3, 58), (58, .aload_n 0, 1, 59), (59, .getfield 156, 3, 62), (62, .ifCond .ne 43, 3, 65), (65, .aload_n 0, 1, 66), (66, .getfield 138, 3, 69), (69, .bipush 17, 2, 71), (71, .if_icmp .eq 34, 3, 74), (74, .aload_n 0, 1, 75), (75, .invokevirtual 237, 3, 78), (78, .aload_n 0, 1, 79), (79, .bipush 20, 2, 81), (81, .invokevirtual 191, 3, 84), (84, .ifCond .ne 8, 3, 87), (87, .aload_n 0, 1, 88), (88, .iconst 2, 1, 89), (89, .invokevirtual 168, 3, 92), (92, .aload_n 0, 1, 93), (93, .getfield 24, 3, 96), (96, .iconst 0, 1, 97), (97, .dup2, 1, 98), (98, .iaload, 1, 99), (99, .iconst 1, 1, 100), (100, .iadd, 1, 101), (101, .iastore, 1, 102), (102, .goto (-44), 3, 105), (105, .aload_n 0, 1, 106), (106, .aload_n 0, 1, 107), (107, .getfield 156, 3, 110), (110, .putfield 240, 3, 113), (113, .aload_n 0, 1, 114), (114, .aload_n 0, 1, 115), (115, .getfield 156, 3, 118), (118, .ifCond .ne 7, 3, 121), (121, .iconst (-1), 1, 122), (122, .goto 7, 3, 125), (125, .aload_n 0, 1, 126), (126, .getfield 159, 3, 129), (129, .putfield 27, 3, 132), (132, .aload_n 0, 1, 133), (133, .getfield 156, 3, 136), (136, .ifCond .eq 11, 3, 139), (139, .bipush (-30), 2, 141), (141, .aload_n 0, 1, 142), (142, .getfield 156, 3, 145), (145, .isub, 1, 146), (146, .ireturn, 1, 147), (147, .iconst 0, 1, 148), (148, .istore_n 2, 1, 149), (149, .iload_n 2, 1, 150), (150, .sipush 999, 3, 153), (153, .if_icmp .ge 21, 3, 156), (156, .aload_n 0, 1, 157), (157, .getfield 13, 3, 160), (160, .iload_n 2, 1, 161), (161, .aload_n 0, 1, 162), (162, .getfield 24, 3, 165), (165, .iload_n 2, 1, 166), (166, .iaload, 1, 167), (167, .iastore, 1, 168), (168, .iinc 2 1, 3, 171), (171, .goto (-22), 3, 174), (174, .aload_n 0, 1, 175), (175, .getfield 13, 3, 178), (178, .iconst 0, 1, 179), (179, .iaload, 1, 180), (180, .ireturn, 1, 181)]
set_option maxRecDepth 20000 in
theorem dX10_house : dcL cX10_house lX10_houseL = true := by decide +kernel
def b_X10_house_92 (F : Nat) (self33 : PH → Nat → Option (Int32 × PH)) (h : PH) (v0 : Nat) : Option (Int32 × PH) := (gR 10 4 h v0).bind fun a1 => ((aI 0 h a1 (0 : Int32)).bind fun x2 => ((sI 0 h a1 (0 : Int32) ((x2 + (1 : Int32)))).bind fun h3 => (self33 h3 v0)))
set_option maxRecDepth 20000 in
theorem t_X10_house_92 {M : MV} {X : XT} {F : Nat} {self33 : PH → Nat → Option (Int32 × PH)} {h hz : PH} {r : Int32} {ce sl mc ms : Nat} {v0 : Nat} (hc : Cx M X RX10 cX10_house) (hr : Rx M 137 7948 mc ms 3) (he : Ex M X (some .int) "house" (some (.int r)) hz mc ms) (hm : ce ≤ mc) (hs : sl ≤ ms) (ih33 : ∀ (h : PH) (v0 : Nat), self33 h v0 = some (r, hz) → GG M X h ce sl 58 [(0, .ref (X.1 + v0))] []) (hf : b_X10_house_92 F self33 h v0 = some (r, hz)) : GG M X h ce sl 92 [(0, .ref (X.1 + v0))] [] := by
  unfold b_X10_house_92 at hf
  refine r_aload_n hc 0 (dc_at dX10_house 49 rfl) rfl ?_
  refine r_getR hc (dc_at dX10_house 50 rfl) fl_X10_24 hf fun a1 hf => ?_
  refine r_iconst (0 : Int32) hc (dc_at dX10_house 51 rfl) (by decide) ?_
  refine r_dup2 hc (dc_at dX10_house 52 rfl) rfl rfl ?_
  refine r_iaload hc (dc_at dX10_house 53 rfl) hf fun x2 hf => ?_
  refine r_iconst (1 : Int32) hc (dc_at dX10_house 54 rfl) (by decide) ?_
  refine r_iadd hc (dc_at dX10_house 55 rfl) ?_
  refine r_iastore hc (dc_at dX10_house 56 rfl) hf fun h3 hf => ?_
  refine r_goto (tgt := 58) hc (dc_at dX10_house 57 rfl) (by decide) ?_
  exact gg_sub [0] rfl (ih33 _ _ hf)
def b_X10_house_149 (F : Nat) (self81 : PH → Nat → Int32 → Option (Int32 × PH)) (h : PH) (v0 : Nat) (v2 : Int32) : Option (Int32 × PH) := if (999 : Int32) ≤ v2 then ((gR 10 1 h v0).bind fun a1 => ((aI 0 h a1 (0 : Int32)).bind fun x2 => (some (x2, h)))) else ((gR 10 1 h v0).bind fun a3 => ((gR 10 4 h v0).bind fun a4 => ((aI 0 h a4 v2).bind fun x5 => ((sI 0 h a3 v2 x5).bind fun h6 => (bindv (v2 + (1)) fun x7 => (self81 h6 v0 x7))))))
set_option maxRecDepth 20000 in
theorem tb_X10_house_149 {M : MV} {X : XT} {F : Nat} {self81 : PH → Nat → Int32 → Option (Int32 × PH)} {h hz : PH} {r : Int32} {ce sl mc ms : Nat} {v0 : Nat} {v2 : Int32} (hc : Cx M X RX10 cX10_house) (hr : Rx M 137 7948 mc ms 3) (he : Ex M X (some .int) "house" (some (.int r)) hz mc ms) (hm : ce ≤ mc) (hs : sl ≤ ms) (ih81 : ∀ (h : PH) (v0 : Nat) (v2 : Int32), self81 h v0 v2 = some (r, hz) → GG M X h ce sl 149 [(0, .ref (X.1 + v0)), (2, .int v2)] []) (hf : b_X10_house_149 F self81 h v0 v2 = some (r, hz)) : GG M X h ce sl 149 [(0, .ref (X.1 + v0)), (2, .int v2)] [] := by
  unfold b_X10_house_149 at hf
  refine r_iload_n hc 1 (dc_at dX10_house 81 rfl) rfl ?_
  refine r_sipush (999 : Int32) hc (dc_at dX10_house 82 rfl) (by decide) ?_
  refine r_icmp_ge (tgt := 174) hc (dc_at dX10_house 83 rfl) (by decide) hf (fun hf => ?_) (fun hf => ?_)
  · refine r_aload_n hc 0 (dc_at dX10_house 94 rfl) rfl ?_
    refine r_getR hc (dc_at dX10_house 95 rfl) fl_X10_13 hf fun a1 hf => ?_
    refine r_iconst (0 : Int32) hc (dc_at dX10_house 96 rfl) (by decide) ?_
    refine r_iaload hc (dc_at dX10_house 97 rfl) hf fun x2 hf => ?_
    exact r_iret hc he (hm) (hs) (dc_at dX10_house 98 rfl) hf
  · refine r_aload_n hc 0 (dc_at dX10_house 84 rfl) rfl ?_
    refine r_getR hc (dc_at dX10_house 85 rfl) fl_X10_13 hf fun a3 hf => ?_
    refine r_iload_n hc 1 (dc_at dX10_house 86 rfl) rfl ?_
    refine r_aload_n hc 0 (dc_at dX10_house 87 rfl) rfl ?_
    refine r_getR hc (dc_at dX10_house 88 rfl) fl_X10_24 hf fun a4 hf => ?_
    refine r_iload_n hc 1 (dc_at dX10_house 89 rfl) rfl ?_
    refine r_iaload hc (dc_at dX10_house 90 rfl) hf fun x5 hf => ?_
    refine r_iastore hc (dc_at dX10_house 91 rfl) hf fun h6 hf => ?_
    refine obv hf fun x7 e_x7 hf => ?_
    refine r_iinc 1 [(2, .int x7), (0, .ref (X.1 + v0))] hc hr (dc_at dX10_house 92 rfl) rfl (by rw [e_x7]; rfl) (by decide) rfl ?_
    refine r_goto (tgt := 149) hc (dc_at dX10_house 93 rfl) (by decide) ?_
    exact gg_sub [1, 0] rfl (ih81 _ _ _ hf)
def l_X10_house_149 (F : Nat) : Nat → PH → Nat → Int32 → Option (Int32 × PH)
  | 0 => fun _ _ _ => none
  | n + 1 => fun h v0 v2 => b_X10_house_149 F (l_X10_house_149 F n) h v0 v2
theorem tl_X10_house_149 {M : MV} {X : XT} {F : Nat} {hz : PH} {r : Int32} {ce sl mc ms : Nat} (hc : Cx M X RX10 cX10_house) (hr : Rx M 137 7948 mc ms 3) (he : Ex M X (some .int) "house" (some (.int r)) hz mc ms) (hm : ce ≤ mc) (hs : sl ≤ ms) (n : Nat) : ∀ (h : PH) (v0 : Nat) (v2 : Int32), l_X10_house_149 F n h v0 v2 = some (r, hz) → GG M X h ce sl 149 [(0, .ref (X.1 + v0)), (2, .int v2)] [] := by
  induction n with
  | zero => intro h v0 v2 hf; cases hf
  | succ n ih => intro h v0 v2 hf; exact tb_X10_house_149 (F := F) hc hr he hm hs  ih hf
def b_X10_house_129 (F : Nat) (h : PH) (v0 : Nat) (s0 : Nat) (s1 : Int32) : Option (Int32 × PH) := (pV 10 14 (.int s1) h s0).bind fun h1 => ((gI 10 11 h1 v0).bind fun x2 => (if x2 = 0 then (l_X10_house_149 F F h1 v0 (0 : Int32)) else ((gI 10 11 h1 v0).bind fun x3 => (some ((((-30 : Int32) - x3)), h1)))))
set_option maxRecDepth 20000 in
theorem t_X10_house_129 {M : MV} {X : XT} {F : Nat} {h hz : PH} {r : Int32} {ce sl mc ms : Nat} {v0 : Nat} {s0 : Nat} {s1 : Int32} (hc : Cx M X RX10 cX10_house) (hr : Rx M 137 7948 mc ms 3) (he : Ex M X (some .int) "house" (some (.int r)) hz mc ms) (hm : ce ≤ mc) (hs : sl ≤ ms) (hf : b_X10_house_129 F h v0 s0 s1 = some (r, hz)) : GG M X h ce sl 129 [(0, .ref (X.1 + v0))] [.int s1, .ref (X.1 + s0)] := by
  unfold b_X10_house_129 at hf
  refine r_putI hc he (dc_at dX10_house 70 rfl) fp_X10_27 (fun q => by cases q) hf fun h1 hf => ?_
  refine r_aload_n hc 0 (dc_at dX10_house 71 rfl) rfl ?_
  refine r_getI hc (dc_at dX10_house 72 rfl) fl_X10_156 hf fun x2 hf => ?_
  refine r_if_eq (tgt := 147) hc (dc_at dX10_house 73 rfl) (by decide) hf (fun hf => ?_) (fun hf => ?_)
  · refine r_iconst (0 : Int32) hc (dc_at dX10_house 79 rfl) (by decide) ?_
    refine r_istore_n [(2, .int ((0 : Int32))), (0, .ref (X.1 + v0))] hc hr (dc_at dX10_house 80 rfl) (by decide) rfl ?_
    exact gg_sub [1, 0] rfl (tl_X10_house_149 hc hr he hm hs  F _ _ _ hf)
  · refine r_bipush (-30 : Int32) hc (dc_at dX10_house 74 rfl) (by decide) ?_
    refine r_aload_n hc 0 (dc_at dX10_house 75 rfl) rfl ?_
    refine r_getI hc (dc_at dX10_house 76 rfl) fl_X10_156 hf fun x3 hf => ?_
    refine r_isub hc (dc_at dX10_house 77 rfl) ?_
    exact r_iret hc he (hm) (hs) (dc_at dX10_house 78 rfl) hf
def b_X10_house_105 (F : Nat) (h : PH) (v0 : Nat) : Option (Int32 × PH) := (gI 10 11 h v0).bind fun x1 => ((pV 10 13 (.int x1) h v0).bind fun h2 => ((gI 10 11 h2 v0).bind fun x3 => (if x3 = 0 then (b_X10_house_129 F h2 v0 v0 (-1 : Int32)) else ((gI 10 12 h2 v0).bind fun x4 => (b_X10_house_129 F h2 v0 v0 x4)))))
set_option maxRecDepth 20000 in
theorem t_X10_house_105 {M : MV} {X : XT} {F : Nat} {h hz : PH} {r : Int32} {ce sl mc ms : Nat} {v0 : Nat} (hc : Cx M X RX10 cX10_house) (hr : Rx M 137 7948 mc ms 3) (he : Ex M X (some .int) "house" (some (.int r)) hz mc ms) (hm : ce ≤ mc) (hs : sl ≤ ms) (hf : b_X10_house_105 F h v0 = some (r, hz)) : GG M X h ce sl 105 [(0, .ref (X.1 + v0))] [] := by
  unfold b_X10_house_105 at hf
  refine r_aload_n hc 0 (dc_at dX10_house 58 rfl) rfl ?_
  refine r_aload_n hc 0 (dc_at dX10_house 59 rfl) rfl ?_
  refine r_getI hc (dc_at dX10_house 60 rfl) fl_X10_156 hf fun x1 hf => ?_
  refine r_putI hc he (dc_at dX10_house 61 rfl) fp_X10_240 (fun q => by cases q) hf fun h2 hf => ?_
  refine r_aload_n hc 0 (dc_at dX10_house 62 rfl) rfl ?_
  refine r_aload_n hc 0 (dc_at dX10_house 63 rfl) rfl ?_
  refine r_getI hc (dc_at dX10_house 64 rfl) fl_X10_156 hf fun x3 hf => ?_
  refine r_if_ne (tgt := 125) hc (dc_at dX10_house 65 rfl) (by decide) hf (fun hf => ?_) (fun hf => ?_)
  · refine r_aload_n hc 0 (dc_at dX10_house 68 rfl) rfl ?_
    refine r_getI hc (dc_at dX10_house 69 rfl) fl_X10_159 hf fun x4 hf => ?_
    exact gg_sub [0] rfl (t_X10_house_129 hc hr he hm hs  hf)
  · refine r_iconst (-1 : Int32) hc (dc_at dX10_house 66 rfl) (by decide) ?_
    refine r_goto (tgt := 129) hc (dc_at dX10_house 67 rfl) (by decide) ?_
    exact gg_sub [0] rfl (t_X10_house_129 hc hr he hm hs  hf)
def b_X10_house_58 (F : Nat) (self33 : PH → Nat → Option (Int32 × PH)) (h : PH) (v0 : Nat) : Option (Int32 × PH) := (gI 10 11 h v0).bind fun x1 => (if x1 = 0 then ((gI 10 9 h v0).bind fun x2 => (if x2 = (17 : Int32) then (b_X10_house_105 F h v0) else (cO 10 h v0 (bind2 (m_X10_readLine F h v0) fun _ h4 => (cO 10 h4 v0 (bind2 (m_X10_eats F h4 v0 (20 : Int32)) fun x5 h6 => (if x5 = 0 then (cO 10 h6 v0 (bind2 (m_X10_fails h6 v0 (2 : Int32)) fun _ h8 => (b_X10_house_92 F self33 h8 v0))) else (b_X10_house_92 F self33 h6 v0)))))))) else (b_X10_house_105 F h v0))
set_option maxRecDepth 20000 in
theorem tb_X10_house_58 {M : MV} {X : XT} {F : Nat} {self33 : PH → Nat → Option (Int32 × PH)} {h hz : PH} {r : Int32} {ce sl mc ms : Nat} {v0 : Nat} (hc : Cx M X RX10 cX10_house) (hr : Rx M 137 7948 mc ms 3) (he : Ex M X (some .int) "house" (some (.int r)) hz mc ms) (hm : ce ≤ mc) (hs : sl ≤ ms) (ih33 : ∀ (h : PH) (v0 : Nat), self33 h v0 = some (r, hz) → GG M X h ce sl 58 [(0, .ref (X.1 + v0))] []) (hf : b_X10_house_58 F self33 h v0 = some (r, hz)) : GG M X h ce sl 58 [(0, .ref (X.1 + v0))] [] := by
  unfold b_X10_house_58 at hf
  refine r_aload_n hc 0 (dc_at dX10_house 33 rfl) rfl ?_
  refine r_getI hc (dc_at dX10_house 34 rfl) fl_X10_156 hf fun x1 hf => ?_
  refine r_if_ne (tgt := 105) hc (dc_at dX10_house 35 rfl) (by decide) hf (fun hf => ?_) (fun hf => ?_)
  · exact gg_sub [0] rfl (t_X10_house_105 hc hr he hm hs  hf)
  · refine r_aload_n hc 0 (dc_at dX10_house 36 rfl) rfl ?_
    refine r_getI hc (dc_at dX10_house 37 rfl) fl_X10_138 hf fun x2 hf => ?_
    refine r_bipush (17 : Int32) hc (dc_at dX10_house 38 rfl) (by decide) ?_
    refine r_icmp_eq (tgt := 105) hc (dc_at dX10_house 39 rfl) (by decide) hf (fun hf => ?_) (fun hf => ?_)
    · exact gg_sub [0] rfl (t_X10_house_105 hc hr he hm hs  hf)
    · refine r_aload_n hc 0 (dc_at dX10_house 40 rfl) rfl ?_
      obtain ⟨ho, hf⟩ := cO_some hf
      refine ob2 hf fun u h4 ex hf => ?_
      refine r_callVv (As := []) (ci := 10) hc hr (dc_at dX10_house 41 rfl) ml_X10_237 mv_X10_readLine vi_X10_readLine rfl ho rfl (mt_X10_readLine ex) (by first | exact Nat.le_of_ble_eq_true rfl | omega) (by first | exact Nat.le_of_ble_eq_true rfl | omega) (by first | exact Nat.le_of_ble_eq_true rfl | omega) hm hs ?_
      refine r_aload_n hc 0 (dc_at dX10_house 42 rfl) rfl ?_
      refine r_bipush (20 : Int32) hc (dc_at dX10_house 43 rfl) (by decide) ?_
      obtain ⟨ho, hf⟩ := cO_some hf
      refine ob2 hf fun x5 h6 ex hf => ?_
      refine r_callVi (As := [.int ((20 : Int32))]) (ci := 10) hc hr (dc_at dX10_house 44 rfl) ml_X10_191 mv_X10_eats vi_X10_eats rfl ho rfl (mt_X10_eats ex) (by first | exact Nat.le_of_ble_eq_true rfl | omega) (by first | exact Nat.le_of_ble_eq_true rfl | omega) (by first | exact Nat.le_of_ble_eq_true rfl | omega) hm hs ?_
      refine r_if_ne (tgt := 92) hc (dc_at dX10_house 45 rfl) (by decide) hf (fun hf => ?_) (fun hf => ?_)
      · exact gg_sub [0] rfl (t_X10_house_92 hc hr he hm hs ih33 hf)
      · refine r_aload_n hc 0 (dc_at dX10_house 46 rfl) rfl ?_
        refine r_iconst (2 : Int32) hc (dc_at dX10_house 47 rfl) (by decide) ?_
        obtain ⟨ho, hf⟩ := cO_some hf
        refine ob2 hf fun u h8 ex hf => ?_
        refine r_callVv (As := [.int ((2 : Int32))]) (ci := 10) hc hr (dc_at dX10_house 48 rfl) ml_X10_168 mv_X10_fails vi_X10_fails rfl ho rfl (mt_X10_fails ex) (by first | exact Nat.le_of_ble_eq_true rfl | omega) (by first | exact Nat.le_of_ble_eq_true rfl | omega) (by first | exact Nat.le_of_ble_eq_true rfl | omega) hm hs ?_
        exact gg_sub [0] rfl (t_X10_house_92 hc hr he hm hs ih33 hf)
def l_X10_house_58 (F : Nat) : Nat → PH → Nat → Option (Int32 × PH)
  | 0 => fun _ _ => none
  | n + 1 => fun h v0 => b_X10_house_58 F (l_X10_house_58 F n) h v0
theorem tl_X10_house_58 {M : MV} {X : XT} {F : Nat} {hz : PH} {r : Int32} {ce sl mc ms : Nat} (hc : Cx M X RX10 cX10_house) (hr : Rx M 137 7948 mc ms 3) (he : Ex M X (some .int) "house" (some (.int r)) hz mc ms) (hm : ce ≤ mc) (hs : sl ≤ ms) (n : Nat) : ∀ (h : PH) (v0 : Nat), l_X10_house_58 F n h v0 = some (r, hz) → GG M X h ce sl 58 [(0, .ref (X.1 + v0))] [] := by
  induction n with
  | zero => intro h v0 hf; cases hf
  | succ n ih => intro h v0 hf; exact tb_X10_house_58 (F := F) hc hr he hm hs  ih hf
def b_X10_house_0 (F : Nat) (h : PH) (v0 : Nat) (v1 : Int32) : Option (Int32 × PH) := (pV 10 0 (.int (0 : Int32)) h v0).bind fun h1 => ((gI 10 5 h1 v0).bind fun x2 => ((m_X10_within (Int32.toInt64 v1) (0 : Int64) (Int32.toInt64 x2)).bind fun x3 => (if x3 = 0 then (some ((-3 : Int32), h1)) else ((pV 10 8 (.int v1) h1 v0).bind fun h4 => ((pV 10 5 (.int (0 : Int32)) h4 v0).bind fun h5 => ((pV 10 7 (.int (0 : Int32)) h5 v0).bind fun h6 => ((pV 10 11 (.int (0 : Int32)) h6 v0).bind fun h7 => ((pZ 10 18 (0 : Int32) h7 v0).bind fun h8 => ((gR 10 4 h8 v0).bind fun a9 => (bind2 (m_X10_plain F h8 a9) fun _ h11 => (cO 10 h11 v0 (bind2 (m_X10_next F h11 v0) fun _ h13 => (l_X10_house_58 F F h13 v0)))))))))))))
set_option maxRecDepth 20000 in
theorem t_X10_house_0 {M : MV} {X : XT} {F : Nat} {h hz : PH} {r : Int32} {ce sl mc ms : Nat} {v0 : Nat} {v1 : Int32} (hc : Cx M X RX10 cX10_house) (hr : Rx M 137 7948 mc ms 3) (he : Ex M X (some .int) "house" (some (.int r)) hz mc ms) (hm : ce ≤ mc) (hs : sl ≤ ms) (hf : b_X10_house_0 F h v0 v1 = some (r, hz)) : GG M X h ce sl 0 [(0, .ref (X.1 + v0)), (1, .int v1)] [] := by
  unfold b_X10_house_0 at hf
  refine r_aload_n hc 0 (dc_at dX10_house 0 rfl) rfl ?_
  refine r_iconst (0 : Int32) hc (dc_at dX10_house 1 rfl) (by decide) ?_
  refine r_putI hc he (dc_at dX10_house 2 rfl) fp_X10_1 (fun q => by cases q) hf fun h1 hf => ?_
  refine r_iload_n hc 1 (dc_at dX10_house 3 rfl) rfl ?_
  refine r_i2l hc (dc_at dX10_house 4 rfl) ?_
  refine r_lconst (0 : Int64) hc (dc_at dX10_house 5 rfl) (by decide) ?_
  refine r_aload_n hc 0 (dc_at dX10_house 6 rfl) rfl ?_
  refine r_getI hc (dc_at dX10_house 7 rfl) fl_X10_110 hf fun x2 hf => ?_
  refine r_i2l hc (dc_at dX10_house 8 rfl) ?_
  refine ob hf fun x3 ex hf => ?_
  refine r_callSi (As := [.long ((Int32.toInt64 v1)), .long ((0 : Int64)), .long ((Int32.toInt64 x2))]) hc hr (dc_at dX10_house 9 rfl) ml_X10_172 mv_X10_within st_X10_within rfl (mt_X10_within ex) (by first | exact Nat.le_of_ble_eq_true rfl | omega) (by first | exact Nat.le_of_ble_eq_true rfl | omega) (by first | exact Nat.le_of_ble_eq_true rfl | omega) hm hs ?_
  refine r_if_ne (tgt := 22) hc (dc_at dX10_house 10 rfl) (by decide) hf (fun hf => ?_) (fun hf => ?_)
  · refine r_aload_n hc 0 (dc_at dX10_house 13 rfl) rfl ?_
    refine r_iload_n hc 1 (dc_at dX10_house 14 rfl) rfl ?_
    refine r_putI hc he (dc_at dX10_house 15 rfl) fp_X10_113 (fun q => by cases q) hf fun h4 hf => ?_
    refine r_aload_n hc 0 (dc_at dX10_house 16 rfl) rfl ?_
    refine r_iconst (0 : Int32) hc (dc_at dX10_house 17 rfl) (by decide) ?_
    refine r_putI hc he (dc_at dX10_house 18 rfl) fp_X10_110 (fun q => by cases q) hf fun h5 hf => ?_
    refine r_aload_n hc 0 (dc_at dX10_house 19 rfl) rfl ?_
    refine r_iconst (0 : Int32) hc (dc_at dX10_house 20 rfl) (by decide) ?_
    refine r_putI hc he (dc_at dX10_house 21 rfl) fp_X10_131 (fun q => by cases q) hf fun h6 hf => ?_
    refine r_aload_n hc 0 (dc_at dX10_house 22 rfl) rfl ?_
    refine r_iconst (0 : Int32) hc (dc_at dX10_house 23 rfl) (by decide) ?_
    refine r_putI hc he (dc_at dX10_house 24 rfl) fp_X10_156 (fun q => by cases q) hf fun h7 hf => ?_
    refine r_aload_n hc 0 (dc_at dX10_house 25 rfl) rfl ?_
    refine r_iconst (0 : Int32) hc (dc_at dX10_house 26 rfl) (by decide) ?_
    refine r_putZ hc he (dc_at dX10_house 27 rfl) fp_X10_213 (fun q => by cases q) hf fun h8 hf => ?_
    refine r_aload_n hc 0 (dc_at dX10_house 28 rfl) rfl ?_
    refine r_getR hc (dc_at dX10_house 29 rfl) fl_X10_24 hf fun a9 hf => ?_
    refine ob2 hf fun u h11 ex hf => ?_
    refine r_callSv (As := [.ref (X.1 + a9)]) hc hr (dc_at dX10_house 30 rfl) ml_X10_106 mv_X10_plain st_X10_plain rfl (mt_X10_plain ex) (by first | exact Nat.le_of_ble_eq_true rfl | omega) (by first | exact Nat.le_of_ble_eq_true rfl | omega) (by first | exact Nat.le_of_ble_eq_true rfl | omega) hm hs ?_
    refine r_aload_n hc 0 (dc_at dX10_house 31 rfl) rfl ?_
    obtain ⟨ho, hf⟩ := cO_some hf
    refine ob2 hf fun u h13 ex hf => ?_
    refine r_callVv (As := []) (ci := 10) hc hr (dc_at dX10_house 32 rfl) ml_X10_165 mv_X10_next vi_X10_next rfl ho rfl (mt_X10_next ex) (by first | exact Nat.le_of_ble_eq_true rfl | omega) (by first | exact Nat.le_of_ble_eq_true rfl | omega) (by first | exact Nat.le_of_ble_eq_true rfl | omega) hm hs ?_
    exact gg_sub [0] rfl (tl_X10_house_58 hc hr he hm hs  F _ _ hf)
  · refine r_bipush (-3 : Int32) hc (dc_at dX10_house 11 rfl) (by decide) ?_
    exact r_iret hc he (hm) (hs) (dc_at dX10_house 12 rfl) hf
def m_X10_house (F : Nat) (h : PH) (p0 : Nat) (p1 : Int32) : Option (Int32 × PH) := b_X10_house_0 F h p0 p1
theorem mt_X10_house {l : Launch} {X : XT} {F : Nat} {h hz : PH} {p0 : Nat} {p1 : Int32} {r : Int32} (ex : m_X10_house F h p0 p1 = some (r, hz)) : MT l X yX10_house cX10_house 3 (some .int) 137 7948 0 0 [.ref (X.1 + p0), .int p1] h (some (.int r)) hz := MT.of (by decide) (Nat.le_of_ble_eq_true rfl) fun M hl hc hr he => by
  subst hl
  exact gg_sub [0, 1] rfl (t_X10_house_0  hc hr he (Nat.zero_le _) (Nat.zero_le _) ex)
/-! FractionLiftModel.fault(I)I -/
def lX10_faultL : List (Nat × Instr × Nat × Nat) := [(0, .aload_n 0, 1, 1), (1, .iconst 0, 1, 2), (2, .putfield 1, 3, 5), (5, .iload_n 1, 1, 6), (6, .ifCond .ne 10, 3, 9), (9, .aload_n 0, 1, 10), (10, .getfield 240, 3, 13), (13, .goto 16, 3, 16), (16, .iload_n 1, 1, 17), (17, .iconst 1, 1, 18), (18, .if_icmp .ne 10, 3, 21), (21, .aload_n 0, 1, 22), (22, .getfield 27, 3, 25), (25, .goto 4, 3, 28), (28, .iconst (-1), 1, 29), (29, .ireturn, 1, 30)]
set_option maxRecDepth 20000 in
theorem dX10_fault : dcL cX10_fault lX10_faultL = true := by decide +kernel
def b_X10_fault_0 (h : PH) (v0 : Nat) (v1 : Int32) : Option (Int32 × PH) := (pV 10 0 (.int (0 : Int32)) h v0).bind fun h1 => (if v1 = 0 then ((gI 10 13 h1 v0).bind fun x3 => (some (x3, h1))) else (if v1 = (1 : Int32) then ((gI 10 14 h1 v0).bind fun x2 => (some (x2, h1))) else (some ((-1 : Int32), h1))))
set_option maxRecDepth 20000 in
theorem t_X10_fault_0 {M : MV} {X : XT} {h hz : PH} {r : Int32} {ce sl mc ms : Nat} {v0 : Nat} {v1 : Int32} (hc : Cx M X RX10 cX10_fault) (hr : Rx M 1 60 mc ms 2) (he : Ex M X (some .int) "fault" (some (.int r)) hz mc ms) (hm : ce ≤ mc) (hs : sl ≤ ms) (hf : b_X10_fault_0 h v0 v1 = some (r, hz)) : GG M X h ce sl 0 [(0, .ref (X.1 + v0)), (1, .int v1)] [] := by
  unfold b_X10_fault_0 at hf
  refine r_aload_n hc 0 (dc_at dX10_fault 0 rfl) rfl ?_
  refine r_iconst (0 : Int32) hc (dc_at dX10_fault 1 rfl) (by decide) ?_
  refine r_putI hc he (dc_at dX10_fault 2 rfl) fp_X10_1 (fun q => by cases q) hf fun h1 hf => ?_
  refine r_iload_n hc 1 (dc_at dX10_fault 3 rfl) rfl ?_
  refine r_if_ne (tgt := 16) hc (dc_at dX10_fault 4 rfl) (by decide) hf (fun hf => ?_) (fun hf => ?_)
  · refine r_iload_n hc 1 (dc_at dX10_fault 8 rfl) rfl ?_
    refine r_iconst (1 : Int32) hc (dc_at dX10_fault 9 rfl) (by decide) ?_
    refine r_icmp_ne (tgt := 28) hc (dc_at dX10_fault 10 rfl) (by decide) hf (fun hf => ?_) (fun hf => ?_)
    · refine r_iconst (-1 : Int32) hc (dc_at dX10_fault 14 rfl) (by decide) ?_
      exact r_iret hc he (hm) (hs) (dc_at dX10_fault 15 rfl) hf
    · refine r_aload_n hc 0 (dc_at dX10_fault 11 rfl) rfl ?_
      refine r_getI hc (dc_at dX10_fault 12 rfl) fl_X10_27 hf fun x2 hf => ?_
      refine r_goto (tgt := 29) hc (dc_at dX10_fault 13 rfl) (by decide) ?_
      exact r_iret hc he (hm) (hs) (dc_at dX10_fault 15 rfl) hf
  · refine r_aload_n hc 0 (dc_at dX10_fault 5 rfl) rfl ?_
    refine r_getI hc (dc_at dX10_fault 6 rfl) fl_X10_240 hf fun x3 hf => ?_
    refine r_goto (tgt := 29) hc (dc_at dX10_fault 7 rfl) (by decide) ?_
    exact r_iret hc he (hm) (hs) (dc_at dX10_fault 15 rfl) hf
def m_X10_fault (h : PH) (p0 : Nat) (p1 : Int32) : Option (Int32 × PH) := b_X10_fault_0 h p0 p1
theorem mt_X10_fault {l : Launch} {X : XT} {h hz : PH} {p0 : Nat} {p1 : Int32} {r : Int32} (ex : m_X10_fault h p0 p1 = some (r, hz)) : MT l X yX10_fault cX10_fault 2 (some .int) 1 60 0 0 [.ref (X.1 + p0), .int p1] h (some (.int r)) hz := MT.of (by decide) (Nat.le_of_ble_eq_true rfl) fun M hl hc hr he => by
  subst hl
  exact gg_sub [0, 1] rfl (t_X10_fault_0  hc hr he (Nat.zero_le _) (Nat.zero_le _) ex)
/-! FractionLiftModel.at(I)I -/
def lX10_atL : List (Nat × Instr × Nat × Nat) := [(0, .aload_n 0, 1, 1), (1, .iconst 0, 1, 2), (2, .putfield 1, 3, 5), (5, .iload_n 1, 1, 6), (6, .i2l, 1, 7), (7, .lconst 0, 1, 8), (8, .lconst 1, 1, 9), (9, .invokestatic 172, 3, 12), (12, .ifCond .eq 15, 3, 15), (15, .aload_n 0, 1, 16), (16, .getfield 13, 3, 19), (19, .bipush 7, 2, 21), (21, .iload_n 1, 1, 22), (22, .iadd, 1, 23), (23, .iaload, 1, 24), (24, .goto 5, 3, 27), (27, .bipush (-2), 2, 29), (29, .ireturn, 1, 30)]
set_option maxRecDepth 20000 in
theorem dX10_at : dcL cX10_at lX10_atL = true := by decide +kernel
def b_X10_at_0 (h : PH) (v0 : Nat) (v1 : Int32) : Option (Int32 × PH) := (pV 10 0 (.int (0 : Int32)) h v0).bind fun h1 => ((m_X10_within (Int32.toInt64 v1) (0 : Int64) (1 : Int64)).bind fun x2 => (if x2 = 0 then (some ((-2 : Int32), h1)) else ((gR 10 1 h1 v0).bind fun a3 => ((aI 0 h1 a3 (((7 : Int32) + v1))).bind fun x4 => (some (x4, h1))))))
set_option maxRecDepth 20000 in
theorem t_X10_at_0 {M : MV} {X : XT} {h hz : PH} {r : Int32} {ce sl mc ms : Nat} {v0 : Nat} {v1 : Int32} (hc : Cx M X RX10 cX10_at) (hr : Rx M 2 118 mc ms 2) (he : Ex M X (some .int) "at" (some (.int r)) hz mc ms) (hm : ce ≤ mc) (hs : sl ≤ ms) (hf : b_X10_at_0 h v0 v1 = some (r, hz)) : GG M X h ce sl 0 [(0, .ref (X.1 + v0)), (1, .int v1)] [] := by
  unfold b_X10_at_0 at hf
  refine r_aload_n hc 0 (dc_at dX10_at 0 rfl) rfl ?_
  refine r_iconst (0 : Int32) hc (dc_at dX10_at 1 rfl) (by decide) ?_
  refine r_putI hc he (dc_at dX10_at 2 rfl) fp_X10_1 (fun q => by cases q) hf fun h1 hf => ?_
  refine r_iload_n hc 1 (dc_at dX10_at 3 rfl) rfl ?_
  refine r_i2l hc (dc_at dX10_at 4 rfl) ?_
  refine r_lconst (0 : Int64) hc (dc_at dX10_at 5 rfl) (by decide) ?_
  refine r_lconst (1 : Int64) hc (dc_at dX10_at 6 rfl) (by decide) ?_
  refine ob hf fun x2 ex hf => ?_
  refine r_callSi (As := [.long ((Int32.toInt64 v1)), .long ((0 : Int64)), .long ((1 : Int64))]) hc hr (dc_at dX10_at 7 rfl) ml_X10_172 mv_X10_within st_X10_within rfl (mt_X10_within ex) (by first | exact Nat.le_of_ble_eq_true rfl | omega) (by first | exact Nat.le_of_ble_eq_true rfl | omega) (by first | exact Nat.le_of_ble_eq_true rfl | omega) hm hs ?_
  refine r_if_eq (tgt := 27) hc (dc_at dX10_at 8 rfl) (by decide) hf (fun hf => ?_) (fun hf => ?_)
  · refine r_bipush (-2 : Int32) hc (dc_at dX10_at 16 rfl) (by decide) ?_
    exact r_iret hc he (hm) (hs) (dc_at dX10_at 17 rfl) hf
  · refine r_aload_n hc 0 (dc_at dX10_at 9 rfl) rfl ?_
    refine r_getR hc (dc_at dX10_at 10 rfl) fl_X10_13 hf fun a3 hf => ?_
    refine r_bipush (7 : Int32) hc (dc_at dX10_at 11 rfl) (by decide) ?_
    refine r_iload_n hc 1 (dc_at dX10_at 12 rfl) rfl ?_
    refine r_iadd hc (dc_at dX10_at 13 rfl) ?_
    refine r_iaload hc (dc_at dX10_at 14 rfl) hf fun x4 hf => ?_
    refine r_goto (tgt := 29) hc (dc_at dX10_at 15 rfl) (by decide) ?_
    exact r_iret hc he (hm) (hs) (dc_at dX10_at 17 rfl) hf
def m_X10_at (h : PH) (p0 : Nat) (p1 : Int32) : Option (Int32 × PH) := b_X10_at_0 h p0 p1
theorem mt_X10_at {l : Launch} {X : XT} {h hz : PH} {p0 : Nat} {p1 : Int32} {r : Int32} (ex : m_X10_at h p0 p1 = some (r, hz)) : MT l X yX10_at cX10_at 2 (some .int) 2 118 0 0 [.ref (X.1 + p0), .int p1] h (some (.int r)) hz := MT.of (by decide) (Nat.le_of_ble_eq_true rfl) fun M hl hc hr he => by
  subst hl
  exact gg_sub [0, 1] rfl (t_X10_at_0  hc hr he (Nat.zero_le _) (Nat.zero_le _) ex)
/-! FractionLiftModel.isTold(J)Z -/
def lX10_isToldL : List (Nat × Instr × Nat × Nat) := [(0, .lload_n 1, 1, 1), (1, .lconst 0, 1, 2), (2, .aload_n 0, 1, 3), (3, .getfield 13, 3, 6), (6, .iconst 3, 1, 7), (7, .iaload, 1, 8), (8, .iconst 1, 1, 9), (9, .isub, 1, 10), (10, .i2l, 1, 11), (11, .invokestatic 172, 3, 14), (14, .ireturn, 1, 15)]
set_option maxRecDepth 20000 in
theorem dX10_isTold : dcL cX10_isTold lX10_isToldL = true := by decide +kernel
def b_X10_isTold_0 (h : PH) (v0 : Nat) (v1 : Int64) : Option Int32 := (gR 10 1 h v0).bind fun a1 => ((aI 0 h a1 (3 : Int32)).bind fun x2 => ((m_X10_within v1 (0 : Int64) ((Int32.toInt64 ((x2 - (1 : Int32)))))).bind fun x3 => (rZP x3)))
set_option maxRecDepth 20000 in
theorem t_X10_isTold_0 {M : MV} {X : XT} {h : PH} {r : Int32} {ce sl mc ms : Nat} {v0 : Nat} {v1 : Int64} (hc : Cx M X RX10 cX10_isTold) (hr : Rx M 2 118 mc ms 3) (he : Ex M X (some .boolean) "isTold" (some (.int r)) h mc ms) (hm : ce ≤ mc) (hs : sl ≤ ms) (hf : b_X10_isTold_0 h v0 v1 = some r) : GG M X h ce sl 0 [(0, .ref (X.1 + v0)), (1, .long v1)] [] := by
  unfold b_X10_isTold_0 at hf
  refine r_lload_n hc 1 (dc_at dX10_isTold 0 rfl) rfl ?_
  refine r_lconst (0 : Int64) hc (dc_at dX10_isTold 1 rfl) (by decide) ?_
  refine r_aload_n hc 0 (dc_at dX10_isTold 2 rfl) rfl ?_
  refine r_getR hc (dc_at dX10_isTold 3 rfl) fl_X10_13 hf fun a1 hf => ?_
  refine r_iconst (3 : Int32) hc (dc_at dX10_isTold 4 rfl) (by decide) ?_
  refine r_iaload hc (dc_at dX10_isTold 5 rfl) hf fun x2 hf => ?_
  refine r_iconst (1 : Int32) hc (dc_at dX10_isTold 6 rfl) (by decide) ?_
  refine r_isub hc (dc_at dX10_isTold 7 rfl) ?_
  refine r_i2l hc (dc_at dX10_isTold 8 rfl) ?_
  refine ob hf fun x3 ex hf => ?_
  refine r_callSi (As := [.long v1, .long ((0 : Int64)), .long ((Int32.toInt64 ((x2 - (1 : Int32)))))]) hc hr (dc_at dX10_isTold 9 rfl) ml_X10_172 mv_X10_within st_X10_within rfl (mt_X10_within ex) (by first | exact Nat.le_of_ble_eq_true rfl | omega) (by first | exact Nat.le_of_ble_eq_true rfl | omega) (by first | exact Nat.le_of_ble_eq_true rfl | omega) hm hs ?_
  exact r_zretP hc he (hm) (hs) (dc_at dX10_isTold 10 rfl) hf
def m_X10_isTold (h : PH) (p0 : Nat) (p1 : Int64) : Option Int32 := b_X10_isTold_0 h p0 p1
theorem mt_X10_isTold {l : Launch} {X : XT} {h : PH} {p0 : Nat} {p1 : Int64} {r : Int32} (ex : m_X10_isTold h p0 p1 = some r) : MT l X yX10_isTold cX10_isTold 3 (some .boolean) 2 118 0 0 [.ref (X.1 + p0), .long p1] h (some (.int r)) h := MT.of (by decide) (Nat.le_of_ble_eq_true rfl) fun M hl hc hr he => by
  subst hl
  exact gg_sub [0, 1] rfl (t_X10_isTold_0  hc hr he (Nat.zero_le _) (Nat.zero_le _) ex)
/-! FractionLiftModel.isTenant(I)Z -/
def lX10_isTenantL : List (Nat × Instr × Nat × Nat) := [(0, .iload_n 1, 1, 1), (1, .i2l, 1, 2), (2, .lconst 0, 1, 3), (3, .aload_n 0, 1, 4), (4, .getfield 13, 3, 7), (7, .iconst 4, 1, 8), (8, .iaload, 1, 9), (9, .iconst 1, 1, 10), (10, .isub, 1, 11), (11, .i2l, 1, 12), (12, .invokestatic 172, 3, 15), (15, .ireturn, 1, 16)]
set_option maxRecDepth 20000 in
theorem dX10_isTenant : dcL cX10_isTenant lX10_isTenantL = true := by decide +kernel
def b_X10_isTenant_0 (h : PH) (v0 : Nat) (v1 : Int32) : Option Int32 := (gR 10 1 h v0).bind fun a1 => ((aI 0 h a1 (4 : Int32)).bind fun x2 => ((m_X10_within (Int32.toInt64 v1) (0 : Int64) ((Int32.toInt64 ((x2 - (1 : Int32)))))).bind fun x3 => (rZP x3)))
set_option maxRecDepth 20000 in
theorem t_X10_isTenant_0 {M : MV} {X : XT} {h : PH} {r : Int32} {ce sl mc ms : Nat} {v0 : Nat} {v1 : Int32} (hc : Cx M X RX10 cX10_isTenant) (hr : Rx M 2 118 mc ms 2) (he : Ex M X (some .boolean) "isTenant" (some (.int r)) h mc ms) (hm : ce ≤ mc) (hs : sl ≤ ms) (hf : b_X10_isTenant_0 h v0 v1 = some r) : GG M X h ce sl 0 [(0, .ref (X.1 + v0)), (1, .int v1)] [] := by
  unfold b_X10_isTenant_0 at hf
  refine r_iload_n hc 1 (dc_at dX10_isTenant 0 rfl) rfl ?_
  refine r_i2l hc (dc_at dX10_isTenant 1 rfl) ?_
  refine r_lconst (0 : Int64) hc (dc_at dX10_isTenant 2 rfl) (by decide) ?_
  refine r_aload_n hc 0 (dc_at dX10_isTenant 3 rfl) rfl ?_
  refine r_getR hc (dc_at dX10_isTenant 4 rfl) fl_X10_13 hf fun a1 hf => ?_
  refine r_iconst (4 : Int32) hc (dc_at dX10_isTenant 5 rfl) (by decide) ?_
  refine r_iaload hc (dc_at dX10_isTenant 6 rfl) hf fun x2 hf => ?_
  refine r_iconst (1 : Int32) hc (dc_at dX10_isTenant 7 rfl) (by decide) ?_
  refine r_isub hc (dc_at dX10_isTenant 8 rfl) ?_
  refine r_i2l hc (dc_at dX10_isTenant 9 rfl) ?_
  refine ob hf fun x3 ex hf => ?_
  refine r_callSi (As := [.long ((Int32.toInt64 v1)), .long ((0 : Int64)), .long ((Int32.toInt64 ((x2 - (1 : Int32)))))]) hc hr (dc_at dX10_isTenant 10 rfl) ml_X10_172 mv_X10_within st_X10_within rfl (mt_X10_within ex) (by first | exact Nat.le_of_ble_eq_true rfl | omega) (by first | exact Nat.le_of_ble_eq_true rfl | omega) (by first | exact Nat.le_of_ble_eq_true rfl | omega) hm hs ?_
  exact r_zretP hc he (hm) (hs) (dc_at dX10_isTenant 11 rfl) hf
def m_X10_isTenant (h : PH) (p0 : Nat) (p1 : Int32) : Option Int32 := b_X10_isTenant_0 h p0 p1
theorem mt_X10_isTenant {l : Launch} {X : XT} {h : PH} {p0 : Nat} {p1 : Int32} {r : Int32} (ex : m_X10_isTenant h p0 p1 = some r) : MT l X yX10_isTenant cX10_isTenant 2 (some .boolean) 2 118 0 0 [.ref (X.1 + p0), .int p1] h (some (.int r)) h := MT.of (by decide) (Nat.le_of_ble_eq_true rfl) fun M hl hc hr he => by
  subst hl
  exact gg_sub [0, 1] rfl (t_X10_isTenant_0  hc hr he (Nat.zero_le _) (Nat.zero_le _) ex)
/-! FractionLiftModel.against(JJJJ)I -/
def lX10_againstL : List (Nat × Instr × Nat × Nat) := [(0, .lload_n 0, 1, 1), (1, .lload 6, 2, 3), (3, .lmul, 1, 4), (4, .lload 4, 2, 6), (6, .lload_n 2, 1, 7), (7, .lmul, 1, 8), (8, .lsub, 1, 9), (9, .lstore 8, 2, 11), (11, .lload 8, 2, 13), (13, .lconst 0, 1, 14), (14, .lcmp, 1, 15), (15, .ifCond .ge 7, 3, 18), (18, .iconst (-1), 1, 19), (19, .goto 15, 3, 22), (22, .lload 8, 2, 24), (24, .lconst 0, 1, 25), (25, .lcmp, 1, 26), (26, .ifCond .le 7, 3, 29), (29, .iconst 1, 1, 30), (30, .goto 4, 3, 33), (33, .iconst 0, 1, 34), (34, .ireturn, 1, 35)]
set_option maxRecDepth 20000 in
theorem dX10_against : dcL cX10_against lX10_againstL = true := by decide +kernel
def b_X10_against_0 (v0 : Int64) (v2 : Int64) (v4 : Int64) (v6 : Int64) : Option Int32 := bindv (((v0 * v6) - (v4 * v2))) fun x1 => (if (0 : Int64) ≤ x1 then (if x1 ≤ (0 : Int64) then (some (0 : Int32)) else (some (1 : Int32))) else (some (-1 : Int32)))
set_option maxRecDepth 20000 in
theorem t_X10_against_0 {M : MV} {X : XT} {h : PH} {r : Int32} {ce sl mc ms : Nat} {v0 : Int64} {v2 : Int64} {v4 : Int64} {v6 : Int64} (hc : Cx M X RX10 cX10_against) (hr : Rx M 1 60 mc ms 10) (he : Ex M X (some .int) "against" (some (.int r)) h mc ms) (hm : ce ≤ mc) (hs : sl ≤ ms) (hf : b_X10_against_0 v0 v2 v4 v6 = some r) : GG M X h ce sl 0 [(0, .long v0), (2, .long v2), (4, .long v4), (6, .long v6)] [] := by
  unfold b_X10_against_0 at hf
  refine r_lload_n hc 0 (dc_at dX10_against 0 rfl) rfl ?_
  refine r_lload hc 3 (dc_at dX10_against 1 rfl) rfl ?_
  refine r_lmul hc (dc_at dX10_against 2 rfl) ?_
  refine r_lload hc 2 (dc_at dX10_against 3 rfl) rfl ?_
  refine r_lload_n hc 1 (dc_at dX10_against 4 rfl) rfl ?_
  refine r_lmul hc (dc_at dX10_against 5 rfl) ?_
  refine r_lsub hc (dc_at dX10_against 6 rfl) ?_
  refine r_nm (mk := Value.long) hf fun x1 hf => ?_
  refine r_lstore [(8, .long x1), (0, .long v0), (2, .long v2), (4, .long v4), (6, .long v6)] hc hr (dc_at dX10_against 7 rfl) (by decide) rfl ?_
  refine r_lload hc 0 (dc_at dX10_against 8 rfl) rfl ?_
  refine r_lconst (0 : Int64) hc (dc_at dX10_against 9 rfl) (by decide) ?_
  refine r_lcmp_ge (tgt := 22) hc (dc_at dX10_against 10 rfl) (dc_at dX10_against 11 rfl) (by decide) hf (fun hf => ?_) (fun hf => ?_)
  · refine r_lload hc 0 (dc_at dX10_against 14 rfl) rfl ?_
    refine r_lconst (0 : Int64) hc (dc_at dX10_against 15 rfl) (by decide) ?_
    refine r_lcmp_le (tgt := 33) hc (dc_at dX10_against 16 rfl) (dc_at dX10_against 17 rfl) (by decide) hf (fun hf => ?_) (fun hf => ?_)
    · refine r_iconst (0 : Int32) hc (dc_at dX10_against 20 rfl) (by decide) ?_
      exact r_iretP hc he (hm) (hs) (dc_at dX10_against 21 rfl) hf
    · refine r_iconst (1 : Int32) hc (dc_at dX10_against 18 rfl) (by decide) ?_
      refine r_goto (tgt := 34) hc (dc_at dX10_against 19 rfl) (by decide) ?_
      exact r_iretP hc he (hm) (hs) (dc_at dX10_against 21 rfl) hf
  · refine r_iconst (-1 : Int32) hc (dc_at dX10_against 12 rfl) (by decide) ?_
    refine r_goto (tgt := 34) hc (dc_at dX10_against 13 rfl) (by decide) ?_
    exact r_iretP hc he (hm) (hs) (dc_at dX10_against 21 rfl) hf
def m_X10_against (p0 : Int64) (p2 : Int64) (p4 : Int64) (p6 : Int64) : Option Int32 := b_X10_against_0 p0 p2 p4 p6
theorem mt_X10_against {l : Launch} {X : XT} {h : PH} {p0 : Int64} {p2 : Int64} {p4 : Int64} {p6 : Int64} {r : Int32} (ex : m_X10_against p0 p2 p4 p6 = some r) : MT l X yX10_against cX10_against 10 (some .int) 1 60 0 0 [.long p0, .long p2, .long p4, .long p6] h (some (.int r)) h := MT.of (by decide) (Nat.le_of_ble_eq_true rfl) fun M hl hc hr he => by
  subst hl
  exact gg_sub [0, 1, 2, 3] rfl (t_X10_against_0  hc hr he (Nat.zero_le _) (Nat.zero_le _) ex)
/-! FractionLiftModel.placeOf(I)I -/
def lX10_placeOfL : List (Nat × Instr × Nat × Nat) := [(0, .iconst 0, 1, 1), (1, .istore_n 2, 1, 2), (2, .iconst 0, 1, 3), (3, .istore_n 3, 1, 4), (4, .iload_n 3, 1, 5), (5, .aload_n 0, 1, 6), (6, .getfield 13, 3, 9), (9, .iconst 3, 1, 10), (10, .iaload, 1, 11), (11, .if_icmp .ge 63, 3, 14), (14, .iload_n 2, 1, 15), (15, .aload_n 0, 1, 16), (16, .getfield 13, 3, 19), (19, .bipush 9, 2, 21), (21, .iload_n 3, 1, 22), (22, .iadd, 1, 23), (23, .iaload, 1, 24), (24, .i2l, 1, 25), (25, .aload_n 0, 1, 26), (26, .getfield 13, 3, 29), (29, .bipush 17, 2, 31), (31, .iload_n 3, 1, 32), (32, .iadd, 1, 33), (33, .iaload, 1, 34), (34, .i2l, 1, 35), (35, .aload_n 0, 1, 36), (36, .getfield 13, 3, 39), (39, .bipush 9, 2, 41), (41, .iload_n 1, 1, 42), (42, .iadd, 1, 43), (43, .iaload, 1, 44), (44, .i2l, 1, 45), (45, .aload_n 0, 1, 46), (46, .getfield 13, 3, 49), (49, .bipush 17, 2, 51), (51, .iload_n 1, 1, 52), (52, .iadd, 1, 53), (53, .iaload, 1, 54), (54, .i2l, 1, 55), (55, .invokestatic 243, 3, 58), (58, .ifCond .ge 7, 3, 61), (61, .iconst 1, 1, 62), (62, .goto 4, 3, 65), (65, .iconst 0, 1, 66), (66, .iadd, 1, 67), (67, .istore_n 2, 1, 68), (68, .iinc 3 1, 3, 71), (71, .goto (-67), 3, 74), (74, .iload_n 2, 1, 75), (75, .ireturn, 1, 76)]
set_option maxRecDepth 20000 in
theorem dX10_placeOf : dcL cX10_placeOf lX10_placeOfL = true := by decide +kernel
def b_X10_placeOf_66 (F : Nat) (self4 : Nat → Int32 → Int32 → Int32 → Option Int32) (h : PH) (v0 : Nat) (v1 : Int32) (v3 : Int32) (s0 : Int32) (s1 : Int32) : Option Int32 := bindv (s0 + s1) fun x1 => (bindv (v3 + (1)) fun x2 => (self4 v0 v1 x1 x2))
set_option maxRecDepth 20000 in
theorem t_X10_placeOf_66 {M : MV} {X : XT} {F : Nat} {self4 : Nat → Int32 → Int32 → Int32 → Option Int32} {h : PH} {r : Int32} {ce sl mc ms : Nat} {v0 : Nat} {v1 : Int32} {v3 : Int32} {s0 : Int32} {s1 : Int32} (hc : Cx M X RX10 cX10_placeOf) (hr : Rx M 2 118 mc ms 4) (he : Ex M X (some .int) "placeOf" (some (.int r)) h mc ms) (hm : ce ≤ mc) (hs : sl ≤ ms) (ih4 : ∀ (v0 : Nat) (v1 : Int32) (v2 : Int32) (v3 : Int32), self4 v0 v1 v2 v3 = some r → GG M X h ce sl 4 [(0, .ref (X.1 + v0)), (1, .int v1), (2, .int v2), (3, .int v3)] []) (hf : b_X10_placeOf_66 F self4 h v0 v1 v3 s0 s1 = some r) : GG M X h ce sl 66 [(0, .ref (X.1 + v0)), (1, .int v1), (3, .int v3)] [.int s1, .int s0] := by
  unfold b_X10_placeOf_66 at hf
  refine r_iadd hc (dc_at dX10_placeOf 44 rfl) ?_
  refine r_nm (mk := Value.int) hf fun x1 hf => ?_
  refine r_istore_n [(2, .int x1), (0, .ref (X.1 + v0)), (1, .int v1), (3, .int v3)] hc hr (dc_at dX10_placeOf 45 rfl) (by decide) rfl ?_
  refine obv hf fun x2 e_x2 hf => ?_
  refine r_iinc 3 [(3, .int x2), (2, .int x1), (0, .ref (X.1 + v0)), (1, .int v1)] hc hr (dc_at dX10_placeOf 46 rfl) rfl (by rw [e_x2]; rfl) (by decide) rfl ?_
  refine r_goto (tgt := 4) hc (dc_at dX10_placeOf 47 rfl) (by decide) ?_
  exact gg_sub [2, 3, 1, 0] rfl (ih4 _ _ _ _ hf)
def b_X10_placeOf_4 (F : Nat) (self4 : Nat → Int32 → Int32 → Int32 → Option Int32) (h : PH) (v0 : Nat) (v1 : Int32) (v2 : Int32) (v3 : Int32) : Option Int32 := (gR 10 1 h v0).bind fun a1 => ((aI 0 h a1 (3 : Int32)).bind fun x2 => (if x2 ≤ v3 then (some v2) else ((gR 10 1 h v0).bind fun a3 => ((aI 0 h a3 (((9 : Int32) + v3))).bind fun x4 => ((gR 10 1 h v0).bind fun a5 => ((aI 0 h a5 (((17 : Int32) + v3))).bind fun x6 => ((gR 10 1 h v0).bind fun a7 => ((aI 0 h a7 (((9 : Int32) + v1))).bind fun x8 => ((gR 10 1 h v0).bind fun a9 => ((aI 0 h a9 (((17 : Int32) + v1))).bind fun x10 => ((m_X10_against (Int32.toInt64 x4) (Int32.toInt64 x6) (Int32.toInt64 x8) (Int32.toInt64 x10)).bind fun x11 => (if 0 ≤ x11 then (b_X10_placeOf_66 F self4 h v0 v1 v3 v2 (0 : Int32)) else (b_X10_placeOf_66 F self4 h v0 v1 v3 v2 (1 : Int32))))))))))))))
set_option maxRecDepth 20000 in
theorem tb_X10_placeOf_4 {M : MV} {X : XT} {F : Nat} {self4 : Nat → Int32 → Int32 → Int32 → Option Int32} {h : PH} {r : Int32} {ce sl mc ms : Nat} {v0 : Nat} {v1 : Int32} {v2 : Int32} {v3 : Int32} (hc : Cx M X RX10 cX10_placeOf) (hr : Rx M 2 118 mc ms 4) (he : Ex M X (some .int) "placeOf" (some (.int r)) h mc ms) (hm : ce ≤ mc) (hs : sl ≤ ms) (ih4 : ∀ (v0 : Nat) (v1 : Int32) (v2 : Int32) (v3 : Int32), self4 v0 v1 v2 v3 = some r → GG M X h ce sl 4 [(0, .ref (X.1 + v0)), (1, .int v1), (2, .int v2), (3, .int v3)] []) (hf : b_X10_placeOf_4 F self4 h v0 v1 v2 v3 = some r) : GG M X h ce sl 4 [(0, .ref (X.1 + v0)), (1, .int v1), (2, .int v2), (3, .int v3)] [] := by
  unfold b_X10_placeOf_4 at hf
  refine r_iload_n hc 3 (dc_at dX10_placeOf 4 rfl) rfl ?_
  refine r_aload_n hc 0 (dc_at dX10_placeOf 5 rfl) rfl ?_
  refine r_getR hc (dc_at dX10_placeOf 6 rfl) fl_X10_13 hf fun a1 hf => ?_
  refine r_iconst (3 : Int32) hc (dc_at dX10_placeOf 7 rfl) (by decide) ?_
  refine r_iaload hc (dc_at dX10_placeOf 8 rfl) hf fun x2 hf => ?_
  refine r_icmp_ge (tgt := 74) hc (dc_at dX10_placeOf 9 rfl) (by decide) hf (fun hf => ?_) (fun hf => ?_)
  · refine r_iload_n hc 2 (dc_at dX10_placeOf 48 rfl) rfl ?_
    exact r_iretP hc he (hm) (hs) (dc_at dX10_placeOf 49 rfl) hf
  · refine r_iload_n hc 2 (dc_at dX10_placeOf 10 rfl) rfl ?_
    refine r_aload_n hc 0 (dc_at dX10_placeOf 11 rfl) rfl ?_
    refine r_getR hc (dc_at dX10_placeOf 12 rfl) fl_X10_13 hf fun a3 hf => ?_
    refine r_bipush (9 : Int32) hc (dc_at dX10_placeOf 13 rfl) (by decide) ?_
    refine r_iload_n hc 3 (dc_at dX10_placeOf 14 rfl) rfl ?_
    refine r_iadd hc (dc_at dX10_placeOf 15 rfl) ?_
    refine r_iaload hc (dc_at dX10_placeOf 16 rfl) hf fun x4 hf => ?_
    refine r_i2l hc (dc_at dX10_placeOf 17 rfl) ?_
    refine r_aload_n hc 0 (dc_at dX10_placeOf 18 rfl) rfl ?_
    refine r_getR hc (dc_at dX10_placeOf 19 rfl) fl_X10_13 hf fun a5 hf => ?_
    refine r_bipush (17 : Int32) hc (dc_at dX10_placeOf 20 rfl) (by decide) ?_
    refine r_iload_n hc 3 (dc_at dX10_placeOf 21 rfl) rfl ?_
    refine r_iadd hc (dc_at dX10_placeOf 22 rfl) ?_
    refine r_iaload hc (dc_at dX10_placeOf 23 rfl) hf fun x6 hf => ?_
    refine r_i2l hc (dc_at dX10_placeOf 24 rfl) ?_
    refine r_aload_n hc 0 (dc_at dX10_placeOf 25 rfl) rfl ?_
    refine r_getR hc (dc_at dX10_placeOf 26 rfl) fl_X10_13 hf fun a7 hf => ?_
    refine r_bipush (9 : Int32) hc (dc_at dX10_placeOf 27 rfl) (by decide) ?_
    refine r_iload_n hc 1 (dc_at dX10_placeOf 28 rfl) rfl ?_
    refine r_iadd hc (dc_at dX10_placeOf 29 rfl) ?_
    refine r_iaload hc (dc_at dX10_placeOf 30 rfl) hf fun x8 hf => ?_
    refine r_i2l hc (dc_at dX10_placeOf 31 rfl) ?_
    refine r_aload_n hc 0 (dc_at dX10_placeOf 32 rfl) rfl ?_
    refine r_getR hc (dc_at dX10_placeOf 33 rfl) fl_X10_13 hf fun a9 hf => ?_
    refine r_bipush (17 : Int32) hc (dc_at dX10_placeOf 34 rfl) (by decide) ?_
    refine r_iload_n hc 1 (dc_at dX10_placeOf 35 rfl) rfl ?_
    refine r_iadd hc (dc_at dX10_placeOf 36 rfl) ?_
    refine r_iaload hc (dc_at dX10_placeOf 37 rfl) hf fun x10 hf => ?_
    refine r_i2l hc (dc_at dX10_placeOf 38 rfl) ?_
    refine ob hf fun x11 ex hf => ?_
    refine r_callSi (As := [.long ((Int32.toInt64 x4)), .long ((Int32.toInt64 x6)), .long ((Int32.toInt64 x8)), .long ((Int32.toInt64 x10))]) hc hr (dc_at dX10_placeOf 39 rfl) ml_X10_243 mv_X10_against st_X10_against rfl (mt_X10_against ex) (by first | exact Nat.le_of_ble_eq_true rfl | omega) (by first | exact Nat.le_of_ble_eq_true rfl | omega) (by first | exact Nat.le_of_ble_eq_true rfl | omega) hm hs ?_
    refine r_if_ge (tgt := 65) hc (dc_at dX10_placeOf 40 rfl) (by decide) hf (fun hf => ?_) (fun hf => ?_)
    · refine r_iconst (0 : Int32) hc (dc_at dX10_placeOf 43 rfl) (by decide) ?_
      exact gg_sub [0, 1, 3] rfl (t_X10_placeOf_66 hc hr he hm hs ih4 hf)
    · refine r_iconst (1 : Int32) hc (dc_at dX10_placeOf 41 rfl) (by decide) ?_
      refine r_goto (tgt := 66) hc (dc_at dX10_placeOf 42 rfl) (by decide) ?_
      exact gg_sub [0, 1, 3] rfl (t_X10_placeOf_66 hc hr he hm hs ih4 hf)
def l_X10_placeOf_4 (F : Nat) (h : PH) : Nat → Nat → Int32 → Int32 → Int32 → Option Int32
  | 0 => fun _ _ _ _ => none
  | n + 1 => fun v0 v1 v2 v3 => b_X10_placeOf_4 F (l_X10_placeOf_4 F h n) h v0 v1 v2 v3
theorem tl_X10_placeOf_4 {M : MV} {X : XT} {F : Nat} {h : PH} {r : Int32} {ce sl mc ms : Nat} (hc : Cx M X RX10 cX10_placeOf) (hr : Rx M 2 118 mc ms 4) (he : Ex M X (some .int) "placeOf" (some (.int r)) h mc ms) (hm : ce ≤ mc) (hs : sl ≤ ms) (n : Nat) : ∀ (v0 : Nat) (v1 : Int32) (v2 : Int32) (v3 : Int32), l_X10_placeOf_4 F h n v0 v1 v2 v3 = some r → GG M X h ce sl 4 [(0, .ref (X.1 + v0)), (1, .int v1), (2, .int v2), (3, .int v3)] [] := by
  induction n with
  | zero => intro v0 v1 v2 v3 hf; cases hf
  | succ n ih => intro v0 v1 v2 v3 hf; exact tb_X10_placeOf_4 (F := F) hc hr he hm hs  ih hf
def b_X10_placeOf_0 (F : Nat) (h : PH) (v0 : Nat) (v1 : Int32) : Option Int32 := l_X10_placeOf_4 F h F v0 v1 (0 : Int32) (0 : Int32)
set_option maxRecDepth 20000 in
theorem t_X10_placeOf_0 {M : MV} {X : XT} {F : Nat} {h : PH} {r : Int32} {ce sl mc ms : Nat} {v0 : Nat} {v1 : Int32} (hc : Cx M X RX10 cX10_placeOf) (hr : Rx M 2 118 mc ms 4) (he : Ex M X (some .int) "placeOf" (some (.int r)) h mc ms) (hm : ce ≤ mc) (hs : sl ≤ ms) (hf : b_X10_placeOf_0 F h v0 v1 = some r) : GG M X h ce sl 0 [(0, .ref (X.1 + v0)), (1, .int v1)] [] := by
  unfold b_X10_placeOf_0 at hf
  refine r_iconst (0 : Int32) hc (dc_at dX10_placeOf 0 rfl) (by decide) ?_
  refine r_istore_n [(2, .int ((0 : Int32))), (0, .ref (X.1 + v0)), (1, .int v1)] hc hr (dc_at dX10_placeOf 1 rfl) (by decide) rfl ?_
  refine r_iconst (0 : Int32) hc (dc_at dX10_placeOf 2 rfl) (by decide) ?_
  refine r_istore_n [(3, .int ((0 : Int32))), (2, .int ((0 : Int32))), (0, .ref (X.1 + v0)), (1, .int v1)] hc hr (dc_at dX10_placeOf 3 rfl) (by decide) rfl ?_
  exact gg_sub [2, 3, 1, 0] rfl (tl_X10_placeOf_4 hc hr he hm hs  F _ _ _ _ hf)
def m_X10_placeOf (F : Nat) (h : PH) (p0 : Nat) (p1 : Int32) : Option Int32 := b_X10_placeOf_0 F h p0 p1
theorem mt_X10_placeOf {l : Launch} {X : XT} {F : Nat} {h : PH} {p0 : Nat} {p1 : Int32} {r : Int32} (ex : m_X10_placeOf F h p0 p1 = some r) : MT l X yX10_placeOf cX10_placeOf 4 (some .int) 2 118 0 0 [.ref (X.1 + p0), .int p1] h (some (.int r)) h := MT.of (by decide) (Nat.le_of_ble_eq_true rfl) fun M hl hc hr he => by
  subst hl
  exact gg_sub [0, 1] rfl (t_X10_placeOf_0  hc hr he (Nat.zero_le _) (Nat.zero_le _) ex)
/-! FractionLiftModel.floor(II)I -/
def lX10_floorL : List (Nat × Instr × Nat × Nat) := [(0, .aload_n 0, 1, 1), (1, .iconst 0, 1, 2), (2, .putfield 1, 3, 5), (5, .aload_n 0, 1, 6), (6, .iload_n 1, 1, 7), (7, .i2l, 1, 8), (8, .invokevirtual 247, 3, 11), (11, .ifCond .ne 6, 3, 14), (14, .bipush (-2), 2, 16), (16, .ireturn, 1, 17), (17, .iload_n 2, 1, 18), (18, .tableswitch 81 0 5 #[38, 48, 58, 58, 58, 75], 38, 56), (56, .aload_n 0, 1, 57), (57, .getfield 13, 3, 60), (60, .bipush 9, 2, 62), (62, .iload_n 1, 1, 63), (63, .iadd, 1, 64), (64, .iaload, 1, 65), (65, .ireturn, 1, 66), (66, .aload_n 0, 1, 67), (67, .getfield 13, 3, 70), (70, .bipush 17, 2, 72), (72, .iload_n 1, 1, 73), (73, .iadd, 1, 74), (74, .iaload, 1, 75), (75, .ireturn, 1, 76), (76, .aload_n 0, 1, 77), (77, .getfield 13, 3, 80), (80, .bipush 25, 2, 82), (82, .bipush 8, 2, 84), (84, .iload_n 2, 1, 85), (85, .iconst 2, 1, 86), (86, .isub, 1, 87), (87, .imul, 1, 88), (88, .iadd, 1, 89), (89, .iload_n 1, 1, 90), (90, .iadd, 1, 91), (91, .iaload, 1, 92), (92, .ireturn, 1, 93), (93, .aload_n 0, 1, 94), (94, .iload_n 1, 1, 95), (95, .invokevirtual 251, 3, 98), (98, .ireturn, 1, 99), (99, .bipush (-2), 2, 101), (101, .ireturn, 1, 102)]
set_option maxRecDepth 20000 in
theorem dX10_floor : dcL cX10_floor lX10_floorL = true := by decide +kernel
def b_X10_floor_76 (F : Nat) (h : PH) (v0 : Nat) (v1 : Int32) (v2 : Int32) : Option (Int32 × PH) := (gR 10 1 h v0).bind fun a1 => ((aI 0 h a1 (((((25 : Int32) + (((8 : Int32) * ((v2 - (2 : Int32))))))) + v1))).bind fun x2 => (some (x2, h)))
set_option maxRecDepth 20000 in
theorem t_X10_floor_76 {M : MV} {X : XT} {F : Nat} {h hz : PH} {r : Int32} {ce sl mc ms : Nat} {v0 : Nat} {v1 : Int32} {v2 : Int32} (hc : Cx M X RX10 cX10_floor) (hr : Rx M 3 176 mc ms 3) (he : Ex M X (some .int) "floor" (some (.int r)) hz mc ms) (hm : ce ≤ mc) (hs : sl ≤ ms) (hf : b_X10_floor_76 F h v0 v1 v2 = some (r, hz)) : GG M X h ce sl 76 [(0, .ref (X.1 + v0)), (1, .int v1), (2, .int v2)] [] := by
  unfold b_X10_floor_76 at hf
  refine r_aload_n hc 0 (dc_at dX10_floor 26 rfl) rfl ?_
  refine r_getR hc (dc_at dX10_floor 27 rfl) fl_X10_13 hf fun a1 hf => ?_
  refine r_bipush (25 : Int32) hc (dc_at dX10_floor 28 rfl) (by decide) ?_
  refine r_bipush (8 : Int32) hc (dc_at dX10_floor 29 rfl) (by decide) ?_
  refine r_iload_n hc 2 (dc_at dX10_floor 30 rfl) rfl ?_
  refine r_iconst (2 : Int32) hc (dc_at dX10_floor 31 rfl) (by decide) ?_
  refine r_isub hc (dc_at dX10_floor 32 rfl) ?_
  refine r_imul hc (dc_at dX10_floor 33 rfl) ?_
  refine r_iadd hc (dc_at dX10_floor 34 rfl) ?_
  refine r_iload_n hc 1 (dc_at dX10_floor 35 rfl) rfl ?_
  refine r_iadd hc (dc_at dX10_floor 36 rfl) ?_
  refine r_iaload hc (dc_at dX10_floor 37 rfl) hf fun x2 hf => ?_
  exact r_iret hc he (hm) (hs) (dc_at dX10_floor 38 rfl) hf
def b_X10_floor_0 (F : Nat) (h : PH) (v0 : Nat) (v1 : Int32) (v2 : Int32) : Option (Int32 × PH) := (pV 10 0 (.int (0 : Int32)) h v0).bind fun h1 => (cO 10 h1 v0 ((m_X10_isTold h1 v0 (Int32.toInt64 v1)).bind fun x2 => (if x2 = 0 then (some ((-2 : Int32), h1)) else (swN v2 (0) [(gR 10 1 h1 v0).bind fun a3 => ((aI 0 h1 a3 (((9 : Int32) + v1))).bind fun x4 => (some (x4, h1))), (gR 10 1 h1 v0).bind fun a5 => ((aI 0 h1 a5 (((17 : Int32) + v1))).bind fun x6 => (some (x6, h1))), b_X10_floor_76 F h1 v0 v1 v2, b_X10_floor_76 F h1 v0 v1 v2, b_X10_floor_76 F h1 v0 v1 v2, cO 10 h1 v0 ((m_X10_placeOf F h1 v0 v1).bind fun x7 => (some (x7, h1)))] (some ((-2 : Int32), h1))))))
set_option maxRecDepth 20000 in
theorem t_X10_floor_0 {M : MV} {X : XT} {F : Nat} {h hz : PH} {r : Int32} {ce sl mc ms : Nat} {v0 : Nat} {v1 : Int32} {v2 : Int32} (hc : Cx M X RX10 cX10_floor) (hr : Rx M 3 176 mc ms 3) (he : Ex M X (some .int) "floor" (some (.int r)) hz mc ms) (hm : ce ≤ mc) (hs : sl ≤ ms) (hf : b_X10_floor_0 F h v0 v1 v2 = some (r, hz)) : GG M X h ce sl 0 [(0, .ref (X.1 + v0)), (1, .int v1), (2, .int v2)] [] := by
  unfold b_X10_floor_0 at hf
  refine r_aload_n hc 0 (dc_at dX10_floor 0 rfl) rfl ?_
  refine r_iconst (0 : Int32) hc (dc_at dX10_floor 1 rfl) (by decide) ?_
  refine r_putI hc he (dc_at dX10_floor 2 rfl) fp_X10_1 (fun q => by cases q) hf fun h1 hf => ?_
  refine r_aload_n hc 0 (dc_at dX10_floor 3 rfl) rfl ?_
  refine r_iload_n hc 1 (dc_at dX10_floor 4 rfl) rfl ?_
  refine r_i2l hc (dc_at dX10_floor 5 rfl) ?_
  obtain ⟨ho, hf⟩ := cO_some hf
  refine ob hf fun x2 ex hf => ?_
  refine r_callVi (As := [.long ((Int32.toInt64 v1))]) (ci := 10) hc hr (dc_at dX10_floor 6 rfl) ml_X10_247 mv_X10_isTold vi_X10_isTold rfl ho rfl (mt_X10_isTold ex) (by first | exact Nat.le_of_ble_eq_true rfl | omega) (by first | exact Nat.le_of_ble_eq_true rfl | omega) (by first | exact Nat.le_of_ble_eq_true rfl | omega) hm hs ?_
  refine r_if_ne (tgt := 17) hc (dc_at dX10_floor 7 rfl) (by decide) hf (fun hf => ?_) (fun hf => ?_)
  · refine r_iload_n hc 2 (dc_at dX10_floor 10 rfl) rfl ?_
    rcases sw_cases hf with ⟨i, hi, hx, hf⟩ | ⟨hx, hf⟩
    · rcases (show i = 0 ∨ i = 1 ∨ i = 2 ∨ i = 3 ∨ i = 4 ∨ i = 5 by simp only [List.length_cons, List.length_nil] at hi; omega) with rfl | rfl | rfl | rfl | rfl | rfl
      · have hf := gd_at hf rfl
        refine r_tableIn (tgt := 56) 0 hc (dc_at dX10_floor 11 rfl) hx rfl (by decide) (by decide) ?_
        refine r_aload_n hc 0 (dc_at dX10_floor 12 rfl) rfl ?_
        refine r_getR hc (dc_at dX10_floor 13 rfl) fl_X10_13 hf fun a3 hf => ?_
        refine r_bipush (9 : Int32) hc (dc_at dX10_floor 14 rfl) (by decide) ?_
        refine r_iload_n hc 1 (dc_at dX10_floor 15 rfl) rfl ?_
        refine r_iadd hc (dc_at dX10_floor 16 rfl) ?_
        refine r_iaload hc (dc_at dX10_floor 17 rfl) hf fun x4 hf => ?_
        exact r_iret hc he (hm) (hs) (dc_at dX10_floor 18 rfl) hf
      · have hf := gd_at hf rfl
        refine r_tableIn (tgt := 66) 1 hc (dc_at dX10_floor 11 rfl) hx rfl (by decide) (by decide) ?_
        refine r_aload_n hc 0 (dc_at dX10_floor 19 rfl) rfl ?_
        refine r_getR hc (dc_at dX10_floor 20 rfl) fl_X10_13 hf fun a5 hf => ?_
        refine r_bipush (17 : Int32) hc (dc_at dX10_floor 21 rfl) (by decide) ?_
        refine r_iload_n hc 1 (dc_at dX10_floor 22 rfl) rfl ?_
        refine r_iadd hc (dc_at dX10_floor 23 rfl) ?_
        refine r_iaload hc (dc_at dX10_floor 24 rfl) hf fun x6 hf => ?_
        exact r_iret hc he (hm) (hs) (dc_at dX10_floor 25 rfl) hf
      · have hf := gd_at hf rfl
        refine r_tableIn (tgt := 76) 2 hc (dc_at dX10_floor 11 rfl) hx rfl (by decide) (by decide) ?_
        exact gg_sub [0, 1, 2] rfl (t_X10_floor_76 hc hr he hm hs  hf)
      · have hf := gd_at hf rfl
        refine r_tableIn (tgt := 76) 3 hc (dc_at dX10_floor 11 rfl) hx rfl (by decide) (by decide) ?_
        exact gg_sub [0, 1, 2] rfl (t_X10_floor_76 hc hr he hm hs  hf)
      · have hf := gd_at hf rfl
        refine r_tableIn (tgt := 76) 4 hc (dc_at dX10_floor 11 rfl) hx rfl (by decide) (by decide) ?_
        exact gg_sub [0, 1, 2] rfl (t_X10_floor_76 hc hr he hm hs  hf)
      · have hf := gd_at hf rfl
        refine r_tableIn (tgt := 93) 5 hc (dc_at dX10_floor 11 rfl) hx rfl (by decide) (by decide) ?_
        refine r_aload_n hc 0 (dc_at dX10_floor 39 rfl) rfl ?_
        refine r_iload_n hc 1 (dc_at dX10_floor 40 rfl) rfl ?_
        obtain ⟨ho, hf⟩ := cO_some hf
        refine ob hf fun x7 ex hf => ?_
        refine r_callVi (As := [.int v1]) (ci := 10) hc hr (dc_at dX10_floor 41 rfl) ml_X10_251 mv_X10_placeOf vi_X10_placeOf rfl ho rfl (mt_X10_placeOf ex) (by first | exact Nat.le_of_ble_eq_true rfl | omega) (by first | exact Nat.le_of_ble_eq_true rfl | omega) (by first | exact Nat.le_of_ble_eq_true rfl | omega) hm hs ?_
        exact r_iret hc he (hm) (hs) (dc_at dX10_floor 42 rfl) hf
    · refine r_tableOut (tgt := 99) 6 hc (dc_at dX10_floor 11 rfl) hx (by decide) (by decide) ?_
      refine r_bipush (-2 : Int32) hc (dc_at dX10_floor 43 rfl) (by decide) ?_
      exact r_iret hc he (hm) (hs) (dc_at dX10_floor 44 rfl) hf
  · refine r_bipush (-2 : Int32) hc (dc_at dX10_floor 8 rfl) (by decide) ?_
    exact r_iret hc he (hm) (hs) (dc_at dX10_floor 9 rfl) hf
def m_X10_floor (F : Nat) (h : PH) (p0 : Nat) (p1 : Int32) (p2 : Int32) : Option (Int32 × PH) := b_X10_floor_0 F h p0 p1 p2
theorem mt_X10_floor {l : Launch} {X : XT} {F : Nat} {h hz : PH} {p0 : Nat} {p1 : Int32} {p2 : Int32} {r : Int32} (ex : m_X10_floor F h p0 p1 p2 = some (r, hz)) : MT l X yX10_floor cX10_floor 3 (some .int) 3 176 0 0 [.ref (X.1 + p0), .int p1, .int p2] h (some (.int r)) hz := MT.of (by decide) (Nat.le_of_ble_eq_true rfl) fun M hl hc hr he => by
  subst hl
  exact gg_sub [0, 1, 2] rfl (t_X10_floor_0  hc hr he (Nat.zero_le _) (Nat.zero_le _) ex)
/-! FractionLiftModel.tenant(II)I -/
def lX10_tenantL : List (Nat × Instr × Nat × Nat) := [(0, .aload_n 0, 1, 1), (1, .iconst 0, 1, 2), (2, .putfield 1, 3, 5), (5, .aload_n 0, 1, 6), (6, .iload_n 1, 1, 7), (7, .invokevirtual 254, 3, 10), (10, .ifCond .eq 30, 3, 13), (13, .iload_n 2, 1, 14), (14, .i2l, 1, 15), (15, .lconst 0, 1, 16), (16, .lconst 1, 1, 17), (17, .invokestatic 172, 3, 20), (20, .ifCond .eq 20, 3, 23), (23, .aload_n 0, 1, 24), (24, .getfield 13, 3, 27), (27, .bipush 49, 2, 29), (29, .bipush 6, 2, 31), (31, .iload_n 2, 1, 32), (32, .imul, 1, 33), (33, .iadd, 1, 34), (34, .iload_n 1, 1, 35), (35, .iadd, 1, 36), (36, .iaload, 1, 37), (37, .goto 5, 3, 40), (40, .bipush (-2), 2, 42), (42, .ireturn, 1, 43)]
set_option maxRecDepth 20000 in
theorem dX10_tenant : dcL cX10_tenant lX10_tenantL = true := by decide +kernel
def b_X10_tenant_0 (h : PH) (v0 : Nat) (v1 : Int32) (v2 : Int32) : Option (Int32 × PH) := (pV 10 0 (.int (0 : Int32)) h v0).bind fun h1 => (cO 10 h1 v0 ((m_X10_isTenant h1 v0 v1).bind fun x2 => (if x2 = 0 then (some ((-2 : Int32), h1)) else ((m_X10_within (Int32.toInt64 v2) (0 : Int64) (1 : Int64)).bind fun x3 => (if x3 = 0 then (some ((-2 : Int32), h1)) else ((gR 10 1 h1 v0).bind fun a4 => ((aI 0 h1 a4 (((((49 : Int32) + (((6 : Int32) * v2)))) + v1))).bind fun x5 => (some (x5, h1)))))))))
set_option maxRecDepth 20000 in
theorem t_X10_tenant_0 {M : MV} {X : XT} {h hz : PH} {r : Int32} {ce sl mc ms : Nat} {v0 : Nat} {v1 : Int32} {v2 : Int32} (hc : Cx M X RX10 cX10_tenant) (hr : Rx M 3 176 mc ms 3) (he : Ex M X (some .int) "tenant" (some (.int r)) hz mc ms) (hm : ce ≤ mc) (hs : sl ≤ ms) (hf : b_X10_tenant_0 h v0 v1 v2 = some (r, hz)) : GG M X h ce sl 0 [(0, .ref (X.1 + v0)), (1, .int v1), (2, .int v2)] [] := by
  unfold b_X10_tenant_0 at hf
  refine r_aload_n hc 0 (dc_at dX10_tenant 0 rfl) rfl ?_
  refine r_iconst (0 : Int32) hc (dc_at dX10_tenant 1 rfl) (by decide) ?_
  refine r_putI hc he (dc_at dX10_tenant 2 rfl) fp_X10_1 (fun q => by cases q) hf fun h1 hf => ?_
  refine r_aload_n hc 0 (dc_at dX10_tenant 3 rfl) rfl ?_
  refine r_iload_n hc 1 (dc_at dX10_tenant 4 rfl) rfl ?_
  obtain ⟨ho, hf⟩ := cO_some hf
  refine ob hf fun x2 ex hf => ?_
  refine r_callVi (As := [.int v1]) (ci := 10) hc hr (dc_at dX10_tenant 5 rfl) ml_X10_254 mv_X10_isTenant vi_X10_isTenant rfl ho rfl (mt_X10_isTenant ex) (by first | exact Nat.le_of_ble_eq_true rfl | omega) (by first | exact Nat.le_of_ble_eq_true rfl | omega) (by first | exact Nat.le_of_ble_eq_true rfl | omega) hm hs ?_
  refine r_if_eq (tgt := 40) hc (dc_at dX10_tenant 6 rfl) (by decide) hf (fun hf => ?_) (fun hf => ?_)
  · refine r_bipush (-2 : Int32) hc (dc_at dX10_tenant 24 rfl) (by decide) ?_
    exact r_iret hc he (hm) (hs) (dc_at dX10_tenant 25 rfl) hf
  · refine r_iload_n hc 2 (dc_at dX10_tenant 7 rfl) rfl ?_
    refine r_i2l hc (dc_at dX10_tenant 8 rfl) ?_
    refine r_lconst (0 : Int64) hc (dc_at dX10_tenant 9 rfl) (by decide) ?_
    refine r_lconst (1 : Int64) hc (dc_at dX10_tenant 10 rfl) (by decide) ?_
    refine ob hf fun x3 ex hf => ?_
    refine r_callSi (As := [.long ((Int32.toInt64 v2)), .long ((0 : Int64)), .long ((1 : Int64))]) hc hr (dc_at dX10_tenant 11 rfl) ml_X10_172 mv_X10_within st_X10_within rfl (mt_X10_within ex) (by first | exact Nat.le_of_ble_eq_true rfl | omega) (by first | exact Nat.le_of_ble_eq_true rfl | omega) (by first | exact Nat.le_of_ble_eq_true rfl | omega) hm hs ?_
    refine r_if_eq (tgt := 40) hc (dc_at dX10_tenant 12 rfl) (by decide) hf (fun hf => ?_) (fun hf => ?_)
    · refine r_bipush (-2 : Int32) hc (dc_at dX10_tenant 24 rfl) (by decide) ?_
      exact r_iret hc he (hm) (hs) (dc_at dX10_tenant 25 rfl) hf
    · refine r_aload_n hc 0 (dc_at dX10_tenant 13 rfl) rfl ?_
      refine r_getR hc (dc_at dX10_tenant 14 rfl) fl_X10_13 hf fun a4 hf => ?_
      refine r_bipush (49 : Int32) hc (dc_at dX10_tenant 15 rfl) (by decide) ?_
      refine r_bipush (6 : Int32) hc (dc_at dX10_tenant 16 rfl) (by decide) ?_
      refine r_iload_n hc 2 (dc_at dX10_tenant 17 rfl) rfl ?_
      refine r_imul hc (dc_at dX10_tenant 18 rfl) ?_
      refine r_iadd hc (dc_at dX10_tenant 19 rfl) ?_
      refine r_iload_n hc 1 (dc_at dX10_tenant 20 rfl) rfl ?_
      refine r_iadd hc (dc_at dX10_tenant 21 rfl) ?_
      refine r_iaload hc (dc_at dX10_tenant 22 rfl) hf fun x5 hf => ?_
      refine r_goto (tgt := 42) hc (dc_at dX10_tenant 23 rfl) (by decide) ?_
      exact r_iret hc he (hm) (hs) (dc_at dX10_tenant 25 rfl) hf
def m_X10_tenant (h : PH) (p0 : Nat) (p1 : Int32) (p2 : Int32) : Option (Int32 × PH) := b_X10_tenant_0 h p0 p1 p2
theorem mt_X10_tenant {l : Launch} {X : XT} {h hz : PH} {p0 : Nat} {p1 : Int32} {p2 : Int32} {r : Int32} (ex : m_X10_tenant h p0 p1 p2 = some (r, hz)) : MT l X yX10_tenant cX10_tenant 3 (some .int) 3 176 0 0 [.ref (X.1 + p0), .int p1, .int p2] h (some (.int r)) hz := MT.of (by decide) (Nat.le_of_ble_eq_true rfl) fun M hl hc hr he => by
  subst hl
  exact gg_sub [0, 1, 2] rfl (t_X10_tenant_0  hc hr he (Nat.zero_le _) (Nat.zero_le _) ex)
/-! FractionLiftModel.pushes(JJ)I -/
def lX10_pushesL : List (Nat × Instr × Nat × Nat) := [(0, .aload_n 0, 1, 1), (1, .lload_n 1, 1, 2), (2, .lload_n 3, 1, 3), (3, .invokevirtual 194, 3, 6), (6, .aload_n 0, 1, 7), (7, .getfield 30, 3, 10), (10, .aload_n 0, 1, 11), (11, .getfield 257, 3, 14), (14, .aload_n 0, 1, 15), (15, .getfield 180, 3, 18), (18, .lastore, 1, 19), (19, .aload_n 0, 1, 20), (20, .getfield 34, 3, 23), (23, .aload_n 0, 1, 24), (24, .getfield 257, 3, 27), (27, .aload_n 0, 1, 28), (28, .getfield 184, 3, 31), (31, .lastore, 1, 32), (32, .aload_n 0, 1, 33), (33, .dup, 1, 34), (34, .getfield 257, 3, 37), (37, .iconst 1, 1, 38), (38, .iadd, 1, 39), (39, .putfield 257, 3, 42), (42, .aload_n 0, 1, 43), (43, .getfield 180, 3, 46), (46, .ldc2_w 260, 3, 49), (49, .lcmp, 1, 50), (50, .ifCond .gt 26, 3, 53), (53, .aload_n 0, 1, 54), (54, .getfield 180, 3, 57), (57, .lneg, 1, 58), (58, .ldc2_w 260, 3, 61), (61, .lcmp, 1, 62), (62, .ifCond .gt 14, 3, 65), (65, .aload_n 0, 1, 66), (66, .getfield 184, 3, 69), (69, .ldc2_w 260, 3, 72), (72, .lcmp, 1, 73), (73, .ifCond .le 7, 3, 76), (76, .iconst 3, 1, 77), (77, .goto 4, 3, 80), (80, .iconst 0, 1, 81), (81, .ireturn, 1, 82)]
set_option maxRecDepth 20000 in
theorem dX10_pushes : dcL cX10_pushes lX10_pushesL = true := by decide +kernel
def b_X10_pushes_0 (h : PH) (v0 : Nat) (v1 : Int64) (v3 : Int64) : Option (Int32 × PH) := cO 10 h v0 (bind2 (m_X10_lays h v0 v1 v3) fun _ h2 => ((gR 10 19 h2 v0).bind fun a3 => ((gI 10 21 h2 v0).bind fun x4 => ((gL 10 15 h2 v0).bind fun x5 => ((sL h2 a3 x4 x5).bind fun h6 => ((gR 10 20 h6 v0).bind fun a7 => ((gI 10 21 h6 v0).bind fun x8 => ((gL 10 16 h6 v0).bind fun x9 => ((sL h6 a7 x8 x9).bind fun h10 => ((gI 10 21 h10 v0).bind fun x11 => ((pV 10 21 (.int ((x11 + (1 : Int32)))) h10 v0).bind fun h12 => ((gL 10 15 h12 v0).bind fun x13 => (if (1000000000 : Int64) < x13 then (some ((3 : Int32), h12)) else ((gL 10 15 h12 v0).bind fun x14 => (if (1000000000 : Int64) < (-x14) then (some ((3 : Int32), h12)) else ((gL 10 16 h12 v0).bind fun x15 => (if x15 ≤ (1000000000 : Int64) then (some ((0 : Int32), h12)) else (some ((3 : Int32), h12)))))))))))))))))))
set_option maxRecDepth 20000 in
theorem t_X10_pushes_0 {M : MV} {X : XT} {h hz : PH} {r : Int32} {ce sl mc ms : Nat} {v0 : Nat} {v1 : Int64} {v3 : Int64} (hc : Cx M X RX10 cX10_pushes) (hr : Rx M 133 7716 mc ms 5) (he : Ex M X (some .int) "pushes" (some (.int r)) hz mc ms) (hm : ce ≤ mc) (hs : sl ≤ ms) (hf : b_X10_pushes_0 h v0 v1 v3 = some (r, hz)) : GG M X h ce sl 0 [(0, .ref (X.1 + v0)), (1, .long v1), (3, .long v3)] [] := by
  unfold b_X10_pushes_0 at hf
  refine r_aload_n hc 0 (dc_at dX10_pushes 0 rfl) rfl ?_
  refine r_lload_n hc 1 (dc_at dX10_pushes 1 rfl) rfl ?_
  refine r_lload_n hc 2 (dc_at dX10_pushes 2 rfl) rfl ?_
  obtain ⟨ho, hf⟩ := cO_some hf
  refine ob2 hf fun u h2 ex hf => ?_
  refine r_callVv (As := [.long v1, .long v3]) (ci := 10) hc hr (dc_at dX10_pushes 3 rfl) ml_X10_194 mv_X10_lays vi_X10_lays rfl ho rfl (mt_X10_lays ex) (by first | exact Nat.le_of_ble_eq_true rfl | omega) (by first | exact Nat.le_of_ble_eq_true rfl | omega) (by first | exact Nat.le_of_ble_eq_true rfl | omega) hm hs ?_
  refine r_aload_n hc 0 (dc_at dX10_pushes 4 rfl) rfl ?_
  refine r_getR hc (dc_at dX10_pushes 5 rfl) fl_X10_30 hf fun a3 hf => ?_
  refine r_aload_n hc 0 (dc_at dX10_pushes 6 rfl) rfl ?_
  refine r_getI hc (dc_at dX10_pushes 7 rfl) fl_X10_257 hf fun x4 hf => ?_
  refine r_aload_n hc 0 (dc_at dX10_pushes 8 rfl) rfl ?_
  refine r_getL hc (dc_at dX10_pushes 9 rfl) fl_X10_180 hf fun x5 hf => ?_
  refine r_lastore hc (dc_at dX10_pushes 10 rfl) hf fun h6 hf => ?_
  refine r_aload_n hc 0 (dc_at dX10_pushes 11 rfl) rfl ?_
  refine r_getR hc (dc_at dX10_pushes 12 rfl) fl_X10_34 hf fun a7 hf => ?_
  refine r_aload_n hc 0 (dc_at dX10_pushes 13 rfl) rfl ?_
  refine r_getI hc (dc_at dX10_pushes 14 rfl) fl_X10_257 hf fun x8 hf => ?_
  refine r_aload_n hc 0 (dc_at dX10_pushes 15 rfl) rfl ?_
  refine r_getL hc (dc_at dX10_pushes 16 rfl) fl_X10_184 hf fun x9 hf => ?_
  refine r_lastore hc (dc_at dX10_pushes 17 rfl) hf fun h10 hf => ?_
  refine r_aload_n hc 0 (dc_at dX10_pushes 18 rfl) rfl ?_
  refine r_dup hc (dc_at dX10_pushes 19 rfl) rfl ?_
  refine r_getI hc (dc_at dX10_pushes 20 rfl) fl_X10_257 hf fun x11 hf => ?_
  refine r_iconst (1 : Int32) hc (dc_at dX10_pushes 21 rfl) (by decide) ?_
  refine r_iadd hc (dc_at dX10_pushes 22 rfl) ?_
  refine r_putI hc he (dc_at dX10_pushes 23 rfl) fp_X10_257 (fun q => by cases q) hf fun h12 hf => ?_
  refine r_aload_n hc 0 (dc_at dX10_pushes 24 rfl) rfl ?_
  refine r_getL hc (dc_at dX10_pushes 25 rfl) fl_X10_180 hf fun x13 hf => ?_
  refine r_ldc2 hc (dc_at dX10_pushes 26 rfl) cl2_X10_260 ?_
  refine r_lcmp_gt (tgt := 76) hc (dc_at dX10_pushes 27 rfl) (dc_at dX10_pushes 28 rfl) (by decide) hf (fun hf => ?_) (fun hf => ?_)
  · refine r_iconst (3 : Int32) hc (dc_at dX10_pushes 40 rfl) (by decide) ?_
    refine r_goto (tgt := 81) hc (dc_at dX10_pushes 41 rfl) (by decide) ?_
    exact r_iret hc he (hm) (hs) (dc_at dX10_pushes 43 rfl) hf
  · refine r_aload_n hc 0 (dc_at dX10_pushes 29 rfl) rfl ?_
    refine r_getL hc (dc_at dX10_pushes 30 rfl) fl_X10_180 hf fun x14 hf => ?_
    refine r_lneg hc (dc_at dX10_pushes 31 rfl) ?_
    refine r_ldc2 hc (dc_at dX10_pushes 32 rfl) cl2_X10_260 ?_
    refine r_lcmp_gt (tgt := 76) hc (dc_at dX10_pushes 33 rfl) (dc_at dX10_pushes 34 rfl) (by decide) hf (fun hf => ?_) (fun hf => ?_)
    · refine r_iconst (3 : Int32) hc (dc_at dX10_pushes 40 rfl) (by decide) ?_
      refine r_goto (tgt := 81) hc (dc_at dX10_pushes 41 rfl) (by decide) ?_
      exact r_iret hc he (hm) (hs) (dc_at dX10_pushes 43 rfl) hf
    · refine r_aload_n hc 0 (dc_at dX10_pushes 35 rfl) rfl ?_
      refine r_getL hc (dc_at dX10_pushes 36 rfl) fl_X10_184 hf fun x15 hf => ?_
      refine r_ldc2 hc (dc_at dX10_pushes 37 rfl) cl2_X10_260 ?_
      refine r_lcmp_le (tgt := 80) hc (dc_at dX10_pushes 38 rfl) (dc_at dX10_pushes 39 rfl) (by decide) hf (fun hf => ?_) (fun hf => ?_)
      · refine r_iconst (0 : Int32) hc (dc_at dX10_pushes 42 rfl) (by decide) ?_
        exact r_iret hc he (hm) (hs) (dc_at dX10_pushes 43 rfl) hf
      · refine r_iconst (3 : Int32) hc (dc_at dX10_pushes 40 rfl) (by decide) ?_
        refine r_goto (tgt := 81) hc (dc_at dX10_pushes 41 rfl) (by decide) ?_
        exact r_iret hc he (hm) (hs) (dc_at dX10_pushes 43 rfl) hf
def m_X10_pushes (h : PH) (p0 : Nat) (p1 : Int64) (p3 : Int64) : Option (Int32 × PH) := b_X10_pushes_0 h p0 p1 p3
theorem mt_X10_pushes {l : Launch} {X : XT} {h hz : PH} {p0 : Nat} {p1 : Int64} {p3 : Int64} {r : Int32} (ex : m_X10_pushes h p0 p1 p3 = some (r, hz)) : MT l X yX10_pushes cX10_pushes 5 (some .int) 133 7716 0 0 [.ref (X.1 + p0), .long p1, .long p3] h (some (.int r)) hz := MT.of (by decide) (Nat.le_of_ble_eq_true rfl) fun M hl hc hr he => by
  subst hl
  exact gg_sub [0, 1, 2] rfl (t_X10_pushes_0  hc hr he (Nat.zero_le _) (Nat.zero_le _) ex)
/-! FractionLiftModel.steps(I)I -/
def lX10_stepsL : List (Nat × Instr × Nat × Nat) := [(0, .aload_n 0, 1, 1), (1, .dup, 1, 2), (2, .getfield 257, 3, 5), (5, .iconst 2, 1, 6), (6, .isub, 1, 7), (7, .putfield 257, 3, 10), (10, .aload_n 0, 1, 11), (11, .getfield 30, 3, 14), (14, .aload_n 0, 1, 15), (15, .getfield 257, 3, 18), (18, .laload, 1, 19), (19, .lstore_n 2, 1, 20), (20, .aload_n 0, 1, 21), (21, .getfield 34, 3, 24), (24, .aload_n 0, 1, 25), (25, .getfield 257, 3, 28), (28, .laload, 1, 29), (29, .lstore 4, 2, 31), (31, .aload_n 0, 1, 32), (32, .getfield 30, 3, 35), (35, .aload_n 0, 1, 36), (36, .getfield 257, 3, 39), (39, .iconst 1, 1, 40), (40, .iadd, 1, 41), (41, .laload, 1, 42), (42, .lstore 6, 2, 44), (44, .aload_n 0, 1, 45), (45, .getfield 34, 3, 48), (48, .aload_n 0, 1, 49), (49, .getfield 257, 3, 52), (52, .iconst 1, 1, 53), (53, .iadd, 1, 54), (54, .laload, 1, 55), (55, .lstore 8, 2, 57), (57, .iload_n 1, 1, 58), (58, .sipush 3000, 3, 61), (61, .if_icmp .ne 23, 3, 64), (64, .aload_n 0, 1, 65), (65, .lload_n 2, 1, 66), (66, .lload 8, 2, 68), (68, .lmul, 1, 69), (69, .lload 6, 2, 71), (71, .lload 4, 2, 73), (73, .lmul, 1, 74), (74, .ladd, 1, 75), (75, .lload 4, 2, 77), (77, .lload 8, 2, 79), (79, .lmul, 1, 80), (80, .invokevirtual 262, 3, 83), (83, .ireturn, 1, 84), (84, .iload_n 1, 1, 85), (85, .sipush 3001, 3, 88), (88, .if_icmp .ne 23, 3, 91), (91, .aload_n 0, 1, 92), (92, .lload_n 2, 1, 93), (93, .lload 8, 2, 95), (95, .lmul, 1, 96), (96, .lload 6, 2, 98), (98, .lload 4, 2, 100), (100, .lmul, 1, 101), (101, .lsub, 1, 102), (102, .lload 4, 2, 104), (104, .lload 8, 2, 106), (106, .lmul, 1, 107), (107, .invokevirtual 262, 3, 110), (110, .ireturn, 1, 111), (111, .iload_n 1, 1, 112), (112, .sipush 3002, 3, 115), (115, .if_icmp .ne 17, 3, 118), (118, .aload_n 0, 1, 119), (119, .lload_n 2, 1, 120), (120, .lload 6, 2, 122), (122, .lmul, 1, 123), (123, .lload 4, 2, 125), (125, .lload 8, 2, 127), (127, .lmul, 1, 128), (128, .invokevirtual 262, 3, 131), (131, .ireturn, 1, 132), (132, .lload 6, 2, 134), (134, .lconst 0, 1, 135), (135, .lcmp, 1, 136), (136, .ifCond .ne 7, 3, 139), (139, .iconst 2, 1, 140), (140, .goto 16, 3, 143), (143, .aload_n 0, 1, 144), (144, .lload_n 2, 1, 145), (145, .lload 8, 2, 147), (147, .lmul, 1, 148), (148, .lload 4, 2, 150), (150, .lload 6, 2, 152), (152, .lmul, 1, 153), (153, .invokevirtual 262, 3, 156), (156, .ireturn, 1, 157)]
set_option maxRecDepth 20000 in
theorem dX10_steps : dcL cX10_steps lX10_stepsL = true := by decide +kernel
def b_X10_steps_0 (h : PH) (v0 : Nat) (v1 : Int32) : Option (Int32 × PH) := (gI 10 21 h v0).bind fun x1 => ((pV 10 21 (.int ((x1 - (2 : Int32)))) h v0).bind fun h2 => ((gR 10 19 h2 v0).bind fun a3 => ((gI 10 21 h2 v0).bind fun x4 => ((aL h2 a3 x4).bind fun x5 => ((gR 10 20 h2 v0).bind fun a6 => ((gI 10 21 h2 v0).bind fun x7 => ((aL h2 a6 x7).bind fun x8 => ((gR 10 19 h2 v0).bind fun a9 => ((gI 10 21 h2 v0).bind fun x10 => ((aL h2 a9 ((x10 + (1 : Int32)))).bind fun x11 => ((gR 10 20 h2 v0).bind fun a12 => ((gI 10 21 h2 v0).bind fun x13 => ((aL h2 a12 ((x13 + (1 : Int32)))).bind fun x14 => (if v1 = (3000 : Int32) then (cO 10 h2 v0 (bind2 (m_X10_pushes h2 v0 (((x5 * x14) + (x11 * x8))) (x8 * x14)) fun x21 h22 => (some (x21, h22)))) else (if v1 = (3001 : Int32) then (cO 10 h2 v0 (bind2 (m_X10_pushes h2 v0 (((x5 * x14) - (x11 * x8))) (x8 * x14)) fun x19 h20 => (some (x19, h20)))) else (if v1 = (3002 : Int32) then (cO 10 h2 v0 (bind2 (m_X10_pushes h2 v0 (x5 * x11) (x8 * x14)) fun x17 h18 => (some (x17, h18)))) else (if x11 = (0 : Int64) then (some ((2 : Int32), h2)) else (cO 10 h2 v0 (bind2 (m_X10_pushes h2 v0 (x5 * x14) (x8 * x11)) fun x15 h16 => (some (x15, h16)))))))))))))))))))))
set_option maxRecDepth 20000 in
theorem t_X10_steps_0 {M : MV} {X : XT} {h hz : PH} {r : Int32} {ce sl mc ms : Nat} {v0 : Nat} {v1 : Int32} (hc : Cx M X RX10 cX10_steps) (hr : Rx M 134 7774 mc ms 10) (he : Ex M X (some .int) "steps" (some (.int r)) hz mc ms) (hm : ce ≤ mc) (hs : sl ≤ ms) (hf : b_X10_steps_0 h v0 v1 = some (r, hz)) : GG M X h ce sl 0 [(0, .ref (X.1 + v0)), (1, .int v1)] [] := by
  unfold b_X10_steps_0 at hf
  refine r_aload_n hc 0 (dc_at dX10_steps 0 rfl) rfl ?_
  refine r_dup hc (dc_at dX10_steps 1 rfl) rfl ?_
  refine r_getI hc (dc_at dX10_steps 2 rfl) fl_X10_257 hf fun x1 hf => ?_
  refine r_iconst (2 : Int32) hc (dc_at dX10_steps 3 rfl) (by decide) ?_
  refine r_isub hc (dc_at dX10_steps 4 rfl) ?_
  refine r_putI hc he (dc_at dX10_steps 5 rfl) fp_X10_257 (fun q => by cases q) hf fun h2 hf => ?_
  refine r_aload_n hc 0 (dc_at dX10_steps 6 rfl) rfl ?_
  refine r_getR hc (dc_at dX10_steps 7 rfl) fl_X10_30 hf fun a3 hf => ?_
  refine r_aload_n hc 0 (dc_at dX10_steps 8 rfl) rfl ?_
  refine r_getI hc (dc_at dX10_steps 9 rfl) fl_X10_257 hf fun x4 hf => ?_
  refine r_laload hc (dc_at dX10_steps 10 rfl) hf fun x5 hf => ?_
  refine r_lstore_n [(2, .long x5), (0, .ref (X.1 + v0)), (1, .int v1)] hc hr (dc_at dX10_steps 11 rfl) (by decide) rfl ?_
  refine r_aload_n hc 1 (dc_at dX10_steps 12 rfl) rfl ?_
  refine r_getR hc (dc_at dX10_steps 13 rfl) fl_X10_34 hf fun a6 hf => ?_
  refine r_aload_n hc 1 (dc_at dX10_steps 14 rfl) rfl ?_
  refine r_getI hc (dc_at dX10_steps 15 rfl) fl_X10_257 hf fun x7 hf => ?_
  refine r_laload hc (dc_at dX10_steps 16 rfl) hf fun x8 hf => ?_
  refine r_lstore [(4, .long x8), (2, .long x5), (0, .ref (X.1 + v0)), (1, .int v1)] hc hr (dc_at dX10_steps 17 rfl) (by decide) rfl ?_
  refine r_aload_n hc 2 (dc_at dX10_steps 18 rfl) rfl ?_
  refine r_getR hc (dc_at dX10_steps 19 rfl) fl_X10_30 hf fun a9 hf => ?_
  refine r_aload_n hc 2 (dc_at dX10_steps 20 rfl) rfl ?_
  refine r_getI hc (dc_at dX10_steps 21 rfl) fl_X10_257 hf fun x10 hf => ?_
  refine r_iconst (1 : Int32) hc (dc_at dX10_steps 22 rfl) (by decide) ?_
  refine r_iadd hc (dc_at dX10_steps 23 rfl) ?_
  refine r_laload hc (dc_at dX10_steps 24 rfl) hf fun x11 hf => ?_
  refine r_lstore [(6, .long x11), (4, .long x8), (2, .long x5), (0, .ref (X.1 + v0)), (1, .int v1)] hc hr (dc_at dX10_steps 25 rfl) (by decide) rfl ?_
  refine r_aload_n hc 3 (dc_at dX10_steps 26 rfl) rfl ?_
  refine r_getR hc (dc_at dX10_steps 27 rfl) fl_X10_34 hf fun a12 hf => ?_
  refine r_aload_n hc 3 (dc_at dX10_steps 28 rfl) rfl ?_
  refine r_getI hc (dc_at dX10_steps 29 rfl) fl_X10_257 hf fun x13 hf => ?_
  refine r_iconst (1 : Int32) hc (dc_at dX10_steps 30 rfl) (by decide) ?_
  refine r_iadd hc (dc_at dX10_steps 31 rfl) ?_
  refine r_laload hc (dc_at dX10_steps 32 rfl) hf fun x14 hf => ?_
  refine r_lstore [(8, .long x14), (6, .long x11), (4, .long x8), (2, .long x5), (0, .ref (X.1 + v0)), (1, .int v1)] hc hr (dc_at dX10_steps 33 rfl) (by decide) rfl ?_
  refine r_iload_n hc 5 (dc_at dX10_steps 34 rfl) rfl ?_
  refine r_sipush (3000 : Int32) hc (dc_at dX10_steps 35 rfl) (by decide) ?_
  refine r_icmp_ne (tgt := 84) hc (dc_at dX10_steps 36 rfl) (by decide) hf (fun hf => ?_) (fun hf => ?_)
  · refine r_iload_n hc 5 (dc_at dX10_steps 50 rfl) rfl ?_
    refine r_sipush (3001 : Int32) hc (dc_at dX10_steps 51 rfl) (by decide) ?_
    refine r_icmp_ne (tgt := 111) hc (dc_at dX10_steps 52 rfl) (by decide) hf (fun hf => ?_) (fun hf => ?_)
    · refine r_iload_n hc 5 (dc_at dX10_steps 66 rfl) rfl ?_
      refine r_sipush (3002 : Int32) hc (dc_at dX10_steps 67 rfl) (by decide) ?_
      refine r_icmp_ne (tgt := 132) hc (dc_at dX10_steps 68 rfl) (by decide) hf (fun hf => ?_) (fun hf => ?_)
      · refine r_lload hc 1 (dc_at dX10_steps 78 rfl) rfl ?_
        refine r_lconst (0 : Int64) hc (dc_at dX10_steps 79 rfl) (by decide) ?_
        refine r_lcmp_ne (tgt := 143) hc (dc_at dX10_steps 80 rfl) (dc_at dX10_steps 81 rfl) (by decide) hf (fun hf => ?_) (fun hf => ?_)
        · refine r_aload_n hc 4 (dc_at dX10_steps 84 rfl) rfl ?_
          refine r_lload_n hc 3 (dc_at dX10_steps 85 rfl) rfl ?_
          refine r_lload hc 0 (dc_at dX10_steps 86 rfl) rfl ?_
          refine r_lmul hc (dc_at dX10_steps 87 rfl) ?_
          refine r_lload hc 2 (dc_at dX10_steps 88 rfl) rfl ?_
          refine r_lload hc 1 (dc_at dX10_steps 89 rfl) rfl ?_
          refine r_lmul hc (dc_at dX10_steps 90 rfl) ?_
          obtain ⟨ho, hf⟩ := cO_some hf
          refine ob2 hf fun x15 h16 ex hf => ?_
          refine r_callVi (As := [.long ((x5 * x14)), .long ((x8 * x11))]) (ci := 10) hc hr (dc_at dX10_steps 91 rfl) ml_X10_262 mv_X10_pushes vi_X10_pushes rfl ho rfl (mt_X10_pushes ex) (by first | exact Nat.le_of_ble_eq_true rfl | omega) (by first | exact Nat.le_of_ble_eq_true rfl | omega) (by first | exact Nat.le_of_ble_eq_true rfl | omega) hm hs ?_
          exact r_iret hc he (hm) (hs) (dc_at dX10_steps 92 rfl) hf
        · refine r_iconst (2 : Int32) hc (dc_at dX10_steps 82 rfl) (by decide) ?_
          refine r_goto (tgt := 156) hc (dc_at dX10_steps 83 rfl) (by decide) ?_
          exact r_iret hc he (hm) (hs) (dc_at dX10_steps 92 rfl) hf
      · refine r_aload_n hc 4 (dc_at dX10_steps 69 rfl) rfl ?_
        refine r_lload_n hc 3 (dc_at dX10_steps 70 rfl) rfl ?_
        refine r_lload hc 1 (dc_at dX10_steps 71 rfl) rfl ?_
        refine r_lmul hc (dc_at dX10_steps 72 rfl) ?_
        refine r_lload hc 2 (dc_at dX10_steps 73 rfl) rfl ?_
        refine r_lload hc 0 (dc_at dX10_steps 74 rfl) rfl ?_
        refine r_lmul hc (dc_at dX10_steps 75 rfl) ?_
        obtain ⟨ho, hf⟩ := cO_some hf
        refine ob2 hf fun x17 h18 ex hf => ?_
        refine r_callVi (As := [.long ((x5 * x11)), .long ((x8 * x14))]) (ci := 10) hc hr (dc_at dX10_steps 76 rfl) ml_X10_262 mv_X10_pushes vi_X10_pushes rfl ho rfl (mt_X10_pushes ex) (by first | exact Nat.le_of_ble_eq_true rfl | omega) (by first | exact Nat.le_of_ble_eq_true rfl | omega) (by first | exact Nat.le_of_ble_eq_true rfl | omega) hm hs ?_
        exact r_iret hc he (hm) (hs) (dc_at dX10_steps 77 rfl) hf
    · refine r_aload_n hc 4 (dc_at dX10_steps 53 rfl) rfl ?_
      refine r_lload_n hc 3 (dc_at dX10_steps 54 rfl) rfl ?_
      refine r_lload hc 0 (dc_at dX10_steps 55 rfl) rfl ?_
      refine r_lmul hc (dc_at dX10_steps 56 rfl) ?_
      refine r_lload hc 1 (dc_at dX10_steps 57 rfl) rfl ?_
      refine r_lload hc 2 (dc_at dX10_steps 58 rfl) rfl ?_
      refine r_lmul hc (dc_at dX10_steps 59 rfl) ?_
      refine r_lsub hc (dc_at dX10_steps 60 rfl) ?_
      refine r_lload hc 2 (dc_at dX10_steps 61 rfl) rfl ?_
      refine r_lload hc 0 (dc_at dX10_steps 62 rfl) rfl ?_
      refine r_lmul hc (dc_at dX10_steps 63 rfl) ?_
      obtain ⟨ho, hf⟩ := cO_some hf
      refine ob2 hf fun x19 h20 ex hf => ?_
      refine r_callVi (As := [.long (((x5 * x14) - (x11 * x8))), .long ((x8 * x14))]) (ci := 10) hc hr (dc_at dX10_steps 64 rfl) ml_X10_262 mv_X10_pushes vi_X10_pushes rfl ho rfl (mt_X10_pushes ex) (by first | exact Nat.le_of_ble_eq_true rfl | omega) (by first | exact Nat.le_of_ble_eq_true rfl | omega) (by first | exact Nat.le_of_ble_eq_true rfl | omega) hm hs ?_
      exact r_iret hc he (hm) (hs) (dc_at dX10_steps 65 rfl) hf
  · refine r_aload_n hc 4 (dc_at dX10_steps 37 rfl) rfl ?_
    refine r_lload_n hc 3 (dc_at dX10_steps 38 rfl) rfl ?_
    refine r_lload hc 0 (dc_at dX10_steps 39 rfl) rfl ?_
    refine r_lmul hc (dc_at dX10_steps 40 rfl) ?_
    refine r_lload hc 1 (dc_at dX10_steps 41 rfl) rfl ?_
    refine r_lload hc 2 (dc_at dX10_steps 42 rfl) rfl ?_
    refine r_lmul hc (dc_at dX10_steps 43 rfl) ?_
    refine r_ladd hc (dc_at dX10_steps 44 rfl) ?_
    refine r_lload hc 2 (dc_at dX10_steps 45 rfl) rfl ?_
    refine r_lload hc 0 (dc_at dX10_steps 46 rfl) rfl ?_
    refine r_lmul hc (dc_at dX10_steps 47 rfl) ?_
    obtain ⟨ho, hf⟩ := cO_some hf
    refine ob2 hf fun x21 h22 ex hf => ?_
    refine r_callVi (As := [.long (((x5 * x14) + (x11 * x8))), .long ((x8 * x14))]) (ci := 10) hc hr (dc_at dX10_steps 48 rfl) ml_X10_262 mv_X10_pushes vi_X10_pushes rfl ho rfl (mt_X10_pushes ex) (by first | exact Nat.le_of_ble_eq_true rfl | omega) (by first | exact Nat.le_of_ble_eq_true rfl | omega) (by first | exact Nat.le_of_ble_eq_true rfl | omega) hm hs ?_
    exact r_iret hc he (hm) (hs) (dc_at dX10_steps 49 rfl) hf
def m_X10_steps (h : PH) (p0 : Nat) (p1 : Int32) : Option (Int32 × PH) := b_X10_steps_0 h p0 p1
theorem mt_X10_steps {l : Launch} {X : XT} {h hz : PH} {p0 : Nat} {p1 : Int32} {r : Int32} (ex : m_X10_steps h p0 p1 = some (r, hz)) : MT l X yX10_steps cX10_steps 10 (some .int) 134 7774 0 0 [.ref (X.1 + p0), .int p1] h (some (.int r)) hz := MT.of (by decide) (Nat.le_of_ble_eq_true rfl) fun M hl hc hr he => by
  subst hl
  exact gg_sub [0, 1] rfl (t_X10_steps_0  hc hr he (Nat.zero_le _) (Nat.zero_le _) ex)
/-! FractionLiftModel.isFloor(JJ)Z -/
def lX10_isFloorL : List (Nat × Instr × Nat × Nat) := [(0, .lload_n 1, 1, 1), (1, .lconst 0, 1, 2), (2, .ldc2_w 266, 3, 5), (5, .invokestatic 172, 3, 8), (8, .ifCond .eq 32, 3, 11), (11, .lload_n 3, 1, 12), (12, .lconst 1, 1, 13), (13, .ldc2_w 266, 3, 16), (16, .invokestatic 172, 3, 19), (19, .ifCond .eq 21, 3, 22), (22, .lload_n 1, 1, 23), (23, .aload_n 0, 1, 24), (24, .getfield 13, 3, 27), (27, .iconst 1, 1, 28), (28, .iaload, 1, 29), (29, .i2l, 1, 30), (30, .lload_n 3, 1, 31), (31, .lmul, 1, 32), (32, .lcmp, 1, 33), (33, .ifCond .gt 7, 3, 36), (36, .iconst 1, 1, 37), (37, .goto 4, 3, 40), (40, .iconst 0, 1, 41), (41, .ireturn, 1, 42)]
set_option maxRecDepth 20000 in
theorem dX10_isFloor : dcL cX10_isFloor lX10_isFloorL = true := by decide +kernel
def b_X10_isFloor_0 (h : PH) (v0 : Nat) (v1 : Int64) (v3 : Int64) : Option Int32 := (m_X10_within v1 (0 : Int64) (1000000 : Int64)).bind fun x1 => (if x1 = 0 then (rZP (0 : Int32)) else ((m_X10_within v3 (1 : Int64) (1000000 : Int64)).bind fun x2 => (if x2 = 0 then (rZP (0 : Int32)) else ((gR 10 1 h v0).bind fun a3 => ((aI 0 h a3 (1 : Int32)).bind fun x4 => (if (((Int32.toInt64 x4) * v3)) < v1 then (rZP (0 : Int32)) else (rZP (1 : Int32))))))))
set_option maxRecDepth 20000 in
theorem t_X10_isFloor_0 {M : MV} {X : XT} {h : PH} {r : Int32} {ce sl mc ms : Nat} {v0 : Nat} {v1 : Int64} {v3 : Int64} (hc : Cx M X RX10 cX10_isFloor) (hr : Rx M 2 118 mc ms 5) (he : Ex M X (some .boolean) "isFloor" (some (.int r)) h mc ms) (hm : ce ≤ mc) (hs : sl ≤ ms) (hf : b_X10_isFloor_0 h v0 v1 v3 = some r) : GG M X h ce sl 0 [(0, .ref (X.1 + v0)), (1, .long v1), (3, .long v3)] [] := by
  unfold b_X10_isFloor_0 at hf
  refine r_lload_n hc 1 (dc_at dX10_isFloor 0 rfl) rfl ?_
  refine r_lconst (0 : Int64) hc (dc_at dX10_isFloor 1 rfl) (by decide) ?_
  refine r_ldc2 hc (dc_at dX10_isFloor 2 rfl) cl2_X10_266 ?_
  refine ob hf fun x1 ex hf => ?_
  refine r_callSi (As := [.long v1, .long ((0 : Int64)), .long ((1000000 : Int64))]) hc hr (dc_at dX10_isFloor 3 rfl) ml_X10_172 mv_X10_within st_X10_within rfl (mt_X10_within ex) (by first | exact Nat.le_of_ble_eq_true rfl | omega) (by first | exact Nat.le_of_ble_eq_true rfl | omega) (by first | exact Nat.le_of_ble_eq_true rfl | omega) hm hs ?_
  refine r_if_eq (tgt := 40) hc (dc_at dX10_isFloor 4 rfl) (by decide) hf (fun hf => ?_) (fun hf => ?_)
  · refine r_iconst (0 : Int32) hc (dc_at dX10_isFloor 22 rfl) (by decide) ?_
    exact r_zretP hc he (hm) (hs) (dc_at dX10_isFloor 23 rfl) hf
  · refine r_lload_n hc 2 (dc_at dX10_isFloor 5 rfl) rfl ?_
    refine r_lconst (1 : Int64) hc (dc_at dX10_isFloor 6 rfl) (by decide) ?_
    refine r_ldc2 hc (dc_at dX10_isFloor 7 rfl) cl2_X10_266 ?_
    refine ob hf fun x2 ex hf => ?_
    refine r_callSi (As := [.long v3, .long ((1 : Int64)), .long ((1000000 : Int64))]) hc hr (dc_at dX10_isFloor 8 rfl) ml_X10_172 mv_X10_within st_X10_within rfl (mt_X10_within ex) (by first | exact Nat.le_of_ble_eq_true rfl | omega) (by first | exact Nat.le_of_ble_eq_true rfl | omega) (by first | exact Nat.le_of_ble_eq_true rfl | omega) hm hs ?_
    refine r_if_eq (tgt := 40) hc (dc_at dX10_isFloor 9 rfl) (by decide) hf (fun hf => ?_) (fun hf => ?_)
    · refine r_iconst (0 : Int32) hc (dc_at dX10_isFloor 22 rfl) (by decide) ?_
      exact r_zretP hc he (hm) (hs) (dc_at dX10_isFloor 23 rfl) hf
    · refine r_lload_n hc 1 (dc_at dX10_isFloor 10 rfl) rfl ?_
      refine r_aload_n hc 0 (dc_at dX10_isFloor 11 rfl) rfl ?_
      refine r_getR hc (dc_at dX10_isFloor 12 rfl) fl_X10_13 hf fun a3 hf => ?_
      refine r_iconst (1 : Int32) hc (dc_at dX10_isFloor 13 rfl) (by decide) ?_
      refine r_iaload hc (dc_at dX10_isFloor 14 rfl) hf fun x4 hf => ?_
      refine r_i2l hc (dc_at dX10_isFloor 15 rfl) ?_
      refine r_lload_n hc 2 (dc_at dX10_isFloor 16 rfl) rfl ?_
      refine r_lmul hc (dc_at dX10_isFloor 17 rfl) ?_
      refine r_lcmp_gt (tgt := 40) hc (dc_at dX10_isFloor 18 rfl) (dc_at dX10_isFloor 19 rfl) (by decide) hf (fun hf => ?_) (fun hf => ?_)
      · refine r_iconst (0 : Int32) hc (dc_at dX10_isFloor 22 rfl) (by decide) ?_
        exact r_zretP hc he (hm) (hs) (dc_at dX10_isFloor 23 rfl) hf
      · refine r_iconst (1 : Int32) hc (dc_at dX10_isFloor 20 rfl) (by decide) ?_
        refine r_goto (tgt := 41) hc (dc_at dX10_isFloor 21 rfl) (by decide) ?_
        exact r_zretP hc he (hm) (hs) (dc_at dX10_isFloor 23 rfl) hf
def m_X10_isFloor (h : PH) (p0 : Nat) (p1 : Int64) (p3 : Int64) : Option Int32 := b_X10_isFloor_0 h p0 p1 p3
theorem mt_X10_isFloor {l : Launch} {X : XT} {h : PH} {p0 : Nat} {p1 : Int64} {p3 : Int64} {r : Int32} (ex : m_X10_isFloor h p0 p1 p3 = some r) : MT l X yX10_isFloor cX10_isFloor 5 (some .boolean) 2 118 0 0 [.ref (X.1 + p0), .long p1, .long p3] h (some (.int r)) h := MT.of (by decide) (Nat.le_of_ble_eq_true rfl) fun M hl hc hr he => by
  subst hl
  exact gg_sub [0, 1, 2] rfl (t_X10_isFloor_0  hc hr he (Nat.zero_le _) (Nat.zero_le _) ex)
/-! FractionLiftModel.leadsFrom(IJJ)I -/
def lX10_leadsFromL : List (Nat × Instr × Nat × Nat) := [(0, .iload_n 1, 1, 1), (1, .i2l, 1, 2), (2, .lconst 0, 1, 3), (3, .aload_n 0, 1, 4), (4, .getfield 13, 3, 7), (7, .iconst 2, 1, 8), (8, .iaload, 1, 9), (9, .iconst 1, 1, 10), (10, .isub, 1, 11), (11, .i2l, 1, 12), (12, .invokestatic 172, 3, 15), (15, .ifCond .ne 5, 3, 18), (18, .iconst 1, 1, 19), (19, .ireturn, 1, 20), (20, .aload_n 0, 1, 21), (21, .iconst 0, 1, 22), (22, .putfield 257, 3, 25), (25, .iconst 0, 1, 26), (26, .istore 6, 2, 28), (28, .iload 6, 2, 30), (30, .aload_n 0, 1, 31), (31, .getfield 13, 3, 34), (34, .bipush 67, 2, 36), (36, .iload_n 1, 1, 37), (37, .iadd, 1, 38), (38, .iaload, 1, 39), (39, .if_icmp .ge 107, 3, 42), (42, .aload_n 0, 1, 43), (43, .getfield 13, 3, 46), (46, .bipush 99, 2, 48), (48, .aload_n 0, 1, 49), (49, .getfield 13, 3, 52), (52, .bipush 61, 2, 54), (54, .iload_n 1, 1, 55), (55, .iadd, 1, 56), (56, .iaload, 1, 57), (57, .iadd, 1, 58), (58, .iload 6, 2, 60), (60, .iadd, 1, 61), (61, .iaload, 1, 62), (62, .istore 7, 2, 64), (64, .iload 7, 2, 66), (66, .sipush 1000, 3, 69), (69, .if_icmp .ge 14, 3, 72), (72, .aload_n 0, 1, 73), (73, .iload 7, 2, 75), (75, .i2l, 1, 76), (76, .lconst 1, 1, 77), (77, .invokevirtual 262, 3, 80), (80, .goto 50, 3, 83), (83, .iload 7, 2, 85), (85, .sipush 1000, 3, 88), (88, .if_icmp .ne 13, 3, 91), (91, .aload_n 0, 1, 92), (92, .lload_n 2, 1, 93), (93, .lload 4, 2, 95), (95, .invokevirtual 262, 3, 98), (98, .goto 32, 3, 101), (101, .iload 7, 2, 103), (103, .sipush 1001, 3, 106), (106, .if_icmp .ne 18, 3, 109), (109, .aload_n 0, 1, 110), (110, .aload_n 0, 1, 111), (111, .getfield 13, 3, 114), (114, .iconst 1, 1, 115), (115, .iaload, 1, 116), (116, .i2l, 1, 117), (117, .lconst 1, 1, 118), (118, .invokevirtual 262, 3, 121), (121, .goto 9, 3, 124), (124, .aload_n 0, 1, 125), (125, .iload 7, 2, 127), (127, .invokevirtual 268, 3, 130), (130, .istore 8, 2, 132), (132, .iload 8, 2, 134), (134, .ifCond .eq 6, 3, 137), (137, .iload 8, 2, 139), (139, .ireturn, 1, 140), (140, .iinc 6 1, 3, 143), (143, .goto (-115), 3, 146), (146, .aload_n 0, 1, 147), (147, .aload_n 0, 1, 148), (148, .getfield 30, 3, 151), (151, .iconst 0, 1, 152), (152, .laload, 1, 153), (153, .putfield 180, 3, 156), (156, .aload_n 0, 1, 157), (157, .aload_n 0, 1, 158), (158, .getfield 34, 3, 161), (161, .iconst 0, 1, 162), (162, .laload, 1, 163), (163, .putfield 184, 3, 166), (166, .aload_n 0, 1, 167), (167, .aload_n 0, 1, 168), (168, .getfield 180, 3, 171), (171, .aload_n 0, 1, 172), (172, .getfield 184, 3, 175), (175, .invokevirtual 271, 3, 178), (178, .ifCond .eq 7, 3, 181), (181, .iconst 0, 1, 182), (182, .goto 4, 3, 185), (185, .iconst 4, 1, 186), (186, .ireturn, 1, 187)]
set_option maxRecDepth 20000 in
theorem dX10_leadsFrom : dcL cX10_leadsFrom lX10_leadsFromL = true := by decide +kernel
def b_X10_leadsFrom_130 (F : Nat) (self19 : PH → Nat → Int32 → Int64 → Int64 → Int32 → Option (Int32 × PH)) (h : PH) (v0 : Nat) (v1 : Int32) (v2 : Int64) (v4 : Int64) (v6 : Int32) (s0 : Int32) : Option (Int32 × PH) := if s0 = 0 then (bindv (v6 + (1)) fun x1 => (self19 h v0 v1 v2 v4 x1)) else (some (s0, h))
set_option maxRecDepth 20000 in
theorem t_X10_leadsFrom_130 {M : MV} {X : XT} {F : Nat} {self19 : PH → Nat → Int32 → Int64 → Int64 → Int32 → Option (Int32 × PH)} {h hz : PH} {r : Int32} {ce sl mc ms : Nat} {v0 : Nat} {v1 : Int32} {v2 : Int64} {v4 : Int64} {v6 : Int32} {s0 : Int32} (hc : Cx M X RX10 cX10_leadsFrom) (hr : Rx M 135 7832 mc ms 9) (he : Ex M X (some .int) "leadsFrom" (some (.int r)) hz mc ms) (hm : ce ≤ mc) (hs : sl ≤ ms) (ih19 : ∀ (h : PH) (v0 : Nat) (v1 : Int32) (v2 : Int64) (v4 : Int64) (v6 : Int32), self19 h v0 v1 v2 v4 v6 = some (r, hz) → GG M X h ce sl 28 [(0, .ref (X.1 + v0)), (1, .int v1), (2, .long v2), (4, .long v4), (6, .int v6)] []) (hf : b_X10_leadsFrom_130 F self19 h v0 v1 v2 v4 v6 s0 = some (r, hz)) : GG M X h ce sl 130 [(0, .ref (X.1 + v0)), (1, .int v1), (2, .long v2), (4, .long v4), (6, .int v6)] [.int s0] := by
  unfold b_X10_leadsFrom_130 at hf
  refine r_istore [(8, .int s0), (0, .ref (X.1 + v0)), (1, .int v1), (2, .long v2), (4, .long v4), (6, .int v6)] hc hr (dc_at dX10_leadsFrom 73 rfl) (by decide) rfl ?_
  refine r_iload hc 0 (dc_at dX10_leadsFrom 74 rfl) rfl ?_
  refine r_if_eq (tgt := 140) hc (dc_at dX10_leadsFrom 75 rfl) (by decide) hf (fun hf => ?_) (fun hf => ?_)
  · refine obv hf fun x1 e_x1 hf => ?_
    refine r_iinc 5 [(6, .int x1), (8, .int s0), (0, .ref (X.1 + v0)), (1, .int v1), (2, .long v2), (4, .long v4)] hc hr (dc_at dX10_leadsFrom 78 rfl) rfl (by rw [e_x1]; rfl) (by decide) rfl ?_
    refine r_goto (tgt := 28) hc (dc_at dX10_leadsFrom 79 rfl) (by decide) ?_
    exact gg_sub [2, 3, 4, 5, 0] rfl (ih19 _ _ _ _ _ _ hf)
  · refine r_iload hc 0 (dc_at dX10_leadsFrom 76 rfl) rfl ?_
    exact r_iret hc he (hm) (hs) (dc_at dX10_leadsFrom 77 rfl) hf
def b_X10_leadsFrom_28 (F : Nat) (self19 : PH → Nat → Int32 → Int64 → Int64 → Int32 → Option (Int32 × PH)) (h : PH) (v0 : Nat) (v1 : Int32) (v2 : Int64) (v4 : Int64) (v6 : Int32) : Option (Int32 × PH) := (gR 10 1 h v0).bind fun a1 => ((aI 0 h a1 (((67 : Int32) + v1))).bind fun x2 => (if x2 ≤ v6 then ((gR 10 19 h v0).bind fun a3 => ((aL h a3 (0 : Int32)).bind fun x4 => ((pV 10 15 (.long x4) h v0).bind fun h5 => ((gR 10 20 h5 v0).bind fun a6 => ((aL h5 a6 (0 : Int32)).bind fun x7 => ((pV 10 16 (.long x7) h5 v0).bind fun h8 => ((gL 10 15 h8 v0).bind fun x9 => ((gL 10 16 h8 v0).bind fun x10 => (cO 10 h8 v0 ((m_X10_isFloor h8 v0 x9 x10).bind fun x11 => (if x11 = 0 then (some ((4 : Int32), h8)) else (some ((0 : Int32), h8))))))))))))) else ((gR 10 1 h v0).bind fun a12 => ((gR 10 1 h v0).bind fun a13 => ((aI 0 h a13 (((61 : Int32) + v1))).bind fun x14 => ((aI 0 h a12 (((((99 : Int32) + x14)) + v6))).bind fun x15 => (if (1000 : Int32) ≤ x15 then (if x15 = (1000 : Int32) then (cO 10 h v0 (bind2 (m_X10_pushes h v0 v2 v4) fun x22 h23 => (b_X10_leadsFrom_130 F self19 h23 v0 v1 v2 v4 v6 x22))) else (if x15 = (1001 : Int32) then ((gR 10 1 h v0).bind fun a18 => ((aI 0 h a18 (1 : Int32)).bind fun x19 => (cO 10 h v0 (bind2 (m_X10_pushes h v0 (Int32.toInt64 x19) (1 : Int64)) fun x20 h21 => (b_X10_leadsFrom_130 F self19 h21 v0 v1 v2 v4 v6 x20))))) else (cO 10 h v0 (bind2 (m_X10_steps h v0 x15) fun x16 h17 => (b_X10_leadsFrom_130 F self19 h17 v0 v1 v2 v4 v6 x16))))) else (cO 10 h v0 (bind2 (m_X10_pushes h v0 (Int32.toInt64 x15) (1 : Int64)) fun x24 h25 => (b_X10_leadsFrom_130 F self19 h25 v0 v1 v2 v4 v6 x24))))))))))
set_option maxRecDepth 20000 in
theorem tb_X10_leadsFrom_28 {M : MV} {X : XT} {F : Nat} {self19 : PH → Nat → Int32 → Int64 → Int64 → Int32 → Option (Int32 × PH)} {h hz : PH} {r : Int32} {ce sl mc ms : Nat} {v0 : Nat} {v1 : Int32} {v2 : Int64} {v4 : Int64} {v6 : Int32} (hc : Cx M X RX10 cX10_leadsFrom) (hr : Rx M 135 7832 mc ms 9) (he : Ex M X (some .int) "leadsFrom" (some (.int r)) hz mc ms) (hm : ce ≤ mc) (hs : sl ≤ ms) (ih19 : ∀ (h : PH) (v0 : Nat) (v1 : Int32) (v2 : Int64) (v4 : Int64) (v6 : Int32), self19 h v0 v1 v2 v4 v6 = some (r, hz) → GG M X h ce sl 28 [(0, .ref (X.1 + v0)), (1, .int v1), (2, .long v2), (4, .long v4), (6, .int v6)] []) (hf : b_X10_leadsFrom_28 F self19 h v0 v1 v2 v4 v6 = some (r, hz)) : GG M X h ce sl 28 [(0, .ref (X.1 + v0)), (1, .int v1), (2, .long v2), (4, .long v4), (6, .int v6)] [] := by
  unfold b_X10_leadsFrom_28 at hf
  refine r_iload hc 4 (dc_at dX10_leadsFrom 19 rfl) rfl ?_
  refine r_aload_n hc 0 (dc_at dX10_leadsFrom 20 rfl) rfl ?_
  refine r_getR hc (dc_at dX10_leadsFrom 21 rfl) fl_X10_13 hf fun a1 hf => ?_
  refine r_bipush (67 : Int32) hc (dc_at dX10_leadsFrom 22 rfl) (by decide) ?_
  refine r_iload_n hc 1 (dc_at dX10_leadsFrom 23 rfl) rfl ?_
  refine r_iadd hc (dc_at dX10_leadsFrom 24 rfl) ?_
  refine r_iaload hc (dc_at dX10_leadsFrom 25 rfl) hf fun x2 hf => ?_
  refine r_icmp_ge (tgt := 146) hc (dc_at dX10_leadsFrom 26 rfl) (by decide) hf (fun hf => ?_) (fun hf => ?_)
  · refine r_aload_n hc 0 (dc_at dX10_leadsFrom 80 rfl) rfl ?_
    refine r_aload_n hc 0 (dc_at dX10_leadsFrom 81 rfl) rfl ?_
    refine r_getR hc (dc_at dX10_leadsFrom 82 rfl) fl_X10_30 hf fun a3 hf => ?_
    refine r_iconst (0 : Int32) hc (dc_at dX10_leadsFrom 83 rfl) (by decide) ?_
    refine r_laload hc (dc_at dX10_leadsFrom 84 rfl) hf fun x4 hf => ?_
    refine r_putL hc he (dc_at dX10_leadsFrom 85 rfl) fp_X10_180 (fun q => by cases q) hf fun h5 hf => ?_
    refine r_aload_n hc 0 (dc_at dX10_leadsFrom 86 rfl) rfl ?_
    refine r_aload_n hc 0 (dc_at dX10_leadsFrom 87 rfl) rfl ?_
    refine r_getR hc (dc_at dX10_leadsFrom 88 rfl) fl_X10_34 hf fun a6 hf => ?_
    refine r_iconst (0 : Int32) hc (dc_at dX10_leadsFrom 89 rfl) (by decide) ?_
    refine r_laload hc (dc_at dX10_leadsFrom 90 rfl) hf fun x7 hf => ?_
    refine r_putL hc he (dc_at dX10_leadsFrom 91 rfl) fp_X10_184 (fun q => by cases q) hf fun h8 hf => ?_
    refine r_aload_n hc 0 (dc_at dX10_leadsFrom 92 rfl) rfl ?_
    refine r_aload_n hc 0 (dc_at dX10_leadsFrom 93 rfl) rfl ?_
    refine r_getL hc (dc_at dX10_leadsFrom 94 rfl) fl_X10_180 hf fun x9 hf => ?_
    refine r_aload_n hc 0 (dc_at dX10_leadsFrom 95 rfl) rfl ?_
    refine r_getL hc (dc_at dX10_leadsFrom 96 rfl) fl_X10_184 hf fun x10 hf => ?_
    obtain ⟨ho, hf⟩ := cO_some hf
    refine ob hf fun x11 ex hf => ?_
    refine r_callVi (As := [.long x9, .long x10]) (ci := 10) hc hr (dc_at dX10_leadsFrom 97 rfl) ml_X10_271 mv_X10_isFloor vi_X10_isFloor rfl ho rfl (mt_X10_isFloor ex) (by first | exact Nat.le_of_ble_eq_true rfl | omega) (by first | exact Nat.le_of_ble_eq_true rfl | omega) (by first | exact Nat.le_of_ble_eq_true rfl | omega) hm hs ?_
    refine r_if_eq (tgt := 185) hc (dc_at dX10_leadsFrom 98 rfl) (by decide) hf (fun hf => ?_) (fun hf => ?_)
    · refine r_iconst (4 : Int32) hc (dc_at dX10_leadsFrom 101 rfl) (by decide) ?_
      exact r_iret hc he (hm) (hs) (dc_at dX10_leadsFrom 102 rfl) hf
    · refine r_iconst (0 : Int32) hc (dc_at dX10_leadsFrom 99 rfl) (by decide) ?_
      refine r_goto (tgt := 186) hc (dc_at dX10_leadsFrom 100 rfl) (by decide) ?_
      exact r_iret hc he (hm) (hs) (dc_at dX10_leadsFrom 102 rfl) hf
  · refine r_aload_n hc 0 (dc_at dX10_leadsFrom 27 rfl) rfl ?_
    refine r_getR hc (dc_at dX10_leadsFrom 28 rfl) fl_X10_13 hf fun a12 hf => ?_
    refine r_bipush (99 : Int32) hc (dc_at dX10_leadsFrom 29 rfl) (by decide) ?_
    refine r_aload_n hc 0 (dc_at dX10_leadsFrom 30 rfl) rfl ?_
    refine r_getR hc (dc_at dX10_leadsFrom 31 rfl) fl_X10_13 hf fun a13 hf => ?_
    refine r_bipush (61 : Int32) hc (dc_at dX10_leadsFrom 32 rfl) (by decide) ?_
    refine r_iload_n hc 1 (dc_at dX10_leadsFrom 33 rfl) rfl ?_
    refine r_iadd hc (dc_at dX10_leadsFrom 34 rfl) ?_
    refine r_iaload hc (dc_at dX10_leadsFrom 35 rfl) hf fun x14 hf => ?_
    refine r_iadd hc (dc_at dX10_leadsFrom 36 rfl) ?_
    refine r_iload hc 4 (dc_at dX10_leadsFrom 37 rfl) rfl ?_
    refine r_iadd hc (dc_at dX10_leadsFrom 38 rfl) ?_
    refine r_iaload hc (dc_at dX10_leadsFrom 39 rfl) hf fun x15 hf => ?_
    refine r_istore [(7, .int x15), (0, .ref (X.1 + v0)), (1, .int v1), (2, .long v2), (4, .long v4), (6, .int v6)] hc hr (dc_at dX10_leadsFrom 40 rfl) (by decide) rfl ?_
    refine r_iload hc 0 (dc_at dX10_leadsFrom 41 rfl) rfl ?_
    refine r_sipush (1000 : Int32) hc (dc_at dX10_leadsFrom 42 rfl) (by decide) ?_
    refine r_icmp_ge (tgt := 83) hc (dc_at dX10_leadsFrom 43 rfl) (by decide) hf (fun hf => ?_) (fun hf => ?_)
    · refine r_iload hc 0 (dc_at dX10_leadsFrom 50 rfl) rfl ?_
      refine r_sipush (1000 : Int32) hc (dc_at dX10_leadsFrom 51 rfl) (by decide) ?_
      refine r_icmp_ne (tgt := 101) hc (dc_at dX10_leadsFrom 52 rfl) (by decide) hf (fun hf => ?_) (fun hf => ?_)
      · refine r_iload hc 0 (dc_at dX10_leadsFrom 58 rfl) rfl ?_
        refine r_sipush (1001 : Int32) hc (dc_at dX10_leadsFrom 59 rfl) (by decide) ?_
        refine r_icmp_ne (tgt := 124) hc (dc_at dX10_leadsFrom 60 rfl) (by decide) hf (fun hf => ?_) (fun hf => ?_)
        · refine r_aload_n hc 1 (dc_at dX10_leadsFrom 70 rfl) rfl ?_
          refine r_iload hc 0 (dc_at dX10_leadsFrom 71 rfl) rfl ?_
          obtain ⟨ho, hf⟩ := cO_some hf
          refine ob2 hf fun x16 h17 ex hf => ?_
          refine r_callVi (As := [.int x15]) (ci := 10) hc hr (dc_at dX10_leadsFrom 72 rfl) ml_X10_268 mv_X10_steps vi_X10_steps rfl ho rfl (mt_X10_steps ex) (by first | exact Nat.le_of_ble_eq_true rfl | omega) (by first | exact Nat.le_of_ble_eq_true rfl | omega) (by first | exact Nat.le_of_ble_eq_true rfl | omega) hm hs ?_
          exact gg_sub [1, 2, 3, 4, 5] rfl (t_X10_leadsFrom_130 hc hr he hm hs ih19 hf)
        · refine r_aload_n hc 1 (dc_at dX10_leadsFrom 61 rfl) rfl ?_
          refine r_aload_n hc 1 (dc_at dX10_leadsFrom 62 rfl) rfl ?_
          refine r_getR hc (dc_at dX10_leadsFrom 63 rfl) fl_X10_13 hf fun a18 hf => ?_
          refine r_iconst (1 : Int32) hc (dc_at dX10_leadsFrom 64 rfl) (by decide) ?_
          refine r_iaload hc (dc_at dX10_leadsFrom 65 rfl) hf fun x19 hf => ?_
          refine r_i2l hc (dc_at dX10_leadsFrom 66 rfl) ?_
          refine r_lconst (1 : Int64) hc (dc_at dX10_leadsFrom 67 rfl) (by decide) ?_
          obtain ⟨ho, hf⟩ := cO_some hf
          refine ob2 hf fun x20 h21 ex hf => ?_
          refine r_callVi (As := [.long ((Int32.toInt64 x19)), .long ((1 : Int64))]) (ci := 10) hc hr (dc_at dX10_leadsFrom 68 rfl) ml_X10_262 mv_X10_pushes vi_X10_pushes rfl ho rfl (mt_X10_pushes ex) (by first | exact Nat.le_of_ble_eq_true rfl | omega) (by first | exact Nat.le_of_ble_eq_true rfl | omega) (by first | exact Nat.le_of_ble_eq_true rfl | omega) hm hs ?_
          refine r_goto (tgt := 130) hc (dc_at dX10_leadsFrom 69 rfl) (by decide) ?_
          exact gg_sub [1, 2, 3, 4, 5] rfl (t_X10_leadsFrom_130 hc hr he hm hs ih19 hf)
      · refine r_aload_n hc 1 (dc_at dX10_leadsFrom 53 rfl) rfl ?_
        refine r_lload_n hc 3 (dc_at dX10_leadsFrom 54 rfl) rfl ?_
        refine r_lload hc 4 (dc_at dX10_leadsFrom 55 rfl) rfl ?_
        obtain ⟨ho, hf⟩ := cO_some hf
        refine ob2 hf fun x22 h23 ex hf => ?_
        refine r_callVi (As := [.long v2, .long v4]) (ci := 10) hc hr (dc_at dX10_leadsFrom 56 rfl) ml_X10_262 mv_X10_pushes vi_X10_pushes rfl ho rfl (mt_X10_pushes ex) (by first | exact Nat.le_of_ble_eq_true rfl | omega) (by first | exact Nat.le_of_ble_eq_true rfl | omega) (by first | exact Nat.le_of_ble_eq_true rfl | omega) hm hs ?_
        refine r_goto (tgt := 130) hc (dc_at dX10_leadsFrom 57 rfl) (by decide) ?_
        exact gg_sub [1, 2, 3, 4, 5] rfl (t_X10_leadsFrom_130 hc hr he hm hs ih19 hf)
    · refine r_aload_n hc 1 (dc_at dX10_leadsFrom 44 rfl) rfl ?_
      refine r_iload hc 0 (dc_at dX10_leadsFrom 45 rfl) rfl ?_
      refine r_i2l hc (dc_at dX10_leadsFrom 46 rfl) ?_
      refine r_lconst (1 : Int64) hc (dc_at dX10_leadsFrom 47 rfl) (by decide) ?_
      obtain ⟨ho, hf⟩ := cO_some hf
      refine ob2 hf fun x24 h25 ex hf => ?_
      refine r_callVi (As := [.long ((Int32.toInt64 x15)), .long ((1 : Int64))]) (ci := 10) hc hr (dc_at dX10_leadsFrom 48 rfl) ml_X10_262 mv_X10_pushes vi_X10_pushes rfl ho rfl (mt_X10_pushes ex) (by first | exact Nat.le_of_ble_eq_true rfl | omega) (by first | exact Nat.le_of_ble_eq_true rfl | omega) (by first | exact Nat.le_of_ble_eq_true rfl | omega) hm hs ?_
      refine r_goto (tgt := 130) hc (dc_at dX10_leadsFrom 49 rfl) (by decide) ?_
      exact gg_sub [1, 2, 3, 4, 5] rfl (t_X10_leadsFrom_130 hc hr he hm hs ih19 hf)
def l_X10_leadsFrom_28 (F : Nat) : Nat → PH → Nat → Int32 → Int64 → Int64 → Int32 → Option (Int32 × PH)
  | 0 => fun _ _ _ _ _ _ => none
  | n + 1 => fun h v0 v1 v2 v4 v6 => b_X10_leadsFrom_28 F (l_X10_leadsFrom_28 F n) h v0 v1 v2 v4 v6
theorem tl_X10_leadsFrom_28 {M : MV} {X : XT} {F : Nat} {hz : PH} {r : Int32} {ce sl mc ms : Nat} (hc : Cx M X RX10 cX10_leadsFrom) (hr : Rx M 135 7832 mc ms 9) (he : Ex M X (some .int) "leadsFrom" (some (.int r)) hz mc ms) (hm : ce ≤ mc) (hs : sl ≤ ms) (n : Nat) : ∀ (h : PH) (v0 : Nat) (v1 : Int32) (v2 : Int64) (v4 : Int64) (v6 : Int32), l_X10_leadsFrom_28 F n h v0 v1 v2 v4 v6 = some (r, hz) → GG M X h ce sl 28 [(0, .ref (X.1 + v0)), (1, .int v1), (2, .long v2), (4, .long v4), (6, .int v6)] [] := by
  induction n with
  | zero => intro h v0 v1 v2 v4 v6 hf; cases hf
  | succ n ih => intro h v0 v1 v2 v4 v6 hf; exact tb_X10_leadsFrom_28 (F := F) hc hr he hm hs  ih hf
def b_X10_leadsFrom_0 (F : Nat) (h : PH) (v0 : Nat) (v1 : Int32) (v2 : Int64) (v4 : Int64) : Option (Int32 × PH) := (gR 10 1 h v0).bind fun a1 => ((aI 0 h a1 (2 : Int32)).bind fun x2 => ((m_X10_within (Int32.toInt64 v1) (0 : Int64) ((Int32.toInt64 ((x2 - (1 : Int32)))))).bind fun x3 => (if x3 = 0 then (some ((1 : Int32), h)) else ((pV 10 21 (.int (0 : Int32)) h v0).bind fun h4 => (l_X10_leadsFrom_28 F F h4 v0 v1 v2 v4 (0 : Int32))))))
set_option maxRecDepth 20000 in
theorem t_X10_leadsFrom_0 {M : MV} {X : XT} {F : Nat} {h hz : PH} {r : Int32} {ce sl mc ms : Nat} {v0 : Nat} {v1 : Int32} {v2 : Int64} {v4 : Int64} (hc : Cx M X RX10 cX10_leadsFrom) (hr : Rx M 135 7832 mc ms 9) (he : Ex M X (some .int) "leadsFrom" (some (.int r)) hz mc ms) (hm : ce ≤ mc) (hs : sl ≤ ms) (hf : b_X10_leadsFrom_0 F h v0 v1 v2 v4 = some (r, hz)) : GG M X h ce sl 0 [(0, .ref (X.1 + v0)), (1, .int v1), (2, .long v2), (4, .long v4)] [] := by
  unfold b_X10_leadsFrom_0 at hf
  refine r_iload_n hc 1 (dc_at dX10_leadsFrom 0 rfl) rfl ?_
  refine r_i2l hc (dc_at dX10_leadsFrom 1 rfl) ?_
  refine r_lconst (0 : Int64) hc (dc_at dX10_leadsFrom 2 rfl) (by decide) ?_
  refine r_aload_n hc 0 (dc_at dX10_leadsFrom 3 rfl) rfl ?_
  refine r_getR hc (dc_at dX10_leadsFrom 4 rfl) fl_X10_13 hf fun a1 hf => ?_
  refine r_iconst (2 : Int32) hc (dc_at dX10_leadsFrom 5 rfl) (by decide) ?_
  refine r_iaload hc (dc_at dX10_leadsFrom 6 rfl) hf fun x2 hf => ?_
  refine r_iconst (1 : Int32) hc (dc_at dX10_leadsFrom 7 rfl) (by decide) ?_
  refine r_isub hc (dc_at dX10_leadsFrom 8 rfl) ?_
  refine r_i2l hc (dc_at dX10_leadsFrom 9 rfl) ?_
  refine ob hf fun x3 ex hf => ?_
  refine r_callSi (As := [.long ((Int32.toInt64 v1)), .long ((0 : Int64)), .long ((Int32.toInt64 ((x2 - (1 : Int32)))))]) hc hr (dc_at dX10_leadsFrom 10 rfl) ml_X10_172 mv_X10_within st_X10_within rfl (mt_X10_within ex) (by first | exact Nat.le_of_ble_eq_true rfl | omega) (by first | exact Nat.le_of_ble_eq_true rfl | omega) (by first | exact Nat.le_of_ble_eq_true rfl | omega) hm hs ?_
  refine r_if_ne (tgt := 20) hc (dc_at dX10_leadsFrom 11 rfl) (by decide) hf (fun hf => ?_) (fun hf => ?_)
  · refine r_aload_n hc 0 (dc_at dX10_leadsFrom 14 rfl) rfl ?_
    refine r_iconst (0 : Int32) hc (dc_at dX10_leadsFrom 15 rfl) (by decide) ?_
    refine r_putI hc he (dc_at dX10_leadsFrom 16 rfl) fp_X10_257 (fun q => by cases q) hf fun h4 hf => ?_
    refine r_iconst (0 : Int32) hc (dc_at dX10_leadsFrom 17 rfl) (by decide) ?_
    refine r_istore [(6, .int ((0 : Int32))), (0, .ref (X.1 + v0)), (1, .int v1), (2, .long v2), (4, .long v4)] hc hr (dc_at dX10_leadsFrom 18 rfl) (by decide) rfl ?_
    exact gg_sub [1, 2, 3, 4, 0] rfl (tl_X10_leadsFrom_28 hc hr he hm hs  F _ _ _ _ _ _ hf)
  · refine r_iconst (1 : Int32) hc (dc_at dX10_leadsFrom 12 rfl) (by decide) ?_
    exact r_iret hc he (hm) (hs) (dc_at dX10_leadsFrom 13 rfl) hf
def m_X10_leadsFrom (F : Nat) (h : PH) (p0 : Nat) (p1 : Int32) (p2 : Int64) (p4 : Int64) : Option (Int32 × PH) := b_X10_leadsFrom_0 F h p0 p1 p2 p4
theorem mt_X10_leadsFrom {l : Launch} {X : XT} {F : Nat} {h hz : PH} {p0 : Nat} {p1 : Int32} {p2 : Int64} {p4 : Int64} {r : Int32} (ex : m_X10_leadsFrom F h p0 p1 p2 p4 = some (r, hz)) : MT l X yX10_leadsFrom cX10_leadsFrom 9 (some .int) 135 7832 0 0 [.ref (X.1 + p0), .int p1, .long p2, .long p4] h (some (.int r)) hz := MT.of (by decide) (Nat.le_of_ble_eq_true rfl) fun M hl hc hr he => by
  subst hl
  exact gg_sub [0, 1, 2, 3] rfl (t_X10_leadsFrom_0  hc hr he (Nat.zero_le _) (Nat.zero_le _) ex)
/-! FractionLiftModel.leadsNow(I)I -/
def lX10_leadsNowL : List (Nat × Instr × Nat × Nat) := [(0, .aload_n 0, 1, 1), (1, .iload_n 1, 1, 2), (2, .aload_n 0, 1, 3), (3, .getfield 13, 3, 6), (6, .bipush 7, 2, 8), (8, .iaload, 1, 9), (9, .i2l, 1, 10), (10, .aload_n 0, 1, 11), (11, .getfield 13, 3, 14), (14, .bipush 8, 2, 16), (16, .iaload, 1, 17), (17, .i2l, 1, 18), (18, .invokevirtual 275, 3, 21), (21, .ireturn, 1, 22)]
set_option maxRecDepth 20000 in
theorem dX10_leadsNow : dcL cX10_leadsNow lX10_leadsNowL = true := by decide +kernel
def b_X10_leadsNow_0 (F : Nat) (h : PH) (v0 : Nat) (v1 : Int32) : Option (Int32 × PH) := (gR 10 1 h v0).bind fun a1 => ((aI 0 h a1 (7 : Int32)).bind fun x2 => ((gR 10 1 h v0).bind fun a3 => ((aI 0 h a3 (8 : Int32)).bind fun x4 => (cO 10 h v0 (bind2 (m_X10_leadsFrom F h v0 v1 (Int32.toInt64 x2) (Int32.toInt64 x4)) fun x5 h6 => (some (x5, h6)))))))
set_option maxRecDepth 20000 in
theorem t_X10_leadsNow_0 {M : MV} {X : XT} {F : Nat} {h hz : PH} {r : Int32} {ce sl mc ms : Nat} {v0 : Nat} {v1 : Int32} (hc : Cx M X RX10 cX10_leadsNow) (hr : Rx M 136 7890 mc ms 2) (he : Ex M X (some .int) "leadsNow" (some (.int r)) hz mc ms) (hm : ce ≤ mc) (hs : sl ≤ ms) (hf : b_X10_leadsNow_0 F h v0 v1 = some (r, hz)) : GG M X h ce sl 0 [(0, .ref (X.1 + v0)), (1, .int v1)] [] := by
  unfold b_X10_leadsNow_0 at hf
  refine r_aload_n hc 0 (dc_at dX10_leadsNow 0 rfl) rfl ?_
  refine r_iload_n hc 1 (dc_at dX10_leadsNow 1 rfl) rfl ?_
  refine r_aload_n hc 0 (dc_at dX10_leadsNow 2 rfl) rfl ?_
  refine r_getR hc (dc_at dX10_leadsNow 3 rfl) fl_X10_13 hf fun a1 hf => ?_
  refine r_bipush (7 : Int32) hc (dc_at dX10_leadsNow 4 rfl) (by decide) ?_
  refine r_iaload hc (dc_at dX10_leadsNow 5 rfl) hf fun x2 hf => ?_
  refine r_i2l hc (dc_at dX10_leadsNow 6 rfl) ?_
  refine r_aload_n hc 0 (dc_at dX10_leadsNow 7 rfl) rfl ?_
  refine r_getR hc (dc_at dX10_leadsNow 8 rfl) fl_X10_13 hf fun a3 hf => ?_
  refine r_bipush (8 : Int32) hc (dc_at dX10_leadsNow 9 rfl) (by decide) ?_
  refine r_iaload hc (dc_at dX10_leadsNow 10 rfl) hf fun x4 hf => ?_
  refine r_i2l hc (dc_at dX10_leadsNow 11 rfl) ?_
  obtain ⟨ho, hf⟩ := cO_some hf
  refine ob2 hf fun x5 h6 ex hf => ?_
  refine r_callVi (As := [.int v1, .long ((Int32.toInt64 x2)), .long ((Int32.toInt64 x4))]) (ci := 10) hc hr (dc_at dX10_leadsNow 12 rfl) ml_X10_275 mv_X10_leadsFrom vi_X10_leadsFrom rfl ho rfl (mt_X10_leadsFrom ex) (by first | exact Nat.le_of_ble_eq_true rfl | omega) (by first | exact Nat.le_of_ble_eq_true rfl | omega) (by first | exact Nat.le_of_ble_eq_true rfl | omega) hm hs ?_
  exact r_iret hc he (hm) (hs) (dc_at dX10_leadsNow 13 rfl) hf
def m_X10_leadsNow (F : Nat) (h : PH) (p0 : Nat) (p1 : Int32) : Option (Int32 × PH) := b_X10_leadsNow_0 F h p0 p1
theorem mt_X10_leadsNow {l : Launch} {X : XT} {F : Nat} {h hz : PH} {p0 : Nat} {p1 : Int32} {r : Int32} (ex : m_X10_leadsNow F h p0 p1 = some (r, hz)) : MT l X yX10_leadsNow cX10_leadsNow 2 (some .int) 136 7890 0 0 [.ref (X.1 + p0), .int p1] h (some (.int r)) hz := MT.of (by decide) (Nat.le_of_ble_eq_true rfl) fun M hl hc hr he => by
  subst hl
  exact gg_sub [0, 1] rfl (t_X10_leadsNow_0  hc hr he (Nat.zero_le _) (Nat.zero_le _) ex)
/-! FractionLiftModel.asks(JJ)Z -/
def lX10_asksL : List (Nat × Instr × Nat × Nat) := [(0, .lload_n 3, 1, 1), (1, .lconst 1, 1, 2), (2, .lcmp, 1, 3), (3, .ifCond .lt 9, 3, 6), (6, .lload_n 1, 1, 7), (7, .lconst 0, 1, 8), (8, .lcmp, 1, 9), (9, .ifCond .ge 5, 3, 12), (12, .iconst 0, 1, 13), (13, .ireturn, 1, 14), (14, .aload_n 0, 1, 15), (15, .lload_n 1, 1, 16), (16, .lload_n 3, 1, 17), (17, .invokevirtual 194, 3, 20), (20, .aload_n 0, 1, 21), (21, .aload_n 0, 1, 22), (22, .getfield 180, 3, 25), (25, .aload_n 0, 1, 26), (26, .getfield 184, 3, 29), (29, .invokevirtual 271, 3, 32), (32, .ireturn, 1, 33)]
set_option maxRecDepth 20000 in
theorem dX10_asks : dcL cX10_asks lX10_asksL = true := by decide +kernel
def b_X10_asks_0 (h : PH) (v0 : Nat) (v1 : Int64) (v3 : Int64) : Option (Int32 × PH) := if v3 < (1 : Int64) then (rZ (0 : Int32) h) else (if (0 : Int64) ≤ v1 then (cO 10 h v0 (bind2 (m_X10_lays h v0 v1 v3) fun _ h2 => ((gL 10 15 h2 v0).bind fun x3 => ((gL 10 16 h2 v0).bind fun x4 => (cO 10 h2 v0 ((m_X10_isFloor h2 v0 x3 x4).bind fun x5 => (rZ x5 h2))))))) else (rZ (0 : Int32) h))
set_option maxRecDepth 20000 in
theorem t_X10_asks_0 {M : MV} {X : XT} {h hz : PH} {r : Int32} {ce sl mc ms : Nat} {v0 : Nat} {v1 : Int64} {v3 : Int64} (hc : Cx M X RX10 cX10_asks) (hr : Rx M 133 7716 mc ms 5) (he : Ex M X (some .boolean) "asks" (some (.int r)) hz mc ms) (hm : ce ≤ mc) (hs : sl ≤ ms) (hf : b_X10_asks_0 h v0 v1 v3 = some (r, hz)) : GG M X h ce sl 0 [(0, .ref (X.1 + v0)), (1, .long v1), (3, .long v3)] [] := by
  unfold b_X10_asks_0 at hf
  refine r_lload_n hc 2 (dc_at dX10_asks 0 rfl) rfl ?_
  refine r_lconst (1 : Int64) hc (dc_at dX10_asks 1 rfl) (by decide) ?_
  refine r_lcmp_lt (tgt := 12) hc (dc_at dX10_asks 2 rfl) (dc_at dX10_asks 3 rfl) (by decide) hf (fun hf => ?_) (fun hf => ?_)
  · refine r_iconst (0 : Int32) hc (dc_at dX10_asks 8 rfl) (by decide) ?_
    exact r_zret hc he (hm) (hs) (dc_at dX10_asks 9 rfl) hf
  · refine r_lload_n hc 1 (dc_at dX10_asks 4 rfl) rfl ?_
    refine r_lconst (0 : Int64) hc (dc_at dX10_asks 5 rfl) (by decide) ?_
    refine r_lcmp_ge (tgt := 14) hc (dc_at dX10_asks 6 rfl) (dc_at dX10_asks 7 rfl) (by decide) hf (fun hf => ?_) (fun hf => ?_)
    · refine r_aload_n hc 0 (dc_at dX10_asks 10 rfl) rfl ?_
      refine r_lload_n hc 1 (dc_at dX10_asks 11 rfl) rfl ?_
      refine r_lload_n hc 2 (dc_at dX10_asks 12 rfl) rfl ?_
      obtain ⟨ho, hf⟩ := cO_some hf
      refine ob2 hf fun u h2 ex hf => ?_
      refine r_callVv (As := [.long v1, .long v3]) (ci := 10) hc hr (dc_at dX10_asks 13 rfl) ml_X10_194 mv_X10_lays vi_X10_lays rfl ho rfl (mt_X10_lays ex) (by first | exact Nat.le_of_ble_eq_true rfl | omega) (by first | exact Nat.le_of_ble_eq_true rfl | omega) (by first | exact Nat.le_of_ble_eq_true rfl | omega) hm hs ?_
      refine r_aload_n hc 0 (dc_at dX10_asks 14 rfl) rfl ?_
      refine r_aload_n hc 0 (dc_at dX10_asks 15 rfl) rfl ?_
      refine r_getL hc (dc_at dX10_asks 16 rfl) fl_X10_180 hf fun x3 hf => ?_
      refine r_aload_n hc 0 (dc_at dX10_asks 17 rfl) rfl ?_
      refine r_getL hc (dc_at dX10_asks 18 rfl) fl_X10_184 hf fun x4 hf => ?_
      obtain ⟨ho, hf⟩ := cO_some hf
      refine ob hf fun x5 ex hf => ?_
      refine r_callVi (As := [.long x3, .long x4]) (ci := 10) hc hr (dc_at dX10_asks 19 rfl) ml_X10_271 mv_X10_isFloor vi_X10_isFloor rfl ho rfl (mt_X10_isFloor ex) (by first | exact Nat.le_of_ble_eq_true rfl | omega) (by first | exact Nat.le_of_ble_eq_true rfl | omega) (by first | exact Nat.le_of_ble_eq_true rfl | omega) hm hs ?_
      exact r_zret hc he (hm) (hs) (dc_at dX10_asks 20 rfl) hf
    · refine r_iconst (0 : Int32) hc (dc_at dX10_asks 8 rfl) (by decide) ?_
      exact r_zret hc he (hm) (hs) (dc_at dX10_asks 9 rfl) hf
def m_X10_asks (h : PH) (p0 : Nat) (p1 : Int64) (p3 : Int64) : Option (Int32 × PH) := b_X10_asks_0 h p0 p1 p3
theorem mt_X10_asks {l : Launch} {X : XT} {h hz : PH} {p0 : Nat} {p1 : Int64} {p3 : Int64} {r : Int32} (ex : m_X10_asks h p0 p1 p3 = some (r, hz)) : MT l X yX10_asks cX10_asks 5 (some .boolean) 133 7716 0 0 [.ref (X.1 + p0), .long p1, .long p3] h (some (.int r)) hz := MT.of (by decide) (Nat.le_of_ble_eq_true rfl) fun M hl hc hr he => by
  subst hl
  exact gg_sub [0, 1, 2] rfl (t_X10_asks_0  hc hr he (Nat.zero_le _) (Nat.zero_le _) ex)
/-! FractionLiftModel.why(I)I -/
def lX10_whyL : List (Nat × Instr × Nat × Nat) := [(0, .aload_n 0, 1, 1), (1, .iconst 0, 1, 2), (2, .putfield 1, 3, 5), (5, .aload_n 0, 1, 6), (6, .iload_n 1, 1, 7), (7, .invokevirtual 279, 3, 10), (10, .ireturn, 1, 11)]
set_option maxRecDepth 20000 in
theorem dX10_why : dcL cX10_why lX10_whyL = true := by decide +kernel
def b_X10_why_0 (F : Nat) (h : PH) (v0 : Nat) (v1 : Int32) : Option (Int32 × PH) := (pV 10 0 (.int (0 : Int32)) h v0).bind fun h1 => (cO 10 h1 v0 (bind2 (m_X10_leadsNow F h1 v0 v1) fun x2 h3 => (some (x2, h3))))
set_option maxRecDepth 20000 in
theorem t_X10_why_0 {M : MV} {X : XT} {F : Nat} {h hz : PH} {r : Int32} {ce sl mc ms : Nat} {v0 : Nat} {v1 : Int32} (hc : Cx M X RX10 cX10_why) (hr : Rx M 137 7948 mc ms 2) (he : Ex M X (some .int) "why" (some (.int r)) hz mc ms) (hm : ce ≤ mc) (hs : sl ≤ ms) (hf : b_X10_why_0 F h v0 v1 = some (r, hz)) : GG M X h ce sl 0 [(0, .ref (X.1 + v0)), (1, .int v1)] [] := by
  unfold b_X10_why_0 at hf
  refine r_aload_n hc 0 (dc_at dX10_why 0 rfl) rfl ?_
  refine r_iconst (0 : Int32) hc (dc_at dX10_why 1 rfl) (by decide) ?_
  refine r_putI hc he (dc_at dX10_why 2 rfl) fp_X10_1 (fun q => by cases q) hf fun h1 hf => ?_
  refine r_aload_n hc 0 (dc_at dX10_why 3 rfl) rfl ?_
  refine r_iload_n hc 1 (dc_at dX10_why 4 rfl) rfl ?_
  obtain ⟨ho, hf⟩ := cO_some hf
  refine ob2 hf fun x2 h3 ex hf => ?_
  refine r_callVi (As := [.int v1]) (ci := 10) hc hr (dc_at dX10_why 5 rfl) ml_X10_279 mv_X10_leadsNow vi_X10_leadsNow rfl ho rfl (mt_X10_leadsNow ex) (by first | exact Nat.le_of_ble_eq_true rfl | omega) (by first | exact Nat.le_of_ble_eq_true rfl | omega) (by first | exact Nat.le_of_ble_eq_true rfl | omega) hm hs ?_
  exact r_iret hc he (hm) (hs) (dc_at dX10_why 6 rfl) hf
def m_X10_why (F : Nat) (h : PH) (p0 : Nat) (p1 : Int32) : Option (Int32 × PH) := b_X10_why_0 F h p0 p1
theorem mt_X10_why {l : Launch} {X : XT} {F : Nat} {h hz : PH} {p0 : Nat} {p1 : Int32} {r : Int32} (ex : m_X10_why F h p0 p1 = some (r, hz)) : MT l X yX10_why cX10_why 2 (some .int) 137 7948 0 0 [.ref (X.1 + p0), .int p1] h (some (.int r)) hz := MT.of (by decide) (Nat.le_of_ble_eq_true rfl) fun M hl hc hr he => by
  subst hl
  exact gg_sub [0, 1] rfl (t_X10_why_0  hc hr he (Nat.zero_le _) (Nat.zero_le _) ex)
/-! FractionLiftModel.leads(IIII)I -/
def lX10_leadsL : List (Nat × Instr × Nat × Nat) := [(0, .aload_n 0, 1, 1), (1, .iconst 0, 1, 2), (2, .putfield 1, 3, 5), (5, .iload 4, 2, 7), (7, .i2l, 1, 8), (8, .lconst 0, 1, 9), (9, .lconst 1, 1, 10), (10, .invokestatic 172, 3, 13), (13, .ifCond .ne 6, 3, 16), (16, .bipush (-2), 2, 18), (18, .ireturn, 1, 19), (19, .aload_n 0, 1, 20), (20, .iload_n 2, 1, 21), (21, .i2l, 1, 22), (22, .iload_n 3, 1, 23), (23, .i2l, 1, 24), (24, .invokevirtual 282, 3, 27), (27, .ifCond .ne 6, 3, 30), (30, .bipush (-3), 2, 32), (32, .ireturn, 1, 33), (33, .aload_n 0, 1, 34), (34, .iload_n 1, 1, 35), (35, .aload_n 0, 1, 36), (36, .getfield 180, 3, 39), (39, .aload_n 0, 1, 40), (40, .getfield 184, 3, 43), (43, .invokevirtual 275, 3, 46), (46, .istore 5, 2, 48), (48, .iload 5, 2, 50), (50, .ifCond .eq 11, 3, 53), (53, .bipush (-10), 2, 55), (55, .iload 5, 2, 57), (57, .isub, 1, 58), (58, .goto 20, 3, 61), (61, .iload 4, 2, 63), (63, .ifCond .ne 10, 3, 66), (66, .aload_n 0, 1, 67), (67, .getfield 180, 3, 70), (70, .goto 7, 3, 73), (73, .aload_n 0, 1, 74), (74, .getfield 184, 3, 77), (77, .l2i, 1, 78), (78, .ireturn, 1, 79)]
set_option maxRecDepth 20000 in
theorem dX10_leads : dcL cX10_leads lX10_leadsL = true := by decide +kernel
def b_X10_leads_0 (F : Nat) (h : PH) (v0 : Nat) (v1 : Int32) (v2 : Int32) (v3 : Int32) (v4 : Int32) : Option (Int32 × PH) := (pV 10 0 (.int (0 : Int32)) h v0).bind fun h1 => ((m_X10_within (Int32.toInt64 v4) (0 : Int64) (1 : Int64)).bind fun x2 => (if x2 = 0 then (some ((-2 : Int32), h1)) else (cO 10 h1 v0 (bind2 (m_X10_asks h1 v0 (Int32.toInt64 v2) (Int32.toInt64 v3)) fun x3 h4 => (if x3 = 0 then (some ((-3 : Int32), h4)) else ((gL 10 15 h4 v0).bind fun x5 => ((gL 10 16 h4 v0).bind fun x6 => (cO 10 h4 v0 (bind2 (m_X10_leadsFrom F h4 v0 v1 x5 x6) fun x7 h8 => (if x7 = 0 then (if v4 = 0 then ((gL 10 15 h8 v0).bind fun x10 => (some ((Int64.toInt32 x10), h8))) else ((gL 10 16 h8 v0).bind fun x9 => (some ((Int64.toInt32 x9), h8)))) else (some ((((-10 : Int32) - x7)), h8))))))))))))
set_option maxRecDepth 20000 in
theorem t_X10_leads_0 {M : MV} {X : XT} {F : Nat} {h hz : PH} {r : Int32} {ce sl mc ms : Nat} {v0 : Nat} {v1 : Int32} {v2 : Int32} {v3 : Int32} {v4 : Int32} (hc : Cx M X RX10 cX10_leads) (hr : Rx M 136 7890 mc ms 6) (he : Ex M X (some .int) "leads" (some (.int r)) hz mc ms) (hm : ce ≤ mc) (hs : sl ≤ ms) (hf : b_X10_leads_0 F h v0 v1 v2 v3 v4 = some (r, hz)) : GG M X h ce sl 0 [(0, .ref (X.1 + v0)), (1, .int v1), (2, .int v2), (3, .int v3), (4, .int v4)] [] := by
  unfold b_X10_leads_0 at hf
  refine r_aload_n hc 0 (dc_at dX10_leads 0 rfl) rfl ?_
  refine r_iconst (0 : Int32) hc (dc_at dX10_leads 1 rfl) (by decide) ?_
  refine r_putI hc he (dc_at dX10_leads 2 rfl) fp_X10_1 (fun q => by cases q) hf fun h1 hf => ?_
  refine r_iload hc 4 (dc_at dX10_leads 3 rfl) rfl ?_
  refine r_i2l hc (dc_at dX10_leads 4 rfl) ?_
  refine r_lconst (0 : Int64) hc (dc_at dX10_leads 5 rfl) (by decide) ?_
  refine r_lconst (1 : Int64) hc (dc_at dX10_leads 6 rfl) (by decide) ?_
  refine ob hf fun x2 ex hf => ?_
  refine r_callSi (As := [.long ((Int32.toInt64 v4)), .long ((0 : Int64)), .long ((1 : Int64))]) hc hr (dc_at dX10_leads 7 rfl) ml_X10_172 mv_X10_within st_X10_within rfl (mt_X10_within ex) (by first | exact Nat.le_of_ble_eq_true rfl | omega) (by first | exact Nat.le_of_ble_eq_true rfl | omega) (by first | exact Nat.le_of_ble_eq_true rfl | omega) hm hs ?_
  refine r_if_ne (tgt := 19) hc (dc_at dX10_leads 8 rfl) (by decide) hf (fun hf => ?_) (fun hf => ?_)
  · refine r_aload_n hc 0 (dc_at dX10_leads 11 rfl) rfl ?_
    refine r_iload_n hc 2 (dc_at dX10_leads 12 rfl) rfl ?_
    refine r_i2l hc (dc_at dX10_leads 13 rfl) ?_
    refine r_iload_n hc 3 (dc_at dX10_leads 14 rfl) rfl ?_
    refine r_i2l hc (dc_at dX10_leads 15 rfl) ?_
    obtain ⟨ho, hf⟩ := cO_some hf
    refine ob2 hf fun x3 h4 ex hf => ?_
    refine r_callVi (As := [.long ((Int32.toInt64 v2)), .long ((Int32.toInt64 v3))]) (ci := 10) hc hr (dc_at dX10_leads 16 rfl) ml_X10_282 mv_X10_asks vi_X10_asks rfl ho rfl (mt_X10_asks ex) (by first | exact Nat.le_of_ble_eq_true rfl | omega) (by first | exact Nat.le_of_ble_eq_true rfl | omega) (by first | exact Nat.le_of_ble_eq_true rfl | omega) hm hs ?_
    refine r_if_ne (tgt := 33) hc (dc_at dX10_leads 17 rfl) (by decide) hf (fun hf => ?_) (fun hf => ?_)
    · refine r_aload_n hc 0 (dc_at dX10_leads 20 rfl) rfl ?_
      refine r_iload_n hc 1 (dc_at dX10_leads 21 rfl) rfl ?_
      refine r_aload_n hc 0 (dc_at dX10_leads 22 rfl) rfl ?_
      refine r_getL hc (dc_at dX10_leads 23 rfl) fl_X10_180 hf fun x5 hf => ?_
      refine r_aload_n hc 0 (dc_at dX10_leads 24 rfl) rfl ?_
      refine r_getL hc (dc_at dX10_leads 25 rfl) fl_X10_184 hf fun x6 hf => ?_
      obtain ⟨ho, hf⟩ := cO_some hf
      refine ob2 hf fun x7 h8 ex hf => ?_
      refine r_callVi (As := [.int v1, .long x5, .long x6]) (ci := 10) hc hr (dc_at dX10_leads 26 rfl) ml_X10_275 mv_X10_leadsFrom vi_X10_leadsFrom rfl ho rfl (mt_X10_leadsFrom ex) (by first | exact Nat.le_of_ble_eq_true rfl | omega) (by first | exact Nat.le_of_ble_eq_true rfl | omega) (by first | exact Nat.le_of_ble_eq_true rfl | omega) hm hs ?_
      refine r_istore [(5, .int x7), (0, .ref (X.1 + v0)), (1, .int v1), (2, .int v2), (3, .int v3), (4, .int v4)] hc hr (dc_at dX10_leads 27 rfl) (by decide) rfl ?_
      refine r_iload hc 0 (dc_at dX10_leads 28 rfl) rfl ?_
      refine r_if_eq (tgt := 61) hc (dc_at dX10_leads 29 rfl) (by decide) hf (fun hf => ?_) (fun hf => ?_)
      · refine r_iload hc 5 (dc_at dX10_leads 34 rfl) rfl ?_
        refine r_if_ne (tgt := 73) hc (dc_at dX10_leads 35 rfl) (by decide) hf (fun hf => ?_) (fun hf => ?_)
        · refine r_aload_n hc 1 (dc_at dX10_leads 39 rfl) rfl ?_
          refine r_getL hc (dc_at dX10_leads 40 rfl) fl_X10_184 hf fun x9 hf => ?_
          refine r_l2i hc (dc_at dX10_leads 41 rfl) ?_
          exact r_iret hc he (hm) (hs) (dc_at dX10_leads 42 rfl) hf
        · refine r_aload_n hc 1 (dc_at dX10_leads 36 rfl) rfl ?_
          refine r_getL hc (dc_at dX10_leads 37 rfl) fl_X10_180 hf fun x10 hf => ?_
          refine r_goto (tgt := 77) hc (dc_at dX10_leads 38 rfl) (by decide) ?_
          refine r_l2i hc (dc_at dX10_leads 41 rfl) ?_
          exact r_iret hc he (hm) (hs) (dc_at dX10_leads 42 rfl) hf
      · refine r_bipush (-10 : Int32) hc (dc_at dX10_leads 30 rfl) (by decide) ?_
        refine r_iload hc 0 (dc_at dX10_leads 31 rfl) rfl ?_
        refine r_isub hc (dc_at dX10_leads 32 rfl) ?_
        refine r_goto (tgt := 78) hc (dc_at dX10_leads 33 rfl) (by decide) ?_
        exact r_iret hc he (hm) (hs) (dc_at dX10_leads 42 rfl) hf
    · refine r_bipush (-3 : Int32) hc (dc_at dX10_leads 18 rfl) (by decide) ?_
      exact r_iret hc he (hm) (hs) (dc_at dX10_leads 19 rfl) hf
  · refine r_bipush (-2 : Int32) hc (dc_at dX10_leads 9 rfl) (by decide) ?_
    exact r_iret hc he (hm) (hs) (dc_at dX10_leads 10 rfl) hf
def m_X10_leads (F : Nat) (h : PH) (p0 : Nat) (p1 : Int32) (p2 : Int32) (p3 : Int32) (p4 : Int32) : Option (Int32 × PH) := b_X10_leads_0 F h p0 p1 p2 p3 p4
theorem mt_X10_leads {l : Launch} {X : XT} {F : Nat} {h hz : PH} {p0 : Nat} {p1 : Int32} {p2 : Int32} {p3 : Int32} {p4 : Int32} {r : Int32} (ex : m_X10_leads F h p0 p1 p2 p3 p4 = some (r, hz)) : MT l X yX10_leads cX10_leads 6 (some .int) 136 7890 0 0 [.ref (X.1 + p0), .int p1, .int p2, .int p3, .int p4] h (some (.int r)) hz := MT.of (by decide) (Nat.le_of_ble_eq_true rfl) fun M hl hc hr he => by
  subst hl
  exact gg_sub [0, 1, 2, 3, 4] rfl (t_X10_leads_0  hc hr he (Nat.zero_le _) (Nat.zero_le _) ex)
