/-! FractionLift.fewest(III)I -/
def lX9_fewestL : List (Nat × Instr × Nat × Nat) := [(0, .iload_n 3, 1, 1), (1, .ifCond .eq 18, 3, 4), (4, .iload_n 3, 1, 5), (5, .bipush 10, 2, 7), (7, .if_icmp .lt 9, 3, 10), (10, .iload_n 3, 1, 11), (11, .bipush 17, 2, 13), (13, .if_icmp .le 6, 3, 16), (16, .bipush (-2), 2, 18), (18, .ireturn, 1, 19), (19, .aload_n 0, 1, 20), (20, .iload_n 1, 1, 21), (21, .iload_n 2, 1, 22), (22, .invokevirtual 132, 3, 25), (25, .ifCond .ne 6, 3, 28), (28, .bipush (-3), 2, 30), (30, .ireturn, 1, 31), (31, .aload_n 0, 1, 32), (32, .invokevirtual 210, 3, 35), (35, .astore 4, 2, 37), (37, .aload 4, 2, 39), (39, .aload_n 0, 1, 40), (40, .getfield 59, 3, 43), (43, .getfield 136, 3, 46), (46, .l2i, 1, 47), (47, .aload_n 0, 1, 48), (48, .getfield 59, 3, 51), (51, .getfield 140, 3, 54), (54, .l2i, 1, 55), (55, .invokevirtual 214, 3, 58), (58, .istore 5, 2, 60), (60, .iload 5, 2, 62), (62, .ifCond .lt 7, 3, 65), (65, .iload_n 3, 1, 66), (66, .ifCond .ne 6, 3, 69), (69, .iload 5, 2, 71), (71, .ireturn, 1, 72), (72, .iload_n 3, 1, 73), (73, .bipush 10, 2, 75), (75, .isub, 1, 76), (76, .iload 5, 2, 78), (78, .if_icmp .ge 16, 3, 81), (81, .aload 4, 2, 83), (83, .getfield 219, 3, 86), (86, .iload_n 3, 1, 87), (87, .bipush 10, 2, 89), (89, .isub, 1, 90), (90, .iaload, 1, 91), (91, .goto 4, 3, 94), (94, .iconst (-1), 1, 95), (95, .ireturn, 1, 96)]
set_option maxRecDepth 20000 in
theorem dX9_fewest : dcL cX9_fewest lX9_fewestL = true := by decide +kernel
def b_X9_fewest_19 (F : Nat) (h : PH) (v0 : Nat) (v1 : Int32) (v2 : Int32) (v3 : Int32) : Option (Int32 × PH) := cO 9 h v0 (bind2 (m_X9_asksFloor F h v0 v1 v2) fun x1 h2 => (if x1 = 0 then (some ((-3 : Int32), h2)) else (cO 9 h2 v0 (bind2 (m_X9_routesFromHere F h2 v0) fun a3 h4 => ((gR 9 12 h4 v0).bind fun a5 => ((gL 2 0 h4 a5).bind fun x6 => ((gR 9 12 h4 v0).bind fun a7 => ((gL 2 1 h4 a7).bind fun x8 => (cO 5 h4 a3 (bind2 (m_X5_seekFewest F h4 a3 (Int64.toInt32 x6) (Int64.toInt32 x8)) fun x9 h10 => (if x9 < 0 then (some (x9, h10)) else (if v3 = 0 then (some (x9, h10)) else (if x9 ≤ ((v3 - (10 : Int32))) then (some ((-1 : Int32), h10)) else ((gR 5 1 h10 a3).bind fun a11 => ((aI 0 h10 a11 ((v3 - (10 : Int32)))).bind fun x12 => (some (x12, h10)))))))))))))))))
set_option maxRecDepth 20000 in
theorem t_X9_fewest_19 {M : MV} {X : XT} {F : Nat} {h hz : PH} {r : Int32} {mc ms : Nat} {v0 : Nat} {v1 : Int32} {v2 : Int32} {v3 : Int32} (hc : Cx M X RX9 cX9_fewest) (hr : Rx M 7 408 mc ms 6) (he : Ex M X (some .int) "fewest" (some (.int r)) hz mc ms) (hm : 0 ≤ mc) (hs : 0 ≤ ms) (hcost : gN 9 16 h v0 = some none → 10 ≤ mc ∧ 46057 ≤ ms) (hf : b_X9_fewest_19 F h v0 v1 v2 v3 = some (r, hz)) : GG M X h 0 0 19 [(0, .ref (X.1 + v0)), (1, .int v1), (2, .int v2), (3, .int v3)] [] := by
  unfold b_X9_fewest_19 at hf
  refine r_aload_n hc 0 (dc_at dX9_fewest 10 rfl) rfl ?_
  refine r_iload_n hc 1 (dc_at dX9_fewest 11 rfl) rfl ?_
  refine r_iload_n hc 2 (dc_at dX9_fewest 12 rfl) rfl ?_
  obtain ⟨ho, hf⟩ := cO_some hf
  refine ob2 hf fun x1 h2 ex hf => ?_
  refine r_callVi (As := [.int v1, .int v2]) (ci := 9) hc hr (dc_at dX9_fewest 13 rfl) ml_X9_132 mv_X9_asksFloor vi_X9_asksFloor rfl ho rfl (mt_X9_asksFloor ex) (by first | exact Nat.le_of_ble_eq_true rfl | omega) (by first | exact Nat.le_of_ble_eq_true rfl | omega) (by first | exact Nat.le_of_ble_eq_true rfl | omega) (by omega) (by omega) ?_
  have hcost : gN 9 16 h2 v0 = some none → 10 ≤ mc ∧ 46057 ≤ ms := fun z => hcost ((asks_keeps ex 16).symm.trans z)
  refine r_if_ne (tgt := 31) hc (dc_at dX9_fewest 14 rfl) (by decide) hf (fun hf => ?_) (fun hf => ?_)
  · refine r_aload_n hc 0 (dc_at dX9_fewest 17 rfl) rfl ?_
    obtain ⟨ho, hf⟩ := cO_some hf
    refine ob2 hf fun a3 h4 ex hf => ?_
    refine r_callVrC (As := []) (ci := 9) hc hr (dc_at dX9_fewest 18 rfl) ml_X9_210 mv_X9_routesFromHere vi_X9_routesFromHere rfl ho rfl (mt_X9_routesFromHere ex hcost) (by first | exact Nat.le_of_ble_eq_true rfl | omega) (by first | exact Nat.le_of_ble_eq_true rfl | omega) (by first | exact Nat.le_of_ble_eq_true rfl | omega) (by omega) (by omega) ?_
    refine r_astore [(4, .ref (X.1 + a3)), (0, .ref (X.1 + v0)), (1, .int v1), (2, .int v2), (3, .int v3)] hc hr (dc_at dX9_fewest 19 rfl) (by decide) rfl ?_
    refine r_aload hc 0 (dc_at dX9_fewest 20 rfl) rfl ?_
    refine r_aload_n hc 1 (dc_at dX9_fewest 21 rfl) rfl ?_
    refine r_getR hc (dc_at dX9_fewest 22 rfl) fl_X9_59 hf fun a5 hf => ?_
    refine r_getL hc (dc_at dX9_fewest 23 rfl) fl_X9_136 hf fun x6 hf => ?_
    refine r_l2i hc (dc_at dX9_fewest 24 rfl) ?_
    refine r_aload_n hc 1 (dc_at dX9_fewest 25 rfl) rfl ?_
    refine r_getR hc (dc_at dX9_fewest 26 rfl) fl_X9_59 hf fun a7 hf => ?_
    refine r_getL hc (dc_at dX9_fewest 27 rfl) fl_X9_140 hf fun x8 hf => ?_
    refine r_l2i hc (dc_at dX9_fewest 28 rfl) ?_
    obtain ⟨ho, hf⟩ := cO_some hf
    refine ob2 hf fun x9 h10 ex hf => ?_
    refine r_callVi (As := [.int ((Int64.toInt32 x6)), .int ((Int64.toInt32 x8))]) (ci := 5) hc hr (dc_at dX9_fewest 29 rfl) ml_X9_214 mv_X5_seekFewest vi_X5_seekFewest rfl ho rfl (mt_X5_seekFewest ex) (by first | exact Nat.le_of_ble_eq_true rfl | omega) (by first | exact Nat.le_of_ble_eq_true rfl | omega) (by first | exact Nat.le_of_ble_eq_true rfl | omega) (by omega) (by omega) ?_
    refine r_istore [(5, .int x9), (4, .ref (X.1 + a3)), (0, .ref (X.1 + v0)), (1, .int v1), (2, .int v2), (3, .int v3)] hc hr (dc_at dX9_fewest 30 rfl) (by decide) rfl ?_
    refine r_iload hc 0 (dc_at dX9_fewest 31 rfl) rfl ?_
    refine r_if_lt (tgt := 69) hc (dc_at dX9_fewest 32 rfl) (by decide) hf (fun hf => ?_) (fun hf => ?_)
    · refine r_iload hc 0 (dc_at dX9_fewest 35 rfl) rfl ?_
      exact r_iret hc he (by omega) (by omega) (dc_at dX9_fewest 36 rfl) hf
    · refine r_iload_n hc 5 (dc_at dX9_fewest 33 rfl) rfl ?_
      refine r_if_ne (tgt := 72) hc (dc_at dX9_fewest 34 rfl) (by decide) hf (fun hf => ?_) (fun hf => ?_)
      · refine r_iload_n hc 5 (dc_at dX9_fewest 37 rfl) rfl ?_
        refine r_bipush (10 : Int32) hc (dc_at dX9_fewest 38 rfl) (by decide) ?_
        refine r_isub hc (dc_at dX9_fewest 39 rfl) ?_
        refine r_iload hc 0 (dc_at dX9_fewest 40 rfl) rfl ?_
        refine r_icmp_ge (tgt := 94) hc (dc_at dX9_fewest 41 rfl) (by decide) hf (fun hf => ?_) (fun hf => ?_)
        · refine r_iconst (-1 : Int32) hc (dc_at dX9_fewest 49 rfl) (by decide) ?_
          exact r_iret hc he (by omega) (by omega) (dc_at dX9_fewest 50 rfl) hf
        · refine r_aload hc 1 (dc_at dX9_fewest 42 rfl) rfl ?_
          refine r_getR hc (dc_at dX9_fewest 43 rfl) fl_X9_219 hf fun a11 hf => ?_
          refine r_iload_n hc 5 (dc_at dX9_fewest 44 rfl) rfl ?_
          refine r_bipush (10 : Int32) hc (dc_at dX9_fewest 45 rfl) (by decide) ?_
          refine r_isub hc (dc_at dX9_fewest 46 rfl) ?_
          refine r_iaload hc (dc_at dX9_fewest 47 rfl) hf fun x12 hf => ?_
          refine r_goto (tgt := 95) hc (dc_at dX9_fewest 48 rfl) (by decide) ?_
          exact r_iret hc he (by omega) (by omega) (dc_at dX9_fewest 50 rfl) hf
      · refine r_iload hc 0 (dc_at dX9_fewest 35 rfl) rfl ?_
        exact r_iret hc he (by omega) (by omega) (dc_at dX9_fewest 36 rfl) hf
  · refine r_bipush (-3 : Int32) hc (dc_at dX9_fewest 15 rfl) (by decide) ?_
    exact r_iret hc he (by omega) (by omega) (dc_at dX9_fewest 16 rfl) hf
def b_X9_fewest_0 (F : Nat) (h : PH) (v0 : Nat) (v1 : Int32) (v2 : Int32) (v3 : Int32) : Option (Int32 × PH) := if v3 = 0 then (b_X9_fewest_19 F h v0 v1 v2 v3) else (if v3 < (10 : Int32) then (some ((-2 : Int32), h)) else (if v3 ≤ (17 : Int32) then (b_X9_fewest_19 F h v0 v1 v2 v3) else (some ((-2 : Int32), h))))
set_option maxRecDepth 20000 in
theorem t_X9_fewest_0 {M : MV} {X : XT} {F : Nat} {h hz : PH} {r : Int32} {mc ms : Nat} {v0 : Nat} {v1 : Int32} {v2 : Int32} {v3 : Int32} (hc : Cx M X RX9 cX9_fewest) (hr : Rx M 7 408 mc ms 6) (he : Ex M X (some .int) "fewest" (some (.int r)) hz mc ms) (hm : 0 ≤ mc) (hs : 0 ≤ ms) (hcost : gN 9 16 h v0 = some none → 10 ≤ mc ∧ 46057 ≤ ms) (hf : b_X9_fewest_0 F h v0 v1 v2 v3 = some (r, hz)) : GG M X h 0 0 0 [(0, .ref (X.1 + v0)), (1, .int v1), (2, .int v2), (3, .int v3)] [] := by
  unfold b_X9_fewest_0 at hf
  refine r_iload_n hc 3 (dc_at dX9_fewest 0 rfl) rfl ?_
  refine r_if_eq (tgt := 19) hc (dc_at dX9_fewest 1 rfl) (by decide) hf (fun hf => ?_) (fun hf => ?_)
  · exact gg_sub [0, 1, 2, 3] rfl (t_X9_fewest_19 hc hr he (by omega) (by omega) hcost  hf)
  · refine r_iload_n hc 3 (dc_at dX9_fewest 2 rfl) rfl ?_
    refine r_bipush (10 : Int32) hc (dc_at dX9_fewest 3 rfl) (by decide) ?_
    refine r_icmp_lt (tgt := 16) hc (dc_at dX9_fewest 4 rfl) (by decide) hf (fun hf => ?_) (fun hf => ?_)
    · refine r_bipush (-2 : Int32) hc (dc_at dX9_fewest 8 rfl) (by decide) ?_
      exact r_iret hc he (by omega) (by omega) (dc_at dX9_fewest 9 rfl) hf
    · refine r_iload_n hc 3 (dc_at dX9_fewest 5 rfl) rfl ?_
      refine r_bipush (17 : Int32) hc (dc_at dX9_fewest 6 rfl) (by decide) ?_
      refine r_icmp_le (tgt := 19) hc (dc_at dX9_fewest 7 rfl) (by decide) hf (fun hf => ?_) (fun hf => ?_)
      · exact gg_sub [0, 1, 2, 3] rfl (t_X9_fewest_19 hc hr he (by omega) (by omega) hcost  hf)
      · refine r_bipush (-2 : Int32) hc (dc_at dX9_fewest 8 rfl) (by decide) ?_
        exact r_iret hc he (by omega) (by omega) (dc_at dX9_fewest 9 rfl) hf
def m_X9_fewest (F : Nat) (h : PH) (p0 : Nat) (p1 : Int32) (p2 : Int32) (p3 : Int32) : Option (Int32 × PH) := b_X9_fewest_0 F h p0 p1 p2 p3
theorem mt_X9_fewest {l : Launch} {X : XT} {F : Nat} {h hz : PH} {p0 : Nat} {p1 : Int32} {p2 : Int32} {p3 : Int32} {r : Int32} {mc ms : Nat} (ex : m_X9_fewest F h p0 p1 p2 p3 = some (r, hz)) (hcost : gN 9 16 h p0 = some none → 10 ≤ mc ∧ 46057 ≤ ms) : MT l X yX9_fewest cX9_fewest 6 (some .int) 7 408 mc ms [.ref (X.1 + p0), .int p1, .int p2, .int p3] h (some (.int r)) hz := MT.of (by decide) (Nat.le_of_ble_eq_true rfl) fun M hl hc hr he => by
  subst hl
  exact gg_sub [0, 1, 2, 3] rfl (t_X9_fewest_0  hc hr he (Nat.zero_le _) (Nat.zero_le _) hcost ex)
/-! FractionLift.reach(I)I -/
def lX9_reachL : List (Nat × Instr × Nat × Nat) := [(0, .iload_n 1, 1, 1), (1, .ifCond .lt 8, 3, 4), (4, .iload_n 1, 1, 5), (5, .iconst 5, 1, 6), (6, .if_icmp .le 6, 3, 9), (9, .bipush (-3), 2, 11), (11, .ireturn, 1, 12), (12, .aload_n 0, 1, 13), (13, .invokevirtual 210, 3, 16), (16, .astore_n 2, 1, 17), (17, .aload_n 2, 1, 18), (18, .iload_n 1, 1, 19), (19, .invokevirtual 222, 3, 22), (22, .istore_n 3, 1, 23), (23, .aload_n 2, 1, 24), (24, .getfield 225, 3, 27), (27, .getfield 229, 3, 30), (30, .iload_n 3, 1, 31), (31, .isub, 1, 32), (32, .ireturn, 1, 33)]
set_option maxRecDepth 20000 in
theorem dX9_reach : dcL cX9_reach lX9_reachL = true := by decide +kernel
def b_X9_reach_0 (F : Nat) (h : PH) (v0 : Nat) (v1 : Int32) : Option (Int32 × PH) := if v1 < 0 then (some ((-3 : Int32), h)) else (if v1 ≤ (5 : Int32) then (cO 9 h v0 (bind2 (m_X9_routesFromHere F h v0) fun a1 h2 => (cO 5 h2 a1 (bind2 (m_X5_layFloors F h2 a1 v1) fun x3 h4 => ((gR 5 0 h4 a1).bind fun a5 => ((gI 1 4 h4 a5).bind fun x6 => (some ((x6 - x3), h4)))))))) else (some ((-3 : Int32), h)))
set_option maxRecDepth 20000 in
theorem t_X9_reach_0 {M : MV} {X : XT} {F : Nat} {h hz : PH} {r : Int32} {mc ms : Nat} {v0 : Nat} {v1 : Int32} (hc : Cx M X RX9 cX9_reach) (hr : Rx M 7 408 mc ms 4) (he : Ex M X (some .int) "reach" (some (.int r)) hz mc ms) (hm : 0 ≤ mc) (hs : 0 ≤ ms) (hcost : gN 9 16 h v0 = some none → 10 ≤ mc ∧ 46057 ≤ ms) (hf : b_X9_reach_0 F h v0 v1 = some (r, hz)) : GG M X h 0 0 0 [(0, .ref (X.1 + v0)), (1, .int v1)] [] := by
  unfold b_X9_reach_0 at hf
  refine r_iload_n hc 1 (dc_at dX9_reach 0 rfl) rfl ?_
  refine r_if_lt (tgt := 9) hc (dc_at dX9_reach 1 rfl) (by decide) hf (fun hf => ?_) (fun hf => ?_)
  · refine r_bipush (-3 : Int32) hc (dc_at dX9_reach 5 rfl) (by decide) ?_
    exact r_iret hc he (by omega) (by omega) (dc_at dX9_reach 6 rfl) hf
  · refine r_iload_n hc 1 (dc_at dX9_reach 2 rfl) rfl ?_
    refine r_iconst (5 : Int32) hc (dc_at dX9_reach 3 rfl) (by decide) ?_
    refine r_icmp_le (tgt := 12) hc (dc_at dX9_reach 4 rfl) (by decide) hf (fun hf => ?_) (fun hf => ?_)
    · refine r_aload_n hc 0 (dc_at dX9_reach 7 rfl) rfl ?_
      obtain ⟨ho, hf⟩ := cO_some hf
      refine ob2 hf fun a1 h2 ex hf => ?_
      refine r_callVrC (As := []) (ci := 9) hc hr (dc_at dX9_reach 8 rfl) ml_X9_210 mv_X9_routesFromHere vi_X9_routesFromHere rfl ho rfl (mt_X9_routesFromHere ex hcost) (by first | exact Nat.le_of_ble_eq_true rfl | omega) (by first | exact Nat.le_of_ble_eq_true rfl | omega) (by first | exact Nat.le_of_ble_eq_true rfl | omega) (by omega) (by omega) ?_
      refine r_astore_n [(2, .ref (X.1 + a1)), (0, .ref (X.1 + v0)), (1, .int v1)] hc hr (dc_at dX9_reach 9 rfl) (by decide) rfl ?_
      refine r_aload_n hc 0 (dc_at dX9_reach 10 rfl) rfl ?_
      refine r_iload_n hc 2 (dc_at dX9_reach 11 rfl) rfl ?_
      obtain ⟨ho, hf⟩ := cO_some hf
      refine ob2 hf fun x3 h4 ex hf => ?_
      refine r_callVi (As := [.int v1]) (ci := 5) hc hr (dc_at dX9_reach 12 rfl) ml_X9_222 mv_X5_layFloors vi_X5_layFloors rfl ho rfl (mt_X5_layFloors ex) (by first | exact Nat.le_of_ble_eq_true rfl | omega) (by first | exact Nat.le_of_ble_eq_true rfl | omega) (by first | exact Nat.le_of_ble_eq_true rfl | omega) (by omega) (by omega) ?_
      refine r_istore_n [(3, .int x3), (2, .ref (X.1 + a1)), (0, .ref (X.1 + v0)), (1, .int v1)] hc hr (dc_at dX9_reach 13 rfl) (by decide) rfl ?_
      refine r_aload_n hc 1 (dc_at dX9_reach 14 rfl) rfl ?_
      refine r_getR hc (dc_at dX9_reach 15 rfl) fl_X9_225 hf fun a5 hf => ?_
      refine r_getI hc (dc_at dX9_reach 16 rfl) fl_X9_229 hf fun x6 hf => ?_
      refine r_iload_n hc 0 (dc_at dX9_reach 17 rfl) rfl ?_
      refine r_isub hc (dc_at dX9_reach 18 rfl) ?_
      exact r_iret hc he (by omega) (by omega) (dc_at dX9_reach 19 rfl) hf
    · refine r_bipush (-3 : Int32) hc (dc_at dX9_reach 5 rfl) (by decide) ?_
      exact r_iret hc he (by omega) (by omega) (dc_at dX9_reach 6 rfl) hf
def m_X9_reach (F : Nat) (h : PH) (p0 : Nat) (p1 : Int32) : Option (Int32 × PH) := b_X9_reach_0 F h p0 p1
theorem mt_X9_reach {l : Launch} {X : XT} {F : Nat} {h hz : PH} {p0 : Nat} {p1 : Int32} {r : Int32} {mc ms : Nat} (ex : m_X9_reach F h p0 p1 = some (r, hz)) (hcost : gN 9 16 h p0 = some none → 10 ≤ mc ∧ 46057 ≤ ms) : MT l X yX9_reach cX9_reach 4 (some .int) 7 408 mc ms [.ref (X.1 + p0), .int p1] h (some (.int r)) hz := MT.of (by decide) (Nat.le_of_ble_eq_true rfl) fun M hl hc hr he => by
  subst hl
  exact gg_sub [0, 1] rfl (t_X9_reach_0  hc hr he (Nat.zero_le _) (Nat.zero_le _) hcost ex)
/-! FractionLift.highest(II)I -/
def lX9_highestL : List (Nat × Instr × Nat × Nat) := [(0, .iload_n 2, 1, 1), (1, .ifCond .lt 8, 3, 4), (4, .iload_n 2, 1, 5), (5, .iconst 1, 1, 6), (6, .if_icmp .le 6, 3, 9), (9, .bipush (-2), 2, 11), (11, .ireturn, 1, 12), (12, .iload_n 1, 1, 13), (13, .ifCond .lt 8, 3, 16), (16, .iload_n 1, 1, 17), (17, .iconst 5, 1, 18), (18, .if_icmp .le 6, 3, 21), (21, .bipush (-3), 2, 23), (23, .ireturn, 1, 24), (24, .aload_n 0, 1, 25), (25, .invokevirtual 210, 3, 28), (28, .astore_n 3, 1, 29), (29, .aload_n 3, 1, 30), (30, .aload_n 3, 1, 31), (31, .iload_n 1, 1, 32), (32, .invokevirtual 222, 3, 35), (35, .invokevirtual 232, 3, 38), (38, .istore 4, 2, 40), (40, .iload 4, 2, 42), (42, .iconst (-1), 1, 43), (43, .if_icmp .ne 5, 3, 46), (46, .iconst (-1), 1, 47), (47, .ireturn, 1, 48), (48, .iload_n 2, 1, 49), (49, .ifCond .ne 16, 3, 52), (52, .aload_n 3, 1, 53), (53, .getfield 225, 3, 56), (56, .getfield 235, 3, 59), (59, .iload 4, 2, 61), (61, .iaload, 1, 62), (62, .goto 13, 3, 65), (65, .aload_n 3, 1, 66), (66, .getfield 225, 3, 69), (69, .getfield 237, 3, 72), (72, .iload 4, 2, 74), (74, .iaload, 1, 75), (75, .ireturn, 1, 76)]
set_option maxRecDepth 20000 in
theorem dX9_highest : dcL cX9_highest lX9_highestL = true := by decide +kernel
def b_X9_highest_0 (F : Nat) (h : PH) (v0 : Nat) (v1 : Int32) (v2 : Int32) : Option (Int32 × PH) := if v2 < 0 then (some ((-2 : Int32), h)) else (if v2 ≤ (1 : Int32) then (if v1 < 0 then (some ((-3 : Int32), h)) else (if v1 ≤ (5 : Int32) then (cO 9 h v0 (bind2 (m_X9_routesFromHere F h v0) fun a1 h2 => (cO 5 h2 a1 (bind2 (m_X5_layFloors F h2 a1 v1) fun x3 h4 => (cO 5 h4 a1 ((m_X5_greatestFrom F h4 a1 x3).bind fun x5 => (if x5 = (-1 : Int32) then (some ((-1 : Int32), h4)) else (if v2 = 0 then ((gR 5 0 h4 a1).bind fun a9 => ((gR 1 0 h4 a9).bind fun a10 => ((aI 0 h4 a10 x5).bind fun x11 => (some (x11, h4))))) else ((gR 5 0 h4 a1).bind fun a6 => ((gR 1 1 h4 a6).bind fun a7 => ((aI 0 h4 a7 x5).bind fun x8 => (some (x8, h4))))))))))))) else (some ((-3 : Int32), h)))) else (some ((-2 : Int32), h)))
set_option maxRecDepth 20000 in
theorem t_X9_highest_0 {M : MV} {X : XT} {F : Nat} {h hz : PH} {r : Int32} {mc ms : Nat} {v0 : Nat} {v1 : Int32} {v2 : Int32} (hc : Cx M X RX9 cX9_highest) (hr : Rx M 7 408 mc ms 5) (he : Ex M X (some .int) "highest" (some (.int r)) hz mc ms) (hm : 0 ≤ mc) (hs : 0 ≤ ms) (hcost : gN 9 16 h v0 = some none → 10 ≤ mc ∧ 46057 ≤ ms) (hf : b_X9_highest_0 F h v0 v1 v2 = some (r, hz)) : GG M X h 0 0 0 [(0, .ref (X.1 + v0)), (1, .int v1), (2, .int v2)] [] := by
  unfold b_X9_highest_0 at hf
  refine r_iload_n hc 2 (dc_at dX9_highest 0 rfl) rfl ?_
  refine r_if_lt (tgt := 9) hc (dc_at dX9_highest 1 rfl) (by decide) hf (fun hf => ?_) (fun hf => ?_)
  · refine r_bipush (-2 : Int32) hc (dc_at dX9_highest 5 rfl) (by decide) ?_
    exact r_iret hc he (by omega) (by omega) (dc_at dX9_highest 6 rfl) hf
  · refine r_iload_n hc 2 (dc_at dX9_highest 2 rfl) rfl ?_
    refine r_iconst (1 : Int32) hc (dc_at dX9_highest 3 rfl) (by decide) ?_
    refine r_icmp_le (tgt := 12) hc (dc_at dX9_highest 4 rfl) (by decide) hf (fun hf => ?_) (fun hf => ?_)
    · refine r_iload_n hc 1 (dc_at dX9_highest 7 rfl) rfl ?_
      refine r_if_lt (tgt := 21) hc (dc_at dX9_highest 8 rfl) (by decide) hf (fun hf => ?_) (fun hf => ?_)
      · refine r_bipush (-3 : Int32) hc (dc_at dX9_highest 12 rfl) (by decide) ?_
        exact r_iret hc he (by omega) (by omega) (dc_at dX9_highest 13 rfl) hf
      · refine r_iload_n hc 1 (dc_at dX9_highest 9 rfl) rfl ?_
        refine r_iconst (5 : Int32) hc (dc_at dX9_highest 10 rfl) (by decide) ?_
        refine r_icmp_le (tgt := 24) hc (dc_at dX9_highest 11 rfl) (by decide) hf (fun hf => ?_) (fun hf => ?_)
        · refine r_aload_n hc 0 (dc_at dX9_highest 14 rfl) rfl ?_
          obtain ⟨ho, hf⟩ := cO_some hf
          refine ob2 hf fun a1 h2 ex hf => ?_
          refine r_callVrC (As := []) (ci := 9) hc hr (dc_at dX9_highest 15 rfl) ml_X9_210 mv_X9_routesFromHere vi_X9_routesFromHere rfl ho rfl (mt_X9_routesFromHere ex hcost) (by first | exact Nat.le_of_ble_eq_true rfl | omega) (by first | exact Nat.le_of_ble_eq_true rfl | omega) (by first | exact Nat.le_of_ble_eq_true rfl | omega) (by omega) (by omega) ?_
          refine r_astore_n [(3, .ref (X.1 + a1)), (0, .ref (X.1 + v0)), (1, .int v1), (2, .int v2)] hc hr (dc_at dX9_highest 16 rfl) (by decide) rfl ?_
          refine r_aload_n hc 0 (dc_at dX9_highest 17 rfl) rfl ?_
          refine r_aload_n hc 0 (dc_at dX9_highest 18 rfl) rfl ?_
          refine r_iload_n hc 2 (dc_at dX9_highest 19 rfl) rfl ?_
          obtain ⟨ho, hf⟩ := cO_some hf
          refine ob2 hf fun x3 h4 ex hf => ?_
          refine r_callVi (As := [.int v1]) (ci := 5) hc hr (dc_at dX9_highest 20 rfl) ml_X9_222 mv_X5_layFloors vi_X5_layFloors rfl ho rfl (mt_X5_layFloors ex) (by first | exact Nat.le_of_ble_eq_true rfl | omega) (by first | exact Nat.le_of_ble_eq_true rfl | omega) (by first | exact Nat.le_of_ble_eq_true rfl | omega) (by omega) (by omega) ?_
          obtain ⟨ho, hf⟩ := cO_some hf
          refine ob hf fun x5 ex hf => ?_
          refine r_callVi (As := [.int x3]) (ci := 5) hc hr (dc_at dX9_highest 21 rfl) ml_X9_232 mv_X5_greatestFrom vi_X5_greatestFrom rfl ho rfl (mt_X5_greatestFrom ex) (by first | exact Nat.le_of_ble_eq_true rfl | omega) (by first | exact Nat.le_of_ble_eq_true rfl | omega) (by first | exact Nat.le_of_ble_eq_true rfl | omega) (by omega) (by omega) ?_
          refine r_istore [(4, .int x5), (3, .ref (X.1 + a1)), (0, .ref (X.1 + v0)), (1, .int v1), (2, .int v2)] hc hr (dc_at dX9_highest 22 rfl) (by decide) rfl ?_
          refine r_iload hc 0 (dc_at dX9_highest 23 rfl) rfl ?_
          refine r_iconst (-1 : Int32) hc (dc_at dX9_highest 24 rfl) (by decide) ?_
          refine r_icmp_ne (tgt := 48) hc (dc_at dX9_highest 25 rfl) (by decide) hf (fun hf => ?_) (fun hf => ?_)
          · refine r_iload_n hc 4 (dc_at dX9_highest 28 rfl) rfl ?_
            refine r_if_ne (tgt := 65) hc (dc_at dX9_highest 29 rfl) (by decide) hf (fun hf => ?_) (fun hf => ?_)
            · refine r_aload_n hc 1 (dc_at dX9_highest 36 rfl) rfl ?_
              refine r_getR hc (dc_at dX9_highest 37 rfl) fl_X9_225 hf fun a6 hf => ?_
              refine r_getR hc (dc_at dX9_highest 38 rfl) fl_X9_237 hf fun a7 hf => ?_
              refine r_iload hc 0 (dc_at dX9_highest 39 rfl) rfl ?_
              refine r_iaload hc (dc_at dX9_highest 40 rfl) hf fun x8 hf => ?_
              exact r_iret hc he (by omega) (by omega) (dc_at dX9_highest 41 rfl) hf
            · refine r_aload_n hc 1 (dc_at dX9_highest 30 rfl) rfl ?_
              refine r_getR hc (dc_at dX9_highest 31 rfl) fl_X9_225 hf fun a9 hf => ?_
              refine r_getR hc (dc_at dX9_highest 32 rfl) fl_X9_235 hf fun a10 hf => ?_
              refine r_iload hc 0 (dc_at dX9_highest 33 rfl) rfl ?_
              refine r_iaload hc (dc_at dX9_highest 34 rfl) hf fun x11 hf => ?_
              refine r_goto (tgt := 75) hc (dc_at dX9_highest 35 rfl) (by decide) ?_
              exact r_iret hc he (by omega) (by omega) (dc_at dX9_highest 41 rfl) hf
          · refine r_iconst (-1 : Int32) hc (dc_at dX9_highest 26 rfl) (by decide) ?_
            exact r_iret hc he (by omega) (by omega) (dc_at dX9_highest 27 rfl) hf
        · refine r_bipush (-3 : Int32) hc (dc_at dX9_highest 12 rfl) (by decide) ?_
          exact r_iret hc he (by omega) (by omega) (dc_at dX9_highest 13 rfl) hf
    · refine r_bipush (-2 : Int32) hc (dc_at dX9_highest 5 rfl) (by decide) ?_
      exact r_iret hc he (by omega) (by omega) (dc_at dX9_highest 6 rfl) hf
def m_X9_highest (F : Nat) (h : PH) (p0 : Nat) (p1 : Int32) (p2 : Int32) : Option (Int32 × PH) := b_X9_highest_0 F h p0 p1 p2
theorem mt_X9_highest {l : Launch} {X : XT} {F : Nat} {h hz : PH} {p0 : Nat} {p1 : Int32} {p2 : Int32} {r : Int32} {mc ms : Nat} (ex : m_X9_highest F h p0 p1 p2 = some (r, hz)) (hcost : gN 9 16 h p0 = some none → 10 ≤ mc ∧ 46057 ≤ ms) : MT l X yX9_highest cX9_highest 5 (some .int) 7 408 mc ms [.ref (X.1 + p0), .int p1, .int p2] h (some (.int r)) hz := MT.of (by decide) (Nat.le_of_ble_eq_true rfl) fun M hl hc hr he => by
  subst hl
  exact gg_sub [0, 1, 2] rfl (t_X9_highest_0  hc hr he (Nat.zero_le _) (Nat.zero_le _) hcost ex)
/-! FractionLift.twins(I)I -/
def lX9_twinsL : List (Nat × Instr × Nat × Nat) := [(0, .iload_n 1, 1, 1), (1, .bipush 10, 2, 3), (3, .if_icmp .lt 13, 3, 6), (6, .iload_n 1, 1, 7), (7, .bipush 14, 2, 9), (9, .if_icmp .gt 7, 3, 12), (12, .iconst 1, 1, 13), (13, .goto 4, 3, 16), (16, .iconst 0, 1, 17), (17, .istore_n 2, 1, 18), (18, .iload_n 1, 1, 19), (19, .bipush 20, 2, 21), (21, .if_icmp .lt 13, 3, 24), (24, .iload_n 1, 1, 25), (25, .bipush 24, 2, 27), (27, .if_icmp .gt 7, 3, 30), (30, .iconst 1, 1, 31), (31, .goto 4, 3, 34), (34, .iconst 0, 1, 35), (35, .istore_n 3, 1, 36), (36, .iload_n 1, 1, 37), (37, .ifCond .eq 14, 3, 40), (40, .iload_n 2, 1, 41), (41, .ifCond .ne 10, 3, 44), (44, .iload_n 3, 1, 45), (45, .ifCond .ne 6, 3, 48), (48, .bipush (-2), 2, 50), (50, .ireturn, 1, 51), (51, .aload_n 0, 1, 52), (52, .invokevirtual 210, 3, 55), (55, .astore 4, 2, 57), (57, .aload 4, 2, 59), (59, .invokevirtual 239, 3, 62), (62, .istore 5, 2, 64), (64, .iload 5, 2, 66), (66, .iconst (-1), 1, 67), (67, .if_icmp .eq 7, 3, 70), (70, .iload_n 1, 1, 71), (71, .ifCond .ne 6, 3, 74), (74, .iload 5, 2, 76), (76, .ireturn, 1, 77), (77, .iload_n 1, 1, 78), (78, .bipush 10, 2, 80), (80, .irem, 1, 81), (81, .istore 6, 2, 83), (83, .iload 6, 2, 85), (85, .iload 5, 2, 87), (87, .if_icmp .lt 5, 3, 90), (90, .iconst (-1), 1, 91), (91, .ireturn, 1, 92), (92, .iload_n 2, 1, 93), (93, .ifCond .eq 14, 3, 96), (96, .aload 4, 2, 98), (98, .getfield 219, 3, 101), (101, .iload 6, 2, 103), (103, .iaload, 1, 104), (104, .goto 11, 3, 107), (107, .aload 4, 2, 109), (109, .getfield 243, 3, 112), (112, .iload 6, 2, 114), (114, .iaload, 1, 115), (115, .ireturn, 1, 116)]
set_option maxRecDepth 20000 in
theorem dX9_twins : dcL cX9_twins lX9_twinsL = true := by decide +kernel
def b_X9_twins_51 (F : Nat) (h : PH) (v0 : Nat) (v1 : Int32) (v2 : Int32) : Option (Int32 × PH) := cO 9 h v0 (bind2 (m_X9_routesFromHere F h v0) fun a1 h2 => (cO 5 h2 a1 (bind2 (m_X5_seekTwins F h2 a1) fun x3 h4 => (if x3 = (-1 : Int32) then (some (x3, h4)) else (if v1 = 0 then (some (x3, h4)) else (if (10 : Int32) = 0 then none else (bindv ((remI v1 (10 : Int32))) fun x5 => (if x5 < x3 then (if v2 = 0 then ((gR 5 2 h4 a1).bind fun a6 => ((aI 0 h4 a6 x5).bind fun x7 => (some (x7, h4)))) else ((gR 5 1 h4 a1).bind fun a8 => ((aI 0 h4 a8 x5).bind fun x9 => (some (x9, h4))))) else (some ((-1 : Int32), h4))))))))))
set_option maxRecDepth 20000 in
theorem t_X9_twins_51 {M : MV} {X : XT} {F : Nat} {h hz : PH} {r : Int32} {mc ms : Nat} {v0 : Nat} {v1 : Int32} {v2 : Int32} (hc : Cx M X RX9 cX9_twins) (hr : Rx M 7 408 mc ms 7) (he : Ex M X (some .int) "twins" (some (.int r)) hz mc ms) (hm : 0 ≤ mc) (hs : 0 ≤ ms) (hcost : gN 9 16 h v0 = some none → 10 ≤ mc ∧ 46057 ≤ ms) (hf : b_X9_twins_51 F h v0 v1 v2 = some (r, hz)) : GG M X h 0 0 51 [(0, .ref (X.1 + v0)), (1, .int v1), (2, .int v2)] [] := by
  unfold b_X9_twins_51 at hf
  refine r_aload_n hc 0 (dc_at dX9_twins 28 rfl) rfl ?_
  obtain ⟨ho, hf⟩ := cO_some hf
  refine ob2 hf fun a1 h2 ex hf => ?_
  refine r_callVrC (As := []) (ci := 9) hc hr (dc_at dX9_twins 29 rfl) ml_X9_210 mv_X9_routesFromHere vi_X9_routesFromHere rfl ho rfl (mt_X9_routesFromHere ex hcost) (by first | exact Nat.le_of_ble_eq_true rfl | omega) (by first | exact Nat.le_of_ble_eq_true rfl | omega) (by first | exact Nat.le_of_ble_eq_true rfl | omega) (by omega) (by omega) ?_
  refine r_astore [(4, .ref (X.1 + a1)), (0, .ref (X.1 + v0)), (1, .int v1), (2, .int v2)] hc hr (dc_at dX9_twins 30 rfl) (by decide) rfl ?_
  refine r_aload hc 0 (dc_at dX9_twins 31 rfl) rfl ?_
  obtain ⟨ho, hf⟩ := cO_some hf
  refine ob2 hf fun x3 h4 ex hf => ?_
  refine r_callVi (As := []) (ci := 5) hc hr (dc_at dX9_twins 32 rfl) ml_X9_239 mv_X5_seekTwins vi_X5_seekTwins rfl ho rfl (mt_X5_seekTwins ex) (by first | exact Nat.le_of_ble_eq_true rfl | omega) (by first | exact Nat.le_of_ble_eq_true rfl | omega) (by first | exact Nat.le_of_ble_eq_true rfl | omega) (by omega) (by omega) ?_
  refine r_istore [(5, .int x3), (4, .ref (X.1 + a1)), (0, .ref (X.1 + v0)), (1, .int v1), (2, .int v2)] hc hr (dc_at dX9_twins 33 rfl) (by decide) rfl ?_
  refine r_iload hc 0 (dc_at dX9_twins 34 rfl) rfl ?_
  refine r_iconst (-1 : Int32) hc (dc_at dX9_twins 35 rfl) (by decide) ?_
  refine r_icmp_eq (tgt := 74) hc (dc_at dX9_twins 36 rfl) (by decide) hf (fun hf => ?_) (fun hf => ?_)
  · refine r_iload hc 0 (dc_at dX9_twins 39 rfl) rfl ?_
    exact r_iret hc he (by omega) (by omega) (dc_at dX9_twins 40 rfl) hf
  · refine r_iload_n hc 3 (dc_at dX9_twins 37 rfl) rfl ?_
    refine r_if_ne (tgt := 77) hc (dc_at dX9_twins 38 rfl) (by decide) hf (fun hf => ?_) (fun hf => ?_)
    · refine r_iload_n hc 3 (dc_at dX9_twins 41 rfl) rfl ?_
      refine r_bipush (10 : Int32) hc (dc_at dX9_twins 42 rfl) (by decide) ?_
      refine r_irem hc (dc_at dX9_twins 43 rfl) hf (fun hf => ?_)
      refine r_nm (mk := Value.int) hf fun x5 hf => ?_
      refine r_istore [(6, .int x5), (5, .int x3), (4, .ref (X.1 + a1)), (0, .ref (X.1 + v0)), (1, .int v1), (2, .int v2)] hc hr (dc_at dX9_twins 44 rfl) (by decide) rfl ?_
      refine r_iload hc 0 (dc_at dX9_twins 45 rfl) rfl ?_
      refine r_iload hc 1 (dc_at dX9_twins 46 rfl) rfl ?_
      refine r_icmp_lt (tgt := 92) hc (dc_at dX9_twins 47 rfl) (by decide) hf (fun hf => ?_) (fun hf => ?_)
      · refine r_iload_n hc 5 (dc_at dX9_twins 50 rfl) rfl ?_
        refine r_if_eq (tgt := 107) hc (dc_at dX9_twins 51 rfl) (by decide) hf (fun hf => ?_) (fun hf => ?_)
        · refine r_aload hc 2 (dc_at dX9_twins 57 rfl) rfl ?_
          refine r_getR hc (dc_at dX9_twins 58 rfl) fl_X9_243 hf fun a6 hf => ?_
          refine r_iload hc 0 (dc_at dX9_twins 59 rfl) rfl ?_
          refine r_iaload hc (dc_at dX9_twins 60 rfl) hf fun x7 hf => ?_
          exact r_iret hc he (by omega) (by omega) (dc_at dX9_twins 61 rfl) hf
        · refine r_aload hc 2 (dc_at dX9_twins 52 rfl) rfl ?_
          refine r_getR hc (dc_at dX9_twins 53 rfl) fl_X9_219 hf fun a8 hf => ?_
          refine r_iload hc 0 (dc_at dX9_twins 54 rfl) rfl ?_
          refine r_iaload hc (dc_at dX9_twins 55 rfl) hf fun x9 hf => ?_
          refine r_goto (tgt := 115) hc (dc_at dX9_twins 56 rfl) (by decide) ?_
          exact r_iret hc he (by omega) (by omega) (dc_at dX9_twins 61 rfl) hf
      · refine r_iconst (-1 : Int32) hc (dc_at dX9_twins 48 rfl) (by decide) ?_
        exact r_iret hc he (by omega) (by omega) (dc_at dX9_twins 49 rfl) hf
    · refine r_iload hc 0 (dc_at dX9_twins 39 rfl) rfl ?_
      exact r_iret hc he (by omega) (by omega) (dc_at dX9_twins 40 rfl) hf
def b_X9_twins_35 (F : Nat) (h : PH) (v0 : Nat) (v1 : Int32) (v2 : Int32) (s0 : Int32) : Option (Int32 × PH) := if v1 = 0 then (b_X9_twins_51 F h v0 v1 v2) else (if v2 = 0 then (if s0 = 0 then (some ((-2 : Int32), h)) else (b_X9_twins_51 F h v0 v1 v2)) else (b_X9_twins_51 F h v0 v1 v2))
set_option maxRecDepth 20000 in
theorem t_X9_twins_35 {M : MV} {X : XT} {F : Nat} {h hz : PH} {r : Int32} {mc ms : Nat} {v0 : Nat} {v1 : Int32} {v2 : Int32} {s0 : Int32} (hc : Cx M X RX9 cX9_twins) (hr : Rx M 7 408 mc ms 7) (he : Ex M X (some .int) "twins" (some (.int r)) hz mc ms) (hm : 0 ≤ mc) (hs : 0 ≤ ms) (hcost : gN 9 16 h v0 = some none → 10 ≤ mc ∧ 46057 ≤ ms) (hf : b_X9_twins_35 F h v0 v1 v2 s0 = some (r, hz)) : GG M X h 0 0 35 [(0, .ref (X.1 + v0)), (1, .int v1), (2, .int v2)] [.int s0] := by
  unfold b_X9_twins_35 at hf
  refine r_istore_n [(3, .int s0), (0, .ref (X.1 + v0)), (1, .int v1), (2, .int v2)] hc hr (dc_at dX9_twins 19 rfl) (by decide) rfl ?_
  refine r_iload_n hc 2 (dc_at dX9_twins 20 rfl) rfl ?_
  refine r_if_eq (tgt := 51) hc (dc_at dX9_twins 21 rfl) (by decide) hf (fun hf => ?_) (fun hf => ?_)
  · exact gg_sub [1, 2, 3] rfl (t_X9_twins_51 hc hr he (by omega) (by omega) hcost  hf)
  · refine r_iload_n hc 3 (dc_at dX9_twins 22 rfl) rfl ?_
    refine r_if_ne (tgt := 51) hc (dc_at dX9_twins 23 rfl) (by decide) hf (fun hf => ?_) (fun hf => ?_)
    · exact gg_sub [1, 2, 3] rfl (t_X9_twins_51 hc hr he (by omega) (by omega) hcost  hf)
    · refine r_iload_n hc 0 (dc_at dX9_twins 24 rfl) rfl ?_
      refine r_if_ne (tgt := 51) hc (dc_at dX9_twins 25 rfl) (by decide) hf (fun hf => ?_) (fun hf => ?_)
      · exact gg_sub [1, 2, 3] rfl (t_X9_twins_51 hc hr he (by omega) (by omega) hcost  hf)
      · refine r_bipush (-2 : Int32) hc (dc_at dX9_twins 26 rfl) (by decide) ?_
        exact r_iret hc he (by omega) (by omega) (dc_at dX9_twins 27 rfl) hf
def b_X9_twins_34 (F : Nat) (h : PH) (v0 : Nat) (v1 : Int32) (v2 : Int32) : Option (Int32 × PH) := b_X9_twins_35 F h v0 v1 v2 (0 : Int32)
set_option maxRecDepth 20000 in
theorem t_X9_twins_34 {M : MV} {X : XT} {F : Nat} {h hz : PH} {r : Int32} {mc ms : Nat} {v0 : Nat} {v1 : Int32} {v2 : Int32} (hc : Cx M X RX9 cX9_twins) (hr : Rx M 7 408 mc ms 7) (he : Ex M X (some .int) "twins" (some (.int r)) hz mc ms) (hm : 0 ≤ mc) (hs : 0 ≤ ms) (hcost : gN 9 16 h v0 = some none → 10 ≤ mc ∧ 46057 ≤ ms) (hf : b_X9_twins_34 F h v0 v1 v2 = some (r, hz)) : GG M X h 0 0 34 [(0, .ref (X.1 + v0)), (1, .int v1), (2, .int v2)] [] := by
  unfold b_X9_twins_34 at hf
  refine r_iconst (0 : Int32) hc (dc_at dX9_twins 18 rfl) (by decide) ?_
  exact gg_sub [0, 1, 2] rfl (t_X9_twins_35 hc hr he (by omega) (by omega) hcost  hf)
def b_X9_twins_17 (F : Nat) (h : PH) (v0 : Nat) (v1 : Int32) (s0 : Int32) : Option (Int32 × PH) := if v1 < (20 : Int32) then (b_X9_twins_34 F h v0 v1 s0) else (if (24 : Int32) < v1 then (b_X9_twins_34 F h v0 v1 s0) else (b_X9_twins_35 F h v0 v1 s0 (1 : Int32)))
set_option maxRecDepth 20000 in
theorem t_X9_twins_17 {M : MV} {X : XT} {F : Nat} {h hz : PH} {r : Int32} {mc ms : Nat} {v0 : Nat} {v1 : Int32} {s0 : Int32} (hc : Cx M X RX9 cX9_twins) (hr : Rx M 7 408 mc ms 7) (he : Ex M X (some .int) "twins" (some (.int r)) hz mc ms) (hm : 0 ≤ mc) (hs : 0 ≤ ms) (hcost : gN 9 16 h v0 = some none → 10 ≤ mc ∧ 46057 ≤ ms) (hf : b_X9_twins_17 F h v0 v1 s0 = some (r, hz)) : GG M X h 0 0 17 [(0, .ref (X.1 + v0)), (1, .int v1)] [.int s0] := by
  unfold b_X9_twins_17 at hf
  refine r_istore_n [(2, .int s0), (0, .ref (X.1 + v0)), (1, .int v1)] hc hr (dc_at dX9_twins 9 rfl) (by decide) rfl ?_
  refine r_iload_n hc 2 (dc_at dX9_twins 10 rfl) rfl ?_
  refine r_bipush (20 : Int32) hc (dc_at dX9_twins 11 rfl) (by decide) ?_
  refine r_icmp_lt (tgt := 34) hc (dc_at dX9_twins 12 rfl) (by decide) hf (fun hf => ?_) (fun hf => ?_)
  · exact gg_sub [1, 2, 0] rfl (t_X9_twins_34 hc hr he (by omega) (by omega) hcost  hf)
  · refine r_iload_n hc 2 (dc_at dX9_twins 13 rfl) rfl ?_
    refine r_bipush (24 : Int32) hc (dc_at dX9_twins 14 rfl) (by decide) ?_
    refine r_icmp_gt (tgt := 34) hc (dc_at dX9_twins 15 rfl) (by decide) hf (fun hf => ?_) (fun hf => ?_)
    · exact gg_sub [1, 2, 0] rfl (t_X9_twins_34 hc hr he (by omega) (by omega) hcost  hf)
    · refine r_iconst (1 : Int32) hc (dc_at dX9_twins 16 rfl) (by decide) ?_
      refine r_goto (tgt := 35) hc (dc_at dX9_twins 17 rfl) (by decide) ?_
      exact gg_sub [1, 2, 0] rfl (t_X9_twins_35 hc hr he (by omega) (by omega) hcost  hf)
def b_X9_twins_16 (F : Nat) (h : PH) (v0 : Nat) (v1 : Int32) : Option (Int32 × PH) := b_X9_twins_17 F h v0 v1 (0 : Int32)
set_option maxRecDepth 20000 in
theorem t_X9_twins_16 {M : MV} {X : XT} {F : Nat} {h hz : PH} {r : Int32} {mc ms : Nat} {v0 : Nat} {v1 : Int32} (hc : Cx M X RX9 cX9_twins) (hr : Rx M 7 408 mc ms 7) (he : Ex M X (some .int) "twins" (some (.int r)) hz mc ms) (hm : 0 ≤ mc) (hs : 0 ≤ ms) (hcost : gN 9 16 h v0 = some none → 10 ≤ mc ∧ 46057 ≤ ms) (hf : b_X9_twins_16 F h v0 v1 = some (r, hz)) : GG M X h 0 0 16 [(0, .ref (X.1 + v0)), (1, .int v1)] [] := by
  unfold b_X9_twins_16 at hf
  refine r_iconst (0 : Int32) hc (dc_at dX9_twins 8 rfl) (by decide) ?_
  exact gg_sub [0, 1] rfl (t_X9_twins_17 hc hr he (by omega) (by omega) hcost  hf)
def b_X9_twins_0 (F : Nat) (h : PH) (v0 : Nat) (v1 : Int32) : Option (Int32 × PH) := if v1 < (10 : Int32) then (b_X9_twins_16 F h v0 v1) else (if (14 : Int32) < v1 then (b_X9_twins_16 F h v0 v1) else (b_X9_twins_17 F h v0 v1 (1 : Int32)))
set_option maxRecDepth 20000 in
theorem t_X9_twins_0 {M : MV} {X : XT} {F : Nat} {h hz : PH} {r : Int32} {mc ms : Nat} {v0 : Nat} {v1 : Int32} (hc : Cx M X RX9 cX9_twins) (hr : Rx M 7 408 mc ms 7) (he : Ex M X (some .int) "twins" (some (.int r)) hz mc ms) (hm : 0 ≤ mc) (hs : 0 ≤ ms) (hcost : gN 9 16 h v0 = some none → 10 ≤ mc ∧ 46057 ≤ ms) (hf : b_X9_twins_0 F h v0 v1 = some (r, hz)) : GG M X h 0 0 0 [(0, .ref (X.1 + v0)), (1, .int v1)] [] := by
  unfold b_X9_twins_0 at hf
  refine r_iload_n hc 1 (dc_at dX9_twins 0 rfl) rfl ?_
  refine r_bipush (10 : Int32) hc (dc_at dX9_twins 1 rfl) (by decide) ?_
  refine r_icmp_lt (tgt := 16) hc (dc_at dX9_twins 2 rfl) (by decide) hf (fun hf => ?_) (fun hf => ?_)
  · exact gg_sub [0, 1] rfl (t_X9_twins_16 hc hr he (by omega) (by omega) hcost  hf)
  · refine r_iload_n hc 1 (dc_at dX9_twins 3 rfl) rfl ?_
    refine r_bipush (14 : Int32) hc (dc_at dX9_twins 4 rfl) (by decide) ?_
    refine r_icmp_gt (tgt := 16) hc (dc_at dX9_twins 5 rfl) (by decide) hf (fun hf => ?_) (fun hf => ?_)
    · exact gg_sub [0, 1] rfl (t_X9_twins_16 hc hr he (by omega) (by omega) hcost  hf)
    · refine r_iconst (1 : Int32) hc (dc_at dX9_twins 6 rfl) (by decide) ?_
      refine r_goto (tgt := 17) hc (dc_at dX9_twins 7 rfl) (by decide) ?_
      exact gg_sub [0, 1] rfl (t_X9_twins_17 hc hr he (by omega) (by omega) hcost  hf)
def m_X9_twins (F : Nat) (h : PH) (p0 : Nat) (p1 : Int32) : Option (Int32 × PH) := b_X9_twins_0 F h p0 p1
theorem mt_X9_twins {l : Launch} {X : XT} {F : Nat} {h hz : PH} {p0 : Nat} {p1 : Int32} {r : Int32} {mc ms : Nat} (ex : m_X9_twins F h p0 p1 = some (r, hz)) (hcost : gN 9 16 h p0 = some none → 10 ≤ mc ∧ 46057 ≤ ms) : MT l X yX9_twins cX9_twins 7 (some .int) 7 408 mc ms [.ref (X.1 + p0), .int p1] h (some (.int r)) hz := MT.of (by decide) (Nat.le_of_ble_eq_true rfl) fun M hl hc hr he => by
  subst hl
  exact gg_sub [0, 1] rfl (t_X9_twins_0  hc hr he (Nat.zero_le _) (Nat.zero_le _) hcost ex)
/-! FractionLift.isModulus(I)Z -/
def lX9_isModulusL : List (Nat × Instr × Nat × Nat) := [(0, .iload_n 0, 1, 1), (1, .iconst 2, 1, 2), (2, .if_icmp .lt 13, 3, 5), (5, .iload_n 0, 1, 6), (6, .bipush 30, 2, 8), (8, .if_icmp .gt 7, 3, 11), (11, .iconst 1, 1, 12), (12, .goto 4, 3, 15), (15, .iconst 0, 1, 16), (16, .ireturn, 1, 17)]
set_option maxRecDepth 20000 in
theorem dX9_isModulus : dcL cX9_isModulus lX9_isModulusL = true := by decide +kernel
def b_X9_isModulus_0 (v0 : Int32) : Option Int32 := if v0 < (2 : Int32) then (rZP (0 : Int32)) else (if (30 : Int32) < v0 then (rZP (0 : Int32)) else (rZP (1 : Int32)))
set_option maxRecDepth 20000 in
theorem t_X9_isModulus_0 {M : MV} {X : XT} {h : PH} {r : Int32} {ce sl mc ms : Nat} {v0 : Int32} (hc : Cx M X RX9 cX9_isModulus) (hr : Rx M 1 60 mc ms 1) (he : Ex M X (some .boolean) "isModulus" (some (.int r)) h mc ms) (hm : ce ≤ mc) (hs : sl ≤ ms) (hf : b_X9_isModulus_0 v0 = some r) : GG M X h ce sl 0 [(0, .int v0)] [] := by
  unfold b_X9_isModulus_0 at hf
  refine r_iload_n hc 0 (dc_at dX9_isModulus 0 rfl) rfl ?_
  refine r_iconst (2 : Int32) hc (dc_at dX9_isModulus 1 rfl) (by decide) ?_
  refine r_icmp_lt (tgt := 15) hc (dc_at dX9_isModulus 2 rfl) (by decide) hf (fun hf => ?_) (fun hf => ?_)
  · refine r_iconst (0 : Int32) hc (dc_at dX9_isModulus 8 rfl) (by decide) ?_
    exact r_zretP hc he (hm) (hs) (dc_at dX9_isModulus 9 rfl) hf
  · refine r_iload_n hc 0 (dc_at dX9_isModulus 3 rfl) rfl ?_
    refine r_bipush (30 : Int32) hc (dc_at dX9_isModulus 4 rfl) (by decide) ?_
    refine r_icmp_gt (tgt := 15) hc (dc_at dX9_isModulus 5 rfl) (by decide) hf (fun hf => ?_) (fun hf => ?_)
    · refine r_iconst (0 : Int32) hc (dc_at dX9_isModulus 8 rfl) (by decide) ?_
      exact r_zretP hc he (hm) (hs) (dc_at dX9_isModulus 9 rfl) hf
    · refine r_iconst (1 : Int32) hc (dc_at dX9_isModulus 6 rfl) (by decide) ?_
      refine r_goto (tgt := 16) hc (dc_at dX9_isModulus 7 rfl) (by decide) ?_
      exact r_zretP hc he (hm) (hs) (dc_at dX9_isModulus 9 rfl) hf
def m_X9_isModulus (p0 : Int32) : Option Int32 := b_X9_isModulus_0 p0
theorem mt_X9_isModulus {l : Launch} {X : XT} {h : PH} {p0 : Int32} {r : Int32} (ex : m_X9_isModulus p0 = some r) : MT l X yX9_isModulus cX9_isModulus 1 (some .boolean) 1 60 0 0 [.int p0] h (some (.int r)) h := MT.of (by decide) (Nat.le_of_ble_eq_true rfl) fun M hl hc hr he => by
  subst hl
  exact gg_sub [0] rfl (t_X9_isModulus_0  hc hr he (Nat.zero_le _) (Nat.zero_le _) ex)
/-! FractionLift.remainderOf(JJI)I -/
def lX9_remainderOfL : List (Nat × Instr × Nat × Nat) := [(0, .iload 4, 2, 2), (2, .iconst 2, 1, 3), (3, .if_icmp .ge 5, 3, 6), (6, .iconst (-1), 1, 7), (7, .ireturn, 1, 8), (8, .lload_n 2, 1, 9), (9, .iload 4, 2, 11), (11, .i2l, 1, 12), (12, .lrem, 1, 13), (13, .l2i, 1, 14), (14, .iload 4, 2, 16), (16, .invokestatic 373, 3, 19), (19, .istore 5, 2, 21), (21, .iload 5, 2, 23), (23, .iconst (-1), 1, 24), (24, .if_icmp .ne 7, 3, 27), (27, .iconst (-1), 1, 28), (28, .goto 15, 3, 31), (31, .lload_n 0, 1, 32), (32, .iload 4, 2, 34), (34, .i2l, 1, 35), (35, .lrem, 1, 36), (36, .l2i, 1, 37), (37, .iload 5, 2, 39), (39, .imul, 1, 40), (40, .iload 4, 2, 42), (42, .irem, 1, 43), (43, .ireturn, 1, 44)]
set_option maxRecDepth 20000 in
theorem dX9_remainderOf : dcL cX9_remainderOf lX9_remainderOfL = true := by decide +kernel
def b_X9_remainderOf_0 (F : Nat) (v0 : Int64) (v2 : Int64) (v4 : Int32) : Option Int32 := if (2 : Int32) ≤ v4 then (if (Int32.toInt64 v4) = 0 then none else ((m_X9_inverseBy F ((Int64.toInt32 ((remL v2 (Int32.toInt64 v4))))) v4).bind fun x1 => (if x1 = (-1 : Int32) then (some (-1 : Int32)) else (if (Int32.toInt64 v4) = 0 then none else (if v4 = 0 then none else (some ((remI ((((Int64.toInt32 ((remL v0 (Int32.toInt64 v4))))) * x1)) v4)))))))) else (some (-1 : Int32))
set_option maxRecDepth 20000 in
theorem t_X9_remainderOf_0 {M : MV} {X : XT} {F : Nat} {h : PH} {r : Int32} {ce sl mc ms : Nat} {v0 : Int64} {v2 : Int64} {v4 : Int32} (hc : Cx M X RX9 cX9_remainderOf) (hr : Rx M 2 118 mc ms 6) (he : Ex M X (some .int) "remainderOf" (some (.int r)) h mc ms) (hm : ce ≤ mc) (hs : sl ≤ ms) (hf : b_X9_remainderOf_0 F v0 v2 v4 = some r) : GG M X h ce sl 0 [(0, .long v0), (2, .long v2), (4, .int v4)] [] := by
  unfold b_X9_remainderOf_0 at hf
  refine r_iload hc 2 (dc_at dX9_remainderOf 0 rfl) rfl ?_
  refine r_iconst (2 : Int32) hc (dc_at dX9_remainderOf 1 rfl) (by decide) ?_
  refine r_icmp_ge (tgt := 8) hc (dc_at dX9_remainderOf 2 rfl) (by decide) hf (fun hf => ?_) (fun hf => ?_)
  · refine r_lload_n hc 1 (dc_at dX9_remainderOf 5 rfl) rfl ?_
    refine r_iload hc 2 (dc_at dX9_remainderOf 6 rfl) rfl ?_
    refine r_i2l hc (dc_at dX9_remainderOf 7 rfl) ?_
    refine r_lrem hc (dc_at dX9_remainderOf 8 rfl) hf (fun hf => ?_)
    refine r_l2i hc (dc_at dX9_remainderOf 9 rfl) ?_
    refine r_iload hc 2 (dc_at dX9_remainderOf 10 rfl) rfl ?_
    refine ob hf fun x1 ex hf => ?_
    refine r_callSi (As := [.int ((Int64.toInt32 ((remL v2 (Int32.toInt64 v4))))), .int v4]) hc hr (dc_at dX9_remainderOf 11 rfl) ml_X9_373 mv_X9_inverseBy st_X9_inverseBy rfl (mt_X9_inverseBy ex) (by first | exact Nat.le_of_ble_eq_true rfl | omega) (by first | exact Nat.le_of_ble_eq_true rfl | omega) (by first | exact Nat.le_of_ble_eq_true rfl | omega) hm hs ?_
    refine r_istore [(5, .int x1), (0, .long v0), (2, .long v2), (4, .int v4)] hc hr (dc_at dX9_remainderOf 12 rfl) (by decide) rfl ?_
    refine r_iload hc 0 (dc_at dX9_remainderOf 13 rfl) rfl ?_
    refine r_iconst (-1 : Int32) hc (dc_at dX9_remainderOf 14 rfl) (by decide) ?_
    refine r_icmp_ne (tgt := 31) hc (dc_at dX9_remainderOf 15 rfl) (by decide) hf (fun hf => ?_) (fun hf => ?_)
    · refine r_lload_n hc 1 (dc_at dX9_remainderOf 18 rfl) rfl ?_
      refine r_iload hc 3 (dc_at dX9_remainderOf 19 rfl) rfl ?_
      refine r_i2l hc (dc_at dX9_remainderOf 20 rfl) ?_
      refine r_lrem hc (dc_at dX9_remainderOf 21 rfl) hf (fun hf => ?_)
      refine r_l2i hc (dc_at dX9_remainderOf 22 rfl) ?_
      refine r_iload hc 0 (dc_at dX9_remainderOf 23 rfl) rfl ?_
      refine r_imul hc (dc_at dX9_remainderOf 24 rfl) ?_
      refine r_iload hc 3 (dc_at dX9_remainderOf 25 rfl) rfl ?_
      refine r_irem hc (dc_at dX9_remainderOf 26 rfl) hf (fun hf => ?_)
      exact r_iretP hc he (hm) (hs) (dc_at dX9_remainderOf 27 rfl) hf
    · refine r_iconst (-1 : Int32) hc (dc_at dX9_remainderOf 16 rfl) (by decide) ?_
      refine r_goto (tgt := 43) hc (dc_at dX9_remainderOf 17 rfl) (by decide) ?_
      exact r_iretP hc he (hm) (hs) (dc_at dX9_remainderOf 27 rfl) hf
  · refine r_iconst (-1 : Int32) hc (dc_at dX9_remainderOf 3 rfl) (by decide) ?_
    exact r_iretP hc he (hm) (hs) (dc_at dX9_remainderOf 4 rfl) hf
def m_X9_remainderOf (F : Nat) (p0 : Int64) (p2 : Int64) (p4 : Int32) : Option Int32 := b_X9_remainderOf_0 F p0 p2 p4
theorem mt_X9_remainderOf {l : Launch} {X : XT} {F : Nat} {h : PH} {p0 : Int64} {p2 : Int64} {p4 : Int32} {r : Int32} (ex : m_X9_remainderOf F p0 p2 p4 = some r) : MT l X yX9_remainderOf cX9_remainderOf 6 (some .int) 2 118 0 0 [.long p0, .long p2, .int p4] h (some (.int r)) h := MT.of (by decide) (Nat.le_of_ble_eq_true rfl) fun M hl hc hr he => by
  subst hl
  exact gg_sub [0, 1, 2] rfl (t_X9_remainderOf_0  hc hr he (Nat.zero_le _) (Nat.zero_le _) ex)
/-! FractionLift.remaindersFrom(III)I -/
def lX9_remaindersFromL : List (Nat × Instr × Nat × Nat) := [(0, .iconst 0, 1, 1), (1, .istore 4, 2, 3), (3, .iconst 0, 1, 4), (4, .istore 5, 2, 6), (6, .iload 5, 2, 8), (8, .aload_n 0, 1, 9), (9, .getfield 26, 3, 12), (12, .getfield 159, 3, 15), (15, .if_icmp .ge 43, 3, 18), (18, .aload_n 0, 1, 19), (19, .getfield 52, 3, 22), (22, .aload_n 0, 1, 23), (23, .getfield 26, 3, 26), (26, .iload 5, 2, 28), (28, .iload_n 1, 1, 29), (29, .iload_n 2, 1, 30), (30, .invokevirtual 383, 3, 33), (33, .istore 6, 2, 35), (35, .iload 6, 2, 37), (37, .iconst (-1), 1, 38), (38, .if_icmp .ne 5, 3, 41), (41, .iload_n 3, 1, 42), (42, .ireturn, 1, 43), (43, .iload 4, 2, 45), (45, .iconst 1, 1, 46), (46, .iload 6, 2, 48), (48, .ishl, 1, 49), (49, .ior, 1, 50), (50, .istore 4, 2, 52), (52, .iinc 5 1, 3, 55), (55, .goto (-49), 3, 58), (58, .iload 4, 2, 60), (60, .ireturn, 1, 61)]
set_option maxRecDepth 20000 in
theorem dX9_remaindersFrom : dcL cX9_remaindersFrom lX9_remaindersFromL = true := by decide +kernel
def b_X9_remaindersFrom_6 (F : Nat) (self4 : PH → Nat → Int32 → Int32 → Int32 → Int32 → Int32 → Option (Int32 × PH)) (h : PH) (v0 : Nat) (v1 : Int32) (v2 : Int32) (v3 : Int32) (v4 : Int32) (v5 : Int32) : Option (Int32 × PH) := (gR 9 4 h v0).bind fun a1 => ((gI 0 6 h a1).bind fun x2 => (if x2 ≤ v5 then (some (v4, h)) else ((gR 9 11 h v0).bind fun a3 => ((gR 9 4 h v0).bind fun a4 => (cO 4 h a3 (bind2 (m_X4_remainderLed F h a3 a4 v5 v1 v2) fun x5 h6 => (if x5 = (-1 : Int32) then (some (v3, h6)) else (bindv ((v4 ||| (((1 : Int32) <<< (x5 &&& 31))))) fun x7 => (bindv (v5 + (1)) fun x8 => (self4 h6 v0 v1 v2 v3 x7 x8))))))))))
set_option maxRecDepth 20000 in
theorem tb_X9_remaindersFrom_6 {M : MV} {X : XT} {F : Nat} {self4 : PH → Nat → Int32 → Int32 → Int32 → Int32 → Int32 → Option (Int32 × PH)} {h hz : PH} {r : Int32} {ce sl mc ms : Nat} {v0 : Nat} {v1 : Int32} {v2 : Int32} {v3 : Int32} {v4 : Int32} {v5 : Int32} (hc : Cx M X RX9 cX9_remaindersFrom) (hr : Rx M 4 234 mc ms 7) (he : Ex M X (some .int) "remaindersFrom" (some (.int r)) hz mc ms) (hm : ce ≤ mc) (hs : sl ≤ ms) (ih4 : ∀ (h : PH) (v0 : Nat) (v1 : Int32) (v2 : Int32) (v3 : Int32) (v4 : Int32) (v5 : Int32), self4 h v0 v1 v2 v3 v4 v5 = some (r, hz) → GG M X h ce sl 6 [(0, .ref (X.1 + v0)), (1, .int v1), (2, .int v2), (3, .int v3), (4, .int v4), (5, .int v5)] []) (hf : b_X9_remaindersFrom_6 F self4 h v0 v1 v2 v3 v4 v5 = some (r, hz)) : GG M X h ce sl 6 [(0, .ref (X.1 + v0)), (1, .int v1), (2, .int v2), (3, .int v3), (4, .int v4), (5, .int v5)] [] := by
  unfold b_X9_remaindersFrom_6 at hf
  refine r_iload hc 5 (dc_at dX9_remaindersFrom 4 rfl) rfl ?_
  refine r_aload_n hc 0 (dc_at dX9_remaindersFrom 5 rfl) rfl ?_
  refine r_getR hc (dc_at dX9_remaindersFrom 6 rfl) fl_X9_26 hf fun a1 hf => ?_
  refine r_getI hc (dc_at dX9_remaindersFrom 7 rfl) fl_X9_159 hf fun x2 hf => ?_
  refine r_icmp_ge (tgt := 58) hc (dc_at dX9_remaindersFrom 8 rfl) (by decide) hf (fun hf => ?_) (fun hf => ?_)
  · refine r_iload hc 4 (dc_at dX9_remaindersFrom 31 rfl) rfl ?_
    exact r_iret hc he (hm) (hs) (dc_at dX9_remaindersFrom 32 rfl) hf
  · refine r_aload_n hc 0 (dc_at dX9_remaindersFrom 9 rfl) rfl ?_
    refine r_getR hc (dc_at dX9_remaindersFrom 10 rfl) fl_X9_52 hf fun a3 hf => ?_
    refine r_aload_n hc 0 (dc_at dX9_remaindersFrom 11 rfl) rfl ?_
    refine r_getR hc (dc_at dX9_remaindersFrom 12 rfl) fl_X9_26 hf fun a4 hf => ?_
    refine r_iload hc 5 (dc_at dX9_remaindersFrom 13 rfl) rfl ?_
    refine r_iload_n hc 1 (dc_at dX9_remaindersFrom 14 rfl) rfl ?_
    refine r_iload_n hc 2 (dc_at dX9_remaindersFrom 15 rfl) rfl ?_
    obtain ⟨ho, hf⟩ := cO_some hf
    refine ob2 hf fun x5 h6 ex hf => ?_
    refine r_callVi (As := [.ref (X.1 + a4), .int v5, .int v1, .int v2]) (ci := 4) hc hr (dc_at dX9_remaindersFrom 16 rfl) ml_X9_383 mv_X4_remainderLed vi_X4_remainderLed rfl ho rfl (mt_X4_remainderLed ex) (by first | exact Nat.le_of_ble_eq_true rfl | omega) (by first | exact Nat.le_of_ble_eq_true rfl | omega) (by first | exact Nat.le_of_ble_eq_true rfl | omega) hm hs ?_
    refine r_istore [(6, .int x5), (0, .ref (X.1 + v0)), (1, .int v1), (2, .int v2), (3, .int v3), (4, .int v4), (5, .int v5)] hc hr (dc_at dX9_remaindersFrom 17 rfl) (by decide) rfl ?_
    refine r_iload hc 0 (dc_at dX9_remaindersFrom 18 rfl) rfl ?_
    refine r_iconst (-1 : Int32) hc (dc_at dX9_remaindersFrom 19 rfl) (by decide) ?_
    refine r_icmp_ne (tgt := 43) hc (dc_at dX9_remaindersFrom 20 rfl) (by decide) hf (fun hf => ?_) (fun hf => ?_)
    · refine r_iload hc 5 (dc_at dX9_remaindersFrom 23 rfl) rfl ?_
      refine r_iconst (1 : Int32) hc (dc_at dX9_remaindersFrom 24 rfl) (by decide) ?_
      refine r_iload hc 0 (dc_at dX9_remaindersFrom 25 rfl) rfl ?_
      refine r_ishl hc (dc_at dX9_remaindersFrom 26 rfl) ?_
      refine r_ior hc (dc_at dX9_remaindersFrom 27 rfl) ?_
      refine r_nm (mk := Value.int) hf fun x7 hf => ?_
      refine r_istore [(4, .int x7), (6, .int x5), (0, .ref (X.1 + v0)), (1, .int v1), (2, .int v2), (3, .int v3), (5, .int v5)] hc hr (dc_at dX9_remaindersFrom 28 rfl) (by decide) rfl ?_
      refine obv hf fun x8 e_x8 hf => ?_
      refine r_iinc 6 [(5, .int x8), (4, .int x7), (6, .int x5), (0, .ref (X.1 + v0)), (1, .int v1), (2, .int v2), (3, .int v3)] hc hr (dc_at dX9_remaindersFrom 29 rfl) rfl (by rw [e_x8]; rfl) (by decide) rfl ?_
      refine r_goto (tgt := 6) hc (dc_at dX9_remaindersFrom 30 rfl) (by decide) ?_
      exact gg_sub [3, 4, 5, 6, 1, 0] rfl (ih4 _ _ _ _ _ _ _ hf)
    · refine r_iload_n hc 4 (dc_at dX9_remaindersFrom 21 rfl) rfl ?_
      exact r_iret hc he (hm) (hs) (dc_at dX9_remaindersFrom 22 rfl) hf
def l_X9_remaindersFrom_6 (F : Nat) : Nat → PH → Nat → Int32 → Int32 → Int32 → Int32 → Int32 → Option (Int32 × PH)
  | 0 => fun _ _ _ _ _ _ _ => none
  | n + 1 => fun h v0 v1 v2 v3 v4 v5 => b_X9_remaindersFrom_6 F (l_X9_remaindersFrom_6 F n) h v0 v1 v2 v3 v4 v5
theorem tl_X9_remaindersFrom_6 {M : MV} {X : XT} {F : Nat} {hz : PH} {r : Int32} {ce sl mc ms : Nat} (hc : Cx M X RX9 cX9_remaindersFrom) (hr : Rx M 4 234 mc ms 7) (he : Ex M X (some .int) "remaindersFrom" (some (.int r)) hz mc ms) (hm : ce ≤ mc) (hs : sl ≤ ms) (n : Nat) : ∀ (h : PH) (v0 : Nat) (v1 : Int32) (v2 : Int32) (v3 : Int32) (v4 : Int32) (v5 : Int32), l_X9_remaindersFrom_6 F n h v0 v1 v2 v3 v4 v5 = some (r, hz) → GG M X h ce sl 6 [(0, .ref (X.1 + v0)), (1, .int v1), (2, .int v2), (3, .int v3), (4, .int v4), (5, .int v5)] [] := by
  induction n with
  | zero => intro h v0 v1 v2 v3 v4 v5 hf; cases hf
  | succ n ih => intro h v0 v1 v2 v3 v4 v5 hf; exact tb_X9_remaindersFrom_6 (F := F) hc hr he hm hs  ih hf
def b_X9_remaindersFrom_0 (F : Nat) (h : PH) (v0 : Nat) (v1 : Int32) (v2 : Int32) (v3 : Int32) : Option (Int32 × PH) := l_X9_remaindersFrom_6 F F h v0 v1 v2 v3 (0 : Int32) (0 : Int32)
set_option maxRecDepth 20000 in
theorem t_X9_remaindersFrom_0 {M : MV} {X : XT} {F : Nat} {h hz : PH} {r : Int32} {ce sl mc ms : Nat} {v0 : Nat} {v1 : Int32} {v2 : Int32} {v3 : Int32} (hc : Cx M X RX9 cX9_remaindersFrom) (hr : Rx M 4 234 mc ms 7) (he : Ex M X (some .int) "remaindersFrom" (some (.int r)) hz mc ms) (hm : ce ≤ mc) (hs : sl ≤ ms) (hf : b_X9_remaindersFrom_0 F h v0 v1 v2 v3 = some (r, hz)) : GG M X h ce sl 0 [(0, .ref (X.1 + v0)), (1, .int v1), (2, .int v2), (3, .int v3)] [] := by
  unfold b_X9_remaindersFrom_0 at hf
  refine r_iconst (0 : Int32) hc (dc_at dX9_remaindersFrom 0 rfl) (by decide) ?_
  refine r_istore [(4, .int ((0 : Int32))), (0, .ref (X.1 + v0)), (1, .int v1), (2, .int v2), (3, .int v3)] hc hr (dc_at dX9_remaindersFrom 1 rfl) (by decide) rfl ?_
  refine r_iconst (0 : Int32) hc (dc_at dX9_remaindersFrom 2 rfl) (by decide) ?_
  refine r_istore [(5, .int ((0 : Int32))), (4, .int ((0 : Int32))), (0, .ref (X.1 + v0)), (1, .int v1), (2, .int v2), (3, .int v3)] hc hr (dc_at dX9_remaindersFrom 3 rfl) (by decide) rfl ?_
  exact gg_sub [2, 3, 4, 5, 1, 0] rfl (tl_X9_remaindersFrom_6 hc hr he hm hs  F _ _ _ _ _ _ _ hf)
def m_X9_remaindersFrom (F : Nat) (h : PH) (p0 : Nat) (p1 : Int32) (p2 : Int32) (p3 : Int32) : Option (Int32 × PH) := b_X9_remaindersFrom_0 F h p0 p1 p2 p3
theorem mt_X9_remaindersFrom {l : Launch} {X : XT} {F : Nat} {h hz : PH} {p0 : Nat} {p1 : Int32} {p2 : Int32} {p3 : Int32} {r : Int32} (ex : m_X9_remaindersFrom F h p0 p1 p2 p3 = some (r, hz)) : MT l X yX9_remaindersFrom cX9_remaindersFrom 7 (some .int) 4 234 0 0 [.ref (X.1 + p0), .int p1, .int p2, .int p3] h (some (.int r)) hz := MT.of (by decide) (Nat.le_of_ble_eq_true rfl) fun M hl hc hr he => by
  subst hl
  exact gg_sub [0, 1, 2, 3] rfl (t_X9_remaindersFrom_0  hc hr he (Nat.zero_le _) (Nat.zero_le _) ex)
/-! FractionLift.remaindersBy(I)I -/
def lX9_remaindersByL : List (Nat × Instr × Nat × Nat) := [(0, .iconst 1, 1, 1), (1, .iload_n 1, 1, 2), (2, .ishl, 1, 3), (3, .iconst 1, 1, 4), (4, .isub, 1, 5), (5, .istore_n 2, 1, 6), (6, .aload_n 0, 1, 7), (7, .getfield 26, 3, 10), (10, .getfield 96, 3, 13), (13, .i2l, 1, 14), (14, .aload_n 0, 1, 15), (15, .getfield 26, 3, 18), (18, .getfield 99, 3, 21), (21, .i2l, 1, 22), (22, .iload_n 1, 1, 23), (23, .invokestatic 376, 3, 26), (26, .istore_n 3, 1, 27), (27, .iload_n 3, 1, 28), (28, .iconst (-1), 1, 29), (29, .if_icmp .ne 5, 3, 32), (32, .iload_n 2, 1, 33), (33, .ireturn, 1, 34), (34, .iconst 1, 1, 35), (35, .iload_n 3, 1, 36), (36, .ishl, 1, 37), (37, .istore 4, 2, 39), (39, .iconst 0, 1, 40), (40, .istore 5, 2, 42), (42, .iconst 0, 1, 43), (43, .istore 6, 2, 45), (45, .iload 6, 2, 47), (47, .iload_n 1, 1, 48), (48, .if_icmp .ge 67, 3, 51), (51, .iload 5, 2, 53), (53, .iload 4, 2, 55), (55, .if_icmp .eq 60, 3, 58), (58, .iload 4, 2, 60), (60, .iload 5, 2, 62), (62, .iconst (-1), 1, 63), (63, .ixor, 1, 64), (64, .iand, 1, 65), (65, .istore 7, 2, 67), (67, .iload 4, 2, 69), (69, .istore 5, 2, 71), (71, .iconst 0, 1, 72), (72, .istore 8, 2, 74), (74, .iload 8, 2, 76), (76, .iload_n 1, 1, 77), (77, .if_icmp .ge 32, 3, 80), (80, .iload 7, 2, 82), (82, .iload 8, 2, 84), (84, .iushr, 1, 85), (85, .iconst 1, 1, 86), (86, .iand, 1, 87), (87, .ifCond .eq 16, 3, 90), (90, .iload 4, 2, 92), (92, .aload_n 0, 1, 93), (93, .iload 8, 2, 95), (95, .iload_n 1, 1, 96), (96, .iload_n 2, 1, 97), (97, .invokevirtual 379, 3, 100), (100, .ior, 1, 101), (101, .istore 4, 2, 103), (103, .iinc 8 1, 3, 106), (106, .goto (-32), 3, 109), (109, .iinc 6 1, 3, 112), (112, .goto (-67), 3, 115), (115, .iload 4, 2, 117), (117, .ireturn, 1, 118)]
set_option maxRecDepth 20000 in
theorem dX9_remaindersBy : dcL cX9_remaindersBy lX9_remaindersByL = true := by decide +kernel
def b_X9_remaindersBy_103 (F : Nat) (self30 : PH → Nat → Int32 → Int32 → Int32 → Int32 → Int32 → Option (Int32 × PH)) (self46 : PH → Nat → Int32 → Int32 → Int32 → Int32 → Int32 → Int32 → Int32 → Option (Int32 × PH)) (h : PH) (v0 : Nat) (v1 : Int32) (v2 : Int32) (v4 : Int32) (v5 : Int32) (v6 : Int32) (v7 : Int32) (v8 : Int32) : Option (Int32 × PH) := bindv (v8 + (1)) fun x1 => (self46 h v0 v1 v2 v4 v5 v6 v7 x1)
set_option maxRecDepth 20000 in
theorem t_X9_remaindersBy_103 {M : MV} {X : XT} {F : Nat} {self30 : PH → Nat → Int32 → Int32 → Int32 → Int32 → Int32 → Option (Int32 × PH)} {self46 : PH → Nat → Int32 → Int32 → Int32 → Int32 → Int32 → Int32 → Int32 → Option (Int32 × PH)} {h hz : PH} {r : Int32} {ce sl mc ms : Nat} {v0 : Nat} {v1 : Int32} {v2 : Int32} {v4 : Int32} {v5 : Int32} {v6 : Int32} {v7 : Int32} {v8 : Int32} (hc : Cx M X RX9 cX9_remaindersBy) (hr : Rx M 5 292 mc ms 9) (he : Ex M X (some .int) "remaindersBy" (some (.int r)) hz mc ms) (hm : ce ≤ mc) (hs : sl ≤ ms) (ih30 : ∀ (h : PH) (v0 : Nat) (v1 : Int32) (v2 : Int32) (v4 : Int32) (v5 : Int32) (v6 : Int32), self30 h v0 v1 v2 v4 v5 v6 = some (r, hz) → GG M X h ce sl 45 [(0, .ref (X.1 + v0)), (1, .int v1), (2, .int v2), (4, .int v4), (5, .int v5), (6, .int v6)] []) (ih46 : ∀ (h : PH) (v0 : Nat) (v1 : Int32) (v2 : Int32) (v4 : Int32) (v5 : Int32) (v6 : Int32) (v7 : Int32) (v8 : Int32), self46 h v0 v1 v2 v4 v5 v6 v7 v8 = some (r, hz) → GG M X h ce sl 74 [(0, .ref (X.1 + v0)), (1, .int v1), (2, .int v2), (4, .int v4), (5, .int v5), (6, .int v6), (7, .int v7), (8, .int v8)] []) (hf : b_X9_remaindersBy_103 F self30 self46 h v0 v1 v2 v4 v5 v6 v7 v8 = some (r, hz)) : GG M X h ce sl 103 [(0, .ref (X.1 + v0)), (1, .int v1), (2, .int v2), (4, .int v4), (5, .int v5), (6, .int v6), (7, .int v7), (8, .int v8)] [] := by
  unfold b_X9_remaindersBy_103 at hf
  refine obv hf fun x1 e_x1 hf => ?_
  refine r_iinc 7 [(8, .int x1), (0, .ref (X.1 + v0)), (1, .int v1), (2, .int v2), (4, .int v4), (5, .int v5), (6, .int v6), (7, .int v7)] hc hr (dc_at dX9_remaindersBy 63 rfl) rfl (by rw [e_x1]; rfl) (by decide) rfl ?_
  refine r_goto (tgt := 74) hc (dc_at dX9_remaindersBy 64 rfl) (by decide) ?_
  exact gg_sub [1, 2, 3, 4, 5, 6, 7, 0] rfl (ih46 _ _ _ _ _ _ _ _ _ hf)
def b_X9_remaindersBy_74 (F : Nat) (self30 : PH → Nat → Int32 → Int32 → Int32 → Int32 → Int32 → Option (Int32 × PH)) (self46 : PH → Nat → Int32 → Int32 → Int32 → Int32 → Int32 → Int32 → Int32 → Option (Int32 × PH)) (h : PH) (v0 : Nat) (v1 : Int32) (v2 : Int32) (v4 : Int32) (v5 : Int32) (v6 : Int32) (v7 : Int32) (v8 : Int32) : Option (Int32 × PH) := if v1 ≤ v8 then (bindv (v6 + (1)) fun x1 => (self30 h v0 v1 v2 v4 v5 x1)) else (if (((ushr v7 v8) &&& (1 : Int32))) = 0 then (b_X9_remaindersBy_103 F self30 self46 h v0 v1 v2 v4 v5 v6 v7 v8) else (cO 9 h v0 (bind2 (m_X9_remaindersFrom F h v0 v8 v1 v2) fun x2 h3 => (bindv (v4 ||| x2) fun x4 => (b_X9_remaindersBy_103 F self30 self46 h3 v0 v1 v2 x4 v5 v6 v7 v8)))))
set_option maxRecDepth 20000 in
theorem tb_X9_remaindersBy_74 {M : MV} {X : XT} {F : Nat} {self30 : PH → Nat → Int32 → Int32 → Int32 → Int32 → Int32 → Option (Int32 × PH)} {self46 : PH → Nat → Int32 → Int32 → Int32 → Int32 → Int32 → Int32 → Int32 → Option (Int32 × PH)} {h hz : PH} {r : Int32} {ce sl mc ms : Nat} {v0 : Nat} {v1 : Int32} {v2 : Int32} {v4 : Int32} {v5 : Int32} {v6 : Int32} {v7 : Int32} {v8 : Int32} (hc : Cx M X RX9 cX9_remaindersBy) (hr : Rx M 5 292 mc ms 9) (he : Ex M X (some .int) "remaindersBy" (some (.int r)) hz mc ms) (hm : ce ≤ mc) (hs : sl ≤ ms) (ih30 : ∀ (h : PH) (v0 : Nat) (v1 : Int32) (v2 : Int32) (v4 : Int32) (v5 : Int32) (v6 : Int32), self30 h v0 v1 v2 v4 v5 v6 = some (r, hz) → GG M X h ce sl 45 [(0, .ref (X.1 + v0)), (1, .int v1), (2, .int v2), (4, .int v4), (5, .int v5), (6, .int v6)] []) (ih46 : ∀ (h : PH) (v0 : Nat) (v1 : Int32) (v2 : Int32) (v4 : Int32) (v5 : Int32) (v6 : Int32) (v7 : Int32) (v8 : Int32), self46 h v0 v1 v2 v4 v5 v6 v7 v8 = some (r, hz) → GG M X h ce sl 74 [(0, .ref (X.1 + v0)), (1, .int v1), (2, .int v2), (4, .int v4), (5, .int v5), (6, .int v6), (7, .int v7), (8, .int v8)] []) (hf : b_X9_remaindersBy_74 F self30 self46 h v0 v1 v2 v4 v5 v6 v7 v8 = some (r, hz)) : GG M X h ce sl 74 [(0, .ref (X.1 + v0)), (1, .int v1), (2, .int v2), (4, .int v4), (5, .int v5), (6, .int v6), (7, .int v7), (8, .int v8)] [] := by
  unfold b_X9_remaindersBy_74 at hf
  refine r_iload hc 7 (dc_at dX9_remaindersBy 46 rfl) rfl ?_
  refine r_iload_n hc 1 (dc_at dX9_remaindersBy 47 rfl) rfl ?_
  refine r_icmp_ge (tgt := 109) hc (dc_at dX9_remaindersBy 48 rfl) (by decide) hf (fun hf => ?_) (fun hf => ?_)
  · refine obv hf fun x1 e_x1 hf => ?_
    refine r_iinc 5 [(6, .int x1), (0, .ref (X.1 + v0)), (1, .int v1), (2, .int v2), (4, .int v4), (5, .int v5), (7, .int v7), (8, .int v8)] hc hr (dc_at dX9_remaindersBy 65 rfl) rfl (by rw [e_x1]; rfl) (by decide) rfl ?_
    refine r_goto (tgt := 45) hc (dc_at dX9_remaindersBy 66 rfl) (by decide) ?_
    exact gg_sub [1, 2, 3, 4, 5, 0] rfl (ih30 _ _ _ _ _ _ _ hf)
  · refine r_iload hc 6 (dc_at dX9_remaindersBy 49 rfl) rfl ?_
    refine r_iload hc 7 (dc_at dX9_remaindersBy 50 rfl) rfl ?_
    refine r_iushr hc (dc_at dX9_remaindersBy 51 rfl) ?_
    refine r_iconst (1 : Int32) hc (dc_at dX9_remaindersBy 52 rfl) (by decide) ?_
    refine r_iand hc (dc_at dX9_remaindersBy 53 rfl) ?_
    refine r_if_eq (tgt := 103) hc (dc_at dX9_remaindersBy 54 rfl) (by decide) hf (fun hf => ?_) (fun hf => ?_)
    · exact gg_sub [0, 1, 2, 3, 4, 5, 6, 7] rfl (t_X9_remaindersBy_103 hc hr he hm hs ih30 ih46 hf)
    · refine r_iload hc 3 (dc_at dX9_remaindersBy 55 rfl) rfl ?_
      refine r_aload_n hc 0 (dc_at dX9_remaindersBy 56 rfl) rfl ?_
      refine r_iload hc 7 (dc_at dX9_remaindersBy 57 rfl) rfl ?_
      refine r_iload_n hc 1 (dc_at dX9_remaindersBy 58 rfl) rfl ?_
      refine r_iload_n hc 2 (dc_at dX9_remaindersBy 59 rfl) rfl ?_
      obtain ⟨ho, hf⟩ := cO_some hf
      refine ob2 hf fun x2 h3 ex hf => ?_
      refine r_callVi (As := [.int v8, .int v1, .int v2]) (ci := 9) hc hr (dc_at dX9_remaindersBy 60 rfl) ml_X9_379 mv_X9_remaindersFrom vi_X9_remaindersFrom rfl ho rfl (mt_X9_remaindersFrom ex) (by first | exact Nat.le_of_ble_eq_true rfl | omega) (by first | exact Nat.le_of_ble_eq_true rfl | omega) (by first | exact Nat.le_of_ble_eq_true rfl | omega) hm hs ?_
      refine r_ior hc (dc_at dX9_remaindersBy 61 rfl) ?_
      refine r_nm (mk := Value.int) hf fun x4 hf => ?_
      refine r_istore [(4, .int x4), (0, .ref (X.1 + v0)), (1, .int v1), (2, .int v2), (5, .int v5), (6, .int v6), (7, .int v7), (8, .int v8)] hc hr (dc_at dX9_remaindersBy 62 rfl) (by decide) rfl ?_
      exact gg_sub [1, 2, 3, 0, 4, 5, 6, 7] rfl (t_X9_remaindersBy_103 hc hr he hm hs ih30 ih46 hf)
def l_X9_remaindersBy_74 (F : Nat) (self30 : PH → Nat → Int32 → Int32 → Int32 → Int32 → Int32 → Option (Int32 × PH)) : Nat → PH → Nat → Int32 → Int32 → Int32 → Int32 → Int32 → Int32 → Int32 → Option (Int32 × PH)
  | 0 => fun _ _ _ _ _ _ _ _ _ => none
  | n + 1 => fun h v0 v1 v2 v4 v5 v6 v7 v8 => b_X9_remaindersBy_74 F self30 (l_X9_remaindersBy_74 F self30 n) h v0 v1 v2 v4 v5 v6 v7 v8
theorem tl_X9_remaindersBy_74 {M : MV} {X : XT} {F : Nat} {self30 : PH → Nat → Int32 → Int32 → Int32 → Int32 → Int32 → Option (Int32 × PH)} {hz : PH} {r : Int32} {ce sl mc ms : Nat} (hc : Cx M X RX9 cX9_remaindersBy) (hr : Rx M 5 292 mc ms 9) (he : Ex M X (some .int) "remaindersBy" (some (.int r)) hz mc ms) (hm : ce ≤ mc) (hs : sl ≤ ms) (ih30 : ∀ (h : PH) (v0 : Nat) (v1 : Int32) (v2 : Int32) (v4 : Int32) (v5 : Int32) (v6 : Int32), self30 h v0 v1 v2 v4 v5 v6 = some (r, hz) → GG M X h ce sl 45 [(0, .ref (X.1 + v0)), (1, .int v1), (2, .int v2), (4, .int v4), (5, .int v5), (6, .int v6)] []) (n : Nat) : ∀ (h : PH) (v0 : Nat) (v1 : Int32) (v2 : Int32) (v4 : Int32) (v5 : Int32) (v6 : Int32) (v7 : Int32) (v8 : Int32), l_X9_remaindersBy_74 F self30 n h v0 v1 v2 v4 v5 v6 v7 v8 = some (r, hz) → GG M X h ce sl 74 [(0, .ref (X.1 + v0)), (1, .int v1), (2, .int v2), (4, .int v4), (5, .int v5), (6, .int v6), (7, .int v7), (8, .int v8)] [] := by
  induction n with
  | zero => intro h v0 v1 v2 v4 v5 v6 v7 v8 hf; cases hf
  | succ n ih => intro h v0 v1 v2 v4 v5 v6 v7 v8 hf; exact tb_X9_remaindersBy_74 (F := F) hc hr he hm hs ih30 ih hf
def b_X9_remaindersBy_45 (F : Nat) (self30 : PH → Nat → Int32 → Int32 → Int32 → Int32 → Int32 → Option (Int32 × PH)) (h : PH) (v0 : Nat) (v1 : Int32) (v2 : Int32) (v4 : Int32) (v5 : Int32) (v6 : Int32) : Option (Int32 × PH) := if v1 ≤ v6 then (some (v4, h)) else (if v5 = v4 then (some (v4, h)) else (bindv ((v4 &&& ((v5 ^^^ (-1 : Int32))))) fun x1 => (l_X9_remaindersBy_74 F self30 F h v0 v1 v2 v4 v4 v6 x1 (0 : Int32))))
set_option maxRecDepth 20000 in
theorem tb_X9_remaindersBy_45 {M : MV} {X : XT} {F : Nat} {self30 : PH → Nat → Int32 → Int32 → Int32 → Int32 → Int32 → Option (Int32 × PH)} {h hz : PH} {r : Int32} {ce sl mc ms : Nat} {v0 : Nat} {v1 : Int32} {v2 : Int32} {v4 : Int32} {v5 : Int32} {v6 : Int32} (hc : Cx M X RX9 cX9_remaindersBy) (hr : Rx M 5 292 mc ms 9) (he : Ex M X (some .int) "remaindersBy" (some (.int r)) hz mc ms) (hm : ce ≤ mc) (hs : sl ≤ ms) (ih30 : ∀ (h : PH) (v0 : Nat) (v1 : Int32) (v2 : Int32) (v4 : Int32) (v5 : Int32) (v6 : Int32), self30 h v0 v1 v2 v4 v5 v6 = some (r, hz) → GG M X h ce sl 45 [(0, .ref (X.1 + v0)), (1, .int v1), (2, .int v2), (4, .int v4), (5, .int v5), (6, .int v6)] []) (hf : b_X9_remaindersBy_45 F self30 h v0 v1 v2 v4 v5 v6 = some (r, hz)) : GG M X h ce sl 45 [(0, .ref (X.1 + v0)), (1, .int v1), (2, .int v2), (4, .int v4), (5, .int v5), (6, .int v6)] [] := by
  unfold b_X9_remaindersBy_45 at hf
  refine r_iload hc 5 (dc_at dX9_remaindersBy 30 rfl) rfl ?_
  refine r_iload_n hc 1 (dc_at dX9_remaindersBy 31 rfl) rfl ?_
  refine r_icmp_ge (tgt := 115) hc (dc_at dX9_remaindersBy 32 rfl) (by decide) hf (fun hf => ?_) (fun hf => ?_)
  · refine r_iload hc 3 (dc_at dX9_remaindersBy 67 rfl) rfl ?_
    exact r_iret hc he (hm) (hs) (dc_at dX9_remaindersBy 68 rfl) hf
  · refine r_iload hc 4 (dc_at dX9_remaindersBy 33 rfl) rfl ?_
    refine r_iload hc 3 (dc_at dX9_remaindersBy 34 rfl) rfl ?_
    refine r_icmp_eq (tgt := 115) hc (dc_at dX9_remaindersBy 35 rfl) (by decide) hf (fun hf => ?_) (fun hf => ?_)
    · refine r_iload hc 3 (dc_at dX9_remaindersBy 67 rfl) rfl ?_
      exact r_iret hc he (hm) (hs) (dc_at dX9_remaindersBy 68 rfl) hf
    · refine r_iload hc 3 (dc_at dX9_remaindersBy 36 rfl) rfl ?_
      refine r_iload hc 4 (dc_at dX9_remaindersBy 37 rfl) rfl ?_
      refine r_iconst (-1 : Int32) hc (dc_at dX9_remaindersBy 38 rfl) (by decide) ?_
      refine r_ixor hc (dc_at dX9_remaindersBy 39 rfl) ?_
      refine r_iand hc (dc_at dX9_remaindersBy 40 rfl) ?_
      refine r_nm (mk := Value.int) hf fun x1 hf => ?_
      refine r_istore [(7, .int x1), (0, .ref (X.1 + v0)), (1, .int v1), (2, .int v2), (4, .int v4), (5, .int v5), (6, .int v6)] hc hr (dc_at dX9_remaindersBy 41 rfl) (by decide) rfl ?_
      refine r_iload hc 4 (dc_at dX9_remaindersBy 42 rfl) rfl ?_
      refine r_istore [(5, .int v4), (7, .int x1), (0, .ref (X.1 + v0)), (1, .int v1), (2, .int v2), (4, .int v4), (6, .int v6)] hc hr (dc_at dX9_remaindersBy 43 rfl) (by decide) rfl ?_
      refine r_iconst (0 : Int32) hc (dc_at dX9_remaindersBy 44 rfl) (by decide) ?_
      refine r_istore [(8, .int ((0 : Int32))), (5, .int v4), (7, .int x1), (0, .ref (X.1 + v0)), (1, .int v1), (2, .int v2), (4, .int v4), (6, .int v6)] hc hr (dc_at dX9_remaindersBy 45 rfl) (by decide) rfl ?_
      exact gg_sub [3, 4, 5, 6, 1, 7, 2, 0] rfl (tl_X9_remaindersBy_74 hc hr he hm hs ih30 F _ _ _ _ _ _ _ _ _ hf)
def l_X9_remaindersBy_45 (F : Nat) : Nat → PH → Nat → Int32 → Int32 → Int32 → Int32 → Int32 → Option (Int32 × PH)
  | 0 => fun _ _ _ _ _ _ _ => none
  | n + 1 => fun h v0 v1 v2 v4 v5 v6 => b_X9_remaindersBy_45 F (l_X9_remaindersBy_45 F n) h v0 v1 v2 v4 v5 v6
theorem tl_X9_remaindersBy_45 {M : MV} {X : XT} {F : Nat} {hz : PH} {r : Int32} {ce sl mc ms : Nat} (hc : Cx M X RX9 cX9_remaindersBy) (hr : Rx M 5 292 mc ms 9) (he : Ex M X (some .int) "remaindersBy" (some (.int r)) hz mc ms) (hm : ce ≤ mc) (hs : sl ≤ ms) (n : Nat) : ∀ (h : PH) (v0 : Nat) (v1 : Int32) (v2 : Int32) (v4 : Int32) (v5 : Int32) (v6 : Int32), l_X9_remaindersBy_45 F n h v0 v1 v2 v4 v5 v6 = some (r, hz) → GG M X h ce sl 45 [(0, .ref (X.1 + v0)), (1, .int v1), (2, .int v2), (4, .int v4), (5, .int v5), (6, .int v6)] [] := by
  induction n with
  | zero => intro h v0 v1 v2 v4 v5 v6 hf; cases hf
  | succ n ih => intro h v0 v1 v2 v4 v5 v6 hf; exact tb_X9_remaindersBy_45 (F := F) hc hr he hm hs  ih hf
def b_X9_remaindersBy_0 (F : Nat) (h : PH) (v0 : Nat) (v1 : Int32) : Option (Int32 × PH) := bindv (((((1 : Int32) <<< (v1 &&& 31))) - (1 : Int32))) fun x1 => ((gR 9 4 h v0).bind fun a2 => ((gI 0 4 h a2).bind fun x3 => ((gR 9 4 h v0).bind fun a4 => ((gI 0 5 h a4).bind fun x5 => ((m_X9_remainderOf F (Int32.toInt64 x3) (Int32.toInt64 x5) v1).bind fun x6 => (if x6 = (-1 : Int32) then (some (x1, h)) else (bindv (((1 : Int32) <<< (x6 &&& 31))) fun x7 => (l_X9_remaindersBy_45 F F h v0 v1 x1 x7 (0 : Int32) (0 : Int32)))))))))
set_option maxRecDepth 20000 in
theorem t_X9_remaindersBy_0 {M : MV} {X : XT} {F : Nat} {h hz : PH} {r : Int32} {ce sl mc ms : Nat} {v0 : Nat} {v1 : Int32} (hc : Cx M X RX9 cX9_remaindersBy) (hr : Rx M 5 292 mc ms 9) (he : Ex M X (some .int) "remaindersBy" (some (.int r)) hz mc ms) (hm : ce ≤ mc) (hs : sl ≤ ms) (hf : b_X9_remaindersBy_0 F h v0 v1 = some (r, hz)) : GG M X h ce sl 0 [(0, .ref (X.1 + v0)), (1, .int v1)] [] := by
  unfold b_X9_remaindersBy_0 at hf
  refine r_iconst (1 : Int32) hc (dc_at dX9_remaindersBy 0 rfl) (by decide) ?_
  refine r_iload_n hc 1 (dc_at dX9_remaindersBy 1 rfl) rfl ?_
  refine r_ishl hc (dc_at dX9_remaindersBy 2 rfl) ?_
  refine r_iconst (1 : Int32) hc (dc_at dX9_remaindersBy 3 rfl) (by decide) ?_
  refine r_isub hc (dc_at dX9_remaindersBy 4 rfl) ?_
  refine r_nm (mk := Value.int) hf fun x1 hf => ?_
  refine r_istore_n [(2, .int x1), (0, .ref (X.1 + v0)), (1, .int v1)] hc hr (dc_at dX9_remaindersBy 5 rfl) (by decide) rfl ?_
  refine r_aload_n hc 1 (dc_at dX9_remaindersBy 6 rfl) rfl ?_
  refine r_getR hc (dc_at dX9_remaindersBy 7 rfl) fl_X9_26 hf fun a2 hf => ?_
  refine r_getI hc (dc_at dX9_remaindersBy 8 rfl) fl_X9_96 hf fun x3 hf => ?_
  refine r_i2l hc (dc_at dX9_remaindersBy 9 rfl) ?_
  refine r_aload_n hc 1 (dc_at dX9_remaindersBy 10 rfl) rfl ?_
  refine r_getR hc (dc_at dX9_remaindersBy 11 rfl) fl_X9_26 hf fun a4 hf => ?_
  refine r_getI hc (dc_at dX9_remaindersBy 12 rfl) fl_X9_99 hf fun x5 hf => ?_
  refine r_i2l hc (dc_at dX9_remaindersBy 13 rfl) ?_
  refine r_iload_n hc 2 (dc_at dX9_remaindersBy 14 rfl) rfl ?_
  refine ob hf fun x6 ex hf => ?_
  refine r_callSi (As := [.long ((Int32.toInt64 x3)), .long ((Int32.toInt64 x5)), .int v1]) hc hr (dc_at dX9_remaindersBy 15 rfl) ml_X9_376 mv_X9_remainderOf st_X9_remainderOf rfl (mt_X9_remainderOf ex) (by first | exact Nat.le_of_ble_eq_true rfl | omega) (by first | exact Nat.le_of_ble_eq_true rfl | omega) (by first | exact Nat.le_of_ble_eq_true rfl | omega) hm hs ?_
  refine r_istore_n [(3, .int x6), (2, .int x1), (0, .ref (X.1 + v0)), (1, .int v1)] hc hr (dc_at dX9_remaindersBy 16 rfl) (by decide) rfl ?_
  refine r_iload_n hc 0 (dc_at dX9_remaindersBy 17 rfl) rfl ?_
  refine r_iconst (-1 : Int32) hc (dc_at dX9_remaindersBy 18 rfl) (by decide) ?_
  refine r_icmp_ne (tgt := 34) hc (dc_at dX9_remaindersBy 19 rfl) (by decide) hf (fun hf => ?_) (fun hf => ?_)
  · refine r_iconst (1 : Int32) hc (dc_at dX9_remaindersBy 22 rfl) (by decide) ?_
    refine r_iload_n hc 0 (dc_at dX9_remaindersBy 23 rfl) rfl ?_
    refine r_ishl hc (dc_at dX9_remaindersBy 24 rfl) ?_
    refine r_nm (mk := Value.int) hf fun x7 hf => ?_
    refine r_istore [(4, .int x7), (3, .int x6), (2, .int x1), (0, .ref (X.1 + v0)), (1, .int v1)] hc hr (dc_at dX9_remaindersBy 25 rfl) (by decide) rfl ?_
    refine r_iconst (0 : Int32) hc (dc_at dX9_remaindersBy 26 rfl) (by decide) ?_
    refine r_istore [(5, .int ((0 : Int32))), (4, .int x7), (3, .int x6), (2, .int x1), (0, .ref (X.1 + v0)), (1, .int v1)] hc hr (dc_at dX9_remaindersBy 27 rfl) (by decide) rfl ?_
    refine r_iconst (0 : Int32) hc (dc_at dX9_remaindersBy 28 rfl) (by decide) ?_
    refine r_istore [(6, .int ((0 : Int32))), (5, .int ((0 : Int32))), (4, .int x7), (3, .int x6), (2, .int x1), (0, .ref (X.1 + v0)), (1, .int v1)] hc hr (dc_at dX9_remaindersBy 29 rfl) (by decide) rfl ?_
    exact gg_sub [5, 6, 4, 2, 1, 0] rfl (tl_X9_remaindersBy_45 hc hr he hm hs  F _ _ _ _ _ _ _ hf)
  · refine r_iload_n hc 1 (dc_at dX9_remaindersBy 20 rfl) rfl ?_
    exact r_iret hc he (hm) (hs) (dc_at dX9_remaindersBy 21 rfl) hf
def m_X9_remaindersBy (F : Nat) (h : PH) (p0 : Nat) (p1 : Int32) : Option (Int32 × PH) := b_X9_remaindersBy_0 F h p0 p1
theorem mt_X9_remaindersBy {l : Launch} {X : XT} {F : Nat} {h hz : PH} {p0 : Nat} {p1 : Int32} {r : Int32} (ex : m_X9_remaindersBy F h p0 p1 = some (r, hz)) : MT l X yX9_remaindersBy cX9_remaindersBy 9 (some .int) 5 292 0 0 [.ref (X.1 + p0), .int p1] h (some (.int r)) hz := MT.of (by decide) (Nat.le_of_ble_eq_true rfl) fun M hl hc hr he => by
  subst hl
  exact gg_sub [0, 1] rfl (t_X9_remaindersBy_0  hc hr he (Nat.zero_le _) (Nat.zero_le _) ex)
/-! FractionLift.isNever(I)Z -/
def lX9_isNeverL : List (Nat × Instr × Nat × Nat) := [(0, .aload_n 0, 1, 1), (1, .getfield 59, 3, 4), (4, .getfield 136, 3, 7), (7, .aload_n 0, 1, 8), (8, .getfield 59, 3, 11), (11, .getfield 140, 3, 14), (14, .iload_n 1, 1, 15), (15, .invokestatic 376, 3, 18), (18, .istore_n 2, 1, 19), (19, .iload_n 2, 1, 20), (20, .iconst (-1), 1, 21), (21, .if_icmp .eq 19, 3, 24), (24, .aload_n 0, 1, 25), (25, .iload_n 1, 1, 26), (26, .invokevirtual 252, 3, 29), (29, .iload_n 2, 1, 30), (30, .iushr, 1, 31), (31, .iconst 1, 1, 32), (32, .iand, 1, 33), (33, .ifCond .ne 7, 3, 36), (36, .iconst 1, 1, 37), (37, .goto 4, 3, 40), (40, .iconst 0, 1, 41), (41, .ireturn, 1, 42)]
set_option maxRecDepth 20000 in
theorem dX9_isNever : dcL cX9_isNever lX9_isNeverL = true := by decide +kernel
def b_X9_isNever_0 (F : Nat) (h : PH) (v0 : Nat) (v1 : Int32) : Option (Int32 × PH) := (gR 9 12 h v0).bind fun a1 => ((gL 2 0 h a1).bind fun x2 => ((gR 9 12 h v0).bind fun a3 => ((gL 2 1 h a3).bind fun x4 => ((m_X9_remainderOf F x2 x4 v1).bind fun x5 => (if x5 = (-1 : Int32) then (rZ (0 : Int32) h) else (cO 9 h v0 (bind2 (m_X9_remaindersBy F h v0 v1) fun x6 h7 => (if (((ushr x6 x5) &&& (1 : Int32))) = 0 then (rZ (1 : Int32) h7) else (rZ (0 : Int32) h7)))))))))
set_option maxRecDepth 20000 in
theorem t_X9_isNever_0 {M : MV} {X : XT} {F : Nat} {h hz : PH} {r : Int32} {ce sl mc ms : Nat} {v0 : Nat} {v1 : Int32} (hc : Cx M X RX9 cX9_isNever) (hr : Rx M 6 350 mc ms 3) (he : Ex M X (some .boolean) "isNever" (some (.int r)) hz mc ms) (hm : ce ≤ mc) (hs : sl ≤ ms) (hf : b_X9_isNever_0 F h v0 v1 = some (r, hz)) : GG M X h ce sl 0 [(0, .ref (X.1 + v0)), (1, .int v1)] [] := by
  unfold b_X9_isNever_0 at hf
  refine r_aload_n hc 0 (dc_at dX9_isNever 0 rfl) rfl ?_
  refine r_getR hc (dc_at dX9_isNever 1 rfl) fl_X9_59 hf fun a1 hf => ?_
  refine r_getL hc (dc_at dX9_isNever 2 rfl) fl_X9_136 hf fun x2 hf => ?_
  refine r_aload_n hc 0 (dc_at dX9_isNever 3 rfl) rfl ?_
  refine r_getR hc (dc_at dX9_isNever 4 rfl) fl_X9_59 hf fun a3 hf => ?_
  refine r_getL hc (dc_at dX9_isNever 5 rfl) fl_X9_140 hf fun x4 hf => ?_
  refine r_iload_n hc 1 (dc_at dX9_isNever 6 rfl) rfl ?_
  refine ob hf fun x5 ex hf => ?_
  refine r_callSi (As := [.long x2, .long x4, .int v1]) hc hr (dc_at dX9_isNever 7 rfl) ml_X9_376 mv_X9_remainderOf st_X9_remainderOf rfl (mt_X9_remainderOf ex) (by first | exact Nat.le_of_ble_eq_true rfl | omega) (by first | exact Nat.le_of_ble_eq_true rfl | omega) (by first | exact Nat.le_of_ble_eq_true rfl | omega) hm hs ?_
  refine r_istore_n [(2, .int x5), (0, .ref (X.1 + v0)), (1, .int v1)] hc hr (dc_at dX9_isNever 8 rfl) (by decide) rfl ?_
  refine r_iload_n hc 0 (dc_at dX9_isNever 9 rfl) rfl ?_
  refine r_iconst (-1 : Int32) hc (dc_at dX9_isNever 10 rfl) (by decide) ?_
  refine r_icmp_eq (tgt := 40) hc (dc_at dX9_isNever 11 rfl) (by decide) hf (fun hf => ?_) (fun hf => ?_)
  · refine r_iconst (0 : Int32) hc (dc_at dX9_isNever 22 rfl) (by decide) ?_
    exact r_zret hc he (hm) (hs) (dc_at dX9_isNever 23 rfl) hf
  · refine r_aload_n hc 1 (dc_at dX9_isNever 12 rfl) rfl ?_
    refine r_iload_n hc 2 (dc_at dX9_isNever 13 rfl) rfl ?_
    obtain ⟨ho, hf⟩ := cO_some hf
    refine ob2 hf fun x6 h7 ex hf => ?_
    refine r_callVi (As := [.int v1]) (ci := 9) hc hr (dc_at dX9_isNever 14 rfl) ml_X9_252 mv_X9_remaindersBy vi_X9_remaindersBy rfl ho rfl (mt_X9_remaindersBy ex) (by first | exact Nat.le_of_ble_eq_true rfl | omega) (by first | exact Nat.le_of_ble_eq_true rfl | omega) (by first | exact Nat.le_of_ble_eq_true rfl | omega) hm hs ?_
    refine r_iload_n hc 0 (dc_at dX9_isNever 15 rfl) rfl ?_
    refine r_iushr hc (dc_at dX9_isNever 16 rfl) ?_
    refine r_iconst (1 : Int32) hc (dc_at dX9_isNever 17 rfl) (by decide) ?_
    refine r_iand hc (dc_at dX9_isNever 18 rfl) ?_
    refine r_if_ne (tgt := 40) hc (dc_at dX9_isNever 19 rfl) (by decide) hf (fun hf => ?_) (fun hf => ?_)
    · refine r_iconst (0 : Int32) hc (dc_at dX9_isNever 22 rfl) (by decide) ?_
      exact r_zret hc he (hm) (hs) (dc_at dX9_isNever 23 rfl) hf
    · refine r_iconst (1 : Int32) hc (dc_at dX9_isNever 20 rfl) (by decide) ?_
      refine r_goto (tgt := 41) hc (dc_at dX9_isNever 21 rfl) (by decide) ?_
      exact r_zret hc he (hm) (hs) (dc_at dX9_isNever 23 rfl) hf
def m_X9_isNever (F : Nat) (h : PH) (p0 : Nat) (p1 : Int32) : Option (Int32 × PH) := b_X9_isNever_0 F h p0 p1
theorem mt_X9_isNever {l : Launch} {X : XT} {F : Nat} {h hz : PH} {p0 : Nat} {p1 : Int32} {r : Int32} (ex : m_X9_isNever F h p0 p1 = some (r, hz)) : MT l X yX9_isNever cX9_isNever 3 (some .boolean) 6 350 0 0 [.ref (X.1 + p0), .int p1] h (some (.int r)) hz := MT.of (by decide) (Nat.le_of_ble_eq_true rfl) fun M hl hc hr he => by
  subst hl
  exact gg_sub [0, 1] rfl (t_X9_isNever_0  hc hr he (Nat.zero_le _) (Nat.zero_le _) ex)
/-! FractionLift.never(III)I -/
def lX9_neverL : List (Nat × Instr × Nat × Nat) := [(0, .iload_n 1, 1, 1), (1, .invokestatic 246, 3, 4), (4, .ifCond .eq 12, 3, 7), (7, .aload_n 0, 1, 8), (8, .iload_n 2, 1, 9), (9, .iload_n 3, 1, 10), (10, .invokevirtual 132, 3, 13), (13, .ifCond .ne 6, 3, 16), (16, .bipush (-3), 2, 18), (18, .ireturn, 1, 19), (19, .aload_n 0, 1, 20), (20, .iload_n 1, 1, 21), (21, .invokevirtual 249, 3, 24), (24, .ifCond .eq 7, 3, 27), (27, .iconst 1, 1, 28), (28, .goto 4, 3, 31), (31, .iconst 0, 1, 32), (32, .ireturn, 1, 33)]
set_option maxRecDepth 20000 in
theorem dX9_never : dcL cX9_never lX9_neverL = true := by decide +kernel
def b_X9_never_0 (F : Nat) (h : PH) (v0 : Nat) (v1 : Int32) (v2 : Int32) (v3 : Int32) : Option (Int32 × PH) := (m_X9_isModulus v1).bind fun x1 => (if x1 = 0 then (some ((-3 : Int32), h)) else (cO 9 h v0 (bind2 (m_X9_asksFloor F h v0 v2 v3) fun x2 h3 => (if x2 = 0 then (some ((-3 : Int32), h3)) else (cO 9 h3 v0 (bind2 (m_X9_isNever F h3 v0 v1) fun x4 h5 => (if x4 = 0 then (some ((0 : Int32), h5)) else (some ((1 : Int32), h5)))))))))
set_option maxRecDepth 20000 in
theorem t_X9_never_0 {M : MV} {X : XT} {F : Nat} {h hz : PH} {r : Int32} {ce sl mc ms : Nat} {v0 : Nat} {v1 : Int32} {v2 : Int32} {v3 : Int32} (hc : Cx M X RX9 cX9_never) (hr : Rx M 7 408 mc ms 4) (he : Ex M X (some .int) "never" (some (.int r)) hz mc ms) (hm : ce ≤ mc) (hs : sl ≤ ms) (hf : b_X9_never_0 F h v0 v1 v2 v3 = some (r, hz)) : GG M X h ce sl 0 [(0, .ref (X.1 + v0)), (1, .int v1), (2, .int v2), (3, .int v3)] [] := by
  unfold b_X9_never_0 at hf
  refine r_iload_n hc 1 (dc_at dX9_never 0 rfl) rfl ?_
  refine ob hf fun x1 ex hf => ?_
  refine r_callSi (As := [.int v1]) hc hr (dc_at dX9_never 1 rfl) ml_X9_246 mv_X9_isModulus st_X9_isModulus rfl (mt_X9_isModulus ex) (by first | exact Nat.le_of_ble_eq_true rfl | omega) (by first | exact Nat.le_of_ble_eq_true rfl | omega) (by first | exact Nat.le_of_ble_eq_true rfl | omega) hm hs ?_
  refine r_if_eq (tgt := 16) hc (dc_at dX9_never 2 rfl) (by decide) hf (fun hf => ?_) (fun hf => ?_)
  · refine r_bipush (-3 : Int32) hc (dc_at dX9_never 8 rfl) (by decide) ?_
    exact r_iret hc he (hm) (hs) (dc_at dX9_never 9 rfl) hf
  · refine r_aload_n hc 0 (dc_at dX9_never 3 rfl) rfl ?_
    refine r_iload_n hc 2 (dc_at dX9_never 4 rfl) rfl ?_
    refine r_iload_n hc 3 (dc_at dX9_never 5 rfl) rfl ?_
    obtain ⟨ho, hf⟩ := cO_some hf
    refine ob2 hf fun x2 h3 ex hf => ?_
    refine r_callVi (As := [.int v2, .int v3]) (ci := 9) hc hr (dc_at dX9_never 6 rfl) ml_X9_132 mv_X9_asksFloor vi_X9_asksFloor rfl ho rfl (mt_X9_asksFloor ex) (by first | exact Nat.le_of_ble_eq_true rfl | omega) (by first | exact Nat.le_of_ble_eq_true rfl | omega) (by first | exact Nat.le_of_ble_eq_true rfl | omega) hm hs ?_
    refine r_if_ne (tgt := 19) hc (dc_at dX9_never 7 rfl) (by decide) hf (fun hf => ?_) (fun hf => ?_)
    · refine r_aload_n hc 0 (dc_at dX9_never 10 rfl) rfl ?_
      refine r_iload_n hc 1 (dc_at dX9_never 11 rfl) rfl ?_
      obtain ⟨ho, hf⟩ := cO_some hf
      refine ob2 hf fun x4 h5 ex hf => ?_
      refine r_callVi (As := [.int v1]) (ci := 9) hc hr (dc_at dX9_never 12 rfl) ml_X9_249 mv_X9_isNever vi_X9_isNever rfl ho rfl (mt_X9_isNever ex) (by first | exact Nat.le_of_ble_eq_true rfl | omega) (by first | exact Nat.le_of_ble_eq_true rfl | omega) (by first | exact Nat.le_of_ble_eq_true rfl | omega) hm hs ?_
      refine r_if_eq (tgt := 31) hc (dc_at dX9_never 13 rfl) (by decide) hf (fun hf => ?_) (fun hf => ?_)
      · refine r_iconst (0 : Int32) hc (dc_at dX9_never 16 rfl) (by decide) ?_
        exact r_iret hc he (hm) (hs) (dc_at dX9_never 17 rfl) hf
      · refine r_iconst (1 : Int32) hc (dc_at dX9_never 14 rfl) (by decide) ?_
        refine r_goto (tgt := 32) hc (dc_at dX9_never 15 rfl) (by decide) ?_
        exact r_iret hc he (hm) (hs) (dc_at dX9_never 17 rfl) hf
    · refine r_bipush (-3 : Int32) hc (dc_at dX9_never 8 rfl) (by decide) ?_
      exact r_iret hc he (hm) (hs) (dc_at dX9_never 9 rfl) hf
def m_X9_never (F : Nat) (h : PH) (p0 : Nat) (p1 : Int32) (p2 : Int32) (p3 : Int32) : Option (Int32 × PH) := b_X9_never_0 F h p0 p1 p2 p3
theorem mt_X9_never {l : Launch} {X : XT} {F : Nat} {h hz : PH} {p0 : Nat} {p1 : Int32} {p2 : Int32} {p3 : Int32} {r : Int32} (ex : m_X9_never F h p0 p1 p2 p3 = some (r, hz)) : MT l X yX9_never cX9_never 4 (some .int) 7 408 0 0 [.ref (X.1 + p0), .int p1, .int p2, .int p3] h (some (.int r)) hz := MT.of (by decide) (Nat.le_of_ble_eq_true rfl) fun M hl hc hr he => by
  subst hl
  exact gg_sub [0, 1, 2, 3] rfl (t_X9_never_0  hc hr he (Nat.zero_le _) (Nat.zero_le _) ex)
/-! FractionLift.shown(II)I -/
def lX9_shownL : List (Nat × Instr × Nat × Nat) := [(0, .aload_n 0, 1, 1), (1, .iload_n 1, 1, 2), (2, .iload_n 2, 1, 3), (3, .invokevirtual 132, 3, 6), (6, .ifCond .ne 6, 3, 9), (9, .bipush (-3), 2, 11), (11, .ireturn, 1, 12), (12, .iconst 2, 1, 13), (13, .istore_n 3, 1, 14), (14, .iload_n 3, 1, 15), (15, .bipush 30, 2, 17), (17, .if_icmp .gt 19, 3, 20), (20, .aload_n 0, 1, 21), (21, .iload_n 3, 1, 22), (22, .invokevirtual 249, 3, 25), (25, .ifCond .eq 5, 3, 28), (28, .iload_n 3, 1, 29), (29, .ireturn, 1, 30), (30, .iinc 3 1, 3, 33), (33, .goto (-19), 3, 36), (36, .iconst (-1), 1, 37), (37, .ireturn, 1, 38)]
set_option maxRecDepth 20000 in
theorem dX9_shown : dcL cX9_shown lX9_shownL = true := by decide +kernel
def b_X9_shown_14 (F : Nat) (self9 : PH → Nat → Int32 → Option (Int32 × PH)) (h : PH) (v0 : Nat) (v3 : Int32) : Option (Int32 × PH) := if (30 : Int32) < v3 then (some ((-1 : Int32), h)) else (cO 9 h v0 (bind2 (m_X9_isNever F h v0 v3) fun x1 h2 => (if x1 = 0 then (bindv (v3 + (1)) fun x3 => (self9 h2 v0 x3)) else (some (v3, h2)))))
set_option maxRecDepth 20000 in
theorem tb_X9_shown_14 {M : MV} {X : XT} {F : Nat} {self9 : PH → Nat → Int32 → Option (Int32 × PH)} {h hz : PH} {r : Int32} {ce sl mc ms : Nat} {v0 : Nat} {v3 : Int32} (hc : Cx M X RX9 cX9_shown) (hr : Rx M 7 408 mc ms 4) (he : Ex M X (some .int) "shown" (some (.int r)) hz mc ms) (hm : ce ≤ mc) (hs : sl ≤ ms) (ih9 : ∀ (h : PH) (v0 : Nat) (v3 : Int32), self9 h v0 v3 = some (r, hz) → GG M X h ce sl 14 [(0, .ref (X.1 + v0)), (3, .int v3)] []) (hf : b_X9_shown_14 F self9 h v0 v3 = some (r, hz)) : GG M X h ce sl 14 [(0, .ref (X.1 + v0)), (3, .int v3)] [] := by
  unfold b_X9_shown_14 at hf
  refine r_iload_n hc 1 (dc_at dX9_shown 9 rfl) rfl ?_
  refine r_bipush (30 : Int32) hc (dc_at dX9_shown 10 rfl) (by decide) ?_
  refine r_icmp_gt (tgt := 36) hc (dc_at dX9_shown 11 rfl) (by decide) hf (fun hf => ?_) (fun hf => ?_)
  · refine r_iconst (-1 : Int32) hc (dc_at dX9_shown 20 rfl) (by decide) ?_
    exact r_iret hc he (hm) (hs) (dc_at dX9_shown 21 rfl) hf
  · refine r_aload_n hc 0 (dc_at dX9_shown 12 rfl) rfl ?_
    refine r_iload_n hc 1 (dc_at dX9_shown 13 rfl) rfl ?_
    obtain ⟨ho, hf⟩ := cO_some hf
    refine ob2 hf fun x1 h2 ex hf => ?_
    refine r_callVi (As := [.int v3]) (ci := 9) hc hr (dc_at dX9_shown 14 rfl) ml_X9_249 mv_X9_isNever vi_X9_isNever rfl ho rfl (mt_X9_isNever ex) (by first | exact Nat.le_of_ble_eq_true rfl | omega) (by first | exact Nat.le_of_ble_eq_true rfl | omega) (by first | exact Nat.le_of_ble_eq_true rfl | omega) hm hs ?_
    refine r_if_eq (tgt := 30) hc (dc_at dX9_shown 15 rfl) (by decide) hf (fun hf => ?_) (fun hf => ?_)
    · refine obv hf fun x3 e_x3 hf => ?_
      refine r_iinc 1 [(3, .int x3), (0, .ref (X.1 + v0))] hc hr (dc_at dX9_shown 18 rfl) rfl (by rw [e_x3]; rfl) (by decide) rfl ?_
      refine r_goto (tgt := 14) hc (dc_at dX9_shown 19 rfl) (by decide) ?_
      exact gg_sub [1, 0] rfl (ih9 _ _ _ hf)
    · refine r_iload_n hc 1 (dc_at dX9_shown 16 rfl) rfl ?_
      exact r_iret hc he (hm) (hs) (dc_at dX9_shown 17 rfl) hf
def l_X9_shown_14 (F : Nat) : Nat → PH → Nat → Int32 → Option (Int32 × PH)
  | 0 => fun _ _ _ => none
  | n + 1 => fun h v0 v3 => b_X9_shown_14 F (l_X9_shown_14 F n) h v0 v3
theorem tl_X9_shown_14 {M : MV} {X : XT} {F : Nat} {hz : PH} {r : Int32} {ce sl mc ms : Nat} (hc : Cx M X RX9 cX9_shown) (hr : Rx M 7 408 mc ms 4) (he : Ex M X (some .int) "shown" (some (.int r)) hz mc ms) (hm : ce ≤ mc) (hs : sl ≤ ms) (n : Nat) : ∀ (h : PH) (v0 : Nat) (v3 : Int32), l_X9_shown_14 F n h v0 v3 = some (r, hz) → GG M X h ce sl 14 [(0, .ref (X.1 + v0)), (3, .int v3)] [] := by
  induction n with
  | zero => intro h v0 v3 hf; cases hf
  | succ n ih => intro h v0 v3 hf; exact tb_X9_shown_14 (F := F) hc hr he hm hs  ih hf
def b_X9_shown_0 (F : Nat) (h : PH) (v0 : Nat) (v1 : Int32) (v2 : Int32) : Option (Int32 × PH) := cO 9 h v0 (bind2 (m_X9_asksFloor F h v0 v1 v2) fun x1 h2 => (if x1 = 0 then (some ((-3 : Int32), h2)) else (l_X9_shown_14 F F h2 v0 (2 : Int32))))
set_option maxRecDepth 20000 in
theorem t_X9_shown_0 {M : MV} {X : XT} {F : Nat} {h hz : PH} {r : Int32} {ce sl mc ms : Nat} {v0 : Nat} {v1 : Int32} {v2 : Int32} (hc : Cx M X RX9 cX9_shown) (hr : Rx M 7 408 mc ms 4) (he : Ex M X (some .int) "shown" (some (.int r)) hz mc ms) (hm : ce ≤ mc) (hs : sl ≤ ms) (hf : b_X9_shown_0 F h v0 v1 v2 = some (r, hz)) : GG M X h ce sl 0 [(0, .ref (X.1 + v0)), (1, .int v1), (2, .int v2)] [] := by
  unfold b_X9_shown_0 at hf
  refine r_aload_n hc 0 (dc_at dX9_shown 0 rfl) rfl ?_
  refine r_iload_n hc 1 (dc_at dX9_shown 1 rfl) rfl ?_
  refine r_iload_n hc 2 (dc_at dX9_shown 2 rfl) rfl ?_
  obtain ⟨ho, hf⟩ := cO_some hf
  refine ob2 hf fun x1 h2 ex hf => ?_
  refine r_callVi (As := [.int v1, .int v2]) (ci := 9) hc hr (dc_at dX9_shown 3 rfl) ml_X9_132 mv_X9_asksFloor vi_X9_asksFloor rfl ho rfl (mt_X9_asksFloor ex) (by first | exact Nat.le_of_ble_eq_true rfl | omega) (by first | exact Nat.le_of_ble_eq_true rfl | omega) (by first | exact Nat.le_of_ble_eq_true rfl | omega) hm hs ?_
  refine r_if_ne (tgt := 12) hc (dc_at dX9_shown 4 rfl) (by decide) hf (fun hf => ?_) (fun hf => ?_)
  · refine r_iconst (2 : Int32) hc (dc_at dX9_shown 7 rfl) (by decide) ?_
    refine r_istore_n [(3, .int ((2 : Int32))), (0, .ref (X.1 + v0)), (1, .int v1), (2, .int v2)] hc hr (dc_at dX9_shown 8 rfl) (by decide) rfl ?_
    exact gg_sub [1, 0] rfl (tl_X9_shown_14 hc hr he hm hs  F _ _ _ hf)
  · refine r_bipush (-3 : Int32) hc (dc_at dX9_shown 5 rfl) (by decide) ?_
    exact r_iret hc he (hm) (hs) (dc_at dX9_shown 6 rfl) hf
def m_X9_shown (F : Nat) (h : PH) (p0 : Nat) (p1 : Int32) (p2 : Int32) : Option (Int32 × PH) := b_X9_shown_0 F h p0 p1 p2
theorem mt_X9_shown {l : Launch} {X : XT} {F : Nat} {h hz : PH} {p0 : Nat} {p1 : Int32} {p2 : Int32} {r : Int32} (ex : m_X9_shown F h p0 p1 p2 = some (r, hz)) : MT l X yX9_shown cX9_shown 4 (some .int) 7 408 0 0 [.ref (X.1 + p0), .int p1, .int p2] h (some (.int r)) hz := MT.of (by decide) (Nat.le_of_ble_eq_true rfl) fun M hl hc hr he => by
  subst hl
  exact gg_sub [0, 1, 2] rfl (t_X9_shown_0  hc hr he (Nat.zero_le _) (Nat.zero_le _) ex)
/-! FractionLift.rests(I)I -/
def lX9_restsL : List (Nat × Instr × Nat × Nat) := [(0, .iload_n 1, 1, 1), (1, .invokestatic 246, 3, 4), (4, .ifCond .eq 11, 3, 7), (7, .aload_n 0, 1, 8), (8, .iload_n 1, 1, 9), (9, .invokevirtual 252, 3, 12), (12, .goto 5, 3, 15), (15, .bipush (-3), 2, 17), (17, .ireturn, 1, 18)]
set_option maxRecDepth 20000 in
theorem dX9_rests : dcL cX9_rests lX9_restsL = true := by decide +kernel
def b_X9_rests_0 (F : Nat) (h : PH) (v0 : Nat) (v1 : Int32) : Option (Int32 × PH) := (m_X9_isModulus v1).bind fun x1 => (if x1 = 0 then (some ((-3 : Int32), h)) else (cO 9 h v0 (bind2 (m_X9_remaindersBy F h v0 v1) fun x2 h3 => (some (x2, h3)))))
set_option maxRecDepth 20000 in
theorem t_X9_rests_0 {M : MV} {X : XT} {F : Nat} {h hz : PH} {r : Int32} {ce sl mc ms : Nat} {v0 : Nat} {v1 : Int32} (hc : Cx M X RX9 cX9_rests) (hr : Rx M 6 350 mc ms 2) (he : Ex M X (some .int) "rests" (some (.int r)) hz mc ms) (hm : ce ≤ mc) (hs : sl ≤ ms) (hf : b_X9_rests_0 F h v0 v1 = some (r, hz)) : GG M X h ce sl 0 [(0, .ref (X.1 + v0)), (1, .int v1)] [] := by
  unfold b_X9_rests_0 at hf
  refine r_iload_n hc 1 (dc_at dX9_rests 0 rfl) rfl ?_
  refine ob hf fun x1 ex hf => ?_
  refine r_callSi (As := [.int v1]) hc hr (dc_at dX9_rests 1 rfl) ml_X9_246 mv_X9_isModulus st_X9_isModulus rfl (mt_X9_isModulus ex) (by first | exact Nat.le_of_ble_eq_true rfl | omega) (by first | exact Nat.le_of_ble_eq_true rfl | omega) (by first | exact Nat.le_of_ble_eq_true rfl | omega) hm hs ?_
  refine r_if_eq (tgt := 15) hc (dc_at dX9_rests 2 rfl) (by decide) hf (fun hf => ?_) (fun hf => ?_)
  · refine r_bipush (-3 : Int32) hc (dc_at dX9_rests 7 rfl) (by decide) ?_
    exact r_iret hc he (hm) (hs) (dc_at dX9_rests 8 rfl) hf
  · refine r_aload_n hc 0 (dc_at dX9_rests 3 rfl) rfl ?_
    refine r_iload_n hc 1 (dc_at dX9_rests 4 rfl) rfl ?_
    obtain ⟨ho, hf⟩ := cO_some hf
    refine ob2 hf fun x2 h3 ex hf => ?_
    refine r_callVi (As := [.int v1]) (ci := 9) hc hr (dc_at dX9_rests 5 rfl) ml_X9_252 mv_X9_remaindersBy vi_X9_remaindersBy rfl ho rfl (mt_X9_remaindersBy ex) (by first | exact Nat.le_of_ble_eq_true rfl | omega) (by first | exact Nat.le_of_ble_eq_true rfl | omega) (by first | exact Nat.le_of_ble_eq_true rfl | omega) hm hs ?_
    refine r_goto (tgt := 17) hc (dc_at dX9_rests 6 rfl) (by decide) ?_
    exact r_iret hc he (hm) (hs) (dc_at dX9_rests 8 rfl) hf
def m_X9_rests (F : Nat) (h : PH) (p0 : Nat) (p1 : Int32) : Option (Int32 × PH) := b_X9_rests_0 F h p0 p1
theorem mt_X9_rests {l : Launch} {X : XT} {F : Nat} {h hz : PH} {p0 : Nat} {p1 : Int32} {r : Int32} (ex : m_X9_rests F h p0 p1 = some (r, hz)) : MT l X yX9_rests cX9_rests 2 (some .int) 6 350 0 0 [.ref (X.1 + p0), .int p1] h (some (.int r)) hz := MT.of (by decide) (Nat.le_of_ble_eq_true rfl) fun M hl hc hr he => by
  subst hl
  exact gg_sub [0, 1] rfl (t_X9_rests_0  hc hr he (Nat.zero_le _) (Nat.zero_le _) ex)
/-! FractionLift.meet(IIZI)I -/
def lX9_meetL : List (Nat × Instr × Nat × Nat) := [(0, .aload_n 0, 1, 1), (1, .getfield 26, 3, 4), (4, .getfield 119, 3, 7), (7, .istore 5, 2, 9), (9, .iload_n 1, 1, 10), (10, .ifCond .lt 35, 3, 13), (13, .iload_n 1, 1, 14), (14, .iload 5, 2, 16), (16, .if_icmp .ge 29, 3, 19), (19, .iload_n 2, 1, 20), (20, .ifCond .lt 25, 3, 23), (23, .iload_n 2, 1, 24), (24, .iload 5, 2, 26), (26, .if_icmp .ge 19, 3, 29), (29, .iload_n 1, 1, 30), (30, .iload_n 2, 1, 31), (31, .if_icmp .eq 14, 3, 34), (34, .iload 4, 2, 36), (36, .ifCond .lt 9, 3, 39), (39, .iload 4, 2, 41), (41, .iconst 2, 1, 42), (42, .if_icmp .le 6, 3, 45), (45, .bipush (-2), 2, 47), (47, .ireturn, 1, 48), (48, .aload_n 0, 1, 49), (49, .invokevirtual 210, 3, 52), (52, .astore 6, 2, 54), (54, .aload 6, 2, 56), (56, .iload_n 1, 1, 57), (57, .iload_n 2, 1, 58), (58, .iload_n 3, 1, 59), (59, .invokevirtual 255, 3, 62), (62, .istore 7, 2, 64), (64, .iload 7, 2, 66), (66, .iconst (-1), 1, 67), (67, .if_icmp .eq 8, 3, 70), (70, .iload 4, 2, 72), (72, .ifCond .ne 6, 3, 75), (75, .iload 7, 2, 77), (77, .ireturn, 1, 78), (78, .iload 4, 2, 80), (80, .iconst 1, 1, 81), (81, .if_icmp .ne 20, 3, 84), (84, .aload 6, 2, 86), (86, .getfield 225, 3, 89), (89, .getfield 235, 3, 92), (92, .aload 6, 2, 94), (94, .getfield 259, 3, 97), (97, .iaload, 1, 98), (98, .goto 17, 3, 101), (101, .aload 6, 2, 103), (103, .getfield 225, 3, 106), (106, .getfield 237, 3, 109), (109, .aload 6, 2, 111), (111, .getfield 259, 3, 114), (114, .iaload, 1, 115), (115, .ireturn, 1, 116)]
set_option maxRecDepth 20000 in
theorem dX9_meet : dcL cX9_meet lX9_meetL = true := by decide +kernel
def b_X9_meet_0 (F : Nat) (h : PH) (v0 : Nat) (v1 : Int32) (v2 : Int32) (v3 : Int32) (v4 : Int32) : Option (Int32 × PH) := (gR 9 4 h v0).bind fun a1 => ((gI 0 15 h a1).bind fun x2 => (if v1 < 0 then (some ((-2 : Int32), h)) else (if x2 ≤ v1 then (some ((-2 : Int32), h)) else (if v2 < 0 then (some ((-2 : Int32), h)) else (if x2 ≤ v2 then (some ((-2 : Int32), h)) else (if v1 = v2 then (some ((-2 : Int32), h)) else (if v4 < 0 then (some ((-2 : Int32), h)) else (if v4 ≤ (2 : Int32) then (cO 9 h v0 (bind2 (m_X9_routesFromHere F h v0) fun a3 h4 => (cO 5 h4 a3 (bind2 (m_X5_seekMeeting F h4 a3 v1 v2 v3) fun x5 h6 => (if x5 = (-1 : Int32) then (some (x5, h6)) else (if v4 = 0 then (some (x5, h6)) else (if v4 = (1 : Int32) then ((gR 5 0 h6 a3).bind fun a11 => ((gR 1 0 h6 a11).bind fun a12 => ((gI 5 3 h6 a3).bind fun x13 => ((aI 0 h6 a12 x13).bind fun x14 => (some (x14, h6)))))) else ((gR 5 0 h6 a3).bind fun a7 => ((gR 1 1 h6 a7).bind fun a8 => ((gI 5 3 h6 a3).bind fun x9 => ((aI 0 h6 a8 x9).bind fun x10 => (some (x10, h6))))))))))))) else (some ((-2 : Int32), h))))))))))
set_option maxRecDepth 20000 in
theorem t_X9_meet_0 {M : MV} {X : XT} {F : Nat} {h hz : PH} {r : Int32} {mc ms : Nat} {v0 : Nat} {v1 : Int32} {v2 : Int32} {v3 : Int32} {v4 : Int32} (hc : Cx M X RX9 cX9_meet) (hr : Rx M 7 408 mc ms 8) (he : Ex M X (some .int) "meet" (some (.int r)) hz mc ms) (hm : 0 ≤ mc) (hs : 0 ≤ ms) (hcost : gN 9 16 h v0 = some none → 10 ≤ mc ∧ 46057 ≤ ms) (hf : b_X9_meet_0 F h v0 v1 v2 v3 v4 = some (r, hz)) : GG M X h 0 0 0 [(0, .ref (X.1 + v0)), (1, .int v1), (2, .int v2), (3, .int v3), (4, .int v4)] [] := by
  unfold b_X9_meet_0 at hf
  refine r_aload_n hc 0 (dc_at dX9_meet 0 rfl) rfl ?_
  refine r_getR hc (dc_at dX9_meet 1 rfl) fl_X9_26 hf fun a1 hf => ?_
  refine r_getI hc (dc_at dX9_meet 2 rfl) fl_X9_119 hf fun x2 hf => ?_
  refine r_istore [(5, .int x2), (0, .ref (X.1 + v0)), (1, .int v1), (2, .int v2), (3, .int v3), (4, .int v4)] hc hr (dc_at dX9_meet 3 rfl) (by decide) rfl ?_
  refine r_iload_n hc 2 (dc_at dX9_meet 4 rfl) rfl ?_
  refine r_if_lt (tgt := 45) hc (dc_at dX9_meet 5 rfl) (by decide) hf (fun hf => ?_) (fun hf => ?_)
  · refine r_bipush (-2 : Int32) hc (dc_at dX9_meet 22 rfl) (by decide) ?_
    exact r_iret hc he (by omega) (by omega) (dc_at dX9_meet 23 rfl) hf
  · refine r_iload_n hc 2 (dc_at dX9_meet 6 rfl) rfl ?_
    refine r_iload hc 0 (dc_at dX9_meet 7 rfl) rfl ?_
    refine r_icmp_ge (tgt := 45) hc (dc_at dX9_meet 8 rfl) (by decide) hf (fun hf => ?_) (fun hf => ?_)
    · refine r_bipush (-2 : Int32) hc (dc_at dX9_meet 22 rfl) (by decide) ?_
      exact r_iret hc he (by omega) (by omega) (dc_at dX9_meet 23 rfl) hf
    · refine r_iload_n hc 3 (dc_at dX9_meet 9 rfl) rfl ?_
      refine r_if_lt (tgt := 45) hc (dc_at dX9_meet 10 rfl) (by decide) hf (fun hf => ?_) (fun hf => ?_)
      · refine r_bipush (-2 : Int32) hc (dc_at dX9_meet 22 rfl) (by decide) ?_
        exact r_iret hc he (by omega) (by omega) (dc_at dX9_meet 23 rfl) hf
      · refine r_iload_n hc 3 (dc_at dX9_meet 11 rfl) rfl ?_
        refine r_iload hc 0 (dc_at dX9_meet 12 rfl) rfl ?_
        refine r_icmp_ge (tgt := 45) hc (dc_at dX9_meet 13 rfl) (by decide) hf (fun hf => ?_) (fun hf => ?_)
        · refine r_bipush (-2 : Int32) hc (dc_at dX9_meet 22 rfl) (by decide) ?_
          exact r_iret hc he (by omega) (by omega) (dc_at dX9_meet 23 rfl) hf
        · refine r_iload_n hc 2 (dc_at dX9_meet 14 rfl) rfl ?_
          refine r_iload_n hc 3 (dc_at dX9_meet 15 rfl) rfl ?_
          refine r_icmp_eq (tgt := 45) hc (dc_at dX9_meet 16 rfl) (by decide) hf (fun hf => ?_) (fun hf => ?_)
          · refine r_bipush (-2 : Int32) hc (dc_at dX9_meet 22 rfl) (by decide) ?_
            exact r_iret hc he (by omega) (by omega) (dc_at dX9_meet 23 rfl) hf
          · refine r_iload hc 5 (dc_at dX9_meet 17 rfl) rfl ?_
            refine r_if_lt (tgt := 45) hc (dc_at dX9_meet 18 rfl) (by decide) hf (fun hf => ?_) (fun hf => ?_)
            · refine r_bipush (-2 : Int32) hc (dc_at dX9_meet 22 rfl) (by decide) ?_
              exact r_iret hc he (by omega) (by omega) (dc_at dX9_meet 23 rfl) hf
            · refine r_iload hc 5 (dc_at dX9_meet 19 rfl) rfl ?_
              refine r_iconst (2 : Int32) hc (dc_at dX9_meet 20 rfl) (by decide) ?_
              refine r_icmp_le (tgt := 48) hc (dc_at dX9_meet 21 rfl) (by decide) hf (fun hf => ?_) (fun hf => ?_)
              · refine r_aload_n hc 1 (dc_at dX9_meet 24 rfl) rfl ?_
                obtain ⟨ho, hf⟩ := cO_some hf
                refine ob2 hf fun a3 h4 ex hf => ?_
                refine r_callVrC (As := []) (ci := 9) hc hr (dc_at dX9_meet 25 rfl) ml_X9_210 mv_X9_routesFromHere vi_X9_routesFromHere rfl ho rfl (mt_X9_routesFromHere ex hcost) (by first | exact Nat.le_of_ble_eq_true rfl | omega) (by first | exact Nat.le_of_ble_eq_true rfl | omega) (by first | exact Nat.le_of_ble_eq_true rfl | omega) (by omega) (by omega) ?_
                refine r_astore [(6, .ref (X.1 + a3)), (5, .int x2), (0, .ref (X.1 + v0)), (1, .int v1), (2, .int v2), (3, .int v3), (4, .int v4)] hc hr (dc_at dX9_meet 26 rfl) (by decide) rfl ?_
                refine r_aload hc 0 (dc_at dX9_meet 27 rfl) rfl ?_
                refine r_iload_n hc 3 (dc_at dX9_meet 28 rfl) rfl ?_
                refine r_iload_n hc 4 (dc_at dX9_meet 29 rfl) rfl ?_
                refine r_iload_n hc 5 (dc_at dX9_meet 30 rfl) rfl ?_
                obtain ⟨ho, hf⟩ := cO_some hf
                refine ob2 hf fun x5 h6 ex hf => ?_
                refine r_callVi (As := [.int v1, .int v2, .int v3]) (ci := 5) hc hr (dc_at dX9_meet 31 rfl) ml_X9_255 mv_X5_seekMeeting vi_X5_seekMeeting rfl ho rfl (mt_X5_seekMeeting ex) (by first | exact Nat.le_of_ble_eq_true rfl | omega) (by first | exact Nat.le_of_ble_eq_true rfl | omega) (by first | exact Nat.le_of_ble_eq_true rfl | omega) (by omega) (by omega) ?_
                refine r_istore [(7, .int x5), (6, .ref (X.1 + a3)), (5, .int x2), (0, .ref (X.1 + v0)), (1, .int v1), (2, .int v2), (3, .int v3), (4, .int v4)] hc hr (dc_at dX9_meet 32 rfl) (by decide) rfl ?_
                refine r_iload hc 0 (dc_at dX9_meet 33 rfl) rfl ?_
                refine r_iconst (-1 : Int32) hc (dc_at dX9_meet 34 rfl) (by decide) ?_
                refine r_icmp_eq (tgt := 75) hc (dc_at dX9_meet 35 rfl) (by decide) hf (fun hf => ?_) (fun hf => ?_)
                · refine r_iload hc 0 (dc_at dX9_meet 38 rfl) rfl ?_
                  exact r_iret hc he (by omega) (by omega) (dc_at dX9_meet 39 rfl) hf
                · refine r_iload hc 7 (dc_at dX9_meet 36 rfl) rfl ?_
                  refine r_if_ne (tgt := 78) hc (dc_at dX9_meet 37 rfl) (by decide) hf (fun hf => ?_) (fun hf => ?_)
                  · refine r_iload hc 7 (dc_at dX9_meet 40 rfl) rfl ?_
                    refine r_iconst (1 : Int32) hc (dc_at dX9_meet 41 rfl) (by decide) ?_
                    refine r_icmp_ne (tgt := 101) hc (dc_at dX9_meet 42 rfl) (by decide) hf (fun hf => ?_) (fun hf => ?_)
                    · refine r_aload hc 1 (dc_at dX9_meet 50 rfl) rfl ?_
                      refine r_getR hc (dc_at dX9_meet 51 rfl) fl_X9_225 hf fun a7 hf => ?_
                      refine r_getR hc (dc_at dX9_meet 52 rfl) fl_X9_237 hf fun a8 hf => ?_
                      refine r_aload hc 1 (dc_at dX9_meet 53 rfl) rfl ?_
                      refine r_getI hc (dc_at dX9_meet 54 rfl) fl_X9_259 hf fun x9 hf => ?_
                      refine r_iaload hc (dc_at dX9_meet 55 rfl) hf fun x10 hf => ?_
                      exact r_iret hc he (by omega) (by omega) (dc_at dX9_meet 56 rfl) hf
                    · refine r_aload hc 1 (dc_at dX9_meet 43 rfl) rfl ?_
                      refine r_getR hc (dc_at dX9_meet 44 rfl) fl_X9_225 hf fun a11 hf => ?_
                      refine r_getR hc (dc_at dX9_meet 45 rfl) fl_X9_235 hf fun a12 hf => ?_
                      refine r_aload hc 1 (dc_at dX9_meet 46 rfl) rfl ?_
                      refine r_getI hc (dc_at dX9_meet 47 rfl) fl_X9_259 hf fun x13 hf => ?_
                      refine r_iaload hc (dc_at dX9_meet 48 rfl) hf fun x14 hf => ?_
                      refine r_goto (tgt := 115) hc (dc_at dX9_meet 49 rfl) (by decide) ?_
                      exact r_iret hc he (by omega) (by omega) (dc_at dX9_meet 56 rfl) hf
                  · refine r_iload hc 0 (dc_at dX9_meet 38 rfl) rfl ?_
                    exact r_iret hc he (by omega) (by omega) (dc_at dX9_meet 39 rfl) hf
              · refine r_bipush (-2 : Int32) hc (dc_at dX9_meet 22 rfl) (by decide) ?_
                exact r_iret hc he (by omega) (by omega) (dc_at dX9_meet 23 rfl) hf
def m_X9_meet (F : Nat) (h : PH) (p0 : Nat) (p1 : Int32) (p2 : Int32) (p3 : Int32) (p4 : Int32) : Option (Int32 × PH) := b_X9_meet_0 F h p0 p1 p2 p3 p4
theorem mt_X9_meet {l : Launch} {X : XT} {F : Nat} {h hz : PH} {p0 : Nat} {p1 : Int32} {p2 : Int32} {p3 : Int32} {p4 : Int32} {r : Int32} {mc ms : Nat} (ex : m_X9_meet F h p0 p1 p2 p3 p4 = some (r, hz)) (hcost : gN 9 16 h p0 = some none → 10 ≤ mc ∧ 46057 ≤ ms) : MT l X yX9_meet cX9_meet 8 (some .int) 7 408 mc ms [.ref (X.1 + p0), .int p1, .int p2, .int p3, .int p4] h (some (.int r)) hz := MT.of (by decide) (Nat.le_of_ble_eq_true rfl) fun M hl hc hr he => by
  subst hl
  exact gg_sub [0, 1, 2, 3, 4] rfl (t_X9_meet_0  hc hr he (Nat.zero_le _) (Nat.zero_le _) hcost ex)
/-! FractionLift.layTerms(JJ)I -/
def lX9_layTermsL : List (Nat × Instr × Nat × Nat) := [(0, .lload_n 1, 1, 1), (1, .lstore 5, 2, 3), (3, .lload_n 3, 1, 4), (4, .lstore 7, 2, 6), (6, .iconst 0, 1, 7), (7, .istore 9, 2, 9), (9, .iconst 0, 1, 10), (10, .istore 10, 2, 12), (12, .iload 10, 2, 14), (14, .aload_n 0, 1, 15), (15, .getfield 66, 3, 18), (18, .arraylength, 1, 19), (19, .if_icmp .ge 46, 3, 22), (22, .lload 7, 2, 24), (24, .lconst 0, 1, 25), (25, .lcmp, 1, 26), (26, .ifCond .eq 39, 3, 29), (29, .aload_n 0, 1, 30), (30, .getfield 66, 3, 33), (33, .iload 10, 2, 35), (35, .lload 5, 2, 37), (37, .lload 7, 2, 39), (39, .ldiv, 1, 40), (40, .lastore, 1, 41), (41, .lload 5, 2, 43), (43, .lload 7, 2, 45), (45, .lrem, 1, 46), (46, .lstore 11, 2, 48), (48, .lload 7, 2, 50), (50, .lstore 5, 2, 52), (52, .lload 11, 2, 54), (54, .lstore 7, 2, 56), (56, .iinc 9 1, 3, 59), (59, .iinc 10 1, 3, 62), (62, .goto (-50), 3, 65), (65, .iload 9, 2, 67), (67, .ireturn, 1, 68)]
set_option maxRecDepth 20000 in
theorem dX9_layTerms : dcL cX9_layTerms lX9_layTermsL = true := by decide +kernel
def b_X9_layTerms_12 (F : Nat) (self8 : PH → Nat → Int64 → Int64 → Int32 → Int32 → Option (Int32 × PH)) (h : PH) (v0 : Nat) (v5 : Int64) (v7 : Int64) (v9 : Int32) (v10 : Int32) : Option (Int32 × PH) := (gR 9 14 h v0).bind fun a1 => ((aLen h a1).bind fun x2 => (if x2 ≤ v10 then (some (v9, h)) else (if v7 = (0 : Int64) then (some (v9, h)) else ((gR 9 14 h v0).bind fun a3 => (if v7 = 0 then none else ((sL h a3 v10 (v5 / v7)).bind fun h4 => (if v7 = 0 then none else (bindv (remL v5 v7) fun x5 => (bindv (v9 + (1)) fun x6 => (bindv (v10 + (1)) fun x7 => (self8 h4 v0 v7 x5 x6 x7)))))))))))
set_option maxRecDepth 20000 in
theorem tb_X9_layTerms_12 {M : MV} {X : XT} {F : Nat} {self8 : PH → Nat → Int64 → Int64 → Int32 → Int32 → Option (Int32 × PH)} {h hz : PH} {r : Int32} {ce sl mc ms : Nat} {v0 : Nat} {v5 : Int64} {v7 : Int64} {v9 : Int32} {v10 : Int32} (hc : Cx M X RX9 cX9_layTerms) (hr : Rx M 1 60 mc ms 13) (he : Ex M X (some .int) "layTerms" (some (.int r)) hz mc ms) (hm : ce ≤ mc) (hs : sl ≤ ms) (ih8 : ∀ (h : PH) (v0 : Nat) (v5 : Int64) (v7 : Int64) (v9 : Int32) (v10 : Int32), self8 h v0 v5 v7 v9 v10 = some (r, hz) → GG M X h ce sl 12 [(0, .ref (X.1 + v0)), (5, .long v5), (7, .long v7), (9, .int v9), (10, .int v10)] []) (hf : b_X9_layTerms_12 F self8 h v0 v5 v7 v9 v10 = some (r, hz)) : GG M X h ce sl 12 [(0, .ref (X.1 + v0)), (5, .long v5), (7, .long v7), (9, .int v9), (10, .int v10)] [] := by
  unfold b_X9_layTerms_12 at hf
  refine r_iload hc 4 (dc_at dX9_layTerms 8 rfl) rfl ?_
  refine r_aload_n hc 0 (dc_at dX9_layTerms 9 rfl) rfl ?_
  refine r_getR hc (dc_at dX9_layTerms 10 rfl) fl_X9_66 hf fun a1 hf => ?_
  refine r_alen hc (dc_at dX9_layTerms 11 rfl) hf fun x2 hf => ?_
  refine r_icmp_ge (tgt := 65) hc (dc_at dX9_layTerms 12 rfl) (by decide) hf (fun hf => ?_) (fun hf => ?_)
  · refine r_iload hc 3 (dc_at dX9_layTerms 35 rfl) rfl ?_
    exact r_iret hc he (hm) (hs) (dc_at dX9_layTerms 36 rfl) hf
  · refine r_lload hc 2 (dc_at dX9_layTerms 13 rfl) rfl ?_
    refine r_lconst (0 : Int64) hc (dc_at dX9_layTerms 14 rfl) (by decide) ?_
    refine r_lcmp_eq (tgt := 65) hc (dc_at dX9_layTerms 15 rfl) (dc_at dX9_layTerms 16 rfl) (by decide) hf (fun hf => ?_) (fun hf => ?_)
    · refine r_iload hc 3 (dc_at dX9_layTerms 35 rfl) rfl ?_
      exact r_iret hc he (hm) (hs) (dc_at dX9_layTerms 36 rfl) hf
    · refine r_aload_n hc 0 (dc_at dX9_layTerms 17 rfl) rfl ?_
      refine r_getR hc (dc_at dX9_layTerms 18 rfl) fl_X9_66 hf fun a3 hf => ?_
      refine r_iload hc 4 (dc_at dX9_layTerms 19 rfl) rfl ?_
      refine r_lload hc 1 (dc_at dX9_layTerms 20 rfl) rfl ?_
      refine r_lload hc 2 (dc_at dX9_layTerms 21 rfl) rfl ?_
      refine r_ldiv hc (dc_at dX9_layTerms 22 rfl) hf (fun hf => ?_)
      refine r_lastore hc (dc_at dX9_layTerms 23 rfl) hf fun h4 hf => ?_
      refine r_lload hc 1 (dc_at dX9_layTerms 24 rfl) rfl ?_
      refine r_lload hc 2 (dc_at dX9_layTerms 25 rfl) rfl ?_
      refine r_lrem hc (dc_at dX9_layTerms 26 rfl) hf (fun hf => ?_)
      refine r_nm (mk := Value.long) hf fun x5 hf => ?_
      refine r_lstore [(11, .long x5), (0, .ref (X.1 + v0)), (5, .long v5), (7, .long v7), (9, .int v9), (10, .int v10)] hc hr (dc_at dX9_layTerms 27 rfl) (by decide) rfl ?_
      refine r_lload hc 3 (dc_at dX9_layTerms 28 rfl) rfl ?_
      refine r_lstore [(5, .long v7), (11, .long x5), (0, .ref (X.1 + v0)), (7, .long v7), (9, .int v9), (10, .int v10)] hc hr (dc_at dX9_layTerms 29 rfl) (by decide) rfl ?_
      refine r_lload hc 1 (dc_at dX9_layTerms 30 rfl) rfl ?_
      refine r_lstore [(7, .long x5), (5, .long v7), (11, .long x5), (0, .ref (X.1 + v0)), (9, .int v9), (10, .int v10)] hc hr (dc_at dX9_layTerms 31 rfl) (by decide) rfl ?_
      refine obv hf fun x6 e_x6 hf => ?_
      refine r_iinc 4 [(9, .int x6), (7, .long x5), (5, .long v7), (11, .long x5), (0, .ref (X.1 + v0)), (10, .int v10)] hc hr (dc_at dX9_layTerms 32 rfl) rfl (by rw [e_x6]; rfl) (by decide) rfl ?_
      refine obv hf fun x7 e_x7 hf => ?_
      refine r_iinc 5 [(10, .int x7), (9, .int x6), (7, .long x5), (5, .long v7), (11, .long x5), (0, .ref (X.1 + v0))] hc hr (dc_at dX9_layTerms 33 rfl) rfl (by rw [e_x7]; rfl) (by decide) rfl ?_
      refine r_goto (tgt := 12) hc (dc_at dX9_layTerms 34 rfl) (by decide) ?_
      exact gg_sub [5, 3, 2, 1, 0] rfl (ih8 _ _ _ _ _ _ hf)
def l_X9_layTerms_12 (F : Nat) : Nat → PH → Nat → Int64 → Int64 → Int32 → Int32 → Option (Int32 × PH)
  | 0 => fun _ _ _ _ _ _ => none
  | n + 1 => fun h v0 v5 v7 v9 v10 => b_X9_layTerms_12 F (l_X9_layTerms_12 F n) h v0 v5 v7 v9 v10
theorem tl_X9_layTerms_12 {M : MV} {X : XT} {F : Nat} {hz : PH} {r : Int32} {ce sl mc ms : Nat} (hc : Cx M X RX9 cX9_layTerms) (hr : Rx M 1 60 mc ms 13) (he : Ex M X (some .int) "layTerms" (some (.int r)) hz mc ms) (hm : ce ≤ mc) (hs : sl ≤ ms) (n : Nat) : ∀ (h : PH) (v0 : Nat) (v5 : Int64) (v7 : Int64) (v9 : Int32) (v10 : Int32), l_X9_layTerms_12 F n h v0 v5 v7 v9 v10 = some (r, hz) → GG M X h ce sl 12 [(0, .ref (X.1 + v0)), (5, .long v5), (7, .long v7), (9, .int v9), (10, .int v10)] [] := by
  induction n with
  | zero => intro h v0 v5 v7 v9 v10 hf; cases hf
  | succ n ih => intro h v0 v5 v7 v9 v10 hf; exact tb_X9_layTerms_12 (F := F) hc hr he hm hs  ih hf
def b_X9_layTerms_0 (F : Nat) (h : PH) (v0 : Nat) (v1 : Int64) (v3 : Int64) : Option (Int32 × PH) := l_X9_layTerms_12 F F h v0 v1 v3 (0 : Int32) (0 : Int32)
set_option maxRecDepth 20000 in
theorem t_X9_layTerms_0 {M : MV} {X : XT} {F : Nat} {h hz : PH} {r : Int32} {ce sl mc ms : Nat} {v0 : Nat} {v1 : Int64} {v3 : Int64} (hc : Cx M X RX9 cX9_layTerms) (hr : Rx M 1 60 mc ms 13) (he : Ex M X (some .int) "layTerms" (some (.int r)) hz mc ms) (hm : ce ≤ mc) (hs : sl ≤ ms) (hf : b_X9_layTerms_0 F h v0 v1 v3 = some (r, hz)) : GG M X h ce sl 0 [(0, .ref (X.1 + v0)), (1, .long v1), (3, .long v3)] [] := by
  unfold b_X9_layTerms_0 at hf
  refine r_lload_n hc 1 (dc_at dX9_layTerms 0 rfl) rfl ?_
  refine r_lstore [(5, .long v1), (0, .ref (X.1 + v0)), (1, .long v1), (3, .long v3)] hc hr (dc_at dX9_layTerms 1 rfl) (by decide) rfl ?_
  refine r_lload_n hc 3 (dc_at dX9_layTerms 2 rfl) rfl ?_
  refine r_lstore [(7, .long v3), (5, .long v1), (0, .ref (X.1 + v0)), (1, .long v1), (3, .long v3)] hc hr (dc_at dX9_layTerms 3 rfl) (by decide) rfl ?_
  refine r_iconst (0 : Int32) hc (dc_at dX9_layTerms 4 rfl) (by decide) ?_
  refine r_istore [(9, .int ((0 : Int32))), (7, .long v3), (5, .long v1), (0, .ref (X.1 + v0)), (1, .long v1), (3, .long v3)] hc hr (dc_at dX9_layTerms 5 rfl) (by decide) rfl ?_
  refine r_iconst (0 : Int32) hc (dc_at dX9_layTerms 6 rfl) (by decide) ?_
  refine r_istore [(10, .int ((0 : Int32))), (9, .int ((0 : Int32))), (7, .long v3), (5, .long v1), (0, .ref (X.1 + v0)), (1, .long v1), (3, .long v3)] hc hr (dc_at dX9_layTerms 7 rfl) (by decide) rfl ?_
  exact gg_sub [4, 3, 2, 1, 0] rfl (tl_X9_layTerms_12 hc hr he hm hs  F _ _ _ _ _ _ hf)
def m_X9_layTerms (F : Nat) (h : PH) (p0 : Nat) (p1 : Int64) (p3 : Int64) : Option (Int32 × PH) := b_X9_layTerms_0 F h p0 p1 p3
theorem mt_X9_layTerms {l : Launch} {X : XT} {F : Nat} {h hz : PH} {p0 : Nat} {p1 : Int64} {p3 : Int64} {r : Int32} (ex : m_X9_layTerms F h p0 p1 p3 = some (r, hz)) : MT l X yX9_layTerms cX9_layTerms 13 (some .int) 1 60 0 0 [.ref (X.1 + p0), .long p1, .long p3] h (some (.int r)) hz := MT.of (by decide) (Nat.le_of_ble_eq_true rfl) fun M hl hc hr he => by
  subst hl
  exact gg_sub [0, 1, 2] rfl (t_X9_layTerms_0  hc hr he (Nat.zero_le _) (Nat.zero_le _) ex)
/-! FractionLift.address(III)I -/
def lX9_addressL : List (Nat × Instr × Nat × Nat) := [(0, .aload_n 0, 1, 1), (1, .iload_n 1, 1, 2), (2, .iload_n 2, 1, 3), (3, .invokevirtual 132, 3, 6), (6, .ifCond .ne 6, 3, 9), (9, .bipush (-3), 2, 11), (11, .ireturn, 1, 12), (12, .aload_n 0, 1, 13), (13, .aload_n 0, 1, 14), (14, .getfield 59, 3, 17), (17, .getfield 136, 3, 20), (20, .aload_n 0, 1, 21), (21, .getfield 59, 3, 24), (24, .getfield 140, 3, 27), (27, .invokevirtual 262, 3, 30), (30, .istore 4, 2, 32), (32, .iload_n 3, 1, 33), (33, .iconst (-1), 1, 34), (34, .if_icmp .ne 6, 3, 37), (37, .iload 4, 2, 39), (39, .ireturn, 1, 40), (40, .iload_n 3, 1, 41), (41, .ifCond .lt 19, 3, 44), (44, .iload_n 3, 1, 45), (45, .iload 4, 2, 47), (47, .if_icmp .ge 13, 3, 50), (50, .aload_n 0, 1, 51), (51, .getfield 66, 3, 54), (54, .iload_n 3, 1, 55), (55, .laload, 1, 56), (56, .l2i, 1, 57), (57, .goto 4, 3, 60), (60, .iconst (-1), 1, 61), (61, .ireturn, 1, 62)]
set_option maxRecDepth 20000 in
theorem dX9_address : dcL cX9_address lX9_addressL = true := by decide +kernel
def b_X9_address_0 (F : Nat) (h : PH) (v0 : Nat) (v1 : Int32) (v2 : Int32) (v3 : Int32) : Option (Int32 × PH) := cO 9 h v0 (bind2 (m_X9_asksFloor F h v0 v1 v2) fun x1 h2 => (if x1 = 0 then (some ((-3 : Int32), h2)) else ((gR 9 12 h2 v0).bind fun a3 => ((gL 2 0 h2 a3).bind fun x4 => ((gR 9 12 h2 v0).bind fun a5 => ((gL 2 1 h2 a5).bind fun x6 => (cO 9 h2 v0 (bind2 (m_X9_layTerms F h2 v0 x4 x6) fun x7 h8 => (if v3 = (-1 : Int32) then (some (x7, h8)) else (if v3 < 0 then (some ((-1 : Int32), h8)) else (if x7 ≤ v3 then (some ((-1 : Int32), h8)) else ((gR 9 14 h8 v0).bind fun a9 => ((aL h8 a9 v3).bind fun x10 => (some ((Int64.toInt32 x10), h8)))))))))))))))
set_option maxRecDepth 20000 in
theorem t_X9_address_0 {M : MV} {X : XT} {F : Nat} {h hz : PH} {r : Int32} {ce sl mc ms : Nat} {v0 : Nat} {v1 : Int32} {v2 : Int32} {v3 : Int32} (hc : Cx M X RX9 cX9_address) (hr : Rx M 4 234 mc ms 5) (he : Ex M X (some .int) "address" (some (.int r)) hz mc ms) (hm : ce ≤ mc) (hs : sl ≤ ms) (hf : b_X9_address_0 F h v0 v1 v2 v3 = some (r, hz)) : GG M X h ce sl 0 [(0, .ref (X.1 + v0)), (1, .int v1), (2, .int v2), (3, .int v3)] [] := by
  unfold b_X9_address_0 at hf
  refine r_aload_n hc 0 (dc_at dX9_address 0 rfl) rfl ?_
  refine r_iload_n hc 1 (dc_at dX9_address 1 rfl) rfl ?_
  refine r_iload_n hc 2 (dc_at dX9_address 2 rfl) rfl ?_
  obtain ⟨ho, hf⟩ := cO_some hf
  refine ob2 hf fun x1 h2 ex hf => ?_
  refine r_callVi (As := [.int v1, .int v2]) (ci := 9) hc hr (dc_at dX9_address 3 rfl) ml_X9_132 mv_X9_asksFloor vi_X9_asksFloor rfl ho rfl (mt_X9_asksFloor ex) (by first | exact Nat.le_of_ble_eq_true rfl | omega) (by first | exact Nat.le_of_ble_eq_true rfl | omega) (by first | exact Nat.le_of_ble_eq_true rfl | omega) hm hs ?_
  refine r_if_ne (tgt := 12) hc (dc_at dX9_address 4 rfl) (by decide) hf (fun hf => ?_) (fun hf => ?_)
  · refine r_aload_n hc 0 (dc_at dX9_address 7 rfl) rfl ?_
    refine r_aload_n hc 0 (dc_at dX9_address 8 rfl) rfl ?_
    refine r_getR hc (dc_at dX9_address 9 rfl) fl_X9_59 hf fun a3 hf => ?_
    refine r_getL hc (dc_at dX9_address 10 rfl) fl_X9_136 hf fun x4 hf => ?_
    refine r_aload_n hc 0 (dc_at dX9_address 11 rfl) rfl ?_
    refine r_getR hc (dc_at dX9_address 12 rfl) fl_X9_59 hf fun a5 hf => ?_
    refine r_getL hc (dc_at dX9_address 13 rfl) fl_X9_140 hf fun x6 hf => ?_
    obtain ⟨ho, hf⟩ := cO_some hf
    refine ob2 hf fun x7 h8 ex hf => ?_
    refine r_callVi (As := [.long x4, .long x6]) (ci := 9) hc hr (dc_at dX9_address 14 rfl) ml_X9_262 mv_X9_layTerms vi_X9_layTerms rfl ho rfl (mt_X9_layTerms ex) (by first | exact Nat.le_of_ble_eq_true rfl | omega) (by first | exact Nat.le_of_ble_eq_true rfl | omega) (by first | exact Nat.le_of_ble_eq_true rfl | omega) hm hs ?_
    refine r_istore [(4, .int x7), (0, .ref (X.1 + v0)), (1, .int v1), (2, .int v2), (3, .int v3)] hc hr (dc_at dX9_address 15 rfl) (by decide) rfl ?_
    refine r_iload_n hc 4 (dc_at dX9_address 16 rfl) rfl ?_
    refine r_iconst (-1 : Int32) hc (dc_at dX9_address 17 rfl) (by decide) ?_
    refine r_icmp_ne (tgt := 40) hc (dc_at dX9_address 18 rfl) (by decide) hf (fun hf => ?_) (fun hf => ?_)
    · refine r_iload_n hc 4 (dc_at dX9_address 21 rfl) rfl ?_
      refine r_if_lt (tgt := 60) hc (dc_at dX9_address 22 rfl) (by decide) hf (fun hf => ?_) (fun hf => ?_)
      · refine r_iconst (-1 : Int32) hc (dc_at dX9_address 32 rfl) (by decide) ?_
        exact r_iret hc he (hm) (hs) (dc_at dX9_address 33 rfl) hf
      · refine r_iload_n hc 4 (dc_at dX9_address 23 rfl) rfl ?_
        refine r_iload hc 0 (dc_at dX9_address 24 rfl) rfl ?_
        refine r_icmp_ge (tgt := 60) hc (dc_at dX9_address 25 rfl) (by decide) hf (fun hf => ?_) (fun hf => ?_)
        · refine r_iconst (-1 : Int32) hc (dc_at dX9_address 32 rfl) (by decide) ?_
          exact r_iret hc he (hm) (hs) (dc_at dX9_address 33 rfl) hf
        · refine r_aload_n hc 1 (dc_at dX9_address 26 rfl) rfl ?_
          refine r_getR hc (dc_at dX9_address 27 rfl) fl_X9_66 hf fun a9 hf => ?_
          refine r_iload_n hc 4 (dc_at dX9_address 28 rfl) rfl ?_
          refine r_laload hc (dc_at dX9_address 29 rfl) hf fun x10 hf => ?_
          refine r_l2i hc (dc_at dX9_address 30 rfl) ?_
          refine r_goto (tgt := 61) hc (dc_at dX9_address 31 rfl) (by decide) ?_
          exact r_iret hc he (hm) (hs) (dc_at dX9_address 33 rfl) hf
    · refine r_iload hc 0 (dc_at dX9_address 19 rfl) rfl ?_
      exact r_iret hc he (hm) (hs) (dc_at dX9_address 20 rfl) hf
  · refine r_bipush (-3 : Int32) hc (dc_at dX9_address 5 rfl) (by decide) ?_
    exact r_iret hc he (hm) (hs) (dc_at dX9_address 6 rfl) hf
def m_X9_address (F : Nat) (h : PH) (p0 : Nat) (p1 : Int32) (p2 : Int32) (p3 : Int32) : Option (Int32 × PH) := b_X9_address_0 F h p0 p1 p2 p3
theorem mt_X9_address {l : Launch} {X : XT} {F : Nat} {h hz : PH} {p0 : Nat} {p1 : Int32} {p2 : Int32} {p3 : Int32} {r : Int32} (ex : m_X9_address F h p0 p1 p2 p3 = some (r, hz)) : MT l X yX9_address cX9_address 5 (some .int) 4 234 0 0 [.ref (X.1 + p0), .int p1, .int p2, .int p3] h (some (.int r)) hz := MT.of (by decide) (Nat.le_of_ble_eq_true rfl) fun M hl hc hr he => by
  subst hl
  exact gg_sub [0, 1, 2, 3] rfl (t_X9_address_0  hc hr he (Nat.zero_le _) (Nat.zero_le _) ex)
/-! FractionLift.seekAbove(I)Z -/
def lX9_seekAboveL : List (Nat × Instr × Nat × Nat) := [(0, .aload_n 0, 1, 1), (1, .getfield 26, 3, 4), (4, .getfield 283, 3, 7), (7, .iconst 1, 1, 8), (8, .iadd, 1, 9), (9, .i2l, 1, 10), (10, .lstore_n 2, 1, 11), (11, .lconst 1, 1, 12), (12, .lstore 4, 2, 14), (14, .aload_n 0, 1, 15), (15, .getfield 59, 3, 18), (18, .getfield 140, 3, 21), (21, .lconst 1, 1, 22), (22, .lcmp, 1, 23), (23, .ifCond .ge 5, 3, 26), (26, .iconst 0, 1, 27), (27, .ireturn, 1, 28), (28, .iconst 1, 1, 29), (29, .istore 6, 2, 31), (31, .iload 6, 2, 33), (33, .iload_n 1, 1, 34), (34, .if_icmp .gt 54, 3, 37), (37, .aload_n 0, 1, 38), (38, .getfield 59, 3, 41), (41, .getfield 136, 3, 44), (44, .iload 6, 2, 46), (46, .i2l, 1, 47), (47, .lmul, 1, 48), (48, .aload_n 0, 1, 49), (49, .getfield 59, 3, 52), (52, .getfield 140, 3, 55), (55, .ldiv, 1, 56), (56, .lconst 1, 1, 57), (57, .ladd, 1, 58), (58, .lstore 7, 2, 60), (60, .lload 7, 2, 62), (62, .lload 4, 2, 64), (64, .lmul, 1, 65), (65, .lload_n 2, 1, 66), (66, .iload 6, 2, 68), (68, .i2l, 1, 69), (69, .lmul, 1, 70), (70, .lcmp, 1, 71), (71, .ifCond .ge 11, 3, 74), (74, .lload 7, 2, 76), (76, .lstore_n 2, 1, 77), (77, .iload 6, 2, 79), (79, .i2l, 1, 80), (80, .lstore 4, 2, 82), (82, .iinc 6 1, 3, 85), (85, .goto (-54), 3, 88), (88, .aload_n 0, 1, 89), (89, .getfield 63, 3, 92), (92, .lload_n 2, 1, 93), (93, .lload 4, 2, 95), (95, .invokevirtual 271, 3, 98), (98, .aload_n 0, 1, 99), (99, .getfield 26, 3, 102), (102, .aload_n 0, 1, 103), (103, .getfield 63, 3, 106), (106, .getfield 136, 3, 109), (109, .aload_n 0, 1, 110), (110, .getfield 63, 3, 113), (113, .getfield 140, 3, 116), (116, .invokevirtual 362, 3, 119), (119, .ireturn, 1, 120)]
set_option maxRecDepth 20000 in
theorem dX9_seekAbove : dcL cX9_seekAbove lX9_seekAboveL = true := by decide +kernel
def b_X9_seekAbove_82 (F : Nat) (self19 : PH → Nat → Int32 → Int64 → Int64 → Int32 → Option (Int32 × PH)) (h : PH) (v0 : Nat) (v1 : Int32) (v2 : Int64) (v4 : Int64) (v6 : Int32) : Option (Int32 × PH) := bindv (v6 + (1)) fun x1 => (self19 h v0 v1 v2 v4 x1)
set_option maxRecDepth 20000 in
theorem t_X9_seekAbove_82 {M : MV} {X : XT} {F : Nat} {self19 : PH → Nat → Int32 → Int64 → Int64 → Int32 → Option (Int32 × PH)} {h hz : PH} {r : Int32} {ce sl mc ms : Nat} {v0 : Nat} {v1 : Int32} {v2 : Int64} {v4 : Int64} {v6 : Int32} (hc : Cx M X RX9 cX9_seekAbove) (hr : Rx M 3 176 mc ms 9) (he : Ex M X (some .boolean) "seekAbove" (some (.int r)) hz mc ms) (hm : ce ≤ mc) (hs : sl ≤ ms) (ih19 : ∀ (h : PH) (v0 : Nat) (v1 : Int32) (v2 : Int64) (v4 : Int64) (v6 : Int32), self19 h v0 v1 v2 v4 v6 = some (r, hz) → GG M X h ce sl 31 [(0, .ref (X.1 + v0)), (1, .int v1), (2, .long v2), (4, .long v4), (6, .int v6)] []) (hf : b_X9_seekAbove_82 F self19 h v0 v1 v2 v4 v6 = some (r, hz)) : GG M X h ce sl 82 [(0, .ref (X.1 + v0)), (1, .int v1), (2, .long v2), (4, .long v4), (6, .int v6)] [] := by
  unfold b_X9_seekAbove_82 at hf
  refine obv hf fun x1 e_x1 hf => ?_
  refine r_iinc 4 [(6, .int x1), (0, .ref (X.1 + v0)), (1, .int v1), (2, .long v2), (4, .long v4)] hc hr (dc_at dX9_seekAbove 49 rfl) rfl (by rw [e_x1]; rfl) (by decide) rfl ?_
  refine r_goto (tgt := 31) hc (dc_at dX9_seekAbove 50 rfl) (by decide) ?_
  exact gg_sub [1, 2, 3, 4, 0] rfl (ih19 _ _ _ _ _ _ hf)
def b_X9_seekAbove_31 (F : Nat) (self19 : PH → Nat → Int32 → Int64 → Int64 → Int32 → Option (Int32 × PH)) (h : PH) (v0 : Nat) (v1 : Int32) (v2 : Int64) (v4 : Int64) (v6 : Int32) : Option (Int32 × PH) := if v1 < v6 then ((gR 9 13 h v0).bind fun a1 => (cO 2 h a1 (bind2 (m_X2_put F h a1 v2 v4) fun _ h3 => ((gR 9 4 h3 v0).bind fun a4 => ((gR 9 13 h3 v0).bind fun a5 => ((gL 2 0 h3 a5).bind fun x6 => ((gR 9 13 h3 v0).bind fun a7 => ((gL 2 1 h3 a7).bind fun x8 => (cO 0 h3 a4 ((m_X0_isFloor h3 a4 x6 x8).bind fun x9 => (rZ x9 h3))))))))))) else ((gR 9 12 h v0).bind fun a10 => ((gL 2 0 h a10).bind fun x11 => ((gR 9 12 h v0).bind fun a12 => ((gL 2 1 h a12).bind fun x13 => (if x13 = 0 then none else (bindv ((((((x11 * (Int32.toInt64 v6))) / x13)) + (1 : Int64))) fun x14 => (if ((v2 * (Int32.toInt64 v6))) ≤ (x14 * v4) then (b_X9_seekAbove_82 F self19 h v0 v1 v2 v4 v6) else (bindv (Int32.toInt64 v6) fun x15 => (b_X9_seekAbove_82 F self19 h v0 v1 x14 x15 v6)))))))))
set_option maxRecDepth 20000 in
theorem tb_X9_seekAbove_31 {M : MV} {X : XT} {F : Nat} {self19 : PH → Nat → Int32 → Int64 → Int64 → Int32 → Option (Int32 × PH)} {h hz : PH} {r : Int32} {ce sl mc ms : Nat} {v0 : Nat} {v1 : Int32} {v2 : Int64} {v4 : Int64} {v6 : Int32} (hc : Cx M X RX9 cX9_seekAbove) (hr : Rx M 3 176 mc ms 9) (he : Ex M X (some .boolean) "seekAbove" (some (.int r)) hz mc ms) (hm : ce ≤ mc) (hs : sl ≤ ms) (ih19 : ∀ (h : PH) (v0 : Nat) (v1 : Int32) (v2 : Int64) (v4 : Int64) (v6 : Int32), self19 h v0 v1 v2 v4 v6 = some (r, hz) → GG M X h ce sl 31 [(0, .ref (X.1 + v0)), (1, .int v1), (2, .long v2), (4, .long v4), (6, .int v6)] []) (hf : b_X9_seekAbove_31 F self19 h v0 v1 v2 v4 v6 = some (r, hz)) : GG M X h ce sl 31 [(0, .ref (X.1 + v0)), (1, .int v1), (2, .long v2), (4, .long v4), (6, .int v6)] [] := by
  unfold b_X9_seekAbove_31 at hf
  refine r_iload hc 4 (dc_at dX9_seekAbove 19 rfl) rfl ?_
  refine r_iload_n hc 1 (dc_at dX9_seekAbove 20 rfl) rfl ?_
  refine r_icmp_gt (tgt := 88) hc (dc_at dX9_seekAbove 21 rfl) (by decide) hf (fun hf => ?_) (fun hf => ?_)
  · refine r_aload_n hc 0 (dc_at dX9_seekAbove 51 rfl) rfl ?_
    refine r_getR hc (dc_at dX9_seekAbove 52 rfl) fl_X9_63 hf fun a1 hf => ?_
    refine r_lload_n hc 2 (dc_at dX9_seekAbove 53 rfl) rfl ?_
    refine r_lload hc 3 (dc_at dX9_seekAbove 54 rfl) rfl ?_
    obtain ⟨ho, hf⟩ := cO_some hf
    refine ob2 hf fun u h3 ex hf => ?_
    refine r_callVv (As := [.long v2, .long v4]) (ci := 2) hc hr (dc_at dX9_seekAbove 55 rfl) ml_X9_271 mv_X2_put vi_X2_put rfl ho rfl (mt_X2_put ex) (by first | exact Nat.le_of_ble_eq_true rfl | omega) (by first | exact Nat.le_of_ble_eq_true rfl | omega) (by first | exact Nat.le_of_ble_eq_true rfl | omega) hm hs ?_
    refine r_aload_n hc 0 (dc_at dX9_seekAbove 56 rfl) rfl ?_
    refine r_getR hc (dc_at dX9_seekAbove 57 rfl) fl_X9_26 hf fun a4 hf => ?_
    refine r_aload_n hc 0 (dc_at dX9_seekAbove 58 rfl) rfl ?_
    refine r_getR hc (dc_at dX9_seekAbove 59 rfl) fl_X9_63 hf fun a5 hf => ?_
    refine r_getL hc (dc_at dX9_seekAbove 60 rfl) fl_X9_136 hf fun x6 hf => ?_
    refine r_aload_n hc 0 (dc_at dX9_seekAbove 61 rfl) rfl ?_
    refine r_getR hc (dc_at dX9_seekAbove 62 rfl) fl_X9_63 hf fun a7 hf => ?_
    refine r_getL hc (dc_at dX9_seekAbove 63 rfl) fl_X9_140 hf fun x8 hf => ?_
    obtain ⟨ho, hf⟩ := cO_some hf
    refine ob hf fun x9 ex hf => ?_
    refine r_callVi (As := [.long x6, .long x8]) (ci := 0) hc hr (dc_at dX9_seekAbove 64 rfl) ml_X9_362 mv_X0_isFloor vi_X0_isFloor rfl ho rfl (mt_X0_isFloor ex) (by first | exact Nat.le_of_ble_eq_true rfl | omega) (by first | exact Nat.le_of_ble_eq_true rfl | omega) (by first | exact Nat.le_of_ble_eq_true rfl | omega) hm hs ?_
    exact r_zret hc he (hm) (hs) (dc_at dX9_seekAbove 65 rfl) hf
  · refine r_aload_n hc 0 (dc_at dX9_seekAbove 22 rfl) rfl ?_
    refine r_getR hc (dc_at dX9_seekAbove 23 rfl) fl_X9_59 hf fun a10 hf => ?_
    refine r_getL hc (dc_at dX9_seekAbove 24 rfl) fl_X9_136 hf fun x11 hf => ?_
    refine r_iload hc 4 (dc_at dX9_seekAbove 25 rfl) rfl ?_
    refine r_i2l hc (dc_at dX9_seekAbove 26 rfl) ?_
    refine r_lmul hc (dc_at dX9_seekAbove 27 rfl) ?_
    refine r_aload_n hc 0 (dc_at dX9_seekAbove 28 rfl) rfl ?_
    refine r_getR hc (dc_at dX9_seekAbove 29 rfl) fl_X9_59 hf fun a12 hf => ?_
    refine r_getL hc (dc_at dX9_seekAbove 30 rfl) fl_X9_140 hf fun x13 hf => ?_
    refine r_ldiv hc (dc_at dX9_seekAbove 31 rfl) hf (fun hf => ?_)
    refine r_lconst (1 : Int64) hc (dc_at dX9_seekAbove 32 rfl) (by decide) ?_
    refine r_ladd hc (dc_at dX9_seekAbove 33 rfl) ?_
    refine r_nm (mk := Value.long) hf fun x14 hf => ?_
    refine r_lstore [(7, .long x14), (0, .ref (X.1 + v0)), (1, .int v1), (2, .long v2), (4, .long v4), (6, .int v6)] hc hr (dc_at dX9_seekAbove 34 rfl) (by decide) rfl ?_
    refine r_lload hc 0 (dc_at dX9_seekAbove 35 rfl) rfl ?_
    refine r_lload hc 4 (dc_at dX9_seekAbove 36 rfl) rfl ?_
    refine r_lmul hc (dc_at dX9_seekAbove 37 rfl) ?_
    refine r_lload_n hc 3 (dc_at dX9_seekAbove 38 rfl) rfl ?_
    refine r_iload hc 5 (dc_at dX9_seekAbove 39 rfl) rfl ?_
    refine r_i2l hc (dc_at dX9_seekAbove 40 rfl) ?_
    refine r_lmul hc (dc_at dX9_seekAbove 41 rfl) ?_
    refine r_lcmp_ge (tgt := 82) hc (dc_at dX9_seekAbove 42 rfl) (dc_at dX9_seekAbove 43 rfl) (by decide) hf (fun hf => ?_) (fun hf => ?_)
    · exact gg_sub [1, 2, 3, 4, 5] rfl (t_X9_seekAbove_82 hc hr he hm hs ih19 hf)
    · refine r_lload hc 0 (dc_at dX9_seekAbove 44 rfl) rfl ?_
      refine r_lstore_n [(2, .long x14), (7, .long x14), (0, .ref (X.1 + v0)), (1, .int v1), (4, .long v4), (6, .int v6)] hc hr (dc_at dX9_seekAbove 45 rfl) (by decide) rfl ?_
      refine r_iload hc 5 (dc_at dX9_seekAbove 46 rfl) rfl ?_
      refine r_i2l hc (dc_at dX9_seekAbove 47 rfl) ?_
      refine r_nm (mk := Value.long) hf fun x15 hf => ?_
      refine r_lstore [(4, .long x15), (2, .long x14), (7, .long x14), (0, .ref (X.1 + v0)), (1, .int v1), (6, .int v6)] hc hr (dc_at dX9_seekAbove 48 rfl) (by decide) rfl ?_
      exact gg_sub [3, 4, 1, 0, 5] rfl (t_X9_seekAbove_82 hc hr he hm hs ih19 hf)
def l_X9_seekAbove_31 (F : Nat) : Nat → PH → Nat → Int32 → Int64 → Int64 → Int32 → Option (Int32 × PH)
  | 0 => fun _ _ _ _ _ _ => none
  | n + 1 => fun h v0 v1 v2 v4 v6 => b_X9_seekAbove_31 F (l_X9_seekAbove_31 F n) h v0 v1 v2 v4 v6
theorem tl_X9_seekAbove_31 {M : MV} {X : XT} {F : Nat} {hz : PH} {r : Int32} {ce sl mc ms : Nat} (hc : Cx M X RX9 cX9_seekAbove) (hr : Rx M 3 176 mc ms 9) (he : Ex M X (some .boolean) "seekAbove" (some (.int r)) hz mc ms) (hm : ce ≤ mc) (hs : sl ≤ ms) (n : Nat) : ∀ (h : PH) (v0 : Nat) (v1 : Int32) (v2 : Int64) (v4 : Int64) (v6 : Int32), l_X9_seekAbove_31 F n h v0 v1 v2 v4 v6 = some (r, hz) → GG M X h ce sl 31 [(0, .ref (X.1 + v0)), (1, .int v1), (2, .long v2), (4, .long v4), (6, .int v6)] [] := by
  induction n with
  | zero => intro h v0 v1 v2 v4 v6 hf; cases hf
  | succ n ih => intro h v0 v1 v2 v4 v6 hf; exact tb_X9_seekAbove_31 (F := F) hc hr he hm hs  ih hf
def b_X9_seekAbove_0 (F : Nat) (h : PH) (v0 : Nat) (v1 : Int32) : Option (Int32 × PH) := (gR 9 4 h v0).bind fun a1 => ((gI 0 0 h a1).bind fun x2 => (bindv ((Int32.toInt64 ((x2 + (1 : Int32))))) fun x3 => ((gR 9 12 h v0).bind fun a4 => ((gL 2 1 h a4).bind fun x5 => (if (1 : Int64) ≤ x5 then (l_X9_seekAbove_31 F F h v0 v1 x3 (1 : Int64) (1 : Int32)) else (rZ (0 : Int32) h))))))
set_option maxRecDepth 20000 in
theorem t_X9_seekAbove_0 {M : MV} {X : XT} {F : Nat} {h hz : PH} {r : Int32} {ce sl mc ms : Nat} {v0 : Nat} {v1 : Int32} (hc : Cx M X RX9 cX9_seekAbove) (hr : Rx M 3 176 mc ms 9) (he : Ex M X (some .boolean) "seekAbove" (some (.int r)) hz mc ms) (hm : ce ≤ mc) (hs : sl ≤ ms) (hf : b_X9_seekAbove_0 F h v0 v1 = some (r, hz)) : GG M X h ce sl 0 [(0, .ref (X.1 + v0)), (1, .int v1)] [] := by
  unfold b_X9_seekAbove_0 at hf
  refine r_aload_n hc 0 (dc_at dX9_seekAbove 0 rfl) rfl ?_
  refine r_getR hc (dc_at dX9_seekAbove 1 rfl) fl_X9_26 hf fun a1 hf => ?_
  refine r_getI hc (dc_at dX9_seekAbove 2 rfl) fl_X9_283 hf fun x2 hf => ?_
  refine r_iconst (1 : Int32) hc (dc_at dX9_seekAbove 3 rfl) (by decide) ?_
  refine r_iadd hc (dc_at dX9_seekAbove 4 rfl) ?_
  refine r_i2l hc (dc_at dX9_seekAbove 5 rfl) ?_
  refine r_nm (mk := Value.long) hf fun x3 hf => ?_
  refine r_lstore_n [(2, .long x3), (0, .ref (X.1 + v0)), (1, .int v1)] hc hr (dc_at dX9_seekAbove 6 rfl) (by decide) rfl ?_
  refine r_lconst (1 : Int64) hc (dc_at dX9_seekAbove 7 rfl) (by decide) ?_
  refine r_lstore [(4, .long ((1 : Int64))), (2, .long x3), (0, .ref (X.1 + v0)), (1, .int v1)] hc hr (dc_at dX9_seekAbove 8 rfl) (by decide) rfl ?_
  refine r_aload_n hc 2 (dc_at dX9_seekAbove 9 rfl) rfl ?_
  refine r_getR hc (dc_at dX9_seekAbove 10 rfl) fl_X9_59 hf fun a4 hf => ?_
  refine r_getL hc (dc_at dX9_seekAbove 11 rfl) fl_X9_140 hf fun x5 hf => ?_
  refine r_lconst (1 : Int64) hc (dc_at dX9_seekAbove 12 rfl) (by decide) ?_
  refine r_lcmp_ge (tgt := 28) hc (dc_at dX9_seekAbove 13 rfl) (dc_at dX9_seekAbove 14 rfl) (by decide) hf (fun hf => ?_) (fun hf => ?_)
  · refine r_iconst (1 : Int32) hc (dc_at dX9_seekAbove 17 rfl) (by decide) ?_
    refine r_istore [(6, .int ((1 : Int32))), (4, .long ((1 : Int64))), (2, .long x3), (0, .ref (X.1 + v0)), (1, .int v1)] hc hr (dc_at dX9_seekAbove 18 rfl) (by decide) rfl ?_
    exact gg_sub [3, 4, 2, 1, 0] rfl (tl_X9_seekAbove_31 hc hr he hm hs  F _ _ _ _ _ _ hf)
  · refine r_iconst (0 : Int32) hc (dc_at dX9_seekAbove 15 rfl) (by decide) ?_
    exact r_zret hc he (hm) (hs) (dc_at dX9_seekAbove 16 rfl) hf
def m_X9_seekAbove (F : Nat) (h : PH) (p0 : Nat) (p1 : Int32) : Option (Int32 × PH) := b_X9_seekAbove_0 F h p0 p1
theorem mt_X9_seekAbove {l : Launch} {X : XT} {F : Nat} {h hz : PH} {p0 : Nat} {p1 : Int32} {r : Int32} (ex : m_X9_seekAbove F h p0 p1 = some (r, hz)) : MT l X yX9_seekAbove cX9_seekAbove 9 (some .boolean) 3 176 0 0 [.ref (X.1 + p0), .int p1] h (some (.int r)) hz := MT.of (by decide) (Nat.le_of_ble_eq_true rfl) fun M hl hc hr he => by
  subst hl
  exact gg_sub [0, 1] rfl (t_X9_seekAbove_0  hc hr he (Nat.zero_le _) (Nat.zero_le _) ex)
/-! FractionLift.seekBelow(I)Z -/
def lX9_seekBelowL : List (Nat × Instr × Nat × Nat) := [(0, .ldc2_w 188, 3, 3), (3, .lstore_n 2, 1, 4), (4, .lconst 1, 1, 5), (5, .lstore 4, 2, 7), (7, .aload_n 0, 1, 8), (8, .getfield 59, 3, 11), (11, .getfield 140, 3, 14), (14, .lconst 1, 1, 15), (15, .lcmp, 1, 16), (16, .ifCond .ge 5, 3, 19), (19, .iconst 0, 1, 20), (20, .ireturn, 1, 21), (21, .iconst 1, 1, 22), (22, .istore 6, 2, 24), (24, .iload 6, 2, 26), (26, .iload_n 1, 1, 27), (27, .if_icmp .gt 64, 3, 30), (30, .aload_n 0, 1, 31), (31, .getfield 59, 3, 34), (34, .getfield 136, 3, 37), (37, .iload 6, 2, 39), (39, .i2l, 1, 40), (40, .lmul, 1, 41), (41, .aload_n 0, 1, 42), (42, .getfield 59, 3, 45), (45, .getfield 140, 3, 48), (48, .ladd, 1, 49), (49, .lconst 1, 1, 50), (50, .lsub, 1, 51), (51, .aload_n 0, 1, 52), (52, .getfield 59, 3, 55), (55, .getfield 140, 3, 58), (58, .ldiv, 1, 59), (59, .lconst 1, 1, 60), (60, .lsub, 1, 61), (61, .lstore 7, 2, 63), (63, .lload 7, 2, 65), (65, .lload 4, 2, 67), (67, .lmul, 1, 68), (68, .lload_n 2, 1, 69), (69, .iload 6, 2, 71), (71, .i2l, 1, 72), (72, .lmul, 1, 73), (73, .lcmp, 1, 74), (74, .ifCond .le 11, 3, 77), (77, .lload 7, 2, 79), (79, .lstore_n 2, 1, 80), (80, .iload 6, 2, 82), (82, .i2l, 1, 83), (83, .lstore 4, 2, 85), (85, .iinc 6 1, 3, 88), (88, .goto (-64), 3, 91), (91, .aload_n 0, 1, 92), (92, .getfield 63, 3, 95), (95, .lload_n 2, 1, 96), (96, .lload 4, 2, 98), (98, .invokevirtual 271, 3, 101), (101, .aload_n 0, 1, 102), (102, .getfield 26, 3, 105), (105, .aload_n 0, 1, 106), (106, .getfield 63, 3, 109), (109, .getfield 136, 3, 112), (112, .aload_n 0, 1, 113), (113, .getfield 63, 3, 116), (116, .getfield 140, 3, 119), (119, .invokevirtual 362, 3, 122), (122, .ireturn, 1, 123)]
set_option maxRecDepth 20000 in
theorem dX9_seekBelow : dcL cX9_seekBelow lX9_seekBelowL = true := by decide +kernel
def b_X9_seekBelow_85 (F : Nat) (self14 : PH → Nat → Int32 → Int64 → Int64 → Int32 → Option (Int32 × PH)) (h : PH) (v0 : Nat) (v1 : Int32) (v2 : Int64) (v4 : Int64) (v6 : Int32) : Option (Int32 × PH) := bindv (v6 + (1)) fun x1 => (self14 h v0 v1 v2 v4 x1)
set_option maxRecDepth 20000 in
theorem t_X9_seekBelow_85 {M : MV} {X : XT} {F : Nat} {self14 : PH → Nat → Int32 → Int64 → Int64 → Int32 → Option (Int32 × PH)} {h hz : PH} {r : Int32} {ce sl mc ms : Nat} {v0 : Nat} {v1 : Int32} {v2 : Int64} {v4 : Int64} {v6 : Int32} (hc : Cx M X RX9 cX9_seekBelow) (hr : Rx M 3 176 mc ms 9) (he : Ex M X (some .boolean) "seekBelow" (some (.int r)) hz mc ms) (hm : ce ≤ mc) (hs : sl ≤ ms) (ih14 : ∀ (h : PH) (v0 : Nat) (v1 : Int32) (v2 : Int64) (v4 : Int64) (v6 : Int32), self14 h v0 v1 v2 v4 v6 = some (r, hz) → GG M X h ce sl 24 [(0, .ref (X.1 + v0)), (1, .int v1), (2, .long v2), (4, .long v4), (6, .int v6)] []) (hf : b_X9_seekBelow_85 F self14 h v0 v1 v2 v4 v6 = some (r, hz)) : GG M X h ce sl 85 [(0, .ref (X.1 + v0)), (1, .int v1), (2, .long v2), (4, .long v4), (6, .int v6)] [] := by
  unfold b_X9_seekBelow_85 at hf
  refine obv hf fun x1 e_x1 hf => ?_
  refine r_iinc 4 [(6, .int x1), (0, .ref (X.1 + v0)), (1, .int v1), (2, .long v2), (4, .long v4)] hc hr (dc_at dX9_seekBelow 50 rfl) rfl (by rw [e_x1]; rfl) (by decide) rfl ?_
  refine r_goto (tgt := 24) hc (dc_at dX9_seekBelow 51 rfl) (by decide) ?_
  exact gg_sub [1, 2, 3, 4, 0] rfl (ih14 _ _ _ _ _ _ hf)
def b_X9_seekBelow_24 (F : Nat) (self14 : PH → Nat → Int32 → Int64 → Int64 → Int32 → Option (Int32 × PH)) (h : PH) (v0 : Nat) (v1 : Int32) (v2 : Int64) (v4 : Int64) (v6 : Int32) : Option (Int32 × PH) := if v1 < v6 then ((gR 9 13 h v0).bind fun a1 => (cO 2 h a1 (bind2 (m_X2_put F h a1 v2 v4) fun _ h3 => ((gR 9 4 h3 v0).bind fun a4 => ((gR 9 13 h3 v0).bind fun a5 => ((gL 2 0 h3 a5).bind fun x6 => ((gR 9 13 h3 v0).bind fun a7 => ((gL 2 1 h3 a7).bind fun x8 => (cO 0 h3 a4 ((m_X0_isFloor h3 a4 x6 x8).bind fun x9 => (rZ x9 h3))))))))))) else ((gR 9 12 h v0).bind fun a10 => ((gL 2 0 h a10).bind fun x11 => ((gR 9 12 h v0).bind fun a12 => ((gL 2 1 h a12).bind fun x13 => ((gR 9 12 h v0).bind fun a14 => ((gL 2 1 h a14).bind fun x15 => (if x15 = 0 then none else (bindv ((((((((((x11 * (Int32.toInt64 v6))) + x13)) - (1 : Int64))) / x15)) - (1 : Int64))) fun x16 => (if (x16 * v4) ≤ ((v2 * (Int32.toInt64 v6))) then (b_X9_seekBelow_85 F self14 h v0 v1 v2 v4 v6) else (bindv (Int32.toInt64 v6) fun x17 => (b_X9_seekBelow_85 F self14 h v0 v1 x16 x17 v6)))))))))))
set_option maxRecDepth 20000 in
theorem tb_X9_seekBelow_24 {M : MV} {X : XT} {F : Nat} {self14 : PH → Nat → Int32 → Int64 → Int64 → Int32 → Option (Int32 × PH)} {h hz : PH} {r : Int32} {ce sl mc ms : Nat} {v0 : Nat} {v1 : Int32} {v2 : Int64} {v4 : Int64} {v6 : Int32} (hc : Cx M X RX9 cX9_seekBelow) (hr : Rx M 3 176 mc ms 9) (he : Ex M X (some .boolean) "seekBelow" (some (.int r)) hz mc ms) (hm : ce ≤ mc) (hs : sl ≤ ms) (ih14 : ∀ (h : PH) (v0 : Nat) (v1 : Int32) (v2 : Int64) (v4 : Int64) (v6 : Int32), self14 h v0 v1 v2 v4 v6 = some (r, hz) → GG M X h ce sl 24 [(0, .ref (X.1 + v0)), (1, .int v1), (2, .long v2), (4, .long v4), (6, .int v6)] []) (hf : b_X9_seekBelow_24 F self14 h v0 v1 v2 v4 v6 = some (r, hz)) : GG M X h ce sl 24 [(0, .ref (X.1 + v0)), (1, .int v1), (2, .long v2), (4, .long v4), (6, .int v6)] [] := by
  unfold b_X9_seekBelow_24 at hf
  refine r_iload hc 4 (dc_at dX9_seekBelow 14 rfl) rfl ?_
  refine r_iload_n hc 1 (dc_at dX9_seekBelow 15 rfl) rfl ?_
  refine r_icmp_gt (tgt := 91) hc (dc_at dX9_seekBelow 16 rfl) (by decide) hf (fun hf => ?_) (fun hf => ?_)
  · refine r_aload_n hc 0 (dc_at dX9_seekBelow 52 rfl) rfl ?_
    refine r_getR hc (dc_at dX9_seekBelow 53 rfl) fl_X9_63 hf fun a1 hf => ?_
    refine r_lload_n hc 2 (dc_at dX9_seekBelow 54 rfl) rfl ?_
    refine r_lload hc 3 (dc_at dX9_seekBelow 55 rfl) rfl ?_
    obtain ⟨ho, hf⟩ := cO_some hf
    refine ob2 hf fun u h3 ex hf => ?_
    refine r_callVv (As := [.long v2, .long v4]) (ci := 2) hc hr (dc_at dX9_seekBelow 56 rfl) ml_X9_271 mv_X2_put vi_X2_put rfl ho rfl (mt_X2_put ex) (by first | exact Nat.le_of_ble_eq_true rfl | omega) (by first | exact Nat.le_of_ble_eq_true rfl | omega) (by first | exact Nat.le_of_ble_eq_true rfl | omega) hm hs ?_
    refine r_aload_n hc 0 (dc_at dX9_seekBelow 57 rfl) rfl ?_
    refine r_getR hc (dc_at dX9_seekBelow 58 rfl) fl_X9_26 hf fun a4 hf => ?_
    refine r_aload_n hc 0 (dc_at dX9_seekBelow 59 rfl) rfl ?_
    refine r_getR hc (dc_at dX9_seekBelow 60 rfl) fl_X9_63 hf fun a5 hf => ?_
    refine r_getL hc (dc_at dX9_seekBelow 61 rfl) fl_X9_136 hf fun x6 hf => ?_
    refine r_aload_n hc 0 (dc_at dX9_seekBelow 62 rfl) rfl ?_
    refine r_getR hc (dc_at dX9_seekBelow 63 rfl) fl_X9_63 hf fun a7 hf => ?_
    refine r_getL hc (dc_at dX9_seekBelow 64 rfl) fl_X9_140 hf fun x8 hf => ?_
    obtain ⟨ho, hf⟩ := cO_some hf
    refine ob hf fun x9 ex hf => ?_
    refine r_callVi (As := [.long x6, .long x8]) (ci := 0) hc hr (dc_at dX9_seekBelow 65 rfl) ml_X9_362 mv_X0_isFloor vi_X0_isFloor rfl ho rfl (mt_X0_isFloor ex) (by first | exact Nat.le_of_ble_eq_true rfl | omega) (by first | exact Nat.le_of_ble_eq_true rfl | omega) (by first | exact Nat.le_of_ble_eq_true rfl | omega) hm hs ?_
    exact r_zret hc he (hm) (hs) (dc_at dX9_seekBelow 66 rfl) hf
  · refine r_aload_n hc 0 (dc_at dX9_seekBelow 17 rfl) rfl ?_
    refine r_getR hc (dc_at dX9_seekBelow 18 rfl) fl_X9_59 hf fun a10 hf => ?_
    refine r_getL hc (dc_at dX9_seekBelow 19 rfl) fl_X9_136 hf fun x11 hf => ?_
    refine r_iload hc 4 (dc_at dX9_seekBelow 20 rfl) rfl ?_
    refine r_i2l hc (dc_at dX9_seekBelow 21 rfl) ?_
    refine r_lmul hc (dc_at dX9_seekBelow 22 rfl) ?_
    refine r_aload_n hc 0 (dc_at dX9_seekBelow 23 rfl) rfl ?_
    refine r_getR hc (dc_at dX9_seekBelow 24 rfl) fl_X9_59 hf fun a12 hf => ?_
    refine r_getL hc (dc_at dX9_seekBelow 25 rfl) fl_X9_140 hf fun x13 hf => ?_
    refine r_ladd hc (dc_at dX9_seekBelow 26 rfl) ?_
    refine r_lconst (1 : Int64) hc (dc_at dX9_seekBelow 27 rfl) (by decide) ?_
    refine r_lsub hc (dc_at dX9_seekBelow 28 rfl) ?_
    refine r_aload_n hc 0 (dc_at dX9_seekBelow 29 rfl) rfl ?_
    refine r_getR hc (dc_at dX9_seekBelow 30 rfl) fl_X9_59 hf fun a14 hf => ?_
    refine r_getL hc (dc_at dX9_seekBelow 31 rfl) fl_X9_140 hf fun x15 hf => ?_
    refine r_ldiv hc (dc_at dX9_seekBelow 32 rfl) hf (fun hf => ?_)
    refine r_lconst (1 : Int64) hc (dc_at dX9_seekBelow 33 rfl) (by decide) ?_
    refine r_lsub hc (dc_at dX9_seekBelow 34 rfl) ?_
    refine r_nm (mk := Value.long) hf fun x16 hf => ?_
    refine r_lstore [(7, .long x16), (0, .ref (X.1 + v0)), (1, .int v1), (2, .long v2), (4, .long v4), (6, .int v6)] hc hr (dc_at dX9_seekBelow 35 rfl) (by decide) rfl ?_
    refine r_lload hc 0 (dc_at dX9_seekBelow 36 rfl) rfl ?_
    refine r_lload hc 4 (dc_at dX9_seekBelow 37 rfl) rfl ?_
    refine r_lmul hc (dc_at dX9_seekBelow 38 rfl) ?_
    refine r_lload_n hc 3 (dc_at dX9_seekBelow 39 rfl) rfl ?_
    refine r_iload hc 5 (dc_at dX9_seekBelow 40 rfl) rfl ?_
    refine r_i2l hc (dc_at dX9_seekBelow 41 rfl) ?_
    refine r_lmul hc (dc_at dX9_seekBelow 42 rfl) ?_
    refine r_lcmp_le (tgt := 85) hc (dc_at dX9_seekBelow 43 rfl) (dc_at dX9_seekBelow 44 rfl) (by decide) hf (fun hf => ?_) (fun hf => ?_)
    · exact gg_sub [1, 2, 3, 4, 5] rfl (t_X9_seekBelow_85 hc hr he hm hs ih14 hf)
    · refine r_lload hc 0 (dc_at dX9_seekBelow 45 rfl) rfl ?_
      refine r_lstore_n [(2, .long x16), (7, .long x16), (0, .ref (X.1 + v0)), (1, .int v1), (4, .long v4), (6, .int v6)] hc hr (dc_at dX9_seekBelow 46 rfl) (by decide) rfl ?_
      refine r_iload hc 5 (dc_at dX9_seekBelow 47 rfl) rfl ?_
      refine r_i2l hc (dc_at dX9_seekBelow 48 rfl) ?_
      refine r_nm (mk := Value.long) hf fun x17 hf => ?_
      refine r_lstore [(4, .long x17), (2, .long x16), (7, .long x16), (0, .ref (X.1 + v0)), (1, .int v1), (6, .int v6)] hc hr (dc_at dX9_seekBelow 49 rfl) (by decide) rfl ?_
      exact gg_sub [3, 4, 1, 0, 5] rfl (t_X9_seekBelow_85 hc hr he hm hs ih14 hf)
def l_X9_seekBelow_24 (F : Nat) : Nat → PH → Nat → Int32 → Int64 → Int64 → Int32 → Option (Int32 × PH)
  | 0 => fun _ _ _ _ _ _ => none
  | n + 1 => fun h v0 v1 v2 v4 v6 => b_X9_seekBelow_24 F (l_X9_seekBelow_24 F n) h v0 v1 v2 v4 v6
theorem tl_X9_seekBelow_24 {M : MV} {X : XT} {F : Nat} {hz : PH} {r : Int32} {ce sl mc ms : Nat} (hc : Cx M X RX9 cX9_seekBelow) (hr : Rx M 3 176 mc ms 9) (he : Ex M X (some .boolean) "seekBelow" (some (.int r)) hz mc ms) (hm : ce ≤ mc) (hs : sl ≤ ms) (n : Nat) : ∀ (h : PH) (v0 : Nat) (v1 : Int32) (v2 : Int64) (v4 : Int64) (v6 : Int32), l_X9_seekBelow_24 F n h v0 v1 v2 v4 v6 = some (r, hz) → GG M X h ce sl 24 [(0, .ref (X.1 + v0)), (1, .int v1), (2, .long v2), (4, .long v4), (6, .int v6)] [] := by
  induction n with
  | zero => intro h v0 v1 v2 v4 v6 hf; cases hf
  | succ n ih => intro h v0 v1 v2 v4 v6 hf; exact tb_X9_seekBelow_24 (F := F) hc hr he hm hs  ih hf
def b_X9_seekBelow_0 (F : Nat) (h : PH) (v0 : Nat) (v1 : Int32) : Option (Int32 × PH) := (gR 9 12 h v0).bind fun a1 => ((gL 2 1 h a1).bind fun x2 => (if (1 : Int64) ≤ x2 then (l_X9_seekBelow_24 F F h v0 v1 (-1 : Int64) (1 : Int64) (1 : Int32)) else (rZ (0 : Int32) h)))
set_option maxRecDepth 20000 in
theorem t_X9_seekBelow_0 {M : MV} {X : XT} {F : Nat} {h hz : PH} {r : Int32} {ce sl mc ms : Nat} {v0 : Nat} {v1 : Int32} (hc : Cx M X RX9 cX9_seekBelow) (hr : Rx M 3 176 mc ms 9) (he : Ex M X (some .boolean) "seekBelow" (some (.int r)) hz mc ms) (hm : ce ≤ mc) (hs : sl ≤ ms) (hf : b_X9_seekBelow_0 F h v0 v1 = some (r, hz)) : GG M X h ce sl 0 [(0, .ref (X.1 + v0)), (1, .int v1)] [] := by
  unfold b_X9_seekBelow_0 at hf
  refine r_ldc2 hc (dc_at dX9_seekBelow 0 rfl) cl2_X9_188 ?_
  refine r_lstore_n [(2, .long ((-1 : Int64))), (0, .ref (X.1 + v0)), (1, .int v1)] hc hr (dc_at dX9_seekBelow 1 rfl) (by decide) rfl ?_
  refine r_lconst (1 : Int64) hc (dc_at dX9_seekBelow 2 rfl) (by decide) ?_
  refine r_lstore [(4, .long ((1 : Int64))), (2, .long ((-1 : Int64))), (0, .ref (X.1 + v0)), (1, .int v1)] hc hr (dc_at dX9_seekBelow 3 rfl) (by decide) rfl ?_
  refine r_aload_n hc 2 (dc_at dX9_seekBelow 4 rfl) rfl ?_
  refine r_getR hc (dc_at dX9_seekBelow 5 rfl) fl_X9_59 hf fun a1 hf => ?_
  refine r_getL hc (dc_at dX9_seekBelow 6 rfl) fl_X9_140 hf fun x2 hf => ?_
  refine r_lconst (1 : Int64) hc (dc_at dX9_seekBelow 7 rfl) (by decide) ?_
  refine r_lcmp_ge (tgt := 21) hc (dc_at dX9_seekBelow 8 rfl) (dc_at dX9_seekBelow 9 rfl) (by decide) hf (fun hf => ?_) (fun hf => ?_)
  · refine r_iconst (1 : Int32) hc (dc_at dX9_seekBelow 12 rfl) (by decide) ?_
    refine r_istore [(6, .int ((1 : Int32))), (4, .long ((1 : Int64))), (2, .long ((-1 : Int64))), (0, .ref (X.1 + v0)), (1, .int v1)] hc hr (dc_at dX9_seekBelow 13 rfl) (by decide) rfl ?_
    exact gg_sub [3, 4, 2, 1, 0] rfl (tl_X9_seekBelow_24 hc hr he hm hs  F _ _ _ _ _ _ hf)
  · refine r_iconst (0 : Int32) hc (dc_at dX9_seekBelow 10 rfl) (by decide) ?_
    exact r_zret hc he (hm) (hs) (dc_at dX9_seekBelow 11 rfl) hf
def m_X9_seekBelow (F : Nat) (h : PH) (p0 : Nat) (p1 : Int32) : Option (Int32 × PH) := b_X9_seekBelow_0 F h p0 p1
theorem mt_X9_seekBelow {l : Launch} {X : XT} {F : Nat} {h hz : PH} {p0 : Nat} {p1 : Int32} {r : Int32} (ex : m_X9_seekBelow F h p0 p1 = some (r, hz)) : MT l X yX9_seekBelow cX9_seekBelow 9 (some .boolean) 3 176 0 0 [.ref (X.1 + p0), .int p1] h (some (.int r)) hz := MT.of (by decide) (Nat.le_of_ble_eq_true rfl) fun M hl hc hr he => by
  subst hl
  exact gg_sub [0, 1] rfl (t_X9_seekBelow_0  hc hr he (Nat.zero_le _) (Nat.zero_le _) ex)
/-! FractionLift.neighbour(IIIZI)I -/
def lX9_neighbourL : List (Nat × Instr × Nat × Nat) := [(0, .iload 5, 2, 2), (2, .ifCond .lt 9, 3, 5), (5, .iload 5, 2, 7), (7, .iconst 1, 1, 8), (8, .if_icmp .le 6, 3, 11), (11, .bipush (-2), 2, 13), (13, .ireturn, 1, 14), (14, .iload_n 3, 1, 15), (15, .iconst 1, 1, 16), (16, .if_icmp .lt 19, 3, 19), (19, .iload_n 3, 1, 20), (20, .sipush 1000, 3, 23), (23, .if_icmp .gt 12, 3, 26), (26, .aload_n 0, 1, 27), (27, .iload_n 1, 1, 28), (28, .iload_n 2, 1, 29), (29, .invokevirtual 132, 3, 32), (32, .ifCond .ne 6, 3, 35), (35, .bipush (-3), 2, 37), (37, .ireturn, 1, 38), (38, .iload 4, 2, 40), (40, .ifCond .eq 11, 3, 43), (43, .aload_n 0, 1, 44), (44, .iload_n 3, 1, 45), (45, .invokevirtual 265, 3, 48), (48, .goto 8, 3, 51), (51, .aload_n 0, 1, 52), (52, .iload_n 3, 1, 53), (53, .invokevirtual 268, 3, 56), (56, .istore 6, 2, 58), (58, .iload 6, 2, 60), (60, .ifCond .eq 16, 3, 63), (63, .aload_n 0, 1, 64), (64, .getfield 63, 3, 67), (67, .iload 5, 2, 69), (69, .invokevirtual 180, 3, 72), (72, .l2i, 1, 73), (73, .goto 4, 3, 76), (76, .iconst (-1), 1, 77), (77, .ireturn, 1, 78)]
set_option maxRecDepth 20000 in
theorem dX9_neighbour : dcL cX9_neighbour lX9_neighbourL = true := by decide +kernel
def b_X9_neighbour_56 (F : Nat) (h : PH) (v0 : Nat) (v5 : Int32) (s0 : Int32) : Option (Int32 × PH) := if s0 = 0 then (some ((-1 : Int32), h)) else ((gR 9 13 h v0).bind fun a1 => (cO 2 h a1 ((m_X2_part h a1 v5).bind fun x2 => (some ((Int64.toInt32 x2), h)))))
set_option maxRecDepth 20000 in
theorem t_X9_neighbour_56 {M : MV} {X : XT} {F : Nat} {h hz : PH} {r : Int32} {ce sl mc ms : Nat} {v0 : Nat} {v5 : Int32} {s0 : Int32} (hc : Cx M X RX9 cX9_neighbour) (hr : Rx M 4 234 mc ms 7) (he : Ex M X (some .int) "neighbour" (some (.int r)) hz mc ms) (hm : ce ≤ mc) (hs : sl ≤ ms) (hf : b_X9_neighbour_56 F h v0 v5 s0 = some (r, hz)) : GG M X h ce sl 56 [(0, .ref (X.1 + v0)), (5, .int v5)] [.int s0] := by
  unfold b_X9_neighbour_56 at hf
  refine r_istore [(6, .int s0), (0, .ref (X.1 + v0)), (5, .int v5)] hc hr (dc_at dX9_neighbour 29 rfl) (by decide) rfl ?_
  refine r_iload hc 0 (dc_at dX9_neighbour 30 rfl) rfl ?_
  refine r_if_eq (tgt := 76) hc (dc_at dX9_neighbour 31 rfl) (by decide) hf (fun hf => ?_) (fun hf => ?_)
  · refine r_iconst (-1 : Int32) hc (dc_at dX9_neighbour 38 rfl) (by decide) ?_
    exact r_iret hc he (hm) (hs) (dc_at dX9_neighbour 39 rfl) hf
  · refine r_aload_n hc 1 (dc_at dX9_neighbour 32 rfl) rfl ?_
    refine r_getR hc (dc_at dX9_neighbour 33 rfl) fl_X9_63 hf fun a1 hf => ?_
    refine r_iload hc 2 (dc_at dX9_neighbour 34 rfl) rfl ?_
    obtain ⟨ho, hf⟩ := cO_some hf
    refine ob hf fun x2 ex hf => ?_
    refine r_callVl (As := [.int v5]) (ci := 2) hc hr (dc_at dX9_neighbour 35 rfl) ml_X9_180 mv_X2_part vi_X2_part rfl ho rfl (mt_X2_part ex) (by first | exact Nat.le_of_ble_eq_true rfl | omega) (by first | exact Nat.le_of_ble_eq_true rfl | omega) (by first | exact Nat.le_of_ble_eq_true rfl | omega) hm hs ?_
    refine r_l2i hc (dc_at dX9_neighbour 36 rfl) ?_
    refine r_goto (tgt := 77) hc (dc_at dX9_neighbour 37 rfl) (by decide) ?_
    exact r_iret hc he (hm) (hs) (dc_at dX9_neighbour 39 rfl) hf
def b_X9_neighbour_0 (F : Nat) (h : PH) (v0 : Nat) (v1 : Int32) (v2 : Int32) (v3 : Int32) (v4 : Int32) (v5 : Int32) : Option (Int32 × PH) := if v5 < 0 then (some ((-2 : Int32), h)) else (if v5 ≤ (1 : Int32) then (if v3 < (1 : Int32) then (some ((-3 : Int32), h)) else (if (1000 : Int32) < v3 then (some ((-3 : Int32), h)) else (cO 9 h v0 (bind2 (m_X9_asksFloor F h v0 v1 v2) fun x1 h2 => (if x1 = 0 then (some ((-3 : Int32), h2)) else (if v4 = 0 then (cO 9 h2 v0 (bind2 (m_X9_seekBelow F h2 v0 v3) fun x3 h4 => (b_X9_neighbour_56 F h4 v0 v5 x3))) else (cO 9 h2 v0 (bind2 (m_X9_seekAbove F h2 v0 v3) fun x5 h6 => (b_X9_neighbour_56 F h6 v0 v5 x5))))))))) else (some ((-2 : Int32), h)))
set_option maxRecDepth 20000 in
theorem t_X9_neighbour_0 {M : MV} {X : XT} {F : Nat} {h hz : PH} {r : Int32} {ce sl mc ms : Nat} {v0 : Nat} {v1 : Int32} {v2 : Int32} {v3 : Int32} {v4 : Int32} {v5 : Int32} (hc : Cx M X RX9 cX9_neighbour) (hr : Rx M 4 234 mc ms 7) (he : Ex M X (some .int) "neighbour" (some (.int r)) hz mc ms) (hm : ce ≤ mc) (hs : sl ≤ ms) (hf : b_X9_neighbour_0 F h v0 v1 v2 v3 v4 v5 = some (r, hz)) : GG M X h ce sl 0 [(0, .ref (X.1 + v0)), (1, .int v1), (2, .int v2), (3, .int v3), (4, .int v4), (5, .int v5)] [] := by
  unfold b_X9_neighbour_0 at hf
  refine r_iload hc 5 (dc_at dX9_neighbour 0 rfl) rfl ?_
  refine r_if_lt (tgt := 11) hc (dc_at dX9_neighbour 1 rfl) (by decide) hf (fun hf => ?_) (fun hf => ?_)
  · refine r_bipush (-2 : Int32) hc (dc_at dX9_neighbour 5 rfl) (by decide) ?_
    exact r_iret hc he (hm) (hs) (dc_at dX9_neighbour 6 rfl) hf
  · refine r_iload hc 5 (dc_at dX9_neighbour 2 rfl) rfl ?_
    refine r_iconst (1 : Int32) hc (dc_at dX9_neighbour 3 rfl) (by decide) ?_
    refine r_icmp_le (tgt := 14) hc (dc_at dX9_neighbour 4 rfl) (by decide) hf (fun hf => ?_) (fun hf => ?_)
    · refine r_iload_n hc 3 (dc_at dX9_neighbour 7 rfl) rfl ?_
      refine r_iconst (1 : Int32) hc (dc_at dX9_neighbour 8 rfl) (by decide) ?_
      refine r_icmp_lt (tgt := 35) hc (dc_at dX9_neighbour 9 rfl) (by decide) hf (fun hf => ?_) (fun hf => ?_)
      · refine r_bipush (-3 : Int32) hc (dc_at dX9_neighbour 18 rfl) (by decide) ?_
        exact r_iret hc he (hm) (hs) (dc_at dX9_neighbour 19 rfl) hf
      · refine r_iload_n hc 3 (dc_at dX9_neighbour 10 rfl) rfl ?_
        refine r_sipush (1000 : Int32) hc (dc_at dX9_neighbour 11 rfl) (by decide) ?_
        refine r_icmp_gt (tgt := 35) hc (dc_at dX9_neighbour 12 rfl) (by decide) hf (fun hf => ?_) (fun hf => ?_)
        · refine r_bipush (-3 : Int32) hc (dc_at dX9_neighbour 18 rfl) (by decide) ?_
          exact r_iret hc he (hm) (hs) (dc_at dX9_neighbour 19 rfl) hf
        · refine r_aload_n hc 0 (dc_at dX9_neighbour 13 rfl) rfl ?_
          refine r_iload_n hc 1 (dc_at dX9_neighbour 14 rfl) rfl ?_
          refine r_iload_n hc 2 (dc_at dX9_neighbour 15 rfl) rfl ?_
          obtain ⟨ho, hf⟩ := cO_some hf
          refine ob2 hf fun x1 h2 ex hf => ?_
          refine r_callVi (As := [.int v1, .int v2]) (ci := 9) hc hr (dc_at dX9_neighbour 16 rfl) ml_X9_132 mv_X9_asksFloor vi_X9_asksFloor rfl ho rfl (mt_X9_asksFloor ex) (by first | exact Nat.le_of_ble_eq_true rfl | omega) (by first | exact Nat.le_of_ble_eq_true rfl | omega) (by first | exact Nat.le_of_ble_eq_true rfl | omega) hm hs ?_
          refine r_if_ne (tgt := 38) hc (dc_at dX9_neighbour 17 rfl) (by decide) hf (fun hf => ?_) (fun hf => ?_)
          · refine r_iload hc 4 (dc_at dX9_neighbour 20 rfl) rfl ?_
            refine r_if_eq (tgt := 51) hc (dc_at dX9_neighbour 21 rfl) (by decide) hf (fun hf => ?_) (fun hf => ?_)
            · refine r_aload_n hc 0 (dc_at dX9_neighbour 26 rfl) rfl ?_
              refine r_iload_n hc 3 (dc_at dX9_neighbour 27 rfl) rfl ?_
              obtain ⟨ho, hf⟩ := cO_some hf
              refine ob2 hf fun x3 h4 ex hf => ?_
              refine r_callVi (As := [.int v3]) (ci := 9) hc hr (dc_at dX9_neighbour 28 rfl) ml_X9_268 mv_X9_seekBelow vi_X9_seekBelow rfl ho rfl (mt_X9_seekBelow ex) (by first | exact Nat.le_of_ble_eq_true rfl | omega) (by first | exact Nat.le_of_ble_eq_true rfl | omega) (by first | exact Nat.le_of_ble_eq_true rfl | omega) hm hs ?_
              exact gg_sub [0, 5] rfl (t_X9_neighbour_56 hc hr he hm hs  hf)
            · refine r_aload_n hc 0 (dc_at dX9_neighbour 22 rfl) rfl ?_
              refine r_iload_n hc 3 (dc_at dX9_neighbour 23 rfl) rfl ?_
              obtain ⟨ho, hf⟩ := cO_some hf
              refine ob2 hf fun x5 h6 ex hf => ?_
              refine r_callVi (As := [.int v3]) (ci := 9) hc hr (dc_at dX9_neighbour 24 rfl) ml_X9_265 mv_X9_seekAbove vi_X9_seekAbove rfl ho rfl (mt_X9_seekAbove ex) (by first | exact Nat.le_of_ble_eq_true rfl | omega) (by first | exact Nat.le_of_ble_eq_true rfl | omega) (by first | exact Nat.le_of_ble_eq_true rfl | omega) hm hs ?_
              refine r_goto (tgt := 56) hc (dc_at dX9_neighbour 25 rfl) (by decide) ?_
              exact gg_sub [0, 5] rfl (t_X9_neighbour_56 hc hr he hm hs  hf)
          · refine r_bipush (-3 : Int32) hc (dc_at dX9_neighbour 18 rfl) (by decide) ?_
            exact r_iret hc he (hm) (hs) (dc_at dX9_neighbour 19 rfl) hf
    · refine r_bipush (-2 : Int32) hc (dc_at dX9_neighbour 5 rfl) (by decide) ?_
      exact r_iret hc he (hm) (hs) (dc_at dX9_neighbour 6 rfl) hf
def m_X9_neighbour (F : Nat) (h : PH) (p0 : Nat) (p1 : Int32) (p2 : Int32) (p3 : Int32) (p4 : Int32) (p5 : Int32) : Option (Int32 × PH) := b_X9_neighbour_0 F h p0 p1 p2 p3 p4 p5
theorem mt_X9_neighbour {l : Launch} {X : XT} {F : Nat} {h hz : PH} {p0 : Nat} {p1 : Int32} {p2 : Int32} {p3 : Int32} {p4 : Int32} {p5 : Int32} {r : Int32} (ex : m_X9_neighbour F h p0 p1 p2 p3 p4 p5 = some (r, hz)) : MT l X yX9_neighbour cX9_neighbour 7 (some .int) 4 234 0 0 [.ref (X.1 + p0), .int p1, .int p2, .int p3, .int p4, .int p5] h (some (.int r)) hz := MT.of (by decide) (Nat.le_of_ble_eq_true rfl) fun M hl hc hr he => by
  subst hl
  exact gg_sub [0, 1, 2, 3, 4, 5] rfl (t_X9_neighbour_0  hc hr he (Nat.zero_le _) (Nat.zero_le _) ex)
/-! FractionLift.seekSimplest(JJJJ)V -/
def lX9_seekSimplestL : List (Nat × Instr × Nat × Nat) := [(0, .lload_n 1, 1, 1), (1, .lstore 9, 2, 3), (3, .lload_n 3, 1, 4), (4, .lstore 11, 2, 6), (6, .lload 5, 2, 8), (8, .lstore 13, 2, 10), (10, .lload 7, 2, 12), (12, .lstore 15, 2, 14), (14, .lconst 1, 1, 15), (15, .lstore 17, 2, 17), (17, .lconst 0, 1, 18), (18, .lstore 19, 2, 20), (20, .lconst 0, 1, 21), (21, .lstore 21, 2, 23), (23, .lconst 1, 1, 24), (24, .lstore 23, 2, 26), (26, .iconst 0, 1, 27), (27, .istore 25, 2, 29), (29, .iload 25, 2, 31), (31, .sipush 128, 3, 34), (34, .if_icmp .ge 139, 3, 37), (37, .lload 11, 2, 39), (39, .lconst 0, 1, 40), (40, .lcmp, 1, 41), (41, .ifCond .eq 132, 3, 44), (44, .lload 9, 2, 46), (46, .lload 11, 2, 48), (48, .ldiv, 1, 49), (49, .lstore 26, 2, 51), (51, .lload 26, 2, 53), (53, .lconst 1, 1, 54), (54, .ladd, 1, 55), (55, .lload 15, 2, 57), (57, .lmul, 1, 58), (58, .lload 13, 2, 60), (60, .lcmp, 1, 61), (61, .ifCond .ge 7, 3, 64), (64, .iconst 1, 1, 65), (65, .goto 4, 3, 68), (68, .iconst 0, 1, 69), (69, .istore 28, 2, 71), (71, .iload 28, 2, 73), (73, .ifCond .eq 10, 3, 76), (76, .lload 26, 2, 78), (78, .lconst 1, 1, 79), (79, .ladd, 1, 80), (80, .goto 5, 3, 83), (83, .lload 26, 2, 85), (85, .lstore 29, 2, 87), (87, .lload 29, 2, 89), (89, .lload 17, 2, 91), (91, .lmul, 1, 92), (92, .lload 19, 2, 94), (94, .ladd, 1, 95), (95, .lstore 31, 2, 97), (97, .lload 29, 2, 99), (99, .lload 21, 2, 101), (101, .lmul, 1, 102), (102, .lload 23, 2, 104), (104, .ladd, 1, 105), (105, .lstore 33, 2, 107), (107, .lload 17, 2, 109), (109, .lstore 19, 2, 111), (111, .lload 21, 2, 113), (113, .lstore 23, 2, 115), (115, .lload 31, 2, 117), (117, .lstore 17, 2, 119), (119, .lload 33, 2, 121), (121, .lstore 21, 2, 123), (123, .iload 28, 2, 125), (125, .ifCond .eq 6, 3, 128), (128, .goto 45, 3, 131), (131, .lload 9, 2, 133), (133, .lload 26, 2, 135), (135, .lload 11, 2, 137), (137, .lmul, 1, 138), (138, .lsub, 1, 139), (139, .lstore 35, 2, 141), (141, .lload 13, 2, 143), (143, .lload 26, 2, 145), (145, .lload 15, 2, 147), (147, .lmul, 1, 148), (148, .lsub, 1, 149), (149, .lstore 37, 2, 151), (151, .lload 15, 2, 153), (153, .lstore 9, 2, 155), (155, .lload 11, 2, 157), (157, .lstore 13, 2, 159), (159, .lload 37, 2, 161), (161, .lstore 11, 2, 163), (163, .lload 35, 2, 165), (165, .lstore 15, 2, 167), (167, .iinc 25 1, 3, 170), (170, .goto (-141), 3, 173), (173, .aload_n 0, 1, 174), (174, .getfield 59, 3, 177), (177, .lload 17, 2, 179), (179, .lload 21, 2, 181), (181, .invokevirtual 271, 3, 184), (184, .return_, 1, 185)]
set_option maxRecDepth 20000 in
theorem dX9_seekSimplest : dcL cX9_seekSimplest lX9_seekSimplestL = true := by decide +kernel
def b_X9_seekSimplest_173 (F : Nat) (h : PH) (v0 : Nat) (v17 : Int64) (v21 : Int64) : Option (Unit × PH) := (gR 9 12 h v0).bind fun a1 => (cO 2 h a1 (bind2 (m_X2_put F h a1 v17 v21) fun _ h3 => (some ((), h3))))
set_option maxRecDepth 20000 in
theorem t_X9_seekSimplest_173 {M : MV} {X : XT} {F : Nat} {h hz : PH} {r : Unit} {ce sl mc ms : Nat} {v0 : Nat} {v17 : Int64} {v21 : Int64} (hc : Cx M X RX9 cX9_seekSimplest) (hr : Rx M 3 176 mc ms 39) (he : Ex M X none "seekSimplest" none hz mc ms) (hm : ce ≤ mc) (hs : sl ≤ ms) (hf : b_X9_seekSimplest_173 F h v0 v17 v21 = some (r, hz)) : GG M X h ce sl 173 [(0, .ref (X.1 + v0)), (17, .long v17), (21, .long v21)] [] := by
  unfold b_X9_seekSimplest_173 at hf
  refine r_aload_n hc 0 (dc_at dX9_seekSimplest 94 rfl) rfl ?_
  refine r_getR hc (dc_at dX9_seekSimplest 95 rfl) fl_X9_59 hf fun a1 hf => ?_
  refine r_lload hc 1 (dc_at dX9_seekSimplest 96 rfl) rfl ?_
  refine r_lload hc 2 (dc_at dX9_seekSimplest 97 rfl) rfl ?_
  obtain ⟨ho, hf⟩ := cO_some hf
  refine ob2 hf fun u h3 ex hf => ?_
  refine r_callVv (As := [.long v17, .long v21]) (ci := 2) hc hr (dc_at dX9_seekSimplest 98 rfl) ml_X9_271 mv_X2_put vi_X2_put rfl ho rfl (mt_X2_put ex) (by first | exact Nat.le_of_ble_eq_true rfl | omega) (by first | exact Nat.le_of_ble_eq_true rfl | omega) (by first | exact Nat.le_of_ble_eq_true rfl | omega) hm hs ?_
  exact r_vret hc he (hm) (hs) (dc_at dX9_seekSimplest 99 rfl) hf
def b_X9_seekSimplest_85 (F : Nat) (self18 : PH → Nat → Int64 → Int64 → Int64 → Int64 → Int64 → Int64 → Int64 → Int64 → Int32 → Option (Unit × PH)) (h : PH) (v0 : Nat) (v9 : Int64) (v11 : Int64) (v13 : Int64) (v15 : Int64) (v17 : Int64) (v19 : Int64) (v21 : Int64) (v23 : Int64) (v25 : Int32) (v26 : Int64) (v28 : Int32) (s0 : Int64) : Option (Unit × PH) := bindv (((s0 * v17) + v19)) fun x1 => (bindv (((s0 * v21) + v23)) fun x2 => (if v28 = 0 then (bindv ((v9 - (v26 * v11))) fun x3 => (bindv ((v13 - (v26 * v15))) fun x4 => (bindv (v25 + (1)) fun x5 => (self18 h v0 v15 x4 v11 x3 x1 v17 x2 v21 x5)))) else (b_X9_seekSimplest_173 F h v0 x1 x2)))
set_option maxRecDepth 20000 in
theorem t_X9_seekSimplest_85 {M : MV} {X : XT} {F : Nat} {self18 : PH → Nat → Int64 → Int64 → Int64 → Int64 → Int64 → Int64 → Int64 → Int64 → Int32 → Option (Unit × PH)} {h hz : PH} {r : Unit} {ce sl mc ms : Nat} {v0 : Nat} {v9 : Int64} {v11 : Int64} {v13 : Int64} {v15 : Int64} {v17 : Int64} {v19 : Int64} {v21 : Int64} {v23 : Int64} {v25 : Int32} {v26 : Int64} {v28 : Int32} {s0 : Int64} (hc : Cx M X RX9 cX9_seekSimplest) (hr : Rx M 3 176 mc ms 39) (he : Ex M X none "seekSimplest" none hz mc ms) (hm : ce ≤ mc) (hs : sl ≤ ms) (ih18 : ∀ (h : PH) (v0 : Nat) (v9 : Int64) (v11 : Int64) (v13 : Int64) (v15 : Int64) (v17 : Int64) (v19 : Int64) (v21 : Int64) (v23 : Int64) (v25 : Int32), self18 h v0 v9 v11 v13 v15 v17 v19 v21 v23 v25 = some (r, hz) → GG M X h ce sl 29 [(0, .ref (X.1 + v0)), (9, .long v9), (11, .long v11), (13, .long v13), (15, .long v15), (17, .long v17), (19, .long v19), (21, .long v21), (23, .long v23), (25, .int v25)] []) (hf : b_X9_seekSimplest_85 F self18 h v0 v9 v11 v13 v15 v17 v19 v21 v23 v25 v26 v28 s0 = some (r, hz)) : GG M X h ce sl 85 [(0, .ref (X.1 + v0)), (9, .long v9), (11, .long v11), (13, .long v13), (15, .long v15), (17, .long v17), (19, .long v19), (21, .long v21), (23, .long v23), (25, .int v25), (26, .long v26), (28, .int v28)] [.long s0] := by
  unfold b_X9_seekSimplest_85 at hf
  refine r_lstore [(29, .long s0), (0, .ref (X.1 + v0)), (9, .long v9), (11, .long v11), (13, .long v13), (15, .long v15), (17, .long v17), (19, .long v19), (21, .long v21), (23, .long v23), (25, .int v25), (26, .long v26), (28, .int v28)] hc hr (dc_at dX9_seekSimplest 48 rfl) (by decide) rfl ?_
  refine r_lload hc 0 (dc_at dX9_seekSimplest 49 rfl) rfl ?_
  refine r_lload hc 6 (dc_at dX9_seekSimplest 50 rfl) rfl ?_
  refine r_lmul hc (dc_at dX9_seekSimplest 51 rfl) ?_
  refine r_lload hc 7 (dc_at dX9_seekSimplest 52 rfl) rfl ?_
  refine r_ladd hc (dc_at dX9_seekSimplest 53 rfl) ?_
  refine r_nm (mk := Value.long) hf fun x1 hf => ?_
  refine r_lstore [(31, .long x1), (29, .long s0), (0, .ref (X.1 + v0)), (9, .long v9), (11, .long v11), (13, .long v13), (15, .long v15), (17, .long v17), (19, .long v19), (21, .long v21), (23, .long v23), (25, .int v25), (26, .long v26), (28, .int v28)] hc hr (dc_at dX9_seekSimplest 54 rfl) (by decide) rfl ?_
  refine r_lload hc 1 (dc_at dX9_seekSimplest 55 rfl) rfl ?_
  refine r_lload hc 9 (dc_at dX9_seekSimplest 56 rfl) rfl ?_
  refine r_lmul hc (dc_at dX9_seekSimplest 57 rfl) ?_
  refine r_lload hc 10 (dc_at dX9_seekSimplest 58 rfl) rfl ?_
  refine r_ladd hc (dc_at dX9_seekSimplest 59 rfl) ?_
  refine r_nm (mk := Value.long) hf fun x2 hf => ?_
  refine r_lstore [(33, .long x2), (31, .long x1), (29, .long s0), (0, .ref (X.1 + v0)), (9, .long v9), (11, .long v11), (13, .long v13), (15, .long v15), (17, .long v17), (19, .long v19), (21, .long v21), (23, .long v23), (25, .int v25), (26, .long v26), (28, .int v28)] hc hr (dc_at dX9_seekSimplest 60 rfl) (by decide) rfl ?_
  refine r_lload hc 8 (dc_at dX9_seekSimplest 61 rfl) rfl ?_
  refine r_lstore [(19, .long v17), (33, .long x2), (31, .long x1), (29, .long s0), (0, .ref (X.1 + v0)), (9, .long v9), (11, .long v11), (13, .long v13), (15, .long v15), (17, .long v17), (21, .long v21), (23, .long v23), (25, .int v25), (26, .long v26), (28, .int v28)] hc hr (dc_at dX9_seekSimplest 62 rfl) (by decide) rfl ?_
  refine r_lload hc 10 (dc_at dX9_seekSimplest 63 rfl) rfl ?_
  refine r_lstore [(23, .long v21), (19, .long v17), (33, .long x2), (31, .long x1), (29, .long s0), (0, .ref (X.1 + v0)), (9, .long v9), (11, .long v11), (13, .long v13), (15, .long v15), (17, .long v17), (21, .long v21), (25, .int v25), (26, .long v26), (28, .int v28)] hc hr (dc_at dX9_seekSimplest 64 rfl) (by decide) rfl ?_
  refine r_lload hc 3 (dc_at dX9_seekSimplest 65 rfl) rfl ?_
  refine r_lstore [(17, .long x1), (23, .long v21), (19, .long v17), (33, .long x2), (31, .long x1), (29, .long s0), (0, .ref (X.1 + v0)), (9, .long v9), (11, .long v11), (13, .long v13), (15, .long v15), (21, .long v21), (25, .int v25), (26, .long v26), (28, .int v28)] hc hr (dc_at dX9_seekSimplest 66 rfl) (by decide) rfl ?_
  refine r_lload hc 3 (dc_at dX9_seekSimplest 67 rfl) rfl ?_
  refine r_lstore [(21, .long x2), (17, .long x1), (23, .long v21), (19, .long v17), (33, .long x2), (31, .long x1), (29, .long s0), (0, .ref (X.1 + v0)), (9, .long v9), (11, .long v11), (13, .long v13), (15, .long v15), (25, .int v25), (26, .long v26), (28, .int v28)] hc hr (dc_at dX9_seekSimplest 68 rfl) (by decide) rfl ?_
  refine r_iload hc 14 (dc_at dX9_seekSimplest 69 rfl) rfl ?_
  refine r_if_eq (tgt := 131) hc (dc_at dX9_seekSimplest 70 rfl) (by decide) hf (fun hf => ?_) (fun hf => ?_)
  · refine r_lload hc 8 (dc_at dX9_seekSimplest 72 rfl) rfl ?_
    refine r_lload hc 13 (dc_at dX9_seekSimplest 73 rfl) rfl ?_
    refine r_lload hc 9 (dc_at dX9_seekSimplest 74 rfl) rfl ?_
    refine r_lmul hc (dc_at dX9_seekSimplest 75 rfl) ?_
    refine r_lsub hc (dc_at dX9_seekSimplest 76 rfl) ?_
    refine r_nm (mk := Value.long) hf fun x3 hf => ?_
    refine r_lstore [(35, .long x3), (21, .long x2), (17, .long x1), (23, .long v21), (19, .long v17), (33, .long x2), (31, .long x1), (29, .long s0), (0, .ref (X.1 + v0)), (9, .long v9), (11, .long v11), (13, .long v13), (15, .long v15), (25, .int v25), (26, .long v26), (28, .int v28)] hc hr (dc_at dX9_seekSimplest 77 rfl) (by decide) rfl ?_
    refine r_lload hc 11 (dc_at dX9_seekSimplest 78 rfl) rfl ?_
    refine r_lload hc 14 (dc_at dX9_seekSimplest 79 rfl) rfl ?_
    refine r_lload hc 12 (dc_at dX9_seekSimplest 80 rfl) rfl ?_
    refine r_lmul hc (dc_at dX9_seekSimplest 81 rfl) ?_
    refine r_lsub hc (dc_at dX9_seekSimplest 82 rfl) ?_
    refine r_nm (mk := Value.long) hf fun x4 hf => ?_
    refine r_lstore [(37, .long x4), (35, .long x3), (21, .long x2), (17, .long x1), (23, .long v21), (19, .long v17), (33, .long x2), (31, .long x1), (29, .long s0), (0, .ref (X.1 + v0)), (9, .long v9), (11, .long v11), (13, .long v13), (15, .long v15), (25, .int v25), (26, .long v26), (28, .int v28)] hc hr (dc_at dX9_seekSimplest 83 rfl) (by decide) rfl ?_
    refine r_lload hc 13 (dc_at dX9_seekSimplest 84 rfl) rfl ?_
    refine r_lstore [(9, .long v15), (37, .long x4), (35, .long x3), (21, .long x2), (17, .long x1), (23, .long v21), (19, .long v17), (33, .long x2), (31, .long x1), (29, .long s0), (0, .ref (X.1 + v0)), (11, .long v11), (13, .long v13), (15, .long v15), (25, .int v25), (26, .long v26), (28, .int v28)] hc hr (dc_at dX9_seekSimplest 85 rfl) (by decide) rfl ?_
    refine r_lload hc 11 (dc_at dX9_seekSimplest 86 rfl) rfl ?_
    refine r_lstore [(13, .long v11), (9, .long v15), (37, .long x4), (35, .long x3), (21, .long x2), (17, .long x1), (23, .long v21), (19, .long v17), (33, .long x2), (31, .long x1), (29, .long s0), (0, .ref (X.1 + v0)), (11, .long v11), (15, .long v15), (25, .int v25), (26, .long v26), (28, .int v28)] hc hr (dc_at dX9_seekSimplest 87 rfl) (by decide) rfl ?_
    refine r_lload hc 2 (dc_at dX9_seekSimplest 88 rfl) rfl ?_
    refine r_lstore [(11, .long x4), (13, .long v11), (9, .long v15), (37, .long x4), (35, .long x3), (21, .long x2), (17, .long x1), (23, .long v21), (19, .long v17), (33, .long x2), (31, .long x1), (29, .long s0), (0, .ref (X.1 + v0)), (15, .long v15), (25, .int v25), (26, .long v26), (28, .int v28)] hc hr (dc_at dX9_seekSimplest 89 rfl) (by decide) rfl ?_
    refine r_lload hc 4 (dc_at dX9_seekSimplest 90 rfl) rfl ?_
    refine r_lstore [(15, .long x3), (11, .long x4), (13, .long v11), (9, .long v15), (37, .long x4), (35, .long x3), (21, .long x2), (17, .long x1), (23, .long v21), (19, .long v17), (33, .long x2), (31, .long x1), (29, .long s0), (0, .ref (X.1 + v0)), (25, .int v25), (26, .long v26), (28, .int v28)] hc hr (dc_at dX9_seekSimplest 91 rfl) (by decide) rfl ?_
    refine obv hf fun x5 e_x5 hf => ?_
    refine r_iinc 14 [(25, .int x5), (15, .long x3), (11, .long x4), (13, .long v11), (9, .long v15), (37, .long x4), (35, .long x3), (21, .long x2), (17, .long x1), (23, .long v21), (19, .long v17), (33, .long x2), (31, .long x1), (29, .long s0), (0, .ref (X.1 + v0)), (26, .long v26), (28, .int v28)] hc hr (dc_at dX9_seekSimplest 92 rfl) rfl (by rw [e_x5]; rfl) (by decide) rfl ?_
    refine r_goto (tgt := 29) hc (dc_at dX9_seekSimplest 93 rfl) (by decide) ?_
    exact gg_sub [14, 4, 2, 3, 1, 8, 10, 7, 9, 0] rfl (ih18 _ _ _ _ _ _ _ _ _ _ _ hf)
  · refine r_goto (tgt := 173) hc (dc_at dX9_seekSimplest 71 rfl) (by decide) ?_
    exact gg_sub [7, 1, 0] rfl (t_X9_seekSimplest_173 hc hr he hm hs  hf)
def b_X9_seekSimplest_69 (F : Nat) (self18 : PH → Nat → Int64 → Int64 → Int64 → Int64 → Int64 → Int64 → Int64 → Int64 → Int32 → Option (Unit × PH)) (h : PH) (v0 : Nat) (v9 : Int64) (v11 : Int64) (v13 : Int64) (v15 : Int64) (v17 : Int64) (v19 : Int64) (v21 : Int64) (v23 : Int64) (v25 : Int32) (v26 : Int64) (s0 : Int32) : Option (Unit × PH) := if s0 = 0 then (b_X9_seekSimplest_85 F self18 h v0 v9 v11 v13 v15 v17 v19 v21 v23 v25 v26 s0 v26) else (b_X9_seekSimplest_85 F self18 h v0 v9 v11 v13 v15 v17 v19 v21 v23 v25 v26 s0 ((v26 + (1 : Int64))))
set_option maxRecDepth 20000 in
theorem t_X9_seekSimplest_69 {M : MV} {X : XT} {F : Nat} {self18 : PH → Nat → Int64 → Int64 → Int64 → Int64 → Int64 → Int64 → Int64 → Int64 → Int32 → Option (Unit × PH)} {h hz : PH} {r : Unit} {ce sl mc ms : Nat} {v0 : Nat} {v9 : Int64} {v11 : Int64} {v13 : Int64} {v15 : Int64} {v17 : Int64} {v19 : Int64} {v21 : Int64} {v23 : Int64} {v25 : Int32} {v26 : Int64} {s0 : Int32} (hc : Cx M X RX9 cX9_seekSimplest) (hr : Rx M 3 176 mc ms 39) (he : Ex M X none "seekSimplest" none hz mc ms) (hm : ce ≤ mc) (hs : sl ≤ ms) (ih18 : ∀ (h : PH) (v0 : Nat) (v9 : Int64) (v11 : Int64) (v13 : Int64) (v15 : Int64) (v17 : Int64) (v19 : Int64) (v21 : Int64) (v23 : Int64) (v25 : Int32), self18 h v0 v9 v11 v13 v15 v17 v19 v21 v23 v25 = some (r, hz) → GG M X h ce sl 29 [(0, .ref (X.1 + v0)), (9, .long v9), (11, .long v11), (13, .long v13), (15, .long v15), (17, .long v17), (19, .long v19), (21, .long v21), (23, .long v23), (25, .int v25)] []) (hf : b_X9_seekSimplest_69 F self18 h v0 v9 v11 v13 v15 v17 v19 v21 v23 v25 v26 s0 = some (r, hz)) : GG M X h ce sl 69 [(0, .ref (X.1 + v0)), (9, .long v9), (11, .long v11), (13, .long v13), (15, .long v15), (17, .long v17), (19, .long v19), (21, .long v21), (23, .long v23), (25, .int v25), (26, .long v26)] [.int s0] := by
  unfold b_X9_seekSimplest_69 at hf
  refine r_istore [(28, .int s0), (0, .ref (X.1 + v0)), (9, .long v9), (11, .long v11), (13, .long v13), (15, .long v15), (17, .long v17), (19, .long v19), (21, .long v21), (23, .long v23), (25, .int v25), (26, .long v26)] hc hr (dc_at dX9_seekSimplest 40 rfl) (by decide) rfl ?_
  refine r_iload hc 0 (dc_at dX9_seekSimplest 41 rfl) rfl ?_
  refine r_if_eq (tgt := 83) hc (dc_at dX9_seekSimplest 42 rfl) (by decide) hf (fun hf => ?_) (fun hf => ?_)
  · refine r_lload hc 11 (dc_at dX9_seekSimplest 47 rfl) rfl ?_
    exact gg_sub [1, 2, 3, 4, 5, 6, 7, 8, 9, 10, 11, 0] rfl (t_X9_seekSimplest_85 hc hr he hm hs ih18 hf)
  · refine r_lload hc 11 (dc_at dX9_seekSimplest 43 rfl) rfl ?_
    refine r_lconst (1 : Int64) hc (dc_at dX9_seekSimplest 44 rfl) (by decide) ?_
    refine r_ladd hc (dc_at dX9_seekSimplest 45 rfl) ?_
    refine r_goto (tgt := 85) hc (dc_at dX9_seekSimplest 46 rfl) (by decide) ?_
    exact gg_sub [1, 2, 3, 4, 5, 6, 7, 8, 9, 10, 11, 0] rfl (t_X9_seekSimplest_85 hc hr he hm hs ih18 hf)
def b_X9_seekSimplest_29 (F : Nat) (self18 : PH → Nat → Int64 → Int64 → Int64 → Int64 → Int64 → Int64 → Int64 → Int64 → Int32 → Option (Unit × PH)) (h : PH) (v0 : Nat) (v9 : Int64) (v11 : Int64) (v13 : Int64) (v15 : Int64) (v17 : Int64) (v19 : Int64) (v21 : Int64) (v23 : Int64) (v25 : Int32) : Option (Unit × PH) := if (128 : Int32) ≤ v25 then (b_X9_seekSimplest_173 F h v0 v17 v21) else (if v11 = (0 : Int64) then (b_X9_seekSimplest_173 F h v0 v17 v21) else (if v11 = 0 then none else (bindv (v9 / v11) fun x1 => (if v13 ≤ ((((x1 + (1 : Int64))) * v15)) then (b_X9_seekSimplest_69 F self18 h v0 v9 v11 v13 v15 v17 v19 v21 v23 v25 x1 (0 : Int32)) else (b_X9_seekSimplest_69 F self18 h v0 v9 v11 v13 v15 v17 v19 v21 v23 v25 x1 (1 : Int32))))))
set_option maxRecDepth 20000 in
theorem tb_X9_seekSimplest_29 {M : MV} {X : XT} {F : Nat} {self18 : PH → Nat → Int64 → Int64 → Int64 → Int64 → Int64 → Int64 → Int64 → Int64 → Int32 → Option (Unit × PH)} {h hz : PH} {r : Unit} {ce sl mc ms : Nat} {v0 : Nat} {v9 : Int64} {v11 : Int64} {v13 : Int64} {v15 : Int64} {v17 : Int64} {v19 : Int64} {v21 : Int64} {v23 : Int64} {v25 : Int32} (hc : Cx M X RX9 cX9_seekSimplest) (hr : Rx M 3 176 mc ms 39) (he : Ex M X none "seekSimplest" none hz mc ms) (hm : ce ≤ mc) (hs : sl ≤ ms) (ih18 : ∀ (h : PH) (v0 : Nat) (v9 : Int64) (v11 : Int64) (v13 : Int64) (v15 : Int64) (v17 : Int64) (v19 : Int64) (v21 : Int64) (v23 : Int64) (v25 : Int32), self18 h v0 v9 v11 v13 v15 v17 v19 v21 v23 v25 = some (r, hz) → GG M X h ce sl 29 [(0, .ref (X.1 + v0)), (9, .long v9), (11, .long v11), (13, .long v13), (15, .long v15), (17, .long v17), (19, .long v19), (21, .long v21), (23, .long v23), (25, .int v25)] []) (hf : b_X9_seekSimplest_29 F self18 h v0 v9 v11 v13 v15 v17 v19 v21 v23 v25 = some (r, hz)) : GG M X h ce sl 29 [(0, .ref (X.1 + v0)), (9, .long v9), (11, .long v11), (13, .long v13), (15, .long v15), (17, .long v17), (19, .long v19), (21, .long v21), (23, .long v23), (25, .int v25)] [] := by
  unfold b_X9_seekSimplest_29 at hf
  refine r_iload hc 9 (dc_at dX9_seekSimplest 18 rfl) rfl ?_
  refine r_sipush (128 : Int32) hc (dc_at dX9_seekSimplest 19 rfl) (by decide) ?_
  refine r_icmp_ge (tgt := 173) hc (dc_at dX9_seekSimplest 20 rfl) (by decide) hf (fun hf => ?_) (fun hf => ?_)
  · exact gg_sub [0, 5, 7] rfl (t_X9_seekSimplest_173 hc hr he hm hs  hf)
  · refine r_lload hc 2 (dc_at dX9_seekSimplest 21 rfl) rfl ?_
    refine r_lconst (0 : Int64) hc (dc_at dX9_seekSimplest 22 rfl) (by decide) ?_
    refine r_lcmp_eq (tgt := 173) hc (dc_at dX9_seekSimplest 23 rfl) (dc_at dX9_seekSimplest 24 rfl) (by decide) hf (fun hf => ?_) (fun hf => ?_)
    · exact gg_sub [0, 5, 7] rfl (t_X9_seekSimplest_173 hc hr he hm hs  hf)
    · refine r_lload hc 1 (dc_at dX9_seekSimplest 25 rfl) rfl ?_
      refine r_lload hc 2 (dc_at dX9_seekSimplest 26 rfl) rfl ?_
      refine r_ldiv hc (dc_at dX9_seekSimplest 27 rfl) hf (fun hf => ?_)
      refine r_nm (mk := Value.long) hf fun x1 hf => ?_
      refine r_lstore [(26, .long x1), (0, .ref (X.1 + v0)), (9, .long v9), (11, .long v11), (13, .long v13), (15, .long v15), (17, .long v17), (19, .long v19), (21, .long v21), (23, .long v23), (25, .int v25)] hc hr (dc_at dX9_seekSimplest 28 rfl) (by decide) rfl ?_
      refine r_lload hc 0 (dc_at dX9_seekSimplest 29 rfl) rfl ?_
      refine r_lconst (1 : Int64) hc (dc_at dX9_seekSimplest 30 rfl) (by decide) ?_
      refine r_ladd hc (dc_at dX9_seekSimplest 31 rfl) ?_
      refine r_lload hc 5 (dc_at dX9_seekSimplest 32 rfl) rfl ?_
      refine r_lmul hc (dc_at dX9_seekSimplest 33 rfl) ?_
      refine r_lload hc 4 (dc_at dX9_seekSimplest 34 rfl) rfl ?_
      refine r_lcmp_ge (tgt := 68) hc (dc_at dX9_seekSimplest 35 rfl) (dc_at dX9_seekSimplest 36 rfl) (by decide) hf (fun hf => ?_) (fun hf => ?_)
      · refine r_iconst (0 : Int32) hc (dc_at dX9_seekSimplest 39 rfl) (by decide) ?_
        exact gg_sub [1, 2, 3, 4, 5, 6, 7, 8, 9, 10, 0] rfl (t_X9_seekSimplest_69 hc hr he hm hs ih18 hf)
      · refine r_iconst (1 : Int32) hc (dc_at dX9_seekSimplest 37 rfl) (by decide) ?_
        refine r_goto (tgt := 69) hc (dc_at dX9_seekSimplest 38 rfl) (by decide) ?_
        exact gg_sub [1, 2, 3, 4, 5, 6, 7, 8, 9, 10, 0] rfl (t_X9_seekSimplest_69 hc hr he hm hs ih18 hf)
def l_X9_seekSimplest_29 (F : Nat) : Nat → PH → Nat → Int64 → Int64 → Int64 → Int64 → Int64 → Int64 → Int64 → Int64 → Int32 → Option (Unit × PH)
  | 0 => fun _ _ _ _ _ _ _ _ _ _ _ => none
  | n + 1 => fun h v0 v9 v11 v13 v15 v17 v19 v21 v23 v25 => b_X9_seekSimplest_29 F (l_X9_seekSimplest_29 F n) h v0 v9 v11 v13 v15 v17 v19 v21 v23 v25
theorem tl_X9_seekSimplest_29 {M : MV} {X : XT} {F : Nat} {hz : PH} {r : Unit} {ce sl mc ms : Nat} (hc : Cx M X RX9 cX9_seekSimplest) (hr : Rx M 3 176 mc ms 39) (he : Ex M X none "seekSimplest" none hz mc ms) (hm : ce ≤ mc) (hs : sl ≤ ms) (n : Nat) : ∀ (h : PH) (v0 : Nat) (v9 : Int64) (v11 : Int64) (v13 : Int64) (v15 : Int64) (v17 : Int64) (v19 : Int64) (v21 : Int64) (v23 : Int64) (v25 : Int32), l_X9_seekSimplest_29 F n h v0 v9 v11 v13 v15 v17 v19 v21 v23 v25 = some (r, hz) → GG M X h ce sl 29 [(0, .ref (X.1 + v0)), (9, .long v9), (11, .long v11), (13, .long v13), (15, .long v15), (17, .long v17), (19, .long v19), (21, .long v21), (23, .long v23), (25, .int v25)] [] := by
  induction n with
  | zero => intro h v0 v9 v11 v13 v15 v17 v19 v21 v23 v25 hf; cases hf
  | succ n ih => intro h v0 v9 v11 v13 v15 v17 v19 v21 v23 v25 hf; exact tb_X9_seekSimplest_29 (F := F) hc hr he hm hs  ih hf
def b_X9_seekSimplest_0 (F : Nat) (h : PH) (v0 : Nat) (v1 : Int64) (v3 : Int64) (v5 : Int64) (v7 : Int64) : Option (Unit × PH) := l_X9_seekSimplest_29 F F h v0 v1 v3 v5 v7 (1 : Int64) (0 : Int64) (0 : Int64) (1 : Int64) (0 : Int32)
set_option maxRecDepth 20000 in
theorem t_X9_seekSimplest_0 {M : MV} {X : XT} {F : Nat} {h hz : PH} {r : Unit} {ce sl mc ms : Nat} {v0 : Nat} {v1 : Int64} {v3 : Int64} {v5 : Int64} {v7 : Int64} (hc : Cx M X RX9 cX9_seekSimplest) (hr : Rx M 3 176 mc ms 39) (he : Ex M X none "seekSimplest" none hz mc ms) (hm : ce ≤ mc) (hs : sl ≤ ms) (hf : b_X9_seekSimplest_0 F h v0 v1 v3 v5 v7 = some (r, hz)) : GG M X h ce sl 0 [(0, .ref (X.1 + v0)), (1, .long v1), (3, .long v3), (5, .long v5), (7, .long v7)] [] := by
  unfold b_X9_seekSimplest_0 at hf
  refine r_lload_n hc 1 (dc_at dX9_seekSimplest 0 rfl) rfl ?_
  refine r_lstore [(9, .long v1), (0, .ref (X.1 + v0)), (1, .long v1), (3, .long v3), (5, .long v5), (7, .long v7)] hc hr (dc_at dX9_seekSimplest 1 rfl) (by decide) rfl ?_
  refine r_lload_n hc 3 (dc_at dX9_seekSimplest 2 rfl) rfl ?_
  refine r_lstore [(11, .long v3), (9, .long v1), (0, .ref (X.1 + v0)), (1, .long v1), (3, .long v3), (5, .long v5), (7, .long v7)] hc hr (dc_at dX9_seekSimplest 3 rfl) (by decide) rfl ?_
  refine r_lload hc 5 (dc_at dX9_seekSimplest 4 rfl) rfl ?_
  refine r_lstore [(13, .long v5), (11, .long v3), (9, .long v1), (0, .ref (X.1 + v0)), (1, .long v1), (3, .long v3), (5, .long v5), (7, .long v7)] hc hr (dc_at dX9_seekSimplest 5 rfl) (by decide) rfl ?_
  refine r_lload hc 7 (dc_at dX9_seekSimplest 6 rfl) rfl ?_
  refine r_lstore [(15, .long v7), (13, .long v5), (11, .long v3), (9, .long v1), (0, .ref (X.1 + v0)), (1, .long v1), (3, .long v3), (5, .long v5), (7, .long v7)] hc hr (dc_at dX9_seekSimplest 7 rfl) (by decide) rfl ?_
  refine r_lconst (1 : Int64) hc (dc_at dX9_seekSimplest 8 rfl) (by decide) ?_
  refine r_lstore [(17, .long ((1 : Int64))), (15, .long v7), (13, .long v5), (11, .long v3), (9, .long v1), (0, .ref (X.1 + v0)), (1, .long v1), (3, .long v3), (5, .long v5), (7, .long v7)] hc hr (dc_at dX9_seekSimplest 9 rfl) (by decide) rfl ?_
  refine r_lconst (0 : Int64) hc (dc_at dX9_seekSimplest 10 rfl) (by decide) ?_
  refine r_lstore [(19, .long ((0 : Int64))), (17, .long ((1 : Int64))), (15, .long v7), (13, .long v5), (11, .long v3), (9, .long v1), (0, .ref (X.1 + v0)), (1, .long v1), (3, .long v3), (5, .long v5), (7, .long v7)] hc hr (dc_at dX9_seekSimplest 11 rfl) (by decide) rfl ?_
  refine r_lconst (0 : Int64) hc (dc_at dX9_seekSimplest 12 rfl) (by decide) ?_
  refine r_lstore [(21, .long ((0 : Int64))), (19, .long ((0 : Int64))), (17, .long ((1 : Int64))), (15, .long v7), (13, .long v5), (11, .long v3), (9, .long v1), (0, .ref (X.1 + v0)), (1, .long v1), (3, .long v3), (5, .long v5), (7, .long v7)] hc hr (dc_at dX9_seekSimplest 13 rfl) (by decide) rfl ?_
  refine r_lconst (1 : Int64) hc (dc_at dX9_seekSimplest 14 rfl) (by decide) ?_
  refine r_lstore [(23, .long ((1 : Int64))), (21, .long ((0 : Int64))), (19, .long ((0 : Int64))), (17, .long ((1 : Int64))), (15, .long v7), (13, .long v5), (11, .long v3), (9, .long v1), (0, .ref (X.1 + v0)), (1, .long v1), (3, .long v3), (5, .long v5), (7, .long v7)] hc hr (dc_at dX9_seekSimplest 15 rfl) (by decide) rfl ?_
  refine r_iconst (0 : Int32) hc (dc_at dX9_seekSimplest 16 rfl) (by decide) ?_
  refine r_istore [(25, .int ((0 : Int32))), (23, .long ((1 : Int64))), (21, .long ((0 : Int64))), (19, .long ((0 : Int64))), (17, .long ((1 : Int64))), (15, .long v7), (13, .long v5), (11, .long v3), (9, .long v1), (0, .ref (X.1 + v0)), (1, .long v1), (3, .long v3), (5, .long v5), (7, .long v7)] hc hr (dc_at dX9_seekSimplest 17 rfl) (by decide) rfl ?_
  exact gg_sub [9, 8, 7, 6, 5, 4, 3, 2, 1, 0] rfl (tl_X9_seekSimplest_29 hc hr he hm hs  F _ _ _ _ _ _ _ _ _ _ _ hf)
def m_X9_seekSimplest (F : Nat) (h : PH) (p0 : Nat) (p1 : Int64) (p3 : Int64) (p5 : Int64) (p7 : Int64) : Option (Unit × PH) := b_X9_seekSimplest_0 F h p0 p1 p3 p5 p7
theorem mt_X9_seekSimplest {l : Launch} {X : XT} {F : Nat} {h hz : PH} {p0 : Nat} {p1 : Int64} {p3 : Int64} {p5 : Int64} {p7 : Int64} {r : Unit} (ex : m_X9_seekSimplest F h p0 p1 p3 p5 p7 = some (r, hz)) : MT l X yX9_seekSimplest cX9_seekSimplest 39 none 3 176 0 0 [.ref (X.1 + p0), .long p1, .long p3, .long p5, .long p7] h none hz := MT.of (by decide) (Nat.le_of_ble_eq_true rfl) fun M hl hc hr he => by
  subst hl
  exact gg_sub [0, 1, 2, 3, 4] rfl (t_X9_seekSimplest_0  hc hr he (Nat.zero_le _) (Nat.zero_le _) ex)
/-! FractionLift.simplest(IIIII)I -/
def lX9_simplestL : List (Nat × Instr × Nat × Nat) := [(0, .iload 5, 2, 2), (2, .ifCond .lt 9, 3, 5), (5, .iload 5, 2, 7), (7, .iconst 1, 1, 8), (8, .if_icmp .le 6, 3, 11), (11, .bipush (-2), 2, 13), (13, .ireturn, 1, 14), (14, .aload_n 0, 1, 15), (15, .iload_n 3, 1, 16), (16, .iload 4, 2, 18), (18, .invokevirtual 132, 3, 21), (21, .ifCond .ne 6, 3, 24), (24, .bipush (-3), 2, 26), (26, .ireturn, 1, 27), (27, .aload_n 0, 1, 28), (28, .getfield 63, 3, 31), (31, .aload_n 0, 1, 32), (32, .getfield 59, 3, 35), (35, .getfield 136, 3, 38), (38, .aload_n 0, 1, 39), (39, .getfield 59, 3, 42), (42, .getfield 140, 3, 45), (45, .invokevirtual 271, 3, 48), (48, .aload_n 0, 1, 49), (49, .iload_n 1, 1, 50), (50, .iload_n 2, 1, 51), (51, .invokevirtual 132, 3, 54), (54, .ifCond .ne 6, 3, 57), (57, .bipush (-3), 2, 59), (59, .ireturn, 1, 60), (60, .aload_n 0, 1, 61), (61, .getfield 59, 3, 64), (64, .aload_n 0, 1, 65), (65, .getfield 63, 3, 68), (68, .invokevirtual 275, 3, 71), (71, .istore 6, 2, 73), (73, .iload 6, 2, 75), (75, .ifCond .ne 6, 3, 78), (78, .bipush (-3), 2, 80), (80, .ireturn, 1, 81), (81, .iload 6, 2, 83), (83, .ifCond .ge 38, 3, 86), (86, .aload_n 0, 1, 87), (87, .aload_n 0, 1, 88), (88, .getfield 59, 3, 91), (91, .getfield 136, 3, 94), (94, .aload_n 0, 1, 95), (95, .getfield 59, 3, 98), (98, .getfield 140, 3, 101), (101, .aload_n 0, 1, 102), (102, .getfield 63, 3, 105), (105, .getfield 136, 3, 108), (108, .aload_n 0, 1, 109), (109, .getfield 63, 3, 112), (112, .getfield 140, 3, 115), (115, .invokevirtual 279, 3, 118), (118, .goto 35, 3, 121), (121, .aload_n 0, 1, 122), (122, .aload_n 0, 1, 123), (123, .getfield 63, 3, 126), (126, .getfield 136, 3, 129), (129, .aload_n 0, 1, 130), (130, .getfield 63, 3, 133), (133, .getfield 140, 3, 136), (136, .aload_n 0, 1, 137), (137, .getfield 59, 3, 140), (140, .getfield 136, 3, 143), (143, .aload_n 0, 1, 144), (144, .getfield 59, 3, 147), (147, .getfield 140, 3, 150), (150, .invokevirtual 279, 3, 153), (153, .aload_n 0, 1, 154), (154, .getfield 59, 3, 157), (157, .iload 5, 2, 159), (159, .invokevirtual 180, 3, 162), (162, .l2i, 1, 163), (163, .ireturn, 1, 164)]
set_option maxRecDepth 20000 in
theorem dX9_simplest : dcL cX9_simplest lX9_simplestL = true := by decide +kernel
def b_X9_simplest_153 (F : Nat) (h : PH) (v0 : Nat) (v5 : Int32) : Option (Int32 × PH) := (gR 9 12 h v0).bind fun a1 => (cO 2 h a1 ((m_X2_part h a1 v5).bind fun x2 => (some ((Int64.toInt32 x2), h))))
set_option maxRecDepth 20000 in
theorem t_X9_simplest_153 {M : MV} {X : XT} {F : Nat} {h hz : PH} {r : Int32} {ce sl mc ms : Nat} {v0 : Nat} {v5 : Int32} (hc : Cx M X RX9 cX9_simplest) (hr : Rx M 4 234 mc ms 7) (he : Ex M X (some .int) "simplest" (some (.int r)) hz mc ms) (hm : ce ≤ mc) (hs : sl ≤ ms) (hf : b_X9_simplest_153 F h v0 v5 = some (r, hz)) : GG M X h ce sl 153 [(0, .ref (X.1 + v0)), (5, .int v5)] [] := by
  unfold b_X9_simplest_153 at hf
  refine r_aload_n hc 0 (dc_at dX9_simplest 71 rfl) rfl ?_
  refine r_getR hc (dc_at dX9_simplest 72 rfl) fl_X9_59 hf fun a1 hf => ?_
  refine r_iload hc 1 (dc_at dX9_simplest 73 rfl) rfl ?_
  obtain ⟨ho, hf⟩ := cO_some hf
  refine ob hf fun x2 ex hf => ?_
  refine r_callVl (As := [.int v5]) (ci := 2) hc hr (dc_at dX9_simplest 74 rfl) ml_X9_180 mv_X2_part vi_X2_part rfl ho rfl (mt_X2_part ex) (by first | exact Nat.le_of_ble_eq_true rfl | omega) (by first | exact Nat.le_of_ble_eq_true rfl | omega) (by first | exact Nat.le_of_ble_eq_true rfl | omega) hm hs ?_
  refine r_l2i hc (dc_at dX9_simplest 75 rfl) ?_
  exact r_iret hc he (hm) (hs) (dc_at dX9_simplest 76 rfl) hf
def b_X9_simplest_0 (F : Nat) (h : PH) (v0 : Nat) (v1 : Int32) (v2 : Int32) (v3 : Int32) (v4 : Int32) (v5 : Int32) : Option (Int32 × PH) := if v5 < 0 then (some ((-2 : Int32), h)) else (if v5 ≤ (1 : Int32) then (cO 9 h v0 (bind2 (m_X9_asksFloor F h v0 v3 v4) fun x1 h2 => (if x1 = 0 then (some ((-3 : Int32), h2)) else ((gR 9 13 h2 v0).bind fun a3 => ((gR 9 12 h2 v0).bind fun a4 => ((gL 2 0 h2 a4).bind fun x5 => ((gR 9 12 h2 v0).bind fun a6 => ((gL 2 1 h2 a6).bind fun x7 => (cO 2 h2 a3 (bind2 (m_X2_put F h2 a3 x5 x7) fun _ h9 => (cO 9 h9 v0 (bind2 (m_X9_asksFloor F h9 v0 v1 v2) fun x10 h11 => (if x10 = 0 then (some ((-3 : Int32), h11)) else ((gR 9 12 h11 v0).bind fun a12 => ((gR 9 13 h11 v0).bind fun a13 => (cO 2 h11 a12 ((m_X2_compared h11 a12 a13).bind fun x14 => (if x14 = 0 then (some ((-3 : Int32), h11)) else (if 0 ≤ x14 then ((gR 9 13 h11 v0).bind fun a15 => ((gL 2 0 h11 a15).bind fun x16 => ((gR 9 13 h11 v0).bind fun a17 => ((gL 2 1 h11 a17).bind fun x18 => ((gR 9 12 h11 v0).bind fun a19 => ((gL 2 0 h11 a19).bind fun x20 => ((gR 9 12 h11 v0).bind fun a21 => ((gL 2 1 h11 a21).bind fun x22 => (cO 9 h11 v0 (bind2 (m_X9_seekSimplest F h11 v0 x16 x18 x20 x22) fun _ h24 => (b_X9_simplest_153 F h24 v0 v5))))))))))) else ((gR 9 12 h11 v0).bind fun a25 => ((gL 2 0 h11 a25).bind fun x26 => ((gR 9 12 h11 v0).bind fun a27 => ((gL 2 1 h11 a27).bind fun x28 => ((gR 9 13 h11 v0).bind fun a29 => ((gL 2 0 h11 a29).bind fun x30 => ((gR 9 13 h11 v0).bind fun a31 => ((gL 2 1 h11 a31).bind fun x32 => (cO 9 h11 v0 (bind2 (m_X9_seekSimplest F h11 v0 x26 x28 x30 x32) fun _ h34 => (b_X9_simplest_153 F h34 v0 v5)))))))))))))))))))))))))))))) else (some ((-2 : Int32), h)))
set_option maxRecDepth 20000 in
theorem t_X9_simplest_0 {M : MV} {X : XT} {F : Nat} {h hz : PH} {r : Int32} {ce sl mc ms : Nat} {v0 : Nat} {v1 : Int32} {v2 : Int32} {v3 : Int32} {v4 : Int32} {v5 : Int32} (hc : Cx M X RX9 cX9_simplest) (hr : Rx M 4 234 mc ms 7) (he : Ex M X (some .int) "simplest" (some (.int r)) hz mc ms) (hm : ce ≤ mc) (hs : sl ≤ ms) (hf : b_X9_simplest_0 F h v0 v1 v2 v3 v4 v5 = some (r, hz)) : GG M X h ce sl 0 [(0, .ref (X.1 + v0)), (1, .int v1), (2, .int v2), (3, .int v3), (4, .int v4), (5, .int v5)] [] := by
  unfold b_X9_simplest_0 at hf
  refine r_iload hc 5 (dc_at dX9_simplest 0 rfl) rfl ?_
  refine r_if_lt (tgt := 11) hc (dc_at dX9_simplest 1 rfl) (by decide) hf (fun hf => ?_) (fun hf => ?_)
  · refine r_bipush (-2 : Int32) hc (dc_at dX9_simplest 5 rfl) (by decide) ?_
    exact r_iret hc he (hm) (hs) (dc_at dX9_simplest 6 rfl) hf
  · refine r_iload hc 5 (dc_at dX9_simplest 2 rfl) rfl ?_
    refine r_iconst (1 : Int32) hc (dc_at dX9_simplest 3 rfl) (by decide) ?_
    refine r_icmp_le (tgt := 14) hc (dc_at dX9_simplest 4 rfl) (by decide) hf (fun hf => ?_) (fun hf => ?_)
    · refine r_aload_n hc 0 (dc_at dX9_simplest 7 rfl) rfl ?_
      refine r_iload_n hc 3 (dc_at dX9_simplest 8 rfl) rfl ?_
      refine r_iload hc 4 (dc_at dX9_simplest 9 rfl) rfl ?_
      obtain ⟨ho, hf⟩ := cO_some hf
      refine ob2 hf fun x1 h2 ex hf => ?_
      refine r_callVi (As := [.int v3, .int v4]) (ci := 9) hc hr (dc_at dX9_simplest 10 rfl) ml_X9_132 mv_X9_asksFloor vi_X9_asksFloor rfl ho rfl (mt_X9_asksFloor ex) (by first | exact Nat.le_of_ble_eq_true rfl | omega) (by first | exact Nat.le_of_ble_eq_true rfl | omega) (by first | exact Nat.le_of_ble_eq_true rfl | omega) hm hs ?_
      refine r_if_ne (tgt := 27) hc (dc_at dX9_simplest 11 rfl) (by decide) hf (fun hf => ?_) (fun hf => ?_)
      · refine r_aload_n hc 0 (dc_at dX9_simplest 14 rfl) rfl ?_
        refine r_getR hc (dc_at dX9_simplest 15 rfl) fl_X9_63 hf fun a3 hf => ?_
        refine r_aload_n hc 0 (dc_at dX9_simplest 16 rfl) rfl ?_
        refine r_getR hc (dc_at dX9_simplest 17 rfl) fl_X9_59 hf fun a4 hf => ?_
        refine r_getL hc (dc_at dX9_simplest 18 rfl) fl_X9_136 hf fun x5 hf => ?_
        refine r_aload_n hc 0 (dc_at dX9_simplest 19 rfl) rfl ?_
        refine r_getR hc (dc_at dX9_simplest 20 rfl) fl_X9_59 hf fun a6 hf => ?_
        refine r_getL hc (dc_at dX9_simplest 21 rfl) fl_X9_140 hf fun x7 hf => ?_
        obtain ⟨ho, hf⟩ := cO_some hf
        refine ob2 hf fun u h9 ex hf => ?_
        refine r_callVv (As := [.long x5, .long x7]) (ci := 2) hc hr (dc_at dX9_simplest 22 rfl) ml_X9_271 mv_X2_put vi_X2_put rfl ho rfl (mt_X2_put ex) (by first | exact Nat.le_of_ble_eq_true rfl | omega) (by first | exact Nat.le_of_ble_eq_true rfl | omega) (by first | exact Nat.le_of_ble_eq_true rfl | omega) hm hs ?_
        refine r_aload_n hc 0 (dc_at dX9_simplest 23 rfl) rfl ?_
        refine r_iload_n hc 1 (dc_at dX9_simplest 24 rfl) rfl ?_
        refine r_iload_n hc 2 (dc_at dX9_simplest 25 rfl) rfl ?_
        obtain ⟨ho, hf⟩ := cO_some hf
        refine ob2 hf fun x10 h11 ex hf => ?_
        refine r_callVi (As := [.int v1, .int v2]) (ci := 9) hc hr (dc_at dX9_simplest 26 rfl) ml_X9_132 mv_X9_asksFloor vi_X9_asksFloor rfl ho rfl (mt_X9_asksFloor ex) (by first | exact Nat.le_of_ble_eq_true rfl | omega) (by first | exact Nat.le_of_ble_eq_true rfl | omega) (by first | exact Nat.le_of_ble_eq_true rfl | omega) hm hs ?_
        refine r_if_ne (tgt := 60) hc (dc_at dX9_simplest 27 rfl) (by decide) hf (fun hf => ?_) (fun hf => ?_)
        · refine r_aload_n hc 0 (dc_at dX9_simplest 30 rfl) rfl ?_
          refine r_getR hc (dc_at dX9_simplest 31 rfl) fl_X9_59 hf fun a12 hf => ?_
          refine r_aload_n hc 0 (dc_at dX9_simplest 32 rfl) rfl ?_
          refine r_getR hc (dc_at dX9_simplest 33 rfl) fl_X9_63 hf fun a13 hf => ?_
          obtain ⟨ho, hf⟩ := cO_some hf
          refine ob hf fun x14 ex hf => ?_
          refine r_callVi (As := [.ref (X.1 + a13)]) (ci := 2) hc hr (dc_at dX9_simplest 34 rfl) ml_X9_275 mv_X2_compared vi_X2_compared rfl ho rfl (mt_X2_compared ex) (by first | exact Nat.le_of_ble_eq_true rfl | omega) (by first | exact Nat.le_of_ble_eq_true rfl | omega) (by first | exact Nat.le_of_ble_eq_true rfl | omega) hm hs ?_
          refine r_istore [(6, .int x14), (0, .ref (X.1 + v0)), (1, .int v1), (2, .int v2), (3, .int v3), (4, .int v4), (5, .int v5)] hc hr (dc_at dX9_simplest 35 rfl) (by decide) rfl ?_
          refine r_iload hc 0 (dc_at dX9_simplest 36 rfl) rfl ?_
          refine r_if_ne (tgt := 81) hc (dc_at dX9_simplest 37 rfl) (by decide) hf (fun hf => ?_) (fun hf => ?_)
          · refine r_iload hc 0 (dc_at dX9_simplest 40 rfl) rfl ?_
            refine r_if_ge (tgt := 121) hc (dc_at dX9_simplest 41 rfl) (by decide) hf (fun hf => ?_) (fun hf => ?_)
            · refine r_aload_n hc 1 (dc_at dX9_simplest 57 rfl) rfl ?_
              refine r_aload_n hc 1 (dc_at dX9_simplest 58 rfl) rfl ?_
              refine r_getR hc (dc_at dX9_simplest 59 rfl) fl_X9_63 hf fun a15 hf => ?_
              refine r_getL hc (dc_at dX9_simplest 60 rfl) fl_X9_136 hf fun x16 hf => ?_
              refine r_aload_n hc 1 (dc_at dX9_simplest 61 rfl) rfl ?_
              refine r_getR hc (dc_at dX9_simplest 62 rfl) fl_X9_63 hf fun a17 hf => ?_
              refine r_getL hc (dc_at dX9_simplest 63 rfl) fl_X9_140 hf fun x18 hf => ?_
              refine r_aload_n hc 1 (dc_at dX9_simplest 64 rfl) rfl ?_
              refine r_getR hc (dc_at dX9_simplest 65 rfl) fl_X9_59 hf fun a19 hf => ?_
              refine r_getL hc (dc_at dX9_simplest 66 rfl) fl_X9_136 hf fun x20 hf => ?_
              refine r_aload_n hc 1 (dc_at dX9_simplest 67 rfl) rfl ?_
              refine r_getR hc (dc_at dX9_simplest 68 rfl) fl_X9_59 hf fun a21 hf => ?_
              refine r_getL hc (dc_at dX9_simplest 69 rfl) fl_X9_140 hf fun x22 hf => ?_
              obtain ⟨ho, hf⟩ := cO_some hf
              refine ob2 hf fun u h24 ex hf => ?_
              refine r_callVv (As := [.long x16, .long x18, .long x20, .long x22]) (ci := 9) hc hr (dc_at dX9_simplest 70 rfl) ml_X9_279 mv_X9_seekSimplest vi_X9_seekSimplest rfl ho rfl (mt_X9_seekSimplest ex) (by first | exact Nat.le_of_ble_eq_true rfl | omega) (by first | exact Nat.le_of_ble_eq_true rfl | omega) (by first | exact Nat.le_of_ble_eq_true rfl | omega) hm hs ?_
              exact gg_sub [1, 6] rfl (t_X9_simplest_153 hc hr he hm hs  hf)
            · refine r_aload_n hc 1 (dc_at dX9_simplest 42 rfl) rfl ?_
              refine r_aload_n hc 1 (dc_at dX9_simplest 43 rfl) rfl ?_
              refine r_getR hc (dc_at dX9_simplest 44 rfl) fl_X9_59 hf fun a25 hf => ?_
              refine r_getL hc (dc_at dX9_simplest 45 rfl) fl_X9_136 hf fun x26 hf => ?_
              refine r_aload_n hc 1 (dc_at dX9_simplest 46 rfl) rfl ?_
              refine r_getR hc (dc_at dX9_simplest 47 rfl) fl_X9_59 hf fun a27 hf => ?_
              refine r_getL hc (dc_at dX9_simplest 48 rfl) fl_X9_140 hf fun x28 hf => ?_
              refine r_aload_n hc 1 (dc_at dX9_simplest 49 rfl) rfl ?_
              refine r_getR hc (dc_at dX9_simplest 50 rfl) fl_X9_63 hf fun a29 hf => ?_
              refine r_getL hc (dc_at dX9_simplest 51 rfl) fl_X9_136 hf fun x30 hf => ?_
              refine r_aload_n hc 1 (dc_at dX9_simplest 52 rfl) rfl ?_
              refine r_getR hc (dc_at dX9_simplest 53 rfl) fl_X9_63 hf fun a31 hf => ?_
              refine r_getL hc (dc_at dX9_simplest 54 rfl) fl_X9_140 hf fun x32 hf => ?_
              obtain ⟨ho, hf⟩ := cO_some hf
              refine ob2 hf fun u h34 ex hf => ?_
              refine r_callVv (As := [.long x26, .long x28, .long x30, .long x32]) (ci := 9) hc hr (dc_at dX9_simplest 55 rfl) ml_X9_279 mv_X9_seekSimplest vi_X9_seekSimplest rfl ho rfl (mt_X9_seekSimplest ex) (by first | exact Nat.le_of_ble_eq_true rfl | omega) (by first | exact Nat.le_of_ble_eq_true rfl | omega) (by first | exact Nat.le_of_ble_eq_true rfl | omega) hm hs ?_
              refine r_goto (tgt := 153) hc (dc_at dX9_simplest 56 rfl) (by decide) ?_
              exact gg_sub [1, 6] rfl (t_X9_simplest_153 hc hr he hm hs  hf)
          · refine r_bipush (-3 : Int32) hc (dc_at dX9_simplest 38 rfl) (by decide) ?_
            exact r_iret hc he (hm) (hs) (dc_at dX9_simplest 39 rfl) hf
        · refine r_bipush (-3 : Int32) hc (dc_at dX9_simplest 28 rfl) (by decide) ?_
          exact r_iret hc he (hm) (hs) (dc_at dX9_simplest 29 rfl) hf
      · refine r_bipush (-3 : Int32) hc (dc_at dX9_simplest 12 rfl) (by decide) ?_
        exact r_iret hc he (hm) (hs) (dc_at dX9_simplest 13 rfl) hf
    · refine r_bipush (-2 : Int32) hc (dc_at dX9_simplest 5 rfl) (by decide) ?_
      exact r_iret hc he (hm) (hs) (dc_at dX9_simplest 6 rfl) hf
def m_X9_simplest (F : Nat) (h : PH) (p0 : Nat) (p1 : Int32) (p2 : Int32) (p3 : Int32) (p4 : Int32) (p5 : Int32) : Option (Int32 × PH) := b_X9_simplest_0 F h p0 p1 p2 p3 p4 p5
theorem mt_X9_simplest {l : Launch} {X : XT} {F : Nat} {h hz : PH} {p0 : Nat} {p1 : Int32} {p2 : Int32} {p3 : Int32} {p4 : Int32} {p5 : Int32} {r : Int32} (ex : m_X9_simplest F h p0 p1 p2 p3 p4 p5 = some (r, hz)) : MT l X yX9_simplest cX9_simplest 7 (some .int) 4 234 0 0 [.ref (X.1 + p0), .int p1, .int p2, .int p3, .int p4, .int p5] h (some (.int r)) hz := MT.of (by decide) (Nat.le_of_ble_eq_true rfl) fun M hl hc hr he => by
  subst hl
  exact gg_sub [0, 1, 2, 3, 4, 5] rfl (t_X9_simplest_0  hc hr he (Nat.zero_le _) (Nat.zero_le _) ex)
/-! FractionLift.countBelow(JJI)I -/
def lX9_countBelowL : List (Nat × Instr × Nat × Nat) := [(0, .iconst 0, 1, 1), (1, .istore 6, 2, 3), (3, .lload_n 3, 1, 4), (4, .lconst 1, 1, 5), (5, .lcmp, 1, 6), (6, .ifCond .ge 6, 3, 9), (9, .iload 6, 2, 11), (11, .ireturn, 1, 12), (12, .iconst 1, 1, 13), (13, .istore 7, 2, 15), (15, .iload 7, 2, 17), (17, .iload 5, 2, 19), (19, .if_icmp .gt 38, 3, 22), (22, .iload 7, 2, 24), (24, .aload_n 0, 1, 25), (25, .getfield 70, 3, 28), (28, .arraylength, 1, 29), (29, .if_icmp .ge 28, 3, 32), (32, .aload_n 0, 1, 33), (33, .getfield 70, 3, 36), (36, .iload 7, 2, 38), (38, .lload_n 1, 1, 39), (39, .iload 7, 2, 41), (41, .i2l, 1, 42), (42, .lmul, 1, 43), (43, .lload_n 3, 1, 44), (44, .ladd, 1, 45), (45, .lconst 1, 1, 46), (46, .lsub, 1, 47), (47, .lload_n 3, 1, 48), (48, .ldiv, 1, 49), (49, .l2i, 1, 50), (50, .iastore, 1, 51), (51, .iinc 7 1, 3, 54), (54, .goto (-39), 3, 57), (57, .iconst 1, 1, 58), (58, .istore 7, 2, 60), (60, .iload 7, 2, 62), (62, .iload 5, 2, 64), (64, .if_icmp .gt 81, 3, 67), (67, .iload 7, 2, 69), (69, .aload_n 0, 1, 70), (70, .getfield 70, 3, 73), (73, .arraylength, 1, 74), (74, .if_icmp .ge 71, 3, 77), (77, .iload 6, 2, 79), (79, .aload_n 0, 1, 80), (80, .getfield 70, 3, 83), (83, .iload 7, 2, 85), (85, .iaload, 1, 86), (86, .iadd, 1, 87), (87, .istore 6, 2, 89), (89, .iconst 2, 1, 90), (90, .iload 7, 2, 92), (92, .imul, 1, 93), (93, .istore 8, 2, 95), (95, .iload 8, 2, 97), (97, .iload 5, 2, 99), (99, .if_icmp .gt 40, 3, 102), (102, .iload 8, 2, 104), (104, .aload_n 0, 1, 105), (105, .getfield 70, 3, 108), (108, .arraylength, 1, 109), (109, .if_icmp .ge 30, 3, 112), (112, .aload_n 0, 1, 113), (113, .getfield 70, 3, 116), (116, .iload 8, 2, 118), (118, .dup2, 1, 119), (119, .iaload, 1, 120), (120, .aload_n 0, 1, 121), (121, .getfield 70, 3, 124), (124, .iload 7, 2, 126), (126, .iaload, 1, 127), (127, .isub, 1, 128), (128, .iastore, 1, 129), (129, .iload 8, 2, 131), (131, .iload 7, 2, 133), (133, .iadd, 1, 134), (134, .istore 8, 2, 136), (136, .goto (-41), 3, 139), (139, .iinc 7 1, 3, 142), (142, .goto (-82), 3, 145), (145, .iload 6, 2, 147), (147, .ireturn, 1, 148)]
set_option maxRecDepth 20000 in
theorem dX9_countBelow : dcL cX9_countBelow lX9_countBelowL = true := by decide +kernel
def b_X9_countBelow_139 (F : Nat) (self37 : PH → Nat → Int32 → Int32 → Int32 → Option (Int32 × PH)) (h : PH) (v0 : Nat) (v5 : Int32) (v6 : Int32) (v7 : Int32) : Option (Int32 × PH) := bindv (v7 + (1)) fun x1 => (self37 h v0 v5 v6 x1)
set_option maxRecDepth 20000 in
theorem t_X9_countBelow_139 {M : MV} {X : XT} {F : Nat} {self37 : PH → Nat → Int32 → Int32 → Int32 → Option (Int32 × PH)} {h hz : PH} {r : Int32} {ce sl mc ms : Nat} {v0 : Nat} {v5 : Int32} {v6 : Int32} {v7 : Int32} (hc : Cx M X RX9 cX9_countBelow) (hr : Rx M 1 60 mc ms 9) (he : Ex M X (some .int) "countBelow" (some (.int r)) hz mc ms) (hm : ce ≤ mc) (hs : sl ≤ ms) (ih37 : ∀ (h : PH) (v0 : Nat) (v5 : Int32) (v6 : Int32) (v7 : Int32), self37 h v0 v5 v6 v7 = some (r, hz) → GG M X h ce sl 60 [(0, .ref (X.1 + v0)), (5, .int v5), (6, .int v6), (7, .int v7)] []) (hf : b_X9_countBelow_139 F self37 h v0 v5 v6 v7 = some (r, hz)) : GG M X h ce sl 139 [(0, .ref (X.1 + v0)), (5, .int v5), (6, .int v6), (7, .int v7)] [] := by
  unfold b_X9_countBelow_139 at hf
  refine obv hf fun x1 e_x1 hf => ?_
  refine r_iinc 3 [(7, .int x1), (0, .ref (X.1 + v0)), (5, .int v5), (6, .int v6)] hc hr (dc_at dX9_countBelow 80 rfl) rfl (by rw [e_x1]; rfl) (by decide) rfl ?_
  refine r_goto (tgt := 60) hc (dc_at dX9_countBelow 81 rfl) (by decide) ?_
  exact gg_sub [1, 2, 3, 0] rfl (ih37 _ _ _ _ _ hf)
def b_X9_countBelow_95 (F : Nat) (self37 : PH → Nat → Int32 → Int32 → Int32 → Option (Int32 × PH)) (self56 : PH → Nat → Int32 → Int32 → Int32 → Int32 → Option (Int32 × PH)) (h : PH) (v0 : Nat) (v5 : Int32) (v6 : Int32) (v7 : Int32) (v8 : Int32) : Option (Int32 × PH) := if v5 < v8 then (b_X9_countBelow_139 F self37 h v0 v5 v6 v7) else ((gR 9 15 h v0).bind fun a1 => ((aLen h a1).bind fun x2 => (if x2 ≤ v8 then (b_X9_countBelow_139 F self37 h v0 v5 v6 v7) else ((gR 9 15 h v0).bind fun a3 => ((aI 0 h a3 v8).bind fun x4 => ((gR 9 15 h v0).bind fun a5 => ((aI 0 h a5 v7).bind fun x6 => ((sI 0 h a3 v8 (x4 - x6)).bind fun h7 => (bindv (v8 + v7) fun x8 => (self56 h7 v0 v5 v6 v7 x8))))))))))
set_option maxRecDepth 20000 in
theorem tb_X9_countBelow_95 {M : MV} {X : XT} {F : Nat} {self37 : PH → Nat → Int32 → Int32 → Int32 → Option (Int32 × PH)} {self56 : PH → Nat → Int32 → Int32 → Int32 → Int32 → Option (Int32 × PH)} {h hz : PH} {r : Int32} {ce sl mc ms : Nat} {v0 : Nat} {v5 : Int32} {v6 : Int32} {v7 : Int32} {v8 : Int32} (hc : Cx M X RX9 cX9_countBelow) (hr : Rx M 1 60 mc ms 9) (he : Ex M X (some .int) "countBelow" (some (.int r)) hz mc ms) (hm : ce ≤ mc) (hs : sl ≤ ms) (ih37 : ∀ (h : PH) (v0 : Nat) (v5 : Int32) (v6 : Int32) (v7 : Int32), self37 h v0 v5 v6 v7 = some (r, hz) → GG M X h ce sl 60 [(0, .ref (X.1 + v0)), (5, .int v5), (6, .int v6), (7, .int v7)] []) (ih56 : ∀ (h : PH) (v0 : Nat) (v5 : Int32) (v6 : Int32) (v7 : Int32) (v8 : Int32), self56 h v0 v5 v6 v7 v8 = some (r, hz) → GG M X h ce sl 95 [(0, .ref (X.1 + v0)), (5, .int v5), (6, .int v6), (7, .int v7), (8, .int v8)] []) (hf : b_X9_countBelow_95 F self37 self56 h v0 v5 v6 v7 v8 = some (r, hz)) : GG M X h ce sl 95 [(0, .ref (X.1 + v0)), (5, .int v5), (6, .int v6), (7, .int v7), (8, .int v8)] [] := by
  unfold b_X9_countBelow_95 at hf
  refine r_iload hc 4 (dc_at dX9_countBelow 56 rfl) rfl ?_
  refine r_iload hc 1 (dc_at dX9_countBelow 57 rfl) rfl ?_
  refine r_icmp_gt (tgt := 139) hc (dc_at dX9_countBelow 58 rfl) (by decide) hf (fun hf => ?_) (fun hf => ?_)
  · exact gg_sub [0, 1, 2, 3] rfl (t_X9_countBelow_139 hc hr he hm hs ih37 hf)
  · refine r_iload hc 4 (dc_at dX9_countBelow 59 rfl) rfl ?_
    refine r_aload_n hc 0 (dc_at dX9_countBelow 60 rfl) rfl ?_
    refine r_getR hc (dc_at dX9_countBelow 61 rfl) fl_X9_70 hf fun a1 hf => ?_
    refine r_alen hc (dc_at dX9_countBelow 62 rfl) hf fun x2 hf => ?_
    refine r_icmp_ge (tgt := 139) hc (dc_at dX9_countBelow 63 rfl) (by decide) hf (fun hf => ?_) (fun hf => ?_)
    · exact gg_sub [0, 1, 2, 3] rfl (t_X9_countBelow_139 hc hr he hm hs ih37 hf)
    · refine r_aload_n hc 0 (dc_at dX9_countBelow 64 rfl) rfl ?_
      refine r_getR hc (dc_at dX9_countBelow 65 rfl) fl_X9_70 hf fun a3 hf => ?_
      refine r_iload hc 4 (dc_at dX9_countBelow 66 rfl) rfl ?_
      refine r_dup2 hc (dc_at dX9_countBelow 67 rfl) rfl rfl ?_
      refine r_iaload hc (dc_at dX9_countBelow 68 rfl) hf fun x4 hf => ?_
      refine r_aload_n hc 0 (dc_at dX9_countBelow 69 rfl) rfl ?_
      refine r_getR hc (dc_at dX9_countBelow 70 rfl) fl_X9_70 hf fun a5 hf => ?_
      refine r_iload hc 3 (dc_at dX9_countBelow 71 rfl) rfl ?_
      refine r_iaload hc (dc_at dX9_countBelow 72 rfl) hf fun x6 hf => ?_
      refine r_isub hc (dc_at dX9_countBelow 73 rfl) ?_
      refine r_iastore hc (dc_at dX9_countBelow 74 rfl) hf fun h7 hf => ?_
      refine r_iload hc 4 (dc_at dX9_countBelow 75 rfl) rfl ?_
      refine r_iload hc 3 (dc_at dX9_countBelow 76 rfl) rfl ?_
      refine r_iadd hc (dc_at dX9_countBelow 77 rfl) ?_
      refine r_nm (mk := Value.int) hf fun x8 hf => ?_
      refine r_istore [(8, .int x8), (0, .ref (X.1 + v0)), (5, .int v5), (6, .int v6), (7, .int v7)] hc hr (dc_at dX9_countBelow 78 rfl) (by decide) rfl ?_
      refine r_goto (tgt := 95) hc (dc_at dX9_countBelow 79 rfl) (by decide) ?_
      exact gg_sub [1, 2, 3, 4, 0] rfl (ih56 _ _ _ _ _ _ hf)
def l_X9_countBelow_95 (F : Nat) (self37 : PH → Nat → Int32 → Int32 → Int32 → Option (Int32 × PH)) : Nat → PH → Nat → Int32 → Int32 → Int32 → Int32 → Option (Int32 × PH)
  | 0 => fun _ _ _ _ _ _ => none
  | n + 1 => fun h v0 v5 v6 v7 v8 => b_X9_countBelow_95 F self37 (l_X9_countBelow_95 F self37 n) h v0 v5 v6 v7 v8
theorem tl_X9_countBelow_95 {M : MV} {X : XT} {F : Nat} {self37 : PH → Nat → Int32 → Int32 → Int32 → Option (Int32 × PH)} {hz : PH} {r : Int32} {ce sl mc ms : Nat} (hc : Cx M X RX9 cX9_countBelow) (hr : Rx M 1 60 mc ms 9) (he : Ex M X (some .int) "countBelow" (some (.int r)) hz mc ms) (hm : ce ≤ mc) (hs : sl ≤ ms) (ih37 : ∀ (h : PH) (v0 : Nat) (v5 : Int32) (v6 : Int32) (v7 : Int32), self37 h v0 v5 v6 v7 = some (r, hz) → GG M X h ce sl 60 [(0, .ref (X.1 + v0)), (5, .int v5), (6, .int v6), (7, .int v7)] []) (n : Nat) : ∀ (h : PH) (v0 : Nat) (v5 : Int32) (v6 : Int32) (v7 : Int32) (v8 : Int32), l_X9_countBelow_95 F self37 n h v0 v5 v6 v7 v8 = some (r, hz) → GG M X h ce sl 95 [(0, .ref (X.1 + v0)), (5, .int v5), (6, .int v6), (7, .int v7), (8, .int v8)] [] := by
  induction n with
  | zero => intro h v0 v5 v6 v7 v8 hf; cases hf
  | succ n ih => intro h v0 v5 v6 v7 v8 hf; exact tb_X9_countBelow_95 (F := F) hc hr he hm hs ih37 ih hf
def b_X9_countBelow_60 (F : Nat) (self37 : PH → Nat → Int32 → Int32 → Int32 → Option (Int32 × PH)) (h : PH) (v0 : Nat) (v5 : Int32) (v6 : Int32) (v7 : Int32) : Option (Int32 × PH) := if v5 < v7 then (some (v6, h)) else ((gR 9 15 h v0).bind fun a1 => ((aLen h a1).bind fun x2 => (if x2 ≤ v7 then (some (v6, h)) else ((gR 9 15 h v0).bind fun a3 => ((aI 0 h a3 v7).bind fun x4 => (bindv (v6 + x4) fun x5 => (bindv (((2 : Int32) * v7)) fun x6 => (l_X9_countBelow_95 F self37 F h v0 v5 x5 v7 x6))))))))
set_option maxRecDepth 20000 in
theorem tb_X9_countBelow_60 {M : MV} {X : XT} {F : Nat} {self37 : PH → Nat → Int32 → Int32 → Int32 → Option (Int32 × PH)} {h hz : PH} {r : Int32} {ce sl mc ms : Nat} {v0 : Nat} {v5 : Int32} {v6 : Int32} {v7 : Int32} (hc : Cx M X RX9 cX9_countBelow) (hr : Rx M 1 60 mc ms 9) (he : Ex M X (some .int) "countBelow" (some (.int r)) hz mc ms) (hm : ce ≤ mc) (hs : sl ≤ ms) (ih37 : ∀ (h : PH) (v0 : Nat) (v5 : Int32) (v6 : Int32) (v7 : Int32), self37 h v0 v5 v6 v7 = some (r, hz) → GG M X h ce sl 60 [(0, .ref (X.1 + v0)), (5, .int v5), (6, .int v6), (7, .int v7)] []) (hf : b_X9_countBelow_60 F self37 h v0 v5 v6 v7 = some (r, hz)) : GG M X h ce sl 60 [(0, .ref (X.1 + v0)), (5, .int v5), (6, .int v6), (7, .int v7)] [] := by
  unfold b_X9_countBelow_60 at hf
  refine r_iload hc 3 (dc_at dX9_countBelow 37 rfl) rfl ?_
  refine r_iload hc 1 (dc_at dX9_countBelow 38 rfl) rfl ?_
  refine r_icmp_gt (tgt := 145) hc (dc_at dX9_countBelow 39 rfl) (by decide) hf (fun hf => ?_) (fun hf => ?_)
  · refine r_iload hc 2 (dc_at dX9_countBelow 82 rfl) rfl ?_
    exact r_iret hc he (hm) (hs) (dc_at dX9_countBelow 83 rfl) hf
  · refine r_iload hc 3 (dc_at dX9_countBelow 40 rfl) rfl ?_
    refine r_aload_n hc 0 (dc_at dX9_countBelow 41 rfl) rfl ?_
    refine r_getR hc (dc_at dX9_countBelow 42 rfl) fl_X9_70 hf fun a1 hf => ?_
    refine r_alen hc (dc_at dX9_countBelow 43 rfl) hf fun x2 hf => ?_
    refine r_icmp_ge (tgt := 145) hc (dc_at dX9_countBelow 44 rfl) (by decide) hf (fun hf => ?_) (fun hf => ?_)
    · refine r_iload hc 2 (dc_at dX9_countBelow 82 rfl) rfl ?_
      exact r_iret hc he (hm) (hs) (dc_at dX9_countBelow 83 rfl) hf
    · refine r_iload hc 2 (dc_at dX9_countBelow 45 rfl) rfl ?_
      refine r_aload_n hc 0 (dc_at dX9_countBelow 46 rfl) rfl ?_
      refine r_getR hc (dc_at dX9_countBelow 47 rfl) fl_X9_70 hf fun a3 hf => ?_
      refine r_iload hc 3 (dc_at dX9_countBelow 48 rfl) rfl ?_
      refine r_iaload hc (dc_at dX9_countBelow 49 rfl) hf fun x4 hf => ?_
      refine r_iadd hc (dc_at dX9_countBelow 50 rfl) ?_
      refine r_nm (mk := Value.int) hf fun x5 hf => ?_
      refine r_istore [(6, .int x5), (0, .ref (X.1 + v0)), (5, .int v5), (7, .int v7)] hc hr (dc_at dX9_countBelow 51 rfl) (by decide) rfl ?_
      refine r_iconst (2 : Int32) hc (dc_at dX9_countBelow 52 rfl) (by decide) ?_
      refine r_iload hc 3 (dc_at dX9_countBelow 53 rfl) rfl ?_
      refine r_imul hc (dc_at dX9_countBelow 54 rfl) ?_
      refine r_nm (mk := Value.int) hf fun x6 hf => ?_
      refine r_istore [(8, .int x6), (6, .int x5), (0, .ref (X.1 + v0)), (5, .int v5), (7, .int v7)] hc hr (dc_at dX9_countBelow 55 rfl) (by decide) rfl ?_
      exact gg_sub [2, 3, 1, 4, 0] rfl (tl_X9_countBelow_95 hc hr he hm hs ih37 F _ _ _ _ _ _ hf)
def l_X9_countBelow_60 (F : Nat) : Nat → PH → Nat → Int32 → Int32 → Int32 → Option (Int32 × PH)
  | 0 => fun _ _ _ _ _ => none
  | n + 1 => fun h v0 v5 v6 v7 => b_X9_countBelow_60 F (l_X9_countBelow_60 F n) h v0 v5 v6 v7
theorem tl_X9_countBelow_60 {M : MV} {X : XT} {F : Nat} {hz : PH} {r : Int32} {ce sl mc ms : Nat} (hc : Cx M X RX9 cX9_countBelow) (hr : Rx M 1 60 mc ms 9) (he : Ex M X (some .int) "countBelow" (some (.int r)) hz mc ms) (hm : ce ≤ mc) (hs : sl ≤ ms) (n : Nat) : ∀ (h : PH) (v0 : Nat) (v5 : Int32) (v6 : Int32) (v7 : Int32), l_X9_countBelow_60 F n h v0 v5 v6 v7 = some (r, hz) → GG M X h ce sl 60 [(0, .ref (X.1 + v0)), (5, .int v5), (6, .int v6), (7, .int v7)] [] := by
  induction n with
  | zero => intro h v0 v5 v6 v7 hf; cases hf
  | succ n ih => intro h v0 v5 v6 v7 hf; exact tb_X9_countBelow_60 (F := F) hc hr he hm hs  ih hf
def b_X9_countBelow_57 (F : Nat) (h : PH) (v0 : Nat) (v5 : Int32) (v6 : Int32) : Option (Int32 × PH) := l_X9_countBelow_60 F F h v0 v5 v6 (1 : Int32)
set_option maxRecDepth 20000 in
theorem t_X9_countBelow_57 {M : MV} {X : XT} {F : Nat} {h hz : PH} {r : Int32} {ce sl mc ms : Nat} {v0 : Nat} {v5 : Int32} {v6 : Int32} (hc : Cx M X RX9 cX9_countBelow) (hr : Rx M 1 60 mc ms 9) (he : Ex M X (some .int) "countBelow" (some (.int r)) hz mc ms) (hm : ce ≤ mc) (hs : sl ≤ ms) (hf : b_X9_countBelow_57 F h v0 v5 v6 = some (r, hz)) : GG M X h ce sl 57 [(0, .ref (X.1 + v0)), (5, .int v5), (6, .int v6)] [] := by
  unfold b_X9_countBelow_57 at hf
  refine r_iconst (1 : Int32) hc (dc_at dX9_countBelow 35 rfl) (by decide) ?_
  refine r_istore [(7, .int ((1 : Int32))), (0, .ref (X.1 + v0)), (5, .int v5), (6, .int v6)] hc hr (dc_at dX9_countBelow 36 rfl) (by decide) rfl ?_
  exact gg_sub [1, 2, 3, 0] rfl (tl_X9_countBelow_60 hc hr he hm hs  F _ _ _ _ _ hf)
def b_X9_countBelow_15 (F : Nat) (self10 : PH → Nat → Int64 → Int64 → Int32 → Int32 → Int32 → Option (Int32 × PH)) (h : PH) (v0 : Nat) (v1 : Int64) (v3 : Int64) (v5 : Int32) (v6 : Int32) (v7 : Int32) : Option (Int32 × PH) := if v5 < v7 then (b_X9_countBelow_57 F h v0 v5 v6) else ((gR 9 15 h v0).bind fun a1 => ((aLen h a1).bind fun x2 => (if x2 ≤ v7 then (b_X9_countBelow_57 F h v0 v5 v6) else ((gR 9 15 h v0).bind fun a3 => (if v3 = 0 then none else ((sI 0 h a3 v7 ((Int64.toInt32 ((((((((v1 * (Int32.toInt64 v7))) + v3)) - (1 : Int64))) / v3))))).bind fun h4 => (bindv (v7 + (1)) fun x5 => (self10 h4 v0 v1 v3 v5 v6 x5))))))))
set_option maxRecDepth 20000 in
theorem tb_X9_countBelow_15 {M : MV} {X : XT} {F : Nat} {self10 : PH → Nat → Int64 → Int64 → Int32 → Int32 → Int32 → Option (Int32 × PH)} {h hz : PH} {r : Int32} {ce sl mc ms : Nat} {v0 : Nat} {v1 : Int64} {v3 : Int64} {v5 : Int32} {v6 : Int32} {v7 : Int32} (hc : Cx M X RX9 cX9_countBelow) (hr : Rx M 1 60 mc ms 9) (he : Ex M X (some .int) "countBelow" (some (.int r)) hz mc ms) (hm : ce ≤ mc) (hs : sl ≤ ms) (ih10 : ∀ (h : PH) (v0 : Nat) (v1 : Int64) (v3 : Int64) (v5 : Int32) (v6 : Int32) (v7 : Int32), self10 h v0 v1 v3 v5 v6 v7 = some (r, hz) → GG M X h ce sl 15 [(0, .ref (X.1 + v0)), (1, .long v1), (3, .long v3), (5, .int v5), (6, .int v6), (7, .int v7)] []) (hf : b_X9_countBelow_15 F self10 h v0 v1 v3 v5 v6 v7 = some (r, hz)) : GG M X h ce sl 15 [(0, .ref (X.1 + v0)), (1, .long v1), (3, .long v3), (5, .int v5), (6, .int v6), (7, .int v7)] [] := by
  unfold b_X9_countBelow_15 at hf
  refine r_iload hc 5 (dc_at dX9_countBelow 10 rfl) rfl ?_
  refine r_iload hc 3 (dc_at dX9_countBelow 11 rfl) rfl ?_
  refine r_icmp_gt (tgt := 57) hc (dc_at dX9_countBelow 12 rfl) (by decide) hf (fun hf => ?_) (fun hf => ?_)
  · exact gg_sub [0, 3, 4] rfl (t_X9_countBelow_57 hc hr he hm hs  hf)
  · refine r_iload hc 5 (dc_at dX9_countBelow 13 rfl) rfl ?_
    refine r_aload_n hc 0 (dc_at dX9_countBelow 14 rfl) rfl ?_
    refine r_getR hc (dc_at dX9_countBelow 15 rfl) fl_X9_70 hf fun a1 hf => ?_
    refine r_alen hc (dc_at dX9_countBelow 16 rfl) hf fun x2 hf => ?_
    refine r_icmp_ge (tgt := 57) hc (dc_at dX9_countBelow 17 rfl) (by decide) hf (fun hf => ?_) (fun hf => ?_)
    · exact gg_sub [0, 3, 4] rfl (t_X9_countBelow_57 hc hr he hm hs  hf)
    · refine r_aload_n hc 0 (dc_at dX9_countBelow 18 rfl) rfl ?_
      refine r_getR hc (dc_at dX9_countBelow 19 rfl) fl_X9_70 hf fun a3 hf => ?_
      refine r_iload hc 5 (dc_at dX9_countBelow 20 rfl) rfl ?_
      refine r_lload_n hc 1 (dc_at dX9_countBelow 21 rfl) rfl ?_
      refine r_iload hc 5 (dc_at dX9_countBelow 22 rfl) rfl ?_
      refine r_i2l hc (dc_at dX9_countBelow 23 rfl) ?_
      refine r_lmul hc (dc_at dX9_countBelow 24 rfl) ?_
      refine r_lload_n hc 2 (dc_at dX9_countBelow 25 rfl) rfl ?_
      refine r_ladd hc (dc_at dX9_countBelow 26 rfl) ?_
      refine r_lconst (1 : Int64) hc (dc_at dX9_countBelow 27 rfl) (by decide) ?_
      refine r_lsub hc (dc_at dX9_countBelow 28 rfl) ?_
      refine r_lload_n hc 2 (dc_at dX9_countBelow 29 rfl) rfl ?_
      refine r_ldiv hc (dc_at dX9_countBelow 30 rfl) hf (fun hf => ?_)
      refine r_l2i hc (dc_at dX9_countBelow 31 rfl) ?_
      refine r_iastore hc (dc_at dX9_countBelow 32 rfl) hf fun h4 hf => ?_
      refine obv hf fun x5 e_x5 hf => ?_
      refine r_iinc 5 [(7, .int x5), (0, .ref (X.1 + v0)), (1, .long v1), (3, .long v3), (5, .int v5), (6, .int v6)] hc hr (dc_at dX9_countBelow 33 rfl) rfl (by rw [e_x5]; rfl) (by decide) rfl ?_
      refine r_goto (tgt := 15) hc (dc_at dX9_countBelow 34 rfl) (by decide) ?_
      exact gg_sub [1, 2, 3, 4, 5, 0] rfl (ih10 _ _ _ _ _ _ _ hf)
def l_X9_countBelow_15 (F : Nat) : Nat → PH → Nat → Int64 → Int64 → Int32 → Int32 → Int32 → Option (Int32 × PH)
  | 0 => fun _ _ _ _ _ _ _ => none
  | n + 1 => fun h v0 v1 v3 v5 v6 v7 => b_X9_countBelow_15 F (l_X9_countBelow_15 F n) h v0 v1 v3 v5 v6 v7
theorem tl_X9_countBelow_15 {M : MV} {X : XT} {F : Nat} {hz : PH} {r : Int32} {ce sl mc ms : Nat} (hc : Cx M X RX9 cX9_countBelow) (hr : Rx M 1 60 mc ms 9) (he : Ex M X (some .int) "countBelow" (some (.int r)) hz mc ms) (hm : ce ≤ mc) (hs : sl ≤ ms) (n : Nat) : ∀ (h : PH) (v0 : Nat) (v1 : Int64) (v3 : Int64) (v5 : Int32) (v6 : Int32) (v7 : Int32), l_X9_countBelow_15 F n h v0 v1 v3 v5 v6 v7 = some (r, hz) → GG M X h ce sl 15 [(0, .ref (X.1 + v0)), (1, .long v1), (3, .long v3), (5, .int v5), (6, .int v6), (7, .int v7)] [] := by
  induction n with
  | zero => intro h v0 v1 v3 v5 v6 v7 hf; cases hf
  | succ n ih => intro h v0 v1 v3 v5 v6 v7 hf; exact tb_X9_countBelow_15 (F := F) hc hr he hm hs  ih hf
def b_X9_countBelow_0 (F : Nat) (h : PH) (v0 : Nat) (v1 : Int64) (v3 : Int64) (v5 : Int32) : Option (Int32 × PH) := if (1 : Int64) ≤ v3 then (l_X9_countBelow_15 F F h v0 v1 v3 v5 (0 : Int32) (1 : Int32)) else (some ((0 : Int32), h))
set_option maxRecDepth 20000 in
theorem t_X9_countBelow_0 {M : MV} {X : XT} {F : Nat} {h hz : PH} {r : Int32} {ce sl mc ms : Nat} {v0 : Nat} {v1 : Int64} {v3 : Int64} {v5 : Int32} (hc : Cx M X RX9 cX9_countBelow) (hr : Rx M 1 60 mc ms 9) (he : Ex M X (some .int) "countBelow" (some (.int r)) hz mc ms) (hm : ce ≤ mc) (hs : sl ≤ ms) (hf : b_X9_countBelow_0 F h v0 v1 v3 v5 = some (r, hz)) : GG M X h ce sl 0 [(0, .ref (X.1 + v0)), (1, .long v1), (3, .long v3), (5, .int v5)] [] := by
  unfold b_X9_countBelow_0 at hf
  refine r_iconst (0 : Int32) hc (dc_at dX9_countBelow 0 rfl) (by decide) ?_
  refine r_istore [(6, .int ((0 : Int32))), (0, .ref (X.1 + v0)), (1, .long v1), (3, .long v3), (5, .int v5)] hc hr (dc_at dX9_countBelow 1 rfl) (by decide) rfl ?_
  refine r_lload_n hc 3 (dc_at dX9_countBelow 2 rfl) rfl ?_
  refine r_lconst (1 : Int64) hc (dc_at dX9_countBelow 3 rfl) (by decide) ?_
  refine r_lcmp_ge (tgt := 12) hc (dc_at dX9_countBelow 4 rfl) (dc_at dX9_countBelow 5 rfl) (by decide) hf (fun hf => ?_) (fun hf => ?_)
  · refine r_iconst (1 : Int32) hc (dc_at dX9_countBelow 8 rfl) (by decide) ?_
    refine r_istore [(7, .int ((1 : Int32))), (6, .int ((0 : Int32))), (0, .ref (X.1 + v0)), (1, .long v1), (3, .long v3), (5, .int v5)] hc hr (dc_at dX9_countBelow 9 rfl) (by decide) rfl ?_
    exact gg_sub [2, 3, 4, 5, 1, 0] rfl (tl_X9_countBelow_15 hc hr he hm hs  F _ _ _ _ _ _ _ hf)
  · refine r_iload hc 0 (dc_at dX9_countBelow 6 rfl) rfl ?_
    exact r_iret hc he (hm) (hs) (dc_at dX9_countBelow 7 rfl) hf
def m_X9_countBelow (F : Nat) (h : PH) (p0 : Nat) (p1 : Int64) (p3 : Int64) (p5 : Int32) : Option (Int32 × PH) := b_X9_countBelow_0 F h p0 p1 p3 p5
theorem mt_X9_countBelow {l : Launch} {X : XT} {F : Nat} {h hz : PH} {p0 : Nat} {p1 : Int64} {p3 : Int64} {p5 : Int32} {r : Int32} (ex : m_X9_countBelow F h p0 p1 p3 p5 = some (r, hz)) : MT l X yX9_countBelow cX9_countBelow 9 (some .int) 1 60 0 0 [.ref (X.1 + p0), .long p1, .long p3, .int p5] h (some (.int r)) hz := MT.of (by decide) (Nat.le_of_ble_eq_true rfl) fun M hl hc hr he => by
  subst hl
  exact gg_sub [0, 1, 2, 3] rfl (t_X9_countBelow_0  hc hr he (Nat.zero_le _) (Nat.zero_le _) ex)
