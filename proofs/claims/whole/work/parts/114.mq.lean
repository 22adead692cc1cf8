/-! methods that make Routes, where it is there already -/
def mq_routes (F : Nat) (h : PH) (p : Nat) : Option (Nat × PH) := if gN 9 16 h p = some none then none else m_X9_routesFromHere F h p
theorem mq_rt {F : Nat} {h : PH} {p : Nat} {v : Nat × PH} (ex : mq_routes F h p = some v) : m_X9_routesFromHere F h p = some v := by
  unfold mq_routes at ex
  split at ex
  · cases ex
  · exact ex
theorem mq_nc {F : Nat} {h : PH} {p : Nat} {v : Nat × PH} {C : Prop} (ex : mq_routes F h p = some v) : gN 9 16 h p = some none → C := by
  intro z
  unfold mq_routes at ex
  rw [if_pos z] at ex
  cases ex
def LEo {α : Type} (a b : Option α) : Prop := ∀ v, a = some v → b = some v
theorem le_r {α : Type} (a : Option α) : LEo a a := fun _ h => h
theorem le_rt {F : Nat} {h : PH} {p : Nat} : LEo (mq_routes F h p) (m_X9_routesFromHere F h p) := fun _ e => mq_rt e
theorem le_cO {α : Type} {c : Nat} {h : PH} {p : Nat} {a b : Option α} (k : LEo a b) : LEo (cO c h p a) (cO c h p b) := fun v e => by
  unfold cO at e ⊢
  split at e
  · rename_i hh; rw [if_pos hh]; exact k v e
  · cases e
theorem le_b2 {α β γ : Type} {a b : Option (α × β)} {f g : α → β → Option γ} (k : LEo a b) (k2 : ∀ x y, LEo (f x y) (g x y)) : LEo (bind2 a f) (bind2 b g) := fun v e => ob2 e fun x y ex e => by
  rw [k _ ex]
  exact k2 x y v e
theorem le_b1 {α γ : Type} {a : Option α} {f g : α → Option γ} (k2 : ∀ x, LEo (f x) (g x)) : LEo (a.bind f) (a.bind g) := fun v e => ob e fun x ex e => by
  rw [ex]
  exact k2 x v e
theorem le_bv {α γ : Type} {a : α} {f g : α → Option γ} (k2 : ∀ x, LEo (f x) (g x)) : LEo (bindv a f) (bindv a g) := fun v e => k2 a v e
theorem le_if {α : Type} {p : Prop} [Decidable p] {a b c d : Option α} (k1 : LEo a c) (k2 : LEo b d) : LEo (if p then a else b) (if p then c else d) := fun v e => by
  split at e
  · rename_i h; rw [if_pos h]; exact k1 v e
  · rename_i h; rw [if_neg h]; exact k2 v e
def kost (b : Bool) (K S : Nat) : Nat × Nat := if b then (K, S) else (0, 0)
def bq_X9_fewest_19 (F : Nat) (h : PH) (v0 : Nat) (v1 : Int32) (v2 : Int32) (v3 : Int32) : Option (Int32 × PH) := cO 9 h v0 (bind2 (m_X9_asksFloor F h v0 v1 v2) fun x1 h2 => (if x1 = 0 then (some ((-3 : Int32), h2)) else (cO 9 h2 v0 (bind2 (mq_routes F h2 v0) fun a3 h4 => ((gR 9 12 h4 v0).bind fun a5 => ((gL 2 0 h4 a5).bind fun x6 => ((gR 9 12 h4 v0).bind fun a7 => ((gL 2 1 h4 a7).bind fun x8 => (cO 5 h4 a3 (bind2 (m_X5_seekFewest F h4 a3 (Int64.toInt32 x6) (Int64.toInt32 x8)) fun x9 h10 => (if x9 < 0 then (some (x9, h10)) else (if v3 = 0 then (some (x9, h10)) else (if x9 ≤ ((v3 - (10 : Int32))) then (some ((-1 : Int32), h10)) else ((gR 5 1 h10 a3).bind fun a11 => ((aI 0 h10 a11 ((v3 - (10 : Int32)))).bind fun x12 => (some (x12, h10)))))))))))))))))
set_option maxRecDepth 20000 in
theorem tq_X9_fewest_19 {M : MV} {X : XT} {F : Nat} {h hz : PH} {r : Int32} {mc ms : Nat} {v0 : Nat} {v1 : Int32} {v2 : Int32} {v3 : Int32} (hc : Cx M X RX9 cX9_fewest) (hr : Rx M 7 408 mc ms 6) (he : Ex M X (some .int) "fewest" (some (.int r)) hz mc ms) (hm : 0 ≤ mc) (hs : 0 ≤ ms) (hf : bq_X9_fewest_19 F h v0 v1 v2 v3 = some (r, hz)) : GG M X h 0 0 19 [(0, .ref (X.1 + v0)), (1, .int v1), (2, .int v2), (3, .int v3)] [] := by
  unfold bq_X9_fewest_19 at hf
  refine r_aload_n hc 0 (dc_at dX9_fewest 10 rfl) rfl ?_
  refine r_iload_n hc 1 (dc_at dX9_fewest 11 rfl) rfl ?_
  refine r_iload_n hc 2 (dc_at dX9_fewest 12 rfl) rfl ?_
  obtain ⟨ho, hf⟩ := cO_some hf
  refine ob2 hf fun x1 h2 ex hf => ?_
  refine r_callVi (As := [.int v1, .int v2]) (ci := 9) hc hr (dc_at dX9_fewest 13 rfl) ml_X9_132 mv_X9_asksFloor vi_X9_asksFloor rfl ho rfl (mt_X9_asksFloor ex) (by first | exact Nat.le_of_ble_eq_true rfl | omega) (by first | exact Nat.le_of_ble_eq_true rfl | omega) (by first | exact Nat.le_of_ble_eq_true rfl | omega) (by omega) (by omega) ?_
  refine r_if_ne (tgt := 31) hc (dc_at dX9_fewest 14 rfl) (by decide) hf (fun hf => ?_) (fun hf => ?_)
  · refine r_aload_n hc 0 (dc_at dX9_fewest 17 rfl) rfl ?_
    obtain ⟨ho, hf⟩ := cO_some hf
    refine ob2 hf fun a3 h4 ex hf => ?_
    refine r_callVrC (As := []) (ci := 9) hc hr (dc_at dX9_fewest 18 rfl) ml_X9_210 mv_X9_routesFromHere vi_X9_routesFromHere rfl ho rfl (mt_X9_routesFromHere (mc := mc) (ms := ms) (mq_rt ex) (mq_nc ex)) (by first | exact Nat.le_of_ble_eq_true rfl | omega) (by first | exact Nat.le_of_ble_eq_true rfl | omega) (by first | exact Nat.le_of_ble_eq_true rfl | omega) (by omega) (by omega) ?_
    refine r_astore [(4, .ref (X.1 + a3)), (0, .ref (X.1 + v0)), (1, .int v1), (2, .int v2), (3, .int v3)] hc hr (dc_at dX9_fewest 19 rfl) (by decide) rfl ?_
    refine r_aload hc 0 (dc_at dX9_fewest 20 rfl) rfl ?_
    refine r_aload_n hc 1 (dc_at dX9_fewest 21 rfl) rfl ?_
    refine r_getR hc (dc_at dX9_fewest 22 rfl) fl_X9_59 hf fun a5 hf => ?_
    refine r_getL hc (dc_at dX9_fewest 23 rfl) fl_X9_136 hf fun x6 hf => ?_
    refine r_l2i hc (dc_at dX9_fewest 24 rfl) ?_
    refine r_aload_n hc 1 (dc_at dX9_fewest 25 rfl) rfl ?_
    refine r_getR hc (dc_at dX9_fewest 26 rfl) fl_X9_59 hf fun a7 hf => ?_
    refine r_getL hc (dc_at dX9_fewest 27 rfl) fl_X9_140 hf fun x8 hf => ?_
    refine r_l2i hc (dc_at dX9_fewest 28 rfl) ?_
    obtain ⟨ho, hf⟩ := cO_some hf
    refine ob2 hf fun x9 h10 ex hf => ?_
    refine r_callVi (As := [.int ((Int64.toInt32 x6)), .int ((Int64.toInt32 x8))]) (ci := 5) hc hr (dc_at dX9_fewest 29 rfl) ml_X9_214 mv_X5_seekFewest vi_X5_seekFewest rfl ho rfl (mt_X5_seekFewest ex) (by first | exact Nat.le_of_ble_eq_true rfl | omega) (by first | exact Nat.le_of_ble_eq_true rfl | omega) (by first | exact Nat.le_of_ble_eq_true rfl | omega) (by omega) (by omega) ?_
    refine r_istore [(5, .int x9), (4, .ref (X.1 + a3)), (0, .ref (X.1 + v0)), (1, .int v1), (2, .int v2), (3, .int v3)] hc hr (dc_at dX9_fewest 30 rfl) (by decide) rfl ?_
    refine r_iload hc 0 (dc_at dX9_fewest 31 rfl) rfl ?_
    refine r_if_lt (tgt := 69) hc (dc_at dX9_fewest 32 rfl) (by decide) hf (fun hf => ?_) (fun hf => ?_)
    · refine r_iload hc 0 (dc_at dX9_fewest 35 rfl) rfl ?_
      exact r_iret hc he (by omega) (by omega) (dc_at dX9_fewest 36 rfl) hf
    · refine r_iload_n hc 5 (dc_at dX9_fewest 33 rfl) rfl ?_
      refine r_if_ne (tgt := 72) hc (dc_at dX9_fewest 34 rfl) (by decide) hf (fun hf => ?_) (fun hf => ?_)
      · refine r_iload_n hc 5 (dc_at dX9_fewest 37 rfl) rfl ?_
        refine r_bipush (10 : Int32) hc (dc_at dX9_fewest 38 rfl) (by decide) ?_
        refine r_isub hc (dc_at dX9_fewest 39 rfl) ?_
        refine r_iload hc 0 (dc_at dX9_fewest 40 rfl) rfl ?_
        refine r_icmp_ge (tgt := 94) hc (dc_at dX9_fewest 41 rfl) (by decide) hf (fun hf => ?_) (fun hf => ?_)
        · refine r_iconst (-1 : Int32) hc (dc_at dX9_fewest 49 rfl) (by decide) ?_
          exact r_iret hc he (by omega) (by omega) (dc_at dX9_fewest 50 rfl) hf
        · refine r_aload hc 1 (dc_at dX9_fewest 42 rfl) rfl ?_
          refine r_getR hc (dc_at dX9_fewest 43 rfl) fl_X9_219 hf fun a11 hf => ?_
          refine r_iload_n hc 5 (dc_at dX9_fewest 44 rfl) rfl ?_
          refine r_bipush (10 : Int32) hc (dc_at dX9_fewest 45 rfl) (by decide) ?_
          refine r_isub hc (dc_at dX9_fewest 46 rfl) ?_
          refine r_iaload hc (dc_at dX9_fewest 47 rfl) hf fun x12 hf => ?_
          refine r_goto (tgt := 95) hc (dc_at dX9_fewest 48 rfl) (by decide) ?_
          exact r_iret hc he (by omega) (by omega) (dc_at dX9_fewest 50 rfl) hf
      · refine r_iload hc 0 (dc_at dX9_fewest 35 rfl) rfl ?_
        exact r_iret hc he (by omega) (by omega) (dc_at dX9_fewest 36 rfl) hf
  · refine r_bipush (-3 : Int32) hc (dc_at dX9_fewest 15 rfl) (by decide) ?_
    exact r_iret hc he (by omega) (by omega) (dc_at dX9_fewest 16 rfl) hf
def bq_X9_fewest_0 (F : Nat) (h : PH) (v0 : Nat) (v1 : Int32) (v2 : Int32) (v3 : Int32) : Option (Int32 × PH) := if v3 = 0 then (bq_X9_fewest_19 F h v0 v1 v2 v3) else (if v3 < (10 : Int32) then (some ((-2 : Int32), h)) else (if v3 ≤ (17 : Int32) then (bq_X9_fewest_19 F h v0 v1 v2 v3) else (some ((-2 : Int32), h))))
set_option maxRecDepth 20000 in
theorem tq_X9_fewest_0 {M : MV} {X : XT} {F : Nat} {h hz : PH} {r : Int32} {mc ms : Nat} {v0 : Nat} {v1 : Int32} {v2 : Int32} {v3 : Int32} (hc : Cx M X RX9 cX9_fewest) (hr : Rx M 7 408 mc ms 6) (he : Ex M X (some .int) "fewest" (some (.int r)) hz mc ms) (hm : 0 ≤ mc) (hs : 0 ≤ ms) (hf : bq_X9_fewest_0 F h v0 v1 v2 v3 = some (r, hz)) : GG M X h 0 0 0 [(0, .ref (X.1 + v0)), (1, .int v1), (2, .int v2), (3, .int v3)] [] := by
  unfold bq_X9_fewest_0 at hf
  refine r_iload_n hc 3 (dc_at dX9_fewest 0 rfl) rfl ?_
  refine r_if_eq (tgt := 19) hc (dc_at dX9_fewest 1 rfl) (by decide) hf (fun hf => ?_) (fun hf => ?_)
  · exact gg_sub [0, 1, 2, 3] rfl (tq_X9_fewest_19 hc hr he (by omega) (by omega)  hf)
  · refine r_iload_n hc 3 (dc_at dX9_fewest 2 rfl) rfl ?_
    refine r_bipush (10 : Int32) hc (dc_at dX9_fewest 3 rfl) (by decide) ?_
    refine r_icmp_lt (tgt := 16) hc (dc_at dX9_fewest 4 rfl) (by decide) hf (fun hf => ?_) (fun hf => ?_)
    · refine r_bipush (-2 : Int32) hc (dc_at dX9_fewest 8 rfl) (by decide) ?_
      exact r_iret hc he (by omega) (by omega) (dc_at dX9_fewest 9 rfl) hf
    · refine r_iload_n hc 3 (dc_at dX9_fewest 5 rfl) rfl ?_
      refine r_bipush (17 : Int32) hc (dc_at dX9_fewest 6 rfl) (by decide) ?_
      refine r_icmp_le (tgt := 19) hc (dc_at dX9_fewest 7 rfl) (by decide) hf (fun hf => ?_) (fun hf => ?_)
      · exact gg_sub [0, 1, 2, 3] rfl (tq_X9_fewest_19 hc hr he (by omega) (by omega)  hf)
      · refine r_bipush (-2 : Int32) hc (dc_at dX9_fewest 8 rfl) (by decide) ?_
        exact r_iret hc he (by omega) (by omega) (dc_at dX9_fewest 9 rfl) hf
def mq_X9_fewest (F : Nat) (h : PH) (p0 : Nat) (p1 : Int32) (p2 : Int32) (p3 : Int32) : Option (Int32 × PH) := bq_X9_fewest_0 F h p0 p1 p2 p3
theorem mtq_X9_fewest {l : Launch} {X : XT} {F : Nat} {h hz : PH} {p0 : Nat} {p1 : Int32} {p2 : Int32} {p3 : Int32} {r : Int32} {mc ms : Nat} (ex : mq_X9_fewest F h p0 p1 p2 p3 = some (r, hz)) : MT l X yX9_fewest cX9_fewest 6 (some .int) 7 408 mc ms [.ref (X.1 + p0), .int p1, .int p2, .int p3] h (some (.int r)) hz := MT.of (by decide) (Nat.le_of_ble_eq_true rfl) fun M hl hc hr he => by
  subst hl
  exact gg_sub [0, 1, 2, 3] rfl (tq_X9_fewest_0  hc hr he (Nat.zero_le _) (Nat.zero_le _) ex)
set_option maxRecDepth 20000 in
theorem le_X9_fewest_19 {F : Nat} {h : PH} {v0 : Nat} {v1 : Int32} {v2 : Int32} {v3 : Int32} : LEo (bq_X9_fewest_19 F h v0 v1 v2 v3) (b_X9_fewest_19 F h v0 v1 v2 v3) := by
  unfold bq_X9_fewest_19 b_X9_fewest_19
  repeat' (first | with_reducible exact le_r _ | with_reducible exact le_rt | with_reducible refine le_cO ?_ | with_reducible refine le_b2 ?_ (fun _ _ => ?_) | with_reducible refine le_b1 (fun _ => ?_) | with_reducible refine le_bv (fun _ => ?_) | with_reducible refine le_if ?_ ?_)
set_option maxRecDepth 20000 in
theorem le_X9_fewest_0 {F : Nat} {h : PH} {v0 : Nat} {v1 : Int32} {v2 : Int32} {v3 : Int32} : LEo (bq_X9_fewest_0 F h v0 v1 v2 v3) (b_X9_fewest_0 F h v0 v1 v2 v3) := by
  unfold bq_X9_fewest_0 b_X9_fewest_0
  repeat' (first | with_reducible exact le_r _ | with_reducible exact le_rt | with_reducible exact le_X9_fewest_19 | with_reducible refine le_cO ?_ | with_reducible refine le_b2 ?_ (fun _ _ => ?_) | with_reducible refine le_b1 (fun _ => ?_) | with_reducible refine le_bv (fun _ => ?_) | with_reducible refine le_if ?_ ?_)
theorem mtk_X9_fewest {l : Launch} {X : XT} {F : Nat} {h hz : PH} {p0 : Nat} {p1 : Int32} {p2 : Int32} {p3 : Int32} {r : Int32} (ex : m_X9_fewest F h p0 p1 p2 p3 = some (r, hz)) : MT l X yX9_fewest cX9_fewest 6 (some .int) 7 408 (kost (mq_X9_fewest F h p0 p1 p2 p3).isNone 10 46057).1 (kost (mq_X9_fewest F h p0 p1 p2 p3).isNone 10 46057).2 [.ref (X.1 + p0), .int p1, .int p2, .int p3] h (some (.int r)) hz := by
  cases hq : mq_X9_fewest F h p0 p1 p2 p3 with
  | none => exact mt_X9_fewest ex (fun _ => ⟨Nat.le_refl _, Nat.le_refl _⟩)
  | some v =>
    have e2 : m_X9_fewest F h p0 p1 p2 p3 = some v := le_X9_fewest_0 v hq
    rw [ex] at e2
    cases e2
    exact mtq_X9_fewest hq
def bq_X9_reach_0 (F : Nat) (h : PH) (v0 : Nat) (v1 : Int32) : Option (Int32 × PH) := if v1 < 0 then (some ((-3 : Int32), h)) else (if v1 ≤ (5 : Int32) then (cO 9 h v0 (bind2 (mq_routes F h v0) fun a1 h2 => (cO 5 h2 a1 (bind2 (m_X5_layFloors F h2 a1 v1) fun x3 h4 => ((gR 5 0 h4 a1).bind fun a5 => ((gI 1 4 h4 a5).bind fun x6 => (some ((x6 - x3), h4)))))))) else (some ((-3 : Int32), h)))
set_option maxRecDepth 20000 in
theorem tq_X9_reach_0 {M : MV} {X : XT} {F : Nat} {h hz : PH} {r : Int32} {mc ms : Nat} {v0 : Nat} {v1 : Int32} (hc : Cx M X RX9 cX9_reach) (hr : Rx M 7 408 mc ms 4) (he : Ex M X (some .int) "reach" (some (.int r)) hz mc ms) (hm : 0 ≤ mc) (hs : 0 ≤ ms) (hf : bq_X9_reach_0 F h v0 v1 = some (r, hz)) : GG M X h 0 0 0 [(0, .ref (X.1 + v0)), (1, .int v1)] [] := by
  unfold bq_X9_reach_0 at hf
  refine r_iload_n hc 1 (dc_at dX9_reach 0 rfl) rfl ?_
  refine r_if_lt (tgt := 9) hc (dc_at dX9_reach 1 rfl) (by decide) hf (fun hf => ?_) (fun hf => ?_)
  · refine r_bipush (-3 : Int32) hc (dc_at dX9_reach 5 rfl) (by decide) ?_
    exact r_iret hc he (by omega) (by omega) (dc_at dX9_reach 6 rfl) hf
  · refine r_iload_n hc 1 (dc_at dX9_reach 2 rfl) rfl ?_
    refine r_iconst (5 : Int32) hc (dc_at dX9_reach 3 rfl) (by decide) ?_
    refine r_icmp_le (tgt := 12) hc (dc_at dX9_reach 4 rfl) (by decide) hf (fun hf => ?_) (fun hf => ?_)
    · refine r_aload_n hc 0 (dc_at dX9_reach 7 rfl) rfl ?_
      obtain ⟨ho, hf⟩ := cO_some hf
      refine ob2 hf fun a1 h2 ex hf => ?_
      refine r_callVrC (As := []) (ci := 9) hc hr (dc_at dX9_reach 8 rfl) ml_X9_210 mv_X9_routesFromHere vi_X9_routesFromHere rfl ho rfl (mt_X9_routesFromHere (mc := mc) (ms := ms) (mq_rt ex) (mq_nc ex)) (by first | exact Nat.le_of_ble_eq_true rfl | omega) (by first | exact Nat.le_of_ble_eq_true rfl | omega) (by first | exact Nat.le_of_ble_eq_true rfl | omega) (by omega) (by omega) ?_
      refine r_astore_n [(2, .ref (X.1 + a1)), (0, .ref (X.1 + v0)), (1, .int v1)] hc hr (dc_at dX9_reach 9 rfl) (by decide) rfl ?_
      refine r_aload_n hc 0 (dc_at dX9_reach 10 rfl) rfl ?_
      refine r_iload_n hc 2 (dc_at dX9_reach 11 rfl) rfl ?_
      obtain ⟨ho, hf⟩ := cO_some hf
      refine ob2 hf fun x3 h4 ex hf => ?_
      refine r_callVi (As := [.int v1]) (ci := 5) hc hr (dc_at dX9_reach 12 rfl) ml_X9_222 mv_X5_layFloors vi_X5_layFloors rfl ho rfl (mt_X5_layFloors ex) (by first | exact Nat.le_of_ble_eq_true rfl | omega) (by first | exact Nat.le_of_ble_eq_true rfl | omega) (by first | exact Nat.le_of_ble_eq_true rfl | omega) (by omega) (by omega) ?_
      refine r_istore_n [(3, .int x3), (2, .ref (X.1 + a1)), (0, .ref (X.1 + v0)), (1, .int v1)] hc hr (dc_at dX9_reach 13 rfl) (by decide) rfl ?_
      refine r_aload_n hc 1 (dc_at dX9_reach 14 rfl) rfl ?_
      refine r_getR hc (dc_at dX9_reach 15 rfl) fl_X9_225 hf fun a5 hf => ?_
      refine r_getI hc (dc_at dX9_reach 16 rfl) fl_X9_229 hf fun x6 hf => ?_
      refine r_iload_n hc 0 (dc_at dX9_reach 17 rfl) rfl ?_
      refine r_isub hc (dc_at dX9_reach 18 rfl) ?_
      exact r_iret hc he (by omega) (by omega) (dc_at dX9_reach 19 rfl) hf
    · refine r_bipush (-3 : Int32) hc (dc_at dX9_reach 5 rfl) (by decide) ?_
      exact r_iret hc he (by omega) (by omega) (dc_at dX9_reach 6 rfl) hf
def mq_X9_reach (F : Nat) (h : PH) (p0 : Nat) (p1 : Int32) : Option (Int32 × PH) := bq_X9_reach_0 F h p0 p1
theorem mtq_X9_reach {l : Launch} {X : XT} {F : Nat} {h hz : PH} {p0 : Nat} {p1 : Int32} {r : Int32} {mc ms : Nat} (ex : mq_X9_reach F h p0 p1 = some (r, hz)) : MT l X yX9_reach cX9_reach 4 (some .int) 7 408 mc ms [.ref (X.1 + p0), .int p1] h (some (.int r)) hz := MT.of (by decide) (Nat.le_of_ble_eq_true rfl) fun M hl hc hr he => by
  subst hl
  exact gg_sub [0, 1] rfl (tq_X9_reach_0  hc hr he (Nat.zero_le _) (Nat.zero_le _) ex)
set_option maxRecDepth 20000 in
theorem le_X9_reach_0 {F : Nat} {h : PH} {v0 : Nat} {v1 : Int32} : LEo (bq_X9_reach_0 F h v0 v1) (b_X9_reach_0 F h v0 v1) := by
  unfold bq_X9_reach_0 b_X9_reach_0
  repeat' (first | with_reducible exact le_r _ | with_reducible exact le_rt | with_reducible refine le_cO ?_ | with_reducible refine le_b2 ?_ (fun _ _ => ?_) | with_reducible refine le_b1 (fun _ => ?_) | with_reducible refine le_bv (fun _ => ?_) | with_reducible refine le_if ?_ ?_)
theorem mtk_X9_reach {l : Launch} {X : XT} {F : Nat} {h hz : PH} {p0 : Nat} {p1 : Int32} {r : Int32} (ex : m_X9_reach F h p0 p1 = some (r, hz)) : MT l X yX9_reach cX9_reach 4 (some .int) 7 408 (kost (mq_X9_reach F h p0 p1).isNone 10 46057).1 (kost (mq_X9_reach F h p0 p1).isNone 10 46057).2 [.ref (X.1 + p0), .int p1] h (some (.int r)) hz := by
  cases hq : mq_X9_reach F h p0 p1 with
  | none => exact mt_X9_reach ex (fun _ => ⟨Nat.le_refl _, Nat.le_refl _⟩)
  | some v =>
    have e2 : m_X9_reach F h p0 p1 = some v := le_X9_reach_0 v hq
    rw [ex] at e2
    cases e2
    exact mtq_X9_reach hq
def bq_X9_highest_0 (F : Nat) (h : PH) (v0 : Nat) (v1 : Int32) (v2 : Int32) : Option (Int32 × PH) := if v2 < 0 then (some ((-2 : Int32), h)) else (if v2 ≤ (1 : Int32) then (if v1 < 0 then (some ((-3 : Int32), h)) else (if v1 ≤ (5 : Int32) then (cO 9 h v0 (bind2 (mq_routes F h v0) fun a1 h2 => (cO 5 h2 a1 (bind2 (m_X5_layFloors F h2 a1 v1) fun x3 h4 => (cO 5 h4 a1 ((m_X5_greatestFrom F h4 a1 x3).bind fun x5 => (if x5 = (-1 : Int32) then (some ((-1 : Int32), h4)) else (if v2 = 0 then ((gR 5 0 h4 a1).bind fun a9 => ((gR 1 0 h4 a9).bind fun a10 => ((aI 0 h4 a10 x5).bind fun x11 => (some (x11, h4))))) else ((gR 5 0 h4 a1).bind fun a6 => ((gR 1 1 h4 a6).bind fun a7 => ((aI 0 h4 a7 x5).bind fun x8 => (some (x8, h4))))))))))))) else (some ((-3 : Int32), h)))) else (some ((-2 : Int32), h)))
set_option maxRecDepth 20000 in
theorem tq_X9_highest_0 {M : MV} {X : XT} {F : Nat} {h hz : PH} {r : Int32} {mc ms : Nat} {v0 : Nat} {v1 : Int32} {v2 : Int32} (hc : Cx M X RX9 cX9_highest) (hr : Rx M 7 408 mc ms 5) (he : Ex M X (some .int) "highest" (some (.int r)) hz mc ms) (hm : 0 ≤ mc) (hs : 0 ≤ ms) (hf : bq_X9_highest_0 F h v0 v1 v2 = some (r, hz)) : GG M X h 0 0 0 [(0, .ref (X.1 + v0)), (1, .int v1), (2, .int v2)] [] := by
  unfold bq_X9_highest_0 at hf
  refine r_iload_n hc 2 (dc_at dX9_highest 0 rfl) rfl ?_
  refine r_if_lt (tgt := 9) hc (dc_at dX9_highest 1 rfl) (by decide) hf (fun hf => ?_) (fun hf => ?_)
  · refine r_bipush (-2 : Int32) hc (dc_at dX9_highest 5 rfl) (by decide) ?_
    exact r_iret hc he (by omega) (by omega) (dc_at dX9_highest 6 rfl) hf
  · refine r_iload_n hc 2 (dc_at dX9_highest 2 rfl) rfl ?_
    refine r_iconst (1 : Int32) hc (dc_at dX9_highest 3 rfl) (by decide) ?_
    refine r_icmp_le (tgt := 12) hc (dc_at dX9_highest 4 rfl) (by decide) hf (fun hf => ?_) (fun hf => ?_)
    · refine r_iload_n hc 1 (dc_at dX9_highest 7 rfl) rfl ?_
      refine r_if_lt (tgt := 21) hc (dc_at dX9_highest 8 rfl) (by decide) hf (fun hf => ?_) (fun hf => ?_)
      · refine r_bipush (-3 : Int32) hc (dc_at dX9_highest 12 rfl) (by decide) ?_
        exact r_iret hc he (by omega) (by omega) (dc_at dX9_highest 13 rfl) hf
      · refine r_iload_n hc 1 (dc_at dX9_highest 9 rfl) rfl ?_
        refine r_iconst (5 : Int32) hc (dc_at dX9_highest 10 rfl) (by decide) ?_
        refine r_icmp_le (tgt := 24) hc (dc_at dX9_highest 11 rfl) (by decide) hf (fun hf => ?_) (fun hf => ?_)
        · refine r_aload_n hc 0 (dc_at dX9_highest 14 rfl) rfl ?_
          obtain ⟨ho, hf⟩ := cO_some hf
          refine ob2 hf fun a1 h2 ex hf => ?_
          refine r_callVrC (As := []) (ci := 9) hc hr (dc_at dX9_highest 15 rfl) ml_X9_210 mv_X9_routesFromHere vi_X9_routesFromHere rfl ho rfl (mt_X9_routesFromHere (mc := mc) (ms := ms) (mq_rt ex) (mq_nc ex)) (by first | exact Nat.le_of_ble_eq_true rfl | omega) (by first | exact Nat.le_of_ble_eq_true rfl | omega) (by first | exact Nat.le_of_ble_eq_true rfl | omega) (by omega) (by omega) ?_
          refine r_astore_n [(3, .ref (X.1 + a1)), (0, .ref (X.1 + v0)), (1, .int v1), (2, .int v2)] hc hr (dc_at dX9_highest 16 rfl) (by decide) rfl ?_
          refine r_aload_n hc 0 (dc_at dX9_highest 17 rfl) rfl ?_
          refine r_aload_n hc 0 (dc_at dX9_highest 18 rfl) rfl ?_
          refine r_iload_n hc 2 (dc_at dX9_highest 19 rfl) rfl ?_
          obtain ⟨ho, hf⟩ := cO_some hf
          refine ob2 hf fun x3 h4 ex hf => ?_
          refine r_callVi (As := [.int v1]) (ci := 5) hc hr (dc_at dX9_highest 20 rfl) ml_X9_222 mv_X5_layFloors vi_X5_layFloors rfl ho rfl (mt_X5_layFloors ex) (by first | exact Nat.le_of_ble_eq_true rfl | omega) (by first | exact Nat.le_of_ble_eq_true rfl | omega) (by first | exact Nat.le_of_ble_eq_true rfl | omega) (by omega) (by omega) ?_
          obtain ⟨ho, hf⟩ := cO_some hf
          refine ob hf fun x5 ex hf => ?_
          refine r_callVi (As := [.int x3]) (ci := 5) hc hr (dc_at dX9_highest 21 rfl) ml_X9_232 mv_X5_greatestFrom vi_X5_greatestFrom rfl ho rfl (mt_X5_greatestFrom ex) (by first | exact Nat.le_of_ble_eq_true rfl | omega) (by first | exact Nat.le_of_ble_eq_true rfl | omega) (by first | exact Nat.le_of_ble_eq_true rfl | omega) (by omega) (by omega) ?_
          refine r_istore [(4, .int x5), (3, .ref (X.1 + a1)), (0, .ref (X.1 + v0)), (1, .int v1), (2, .int v2)] hc hr (dc_at dX9_highest 22 rfl) (by decide) rfl ?_
          refine r_iload hc 0 (dc_at dX9_highest 23 rfl) rfl ?_
          refine r_iconst (-1 : Int32) hc (dc_at dX9_highest 24 rfl) (by decide) ?_
          refine r_icmp_ne (tgt := 48) hc (dc_at dX9_highest 25 rfl) (by decide) hf (fun hf => ?_) (fun hf => ?_)
          · refine r_iload_n hc 4 (dc_at dX9_highest 28 rfl) rfl ?_
            refine r_if_ne (tgt := 65) hc (dc_at dX9_highest 29 rfl) (by decide) hf (fun hf => ?_) (fun hf => ?_)
            · refine r_aload_n hc 1 (dc_at dX9_highest 36 rfl) rfl ?_
              refine r_getR hc (dc_at dX9_highest 37 rfl) fl_X9_225 hf fun a6 hf => ?_
              refine r_getR hc (dc_at dX9_highest 38 rfl) fl_X9_237 hf fun a7 hf => ?_
              refine r_iload hc 0 (dc_at dX9_highest 39 rfl) rfl ?_
              refine r_iaload hc (dc_at dX9_highest 40 rfl) hf fun x8 hf => ?_
              exact r_iret hc he (by omega) (by omega) (dc_at dX9_highest 41 rfl) hf
            · refine r_aload_n hc 1 (dc_at dX9_highest 30 rfl) rfl ?_
              refine r_getR hc (dc_at dX9_highest 31 rfl) fl_X9_225 hf fun a9 hf => ?_
              refine r_getR hc (dc_at dX9_highest 32 rfl) fl_X9_235 hf fun a10 hf => ?_
              refine r_iload hc 0 (dc_at dX9_highest 33 rfl) rfl ?_
              refine r_iaload hc (dc_at dX9_highest 34 rfl) hf fun x11 hf => ?_
              refine r_goto (tgt := 75) hc (dc_at dX9_highest 35 rfl) (by decide) ?_
              exact r_iret hc he (by omega) (by omega) (dc_at dX9_highest 41 rfl) hf
          · refine r_iconst (-1 : Int32) hc (dc_at dX9_highest 26 rfl) (by decide) ?_
            exact r_iret hc he (by omega) (by omega) (dc_at dX9_highest 27 rfl) hf
        · refine r_bipush (-3 : Int32) hc (dc_at dX9_highest 12 rfl) (by decide) ?_
          exact r_iret hc he (by omega) (by omega) (dc_at dX9_highest 13 rfl) hf
    · refine r_bipush (-2 : Int32) hc (dc_at dX9_highest 5 rfl) (by decide) ?_
      exact r_iret hc he (by omega) (by omega) (dc_at dX9_highest 6 rfl) hf
def mq_X9_highest (F : Nat) (h : PH) (p0 : Nat) (p1 : Int32) (p2 : Int32) : Option (Int32 × PH) := bq_X9_highest_0 F h p0 p1 p2
theorem mtq_X9_highest {l : Launch} {X : XT} {F : Nat} {h hz : PH} {p0 : Nat} {p1 : Int32} {p2 : Int32} {r : Int32} {mc ms : Nat} (ex : mq_X9_highest F h p0 p1 p2 = some (r, hz)) : MT l X yX9_highest cX9_highest 5 (some .int) 7 408 mc ms [.ref (X.1 + p0), .int p1, .int p2] h (some (.int r)) hz := MT.of (by decide) (Nat.le_of_ble_eq_true rfl) fun M hl hc hr he => by
  subst hl
  exact gg_sub [0, 1, 2] rfl (tq_X9_highest_0  hc hr he (Nat.zero_le _) (Nat.zero_le _) ex)
set_option maxRecDepth 20000 in
theorem le_X9_highest_0 {F : Nat} {h : PH} {v0 : Nat} {v1 : Int32} {v2 : Int32} : LEo (bq_X9_highest_0 F h v0 v1 v2) (b_X9_highest_0 F h v0 v1 v2) := by
  unfold bq_X9_highest_0 b_X9_highest_0
  repeat' (first | with_reducible exact le_r _ | with_reducible exact le_rt | with_reducible refine le_cO ?_ | with_reducible refine le_b2 ?_ (fun _ _ => ?_) | with_reducible refine le_b1 (fun _ => ?_) | with_reducible refine le_bv (fun _ => ?_) | with_reducible refine le_if ?_ ?_)
theorem mtk_X9_highest {l : Launch} {X : XT} {F : Nat} {h hz : PH} {p0 : Nat} {p1 : Int32} {p2 : Int32} {r : Int32} (ex : m_X9_highest F h p0 p1 p2 = some (r, hz)) : MT l X yX9_highest cX9_highest 5 (some .int) 7 408 (kost (mq_X9_highest F h p0 p1 p2).isNone 10 46057).1 (kost (mq_X9_highest F h p0 p1 p2).isNone 10 46057).2 [.ref (X.1 + p0), .int p1, .int p2] h (some (.int r)) hz := by
  cases hq : mq_X9_highest F h p0 p1 p2 with
  | none => exact mt_X9_highest ex (fun _ => ⟨Nat.le_refl _, Nat.le_refl _⟩)
  | some v =>
    have e2 : m_X9_highest F h p0 p1 p2 = some v := le_X9_highest_0 v hq
    rw [ex] at e2
    cases e2
    exact mtq_X9_highest hq
def bq_X9_twins_51 (F : Nat) (h : PH) (v0 : Nat) (v1 : Int32) (v2 : Int32) : Option (Int32 × PH) := cO 9 h v0 (bind2 (mq_routes F h v0) fun a1 h2 => (cO 5 h2 a1 (bind2 (m_X5_seekTwins F h2 a1) fun x3 h4 => (if x3 = (-1 : Int32) then (some (x3, h4)) else (if v1 = 0 then (some (x3, h4)) else (if (10 : Int32) = 0 then none else (bindv ((remI v1 (10 : Int32))) fun x5 => (if x5 < x3 then (if v2 = 0 then ((gR 5 2 h4 a1).bind fun a6 => ((aI 0 h4 a6 x5).bind fun x7 => (some (x7, h4)))) else ((gR 5 1 h4 a1).bind fun a8 => ((aI 0 h4 a8 x5).bind fun x9 => (some (x9, h4))))) else (some ((-1 : Int32), h4))))))))))
set_option maxRecDepth 20000 in
theorem tq_X9_twins_51 {M : MV} {X : XT} {F : Nat} {h hz : PH} {r : Int32} {mc ms : Nat} {v0 : Nat} {v1 : Int32} {v2 : Int32} (hc : Cx M X RX9 cX9_twins) (hr : Rx M 7 408 mc ms 7) (he : Ex M X (some .int) "twins" (some (.int r)) hz mc ms) (hm : 0 ≤ mc) (hs : 0 ≤ ms) (hf : bq_X9_twins_51 F h v0 v1 v2 = some (r, hz)) : GG M X h 0 0 51 [(0, .ref (X.1 + v0)), (1, .int v1), (2, .int v2)] [] := by
  unfold bq_X9_twins_51 at hf
  refine r_aload_n hc 0 (dc_at dX9_twins 28 rfl) rfl ?_
  obtain ⟨ho, hf⟩ := cO_some hf
  refine ob2 hf fun a1 h2 ex hf => ?_
  refine r_callVrC (As := []) (ci := 9) hc hr (dc_at dX9_twins 29 rfl) ml_X9_210 mv_X9_routesFromHere vi_X9_routesFromHere rfl ho rfl (mt_X9_routesFromHere (mc := mc) (ms := ms) (mq_rt ex) (mq_nc ex)) (by first | exact Nat.le_of_ble_eq_true rfl | omega) (by first | exact Nat.le_of_ble_eq_true rfl | omega) (by first | exact Nat.le_of_ble_eq_true rfl | omega) (by omega) (by omega) ?_
  refine r_astore [(4, .ref (X.1 + a1)), (0, .ref (X.1 + v0)), (1, .int v1), (2, .int v2)] hc hr (dc_at dX9_twins 30 rfl) (by decide) rfl ?_
  refine r_aload hc 0 (dc_at dX9_twins 31 rfl) rfl ?_
  obtain ⟨ho, hf⟩ := cO_some hf
  refine ob2 hf fun x3 h4 ex hf => ?_
  refine r_callVi (As := []) (ci := 5) hc hr (dc_at dX9_twins 32 rfl) ml_X9_239 mv_X5_seekTwins vi_X5_seekTwins rfl ho rfl (mt_X5_seekTwins ex) (by first | exact Nat.le_of_ble_eq_true rfl | omega) (by first | exact Nat.le_of_ble_eq_true rfl | omega) (by first | exact Nat.le_of_ble_eq_true rfl | omega) (by omega) (by omega) ?_
  refine r_istore [(5, .int x3), (4, .ref (X.1 + a1)), (0, .ref (X.1 + v0)), (1, .int v1), (2, .int v2)] hc hr (dc_at dX9_twins 33 rfl) (by decide) rfl ?_
  refine r_iload hc 0 (dc_at dX9_twins 34 rfl) rfl ?_
  refine r_iconst (-1 : Int32) hc (dc_at dX9_twins 35 rfl) (by decide) ?_
  refine r_icmp_eq (tgt := 74) hc (dc_at dX9_twins 36 rfl) (by decide) hf (fun hf => ?_) (fun hf => ?_)
  · refine r_iload hc 0 (dc_at dX9_twins 39 rfl) rfl ?_
    exact r_iret hc he (by omega) (by omega) (dc_at dX9_twins 40 rfl) hf
  · refine r_iload_n hc 3 (dc_at dX9_twins 37 rfl) rfl ?_
    refine r_if_ne (tgt := 77) hc (dc_at dX9_twins 38 rfl) (by decide) hf (fun hf => ?_) (fun hf => ?_)
    · refine r_iload_n hc 3 (dc_at dX9_twins 41 rfl) rfl ?_
      refine r_bipush (10 : Int32) hc (dc_at dX9_twins 42 rfl) (by decide) ?_
      refine r_irem hc (dc_at dX9_twins 43 rfl) hf (fun hf => ?_)
      refine r_nm (mk := Value.int) hf fun x5 hf => ?_
      refine r_istore [(6, .int x5), (5, .int x3), (4, .ref (X.1 + a1)), (0, .ref (X.1 + v0)), (1, .int v1), (2, .int v2)] hc hr (dc_at dX9_twins 44 rfl) (by decide) rfl ?_
      refine r_iload hc 0 (dc_at dX9_twins 45 rfl) rfl ?_
      refine r_iload hc 1 (dc_at dX9_twins 46 rfl) rfl ?_
      refine r_icmp_lt (tgt := 92) hc (dc_at dX9_twins 47 rfl) (by decide) hf (fun hf => ?_) (fun hf => ?_)
      · refine r_iload_n hc 5 (dc_at dX9_twins 50 rfl) rfl ?_
        refine r_if_eq (tgt := 107) hc (dc_at dX9_twins 51 rfl) (by decide) hf (fun hf => ?_) (fun hf => ?_)
        · refine r_aload hc 2 (dc_at dX9_twins 57 rfl) rfl ?_
          refine r_getR hc (dc_at dX9_twins 58 rfl) fl_X9_243 hf fun a6 hf => ?_
          refine r_iload hc 0 (dc_at dX9_twins 59 rfl) rfl ?_
          refine r_iaload hc (dc_at dX9_twins 60 rfl) hf fun x7 hf => ?_
          exact r_iret hc he (by omega) (by omega) (dc_at dX9_twins 61 rfl) hf
        · refine r_aload hc 2 (dc_at dX9_twins 52 rfl) rfl ?_
          refine r_getR hc (dc_at dX9_twins 53 rfl) fl_X9_219 hf fun a8 hf => ?_
          refine r_iload hc 0 (dc_at dX9_twins 54 rfl) rfl ?_
          refine r_iaload hc (dc_at dX9_twins 55 rfl) hf fun x9 hf => ?_
          refine r_goto (tgt := 115) hc (dc_at dX9_twins 56 rfl) (by decide) ?_
          exact r_iret hc he (by omega) (by omega) (dc_at dX9_twins 61 rfl) hf
      · refine r_iconst (-1 : Int32) hc (dc_at dX9_twins 48 rfl) (by decide) ?_
        exact r_iret hc he (by omega) (by omega) (dc_at dX9_twins 49 rfl) hf
    · refine r_iload hc 0 (dc_at dX9_twins 39 rfl) rfl ?_
      exact r_iret hc he (by omega) (by omega) (dc_at dX9_twins 40 rfl) hf
def bq_X9_twins_35 (F : Nat) (h : PH) (v0 : Nat) (v1 : Int32) (v2 : Int32) (s0 : Int32) : Option (Int32 × PH) := if v1 = 0 then (bq_X9_twins_51 F h v0 v1 v2) else (if v2 = 0 then (if s0 = 0 then (some ((-2 : Int32), h)) else (bq_X9_twins_51 F h v0 v1 v2)) else (bq_X9_twins_51 F h v0 v1 v2))
set_option maxRecDepth 20000 in
theorem tq_X9_twins_35 {M : MV} {X : XT} {F : Nat} {h hz : PH} {r : Int32} {mc ms : Nat} {v0 : Nat} {v1 : Int32} {v2 : Int32} {s0 : Int32} (hc : Cx M X RX9 cX9_twins) (hr : Rx M 7 408 mc ms 7) (he : Ex M X (some .int) "twins" (some (.int r)) hz mc ms) (hm : 0 ≤ mc) (hs : 0 ≤ ms) (hf : bq_X9_twins_35 F h v0 v1 v2 s0 = some (r, hz)) : GG M X h 0 0 35 [(0, .ref (X.1 + v0)), (1, .int v1), (2, .int v2)] [.int s0] := by
  unfold bq_X9_twins_35 at hf
  refine r_istore_n [(3, .int s0), (0, .ref (X.1 + v0)), (1, .int v1), (2, .int v2)] hc hr (dc_at dX9_twins 19 rfl) (by decide) rfl ?_
  refine r_iload_n hc 2 (dc_at dX9_twins 20 rfl) rfl ?_
  refine r_if_eq (tgt := 51) hc (dc_at dX9_twins 21 rfl) (by decide) hf (fun hf => ?_) (fun hf => ?_)
  · exact gg_sub [1, 2, 3] rfl (tq_X9_twins_51 hc hr he (by omega) (by omega)  hf)
  · refine r_iload_n hc 3 (dc_at dX9_twins 22 rfl) rfl ?_
    refine r_if_ne (tgt := 51) hc (dc_at dX9_twins 23 rfl) (by decide) hf (fun hf => ?_) (fun hf => ?_)
    · exact gg_sub [1, 2, 3] rfl (tq_X9_twins_51 hc hr he (by omega) (by omega)  hf)
    · refine r_iload_n hc 0 (dc_at dX9_twins 24 rfl) rfl ?_
      refine r_if_ne (tgt := 51) hc (dc_at dX9_twins 25 rfl) (by decide) hf (fun hf => ?_) (fun hf => ?_)
      · exact gg_sub [1, 2, 3] rfl (tq_X9_twins_51 hc hr he (by omega) (by omega)  hf)
      · refine r_bipush (-2 : Int32) hc (dc_at dX9_twins 26 rfl) (by decide) ?_
        exact r_iret hc he (by omega) (by omega) (dc_at dX9_twins 27 rfl) hf
def bq_X9_twins_34 (F : Nat) (h : PH) (v0 : Nat) (v1 : Int32) (v2 : Int32) : Option (Int32 × PH) := bq_X9_twins_35 F h v0 v1 v2 (0 : Int32)
set_option maxRecDepth 20000 in
theorem tq_X9_twins_34 {M : MV} {X : XT} {F : Nat} {h hz : PH} {r : Int32} {mc ms : Nat} {v0 : Nat} {v1 : Int32} {v2 : Int32} (hc : Cx M X RX9 cX9_twins) (hr : Rx M 7 408 mc ms 7) (he : Ex M X (some .int) "twins" (some (.int r)) hz mc ms) (hm : 0 ≤ mc) (hs : 0 ≤ ms) (hf : bq_X9_twins_34 F h v0 v1 v2 = some (r, hz)) : GG M X h 0 0 34 [(0, .ref (X.1 + v0)), (1, .int v1), (2, .int v2)] [] := by
  unfold bq_X9_twins_34 at hf
  refine r_iconst (0 : Int32) hc (dc_at dX9_twins 18 rfl) (by decide) ?_
  exact gg_sub [0, 1, 2] rfl (tq_X9_twins_35 hc hr he (by omega) (by omega)  hf)
def bq_X9_twins_17 (F : Nat) (h : PH) (v0 : Nat) (v1 : Int32) (s0 : Int32) : Option (Int32 × PH) := if v1 < (20 : Int32) then (bq_X9_twins_34 F h v0 v1 s0) else (if (24 : Int32) < v1 then (bq_X9_twins_34 F h v0 v1 s0) else (bq_X9_twins_35 F h v0 v1 s0 (1 : Int32)))
set_option maxRecDepth 20000 in
theorem tq_X9_twins_17 {M : MV} {X : XT} {F : Nat} {h hz : PH} {r : Int32} {mc ms : Nat} {v0 : Nat} {v1 : Int32} {s0 : Int32} (hc : Cx M X RX9 cX9_twins) (hr : Rx M 7 408 mc ms 7) (he : Ex M X (some .int) "twins" (some (.int r)) hz mc ms) (hm : 0 ≤ mc) (hs : 0 ≤ ms) (hf : bq_X9_twins_17 F h v0 v1 s0 = some (r, hz)) : GG M X h 0 0 17 [(0, .ref (X.1 + v0)), (1, .int v1)] [.int s0] := by
  unfold bq_X9_twins_17 at hf
  refine r_istore_n [(2, .int s0), (0, .ref (X.1 + v0)), (1, .int v1)] hc hr (dc_at dX9_twins 9 rfl) (by decide) rfl ?_
  refine r_iload_n hc 2 (dc_at dX9_twins 10 rfl) rfl ?_
  refine r_bipush (20 : Int32) hc (dc_at dX9_twins 11 rfl) (by decide) ?_
  refine r_icmp_lt (tgt := 34) hc (dc_at dX9_twins 12 rfl) (by decide) hf (fun hf => ?_) (fun hf => ?_)
  · exact gg_sub [1, 2, 0] rfl (tq_X9_twins_34 hc hr he (by omega) (by omega)  hf)
  · refine r_iload_n hc 2 (dc_at dX9_twins 13 rfl) rfl ?_
    refine r_bipush (24 : Int32) hc (dc_at dX9_twins 14 rfl) (by decide) ?_
    refine r_icmp_gt (tgt := 34) hc (dc_at dX9_twins 15 rfl) (by decide) hf (fun hf => ?_) (fun hf => ?_)
    · exact gg_sub [1, 2, 0] rfl (tq_X9_twins_34 hc hr he (by omega) (by omega)  hf)
    · refine r_iconst (1 : Int32) hc (dc_at dX9_twins 16 rfl) (by decide) ?_
      refine r_goto (tgt := 35) hc (dc_at dX9_twins 17 rfl) (by decide) ?_
      exact gg_sub [1, 2, 0] rfl (tq_X9_twins_35 hc hr he (by omega) (by omega)  hf)
def bq_X9_twins_16 (F : Nat) (h : PH) (v0 : Nat) (v1 : Int32) : Option (Int32 × PH) := bq_X9_twins_17 F h v0 v1 (0 : Int32)
set_option maxRecDepth 20000 in
theorem tq_X9_twins_16 {M : MV} {X : XT} {F : Nat} {h hz : PH} {r : Int32} {mc ms : Nat} {v0 : Nat} {v1 : Int32} (hc : Cx M X RX9 cX9_twins) (hr : Rx M 7 408 mc ms 7) (he : Ex M X (some .int) "twins" (some (.int r)) hz mc ms) (hm : 0 ≤ mc) (hs : 0 ≤ ms) (hf : bq_X9_twins_16 F h v0 v1 = some (r, hz)) : GG M X h 0 0 16 [(0, .ref (X.1 + v0)), (1, .int v1)] [] := by
  unfold bq_X9_twins_16 at hf
  refine r_iconst (0 : Int32) hc (dc_at dX9_twins 8 rfl) (by decide) ?_
  exact gg_sub [0, 1] rfl (tq_X9_twins_17 hc hr he (by omega) (by omega)  hf)
def bq_X9_twins_0 (F : Nat) (h : PH) (v0 : Nat) (v1 : Int32) : Option (Int32 × PH) := if v1 < (10 : Int32) then (bq_X9_twins_16 F h v0 v1) else (if (14 : Int32) < v1 then (bq_X9_twins_16 F h v0 v1) else (bq_X9_twins_17 F h v0 v1 (1 : Int32)))
set_option maxRecDepth 20000 in
theorem tq_X9_twins_0 {M : MV} {X : XT} {F : Nat} {h hz : PH} {r : Int32} {mc ms : Nat} {v0 : Nat} {v1 : Int32} (hc : Cx M X RX9 cX9_twins) (hr : Rx M 7 408 mc ms 7) (he : Ex M X (some .int) "twins" (some (.int r)) hz mc ms) (hm : 0 ≤ mc) (hs : 0 ≤ ms) (hf : bq_X9_twins_0 F h v0 v1 = some (r, hz)) : GG M X h 0 0 0 [(0, .ref (X.1 + v0)), (1, .int v1)] [] := by
  unfold bq_X9_twins_0 at hf
  refine r_iload_n hc 1 (dc_at dX9_twins 0 rfl) rfl ?_
  refine r_bipush (10 : Int32) hc (dc_at dX9_twins 1 rfl) (by decide) ?_
  refine r_icmp_lt (tgt := 16) hc (dc_at dX9_twins 2 rfl) (by decide) hf (fun hf => ?_) (fun hf => ?_)
  · exact gg_sub [0, 1] rfl (tq_X9_twins_16 hc hr he (by omega) (by omega)  hf)
  · refine r_iload_n hc 1 (dc_at dX9_twins 3 rfl) rfl ?_
    refine r_bipush (14 : Int32) hc (dc_at dX9_twins 4 rfl) (by decide) ?_
    refine r_icmp_gt (tgt := 16) hc (dc_at dX9_twins 5 rfl) (by decide) hf (fun hf => ?_) (fun hf => ?_)
    · exact gg_sub [0, 1] rfl (tq_X9_twins_16 hc hr he (by omega) (by omega)  hf)
    · refine r_iconst (1 : Int32) hc (dc_at dX9_twins 6 rfl) (by decide) ?_
      refine r_goto (tgt := 17) hc (dc_at dX9_twins 7 rfl) (by decide) ?_
      exact gg_sub [0, 1] rfl (tq_X9_twins_17 hc hr he (by omega) (by omega)  hf)
def mq_X9_twins (F : Nat) (h : PH) (p0 : Nat) (p1 : Int32) : Option (Int32 × PH) := bq_X9_twins_0 F h p0 p1
theorem mtq_X9_twins {l : Launch} {X : XT} {F : Nat} {h hz : PH} {p0 : Nat} {p1 : Int32} {r : Int32} {mc ms : Nat} (ex : mq_X9_twins F h p0 p1 = some (r, hz)) : MT l X yX9_twins cX9_twins 7 (some .int) 7 408 mc ms [.ref (X.1 + p0), .int p1] h (some (.int r)) hz := MT.of (by decide) (Nat.le_of_ble_eq_true rfl) fun M hl hc hr he => by
  subst hl
  exact gg_sub [0, 1] rfl (tq_X9_twins_0  hc hr he (Nat.zero_le _) (Nat.zero_le _) ex)
set_option maxRecDepth 20000 in
theorem le_X9_twins_51 {F : Nat} {h : PH} {v0 : Nat} {v1 : Int32} {v2 : Int32} : LEo (bq_X9_twins_51 F h v0 v1 v2) (b_X9_twins_51 F h v0 v1 v2) := by
  unfold bq_X9_twins_51 b_X9_twins_51
  repeat' (first | with_reducible exact le_r _ | with_reducible exact le_rt | with_reducible refine le_cO ?_ | with_reducible refine le_b2 ?_ (fun _ _ => ?_) | with_reducible refine le_b1 (fun _ => ?_) | with_reducible refine le_bv (fun _ => ?_) | with_reducible refine le_if ?_ ?_)
set_option maxRecDepth 20000 in
theorem le_X9_twins_35 {F : Nat} {h : PH} {v0 : Nat} {v1 : Int32} {v2 : Int32} {s0 : Int32} : LEo (bq_X9_twins_35 F h v0 v1 v2 s0) (b_X9_twins_35 F h v0 v1 v2 s0) := by
  unfold bq_X9_twins_35 b_X9_twins_35
  repeat' (first | with_reducible exact le_r _ | with_reducible exact le_rt | with_reducible exact le_X9_twins_51 | with_reducible refine le_cO ?_ | with_reducible refine le_b2 ?_ (fun _ _ => ?_) | with_reducible refine le_b1 (fun _ => ?_) | with_reducible refine le_bv (fun _ => ?_) | with_reducible refine le_if ?_ ?_)
set_option maxRecDepth 20000 in
theorem le_X9_twins_34 {F : Nat} {h : PH} {v0 : Nat} {v1 : Int32} {v2 : Int32} : LEo (bq_X9_twins_34 F h v0 v1 v2) (b_X9_twins_34 F h v0 v1 v2) := by
  unfold bq_X9_twins_34 b_X9_twins_34
  repeat' (first | with_reducible exact le_r _ | with_reducible exact le_rt | with_reducible exact le_X9_twins_35 | with_reducible refine le_cO ?_ | with_reducible refine le_b2 ?_ (fun _ _ => ?_) | with_reducible refine le_b1 (fun _ => ?_) | with_reducible refine le_bv (fun _ => ?_) | with_reducible refine le_if ?_ ?_)
set_option maxRecDepth 20000 in
theorem le_X9_twins_17 {F : Nat} {h : PH} {v0 : Nat} {v1 : Int32} {s0 : Int32} : LEo (bq_X9_twins_17 F h v0 v1 s0) (b_X9_twins_17 F h v0 v1 s0) := by
  unfold bq_X9_twins_17 b_X9_twins_17
  repeat' (first | with_reducible exact le_r _ | with_reducible exact le_rt | with_reducible exact le_X9_twins_34 | with_reducible exact le_X9_twins_35 | with_reducible refine le_cO ?_ | with_reducible refine le_b2 ?_ (fun _ _ => ?_) | with_reducible refine le_b1 (fun _ => ?_) | with_reducible refine le_bv (fun _ => ?_) | with_reducible refine le_if ?_ ?_)
set_option maxRecDepth 20000 in
theorem le_X9_twins_16 {F : Nat} {h : PH} {v0 : Nat} {v1 : Int32} : LEo (bq_X9_twins_16 F h v0 v1) (b_X9_twins_16 F h v0 v1) := by
  unfold bq_X9_twins_16 b_X9_twins_16
  repeat' (first | with_reducible exact le_r _ | with_reducible exact le_rt | with_reducible exact le_X9_twins_17 | with_reducible refine le_cO ?_ | with_reducible refine le_b2 ?_ (fun _ _ => ?_) | with_reducible refine le_b1 (fun _ => ?_) | with_reducible refine le_bv (fun _ => ?_) | with_reducible refine le_if ?_ ?_)
set_option maxRecDepth 20000 in
theorem le_X9_twins_0 {F : Nat} {h : PH} {v0 : Nat} {v1 : Int32} : LEo (bq_X9_twins_0 F h v0 v1) (b_X9_twins_0 F h v0 v1) := by
  unfold bq_X9_twins_0 b_X9_twins_0
  repeat' (first | with_reducible exact le_r _ | with_reducible exact le_rt | with_reducible exact le_X9_twins_16 | with_reducible exact le_X9_twins_17 | with_reducible refine le_cO ?_ | with_reducible refine le_b2 ?_ (fun _ _ => ?_) | with_reducible refine le_b1 (fun _ => ?_) | with_reducible refine le_bv (fun _ => ?_) | with_reducible refine le_if ?_ ?_)
theorem mtk_X9_twins {l : Launch} {X : XT} {F : Nat} {h hz : PH} {p0 : Nat} {p1 : Int32} {r : Int32} (ex : m_X9_twins F h p0 p1 = some (r, hz)) : MT l X yX9_twins cX9_twins 7 (some .int) 7 408 (kost (mq_X9_twins F h p0 p1).isNone 10 46057).1 (kost (mq_X9_twins F h p0 p1).isNone 10 46057).2 [.ref (X.1 + p0), .int p1] h (some (.int r)) hz := by
  cases hq : mq_X9_twins F h p0 p1 with
  | none => exact mt_X9_twins ex (fun _ => ⟨Nat.le_refl _, Nat.le_refl _⟩)
  | some v =>
    have e2 : m_X9_twins F h p0 p1 = some v := le_X9_twins_0 v hq
    rw [ex] at e2
    cases e2
    exact mtq_X9_twins hq
def bq_X9_meet_0 (F : Nat) (h : PH) (v0 : Nat) (v1 : Int32) (v2 : Int32) (v3 : Int32) (v4 : Int32) : Option (Int32 × PH) := (gR 9 4 h v0).bind fun a1 => ((gI 0 15 h a1).bind fun x2 => (if v1 < 0 then (some ((-2 : Int32), h)) else (if x2 ≤ v1 then (some ((-2 : Int32), h)) else (if v2 < 0 then (some ((-2 : Int32), h)) else (if x2 ≤ v2 then (some ((-2 : Int32), h)) else (if v1 = v2 then (some ((-2 : Int32), h)) else (if v4 < 0 then (some ((-2 : Int32), h)) else (if v4 ≤ (2 : Int32) then (cO 9 h v0 (bind2 (mq_routes F h v0) fun a3 h4 => (cO 5 h4 a3 (bind2 (m_X5_seekMeeting F h4 a3 v1 v2 v3) fun x5 h6 => (if x5 = (-1 : Int32) then (some (x5, h6)) else (if v4 = 0 then (some (x5, h6)) else (if v4 = (1 : Int32) then ((gR 5 0 h6 a3).bind fun a11 => ((gR 1 0 h6 a11).bind fun a12 => ((gI 5 3 h6 a3).bind fun x13 => ((aI 0 h6 a12 x13).bind fun x14 => (some (x14, h6)))))) else ((gR 5 0 h6 a3).bind fun a7 => ((gR 1 1 h6 a7).bind fun a8 => ((gI 5 3 h6 a3).bind fun x9 => ((aI 0 h6 a8 x9).bind fun x10 => (some (x10, h6))))))))))))) else (some ((-2 : Int32), h))))))))))
set_option maxRecDepth 20000 in
theorem tq_X9_meet_0 {M : MV} {X : XT} {F : Nat} {h hz : PH} {r : Int32} {mc ms : Nat} {v0 : Nat} {v1 : Int32} {v2 : Int32} {v3 : Int32} {v4 : Int32} (hc : Cx M X RX9 cX9_meet) (hr : Rx M 7 408 mc ms 8) (he : Ex M X (some .int) "meet" (some (.int r)) hz mc ms) (hm : 0 ≤ mc) (hs : 0 ≤ ms) (hf : bq_X9_meet_0 F h v0 v1 v2 v3 v4 = some (r, hz)) : GG M X h 0 0 0 [(0, .ref (X.1 + v0)), (1, .int v1), (2, .int v2), (3, .int v3), (4, .int v4)] [] := by
  unfold bq_X9_meet_0 at hf
  refine r_aload_n hc 0 (dc_at dX9_meet 0 rfl) rfl ?_
  refine r_getR hc (dc_at dX9_meet 1 rfl) fl_X9_26 hf fun a1 hf => ?_
  refine r_getI hc (dc_at dX9_meet 2 rfl) fl_X9_119 hf fun x2 hf => ?_
  refine r_istore [(5, .int x2), (0, .ref (X.1 + v0)), (1, .int v1), (2, .int v2), (3, .int v3), (4, .int v4)] hc hr (dc_at dX9_meet 3 rfl) (by decide) rfl ?_
  refine r_iload_n hc 2 (dc_at dX9_meet 4 rfl) rfl ?_
  refine r_if_lt (tgt := 45) hc (dc_at dX9_meet 5 rfl) (by decide) hf (fun hf => ?_) (fun hf => ?_)
  · refine r_bipush (-2 : Int32) hc (dc_at dX9_meet 22 rfl) (by decide) ?_
    exact r_iret hc he (by omega) (by omega) (dc_at dX9_meet 23 rfl) hf
  · refine r_iload_n hc 2 (dc_at dX9_meet 6 rfl) rfl ?_
    refine r_iload hc 0 (dc_at dX9_meet 7 rfl) rfl ?_
    refine r_icmp_ge (tgt := 45) hc (dc_at dX9_meet 8 rfl) (by decide) hf (fun hf => ?_) (fun hf => ?_)
    · refine r_bipush (-2 : Int32) hc (dc_at dX9_meet 22 rfl) (by decide) ?_
      exact r_iret hc he (by omega) (by omega) (dc_at dX9_meet 23 rfl) hf
    · refine r_iload_n hc 3 (dc_at dX9_meet 9 rfl) rfl ?_
      refine r_if_lt (tgt := 45) hc (dc_at dX9_meet 10 rfl) (by decide) hf (fun hf => ?_) (fun hf => ?_)
      · refine r_bipush (-2 : Int32) hc (dc_at dX9_meet 22 rfl) (by decide) ?_
        exact r_iret hc he (by omega) (by omega) (dc_at dX9_meet 23 rfl) hf
      · refine r_iload_n hc 3 (dc_at dX9_meet 11 rfl) rfl ?_
        refine r_iload hc 0 (dc_at dX9_meet 12 rfl) rfl ?_
        refine r_icmp_ge (tgt := 45) hc (dc_at dX9_meet 13 rfl) (by decide) hf (fun hf => ?_) (fun hf => ?_)
        · refine r_bipush (-2 : Int32) hc (dc_at dX9_meet 22 rfl) (by decide) ?_
          exact r_iret hc he (by omega) (by omega) (dc_at dX9_meet 23 rfl) hf
        · refine r_iload_n hc 2 (dc_at dX9_meet 14 rfl) rfl ?_
          refine r_iload_n hc 3 (dc_at dX9_meet 15 rfl) rfl ?_
          refine r_icmp_eq (tgt := 45) hc (dc_at dX9_meet 16 rfl) (by decide) hf (fun hf => ?_) (fun hf => ?_)
          · refine r_bipush (-2 : Int32) hc (dc_at dX9_meet 22 rfl) (by decide) ?_
            exact r_iret hc he (by omega) (by omega) (dc_at dX9_meet 23 rfl) hf
          · refine r_iload hc 5 (dc_at dX9_meet 17 rfl) rfl ?_
            refine r_if_lt (tgt := 45) hc (dc_at dX9_meet 18 rfl) (by decide) hf (fun hf => ?_) (fun hf => ?_)
            · refine r_bipush (-2 : Int32) hc (dc_at dX9_meet 22 rfl) (by decide) ?_
              exact r_iret hc he (by omega) (by omega) (dc_at dX9_meet 23 rfl) hf
            · refine r_iload hc 5 (dc_at dX9_meet 19 rfl) rfl ?_
              refine r_iconst (2 : Int32) hc (dc_at dX9_meet 20 rfl) (by decide) ?_
              refine r_icmp_le (tgt := 48) hc (dc_at dX9_meet 21 rfl) (by decide) hf (fun hf => ?_) (fun hf => ?_)
              · refine r_aload_n hc 1 (dc_at dX9_meet 24 rfl) rfl ?_
                obtain ⟨ho, hf⟩ := cO_some hf
                refine ob2 hf fun a3 h4 ex hf => ?_
                refine r_callVrC (As := []) (ci := 9) hc hr (dc_at dX9_meet 25 rfl) ml_X9_210 mv_X9_routesFromHere vi_X9_routesFromHere rfl ho rfl (mt_X9_routesFromHere (mc := mc) (ms := ms) (mq_rt ex) (mq_nc ex)) (by first | exact Nat.le_of_ble_eq_true rfl | omega) (by first | exact Nat.le_of_ble_eq_true rfl | omega) (by first | exact Nat.le_of_ble_eq_true rfl | omega) (by omega) (by omega) ?_
                refine r_astore [(6, .ref (X.1 + a3)), (5, .int x2), (0, .ref (X.1 + v0)), (1, .int v1), (2, .int v2), (3, .int v3), (4, .int v4)] hc hr (dc_at dX9_meet 26 rfl) (by decide) rfl ?_
                refine r_aload hc 0 (dc_at dX9_meet 27 rfl) rfl ?_
                refine r_iload_n hc 3 (dc_at dX9_meet 28 rfl) rfl ?_
                refine r_iload_n hc 4 (dc_at dX9_meet 29 rfl) rfl ?_
                refine r_iload_n hc 5 (dc_at dX9_meet 30 rfl) rfl ?_
                obtain ⟨ho, hf⟩ := cO_some hf
                refine ob2 hf fun x5 h6 ex hf => ?_
                refine r_callVi (As := [.int v1, .int v2, .int v3]) (ci := 5) hc hr (dc_at dX9_meet 31 rfl) ml_X9_255 mv_X5_seekMeeting vi_X5_seekMeeting rfl ho rfl (mt_X5_seekMeeting ex) (by first | exact Nat.le_of_ble_eq_true rfl | omega) (by first | exact Nat.le_of_ble_eq_true rfl | omega) (by first | exact Nat.le_of_ble_eq_true rfl | omega) (by omega) (by omega) ?_
                refine r_istore [(7, .int x5), (6, .ref (X.1 + a3)), (5, .int x2), (0, .ref (X.1 + v0)), (1, .int v1), (2, .int v2), (3, .int v3), (4, .int v4)] hc hr (dc_at dX9_meet 32 rfl) (by decide) rfl ?_
                refine r_iload hc 0 (dc_at dX9_meet 33 rfl) rfl ?_
                refine r_iconst (-1 : Int32) hc (dc_at dX9_meet 34 rfl) (by decide) ?_
                refine r_icmp_eq (tgt := 75) hc (dc_at dX9_meet 35 rfl) (by decide) hf (fun hf => ?_) (fun hf => ?_)
                · refine r_iload hc 0 (dc_at dX9_meet 38 rfl) rfl ?_
                  exact r_iret hc he (by omega) (by omega) (dc_at dX9_meet 39 rfl) hf
                · refine r_iload hc 7 (dc_at dX9_meet 36 rfl) rfl ?_
                  refine r_if_ne (tgt := 78) hc (dc_at dX9_meet 37 rfl) (by decide) hf (fun hf => ?_) (fun hf => ?_)
                  · refine r_iload hc 7 (dc_at dX9_meet 40 rfl) rfl ?_
                    refine r_iconst (1 : Int32) hc (dc_at dX9_meet 41 rfl) (by decide) ?_
                    refine r_icmp_ne (tgt := 101) hc (dc_at dX9_meet 42 rfl) (by decide) hf (fun hf => ?_) (fun hf => ?_)
                    · refine r_aload hc 1 (dc_at dX9_meet 50 rfl) rfl ?_
                      refine r_getR hc (dc_at dX9_meet 51 rfl) fl_X9_225 hf fun a7 hf => ?_
                      refine r_getR hc (dc_at dX9_meet 52 rfl) fl_X9_237 hf fun a8 hf => ?_
                      refine r_aload hc 1 (dc_at dX9_meet 53 rfl) rfl ?_
                      refine r_getI hc (dc_at dX9_meet 54 rfl) fl_X9_259 hf fun x9 hf => ?_
                      refine r_iaload hc (dc_at dX9_meet 55 rfl) hf fun x10 hf => ?_
                      exact r_iret hc he (by omega) (by omega) (dc_at dX9_meet 56 rfl) hf
                    · refine r_aload hc 1 (dc_at dX9_meet 43 rfl) rfl ?_
                      refine r_getR hc (dc_at dX9_meet 44 rfl) fl_X9_225 hf fun a11 hf => ?_
                      refine r_getR hc (dc_at dX9_meet 45 rfl) fl_X9_235 hf fun a12 hf => ?_
                      refine r_aload hc 1 (dc_at dX9_meet 46 rfl) rfl ?_
                      refine r_getI hc (dc_at dX9_meet 47 rfl) fl_X9_259 hf fun x13 hf => ?_
                      refine r_iaload hc (dc_at dX9_meet 48 rfl) hf fun x14 hf => ?_
                      refine r_goto (tgt := 115) hc (dc_at dX9_meet 49 rfl) (by decide) ?_
                      exact r_iret hc he (by omega) (by omega) (dc_at dX9_meet 56 rfl) hf
                  · refine r_iload hc 0 (dc_at dX9_meet 38 rfl) rfl ?_
                    exact r_iret hc he (by omega) (by omega) (dc_at dX9_meet 39 rfl) hf
              · refine r_bipush (-2 : Int32) hc (dc_at dX9_meet 22 rfl) (by decide) ?_
                exact r_iret hc he (by omega) (by omega) (dc_at dX9_meet 23 rfl) hf
def mq_X9_meet (F : Nat) (h : PH) (p0 : Nat) (p1 : Int32) (p2 : Int32) (p3 : Int32) (p4 : Int32) : Option (Int32 × PH) := bq_X9_meet_0 F h p0 p1 p2 p3 p4
theorem mtq_X9_meet {l : Launch} {X : XT} {F : Nat} {h hz : PH} {p0 : Nat} {p1 : Int32} {p2 : Int32} {p3 : Int32} {p4 : Int32} {r : Int32} {mc ms : Nat} (ex : mq_X9_meet F h p0 p1 p2 p3 p4 = some (r, hz)) : MT l X yX9_meet cX9_meet 8 (some .int) 7 408 mc ms [.ref (X.1 + p0), .int p1, .int p2, .int p3, .int p4] h (some (.int r)) hz := MT.of (by decide) (Nat.le_of_ble_eq_true rfl) fun M hl hc hr he => by
  subst hl
  exact gg_sub [0, 1, 2, 3, 4] rfl (tq_X9_meet_0  hc hr he (Nat.zero_le _) (Nat.zero_le _) ex)
set_option maxRecDepth 20000 in
theorem le_X9_meet_0 {F : Nat} {h : PH} {v0 : Nat} {v1 : Int32} {v2 : Int32} {v3 : Int32} {v4 : Int32} : LEo (bq_X9_meet_0 F h v0 v1 v2 v3 v4) (b_X9_meet_0 F h v0 v1 v2 v3 v4) := by
  unfold bq_X9_meet_0 b_X9_meet_0
  repeat' (first | with_reducible exact le_r _ | with_reducible exact le_rt | with_reducible refine le_cO ?_ | with_reducible refine le_b2 ?_ (fun _ _ => ?_) | with_reducible refine le_b1 (fun _ => ?_) | with_reducible refine le_bv (fun _ => ?_) | with_reducible refine le_if ?_ ?_)
theorem mtk_X9_meet {l : Launch} {X : XT} {F : Nat} {h hz : PH} {p0 : Nat} {p1 : Int32} {p2 : Int32} {p3 : Int32} {p4 : Int32} {r : Int32} (ex : m_X9_meet F h p0 p1 p2 p3 p4 = some (r, hz)) : MT l X yX9_meet cX9_meet 8 (some .int) 7 408 (kost (mq_X9_meet F h p0 p1 p2 p3 p4).isNone 10 46057).1 (kost (mq_X9_meet F h p0 p1 p2 p3 p4).isNone 10 46057).2 [.ref (X.1 + p0), .int p1, .int p2, .int p3, .int p4] h (some (.int r)) hz := by
  cases hq : mq_X9_meet F h p0 p1 p2 p3 p4 with
  | none => exact mt_X9_meet ex (fun _ => ⟨Nat.le_refl _, Nat.le_refl _⟩)
  | some v =>
    have e2 : m_X9_meet F h p0 p1 p2 p3 p4 = some v := le_X9_meet_0 v hq
    rw [ex] at e2
    cases e2
    exact mtq_X9_meet hq
def bq_X9_odds_0 (F : Nat) (h : PH) (v0 : Nat) (v1 : Int32) (v2 : Int32) (v3 : Int32) : Option (Int64 × PH) := cO 9 h v0 ((m_X9_refusedRow h v0 v1 (1 : Int32)).bind fun x1 => (if x1 = 0 then (cO 9 h v0 (bind2 (m_X9_asksFloor F h v0 v2 v3) fun x2 h3 => (if x2 = 0 then (some ((-3 : Int64), h3)) else ((gR 9 7 h3 v0).bind fun a4 => ((aR 4 h3 a4 v1).bind fun a5 => (cO 9 h3 v0 ((m_X9_hasButtonsAlone F h3 v0 a5).bind fun x6 => (if x6 = 0 then (some ((-3 : Int64), h3)) else (cO 9 h3 v0 (bind2 (mq_routes F h3 v0) fun a7 h8 => ((gR 9 7 h8 v0).bind fun a9 => ((aR 4 h8 a9 v1).bind fun a10 => (cO 5 h8 a7 (bind2 (m_X5_layChances F h8 a7 a10) fun x11 h12 => ((gR 5 0 h12 a7).bind fun a13 => ((gR 9 12 h12 v0).bind fun a14 => ((gL 2 0 h12 a14).bind fun x15 => ((gR 9 12 h12 v0).bind fun a16 => ((gL 2 1 h12 a16).bind fun x17 => (cO 1 h12 a13 ((m_X1_weightOf F h12 a13 (Int64.toInt32 x15) (Int64.toInt32 x17) x11).bind fun x18 => (some (x18, h12))))))))))))))))))))))) else (some ((Int32.toInt64 x1), h))))
set_option maxRecDepth 20000 in
theorem tq_X9_odds_0 {M : MV} {X : XT} {F : Nat} {h hz : PH} {r : Int64} {mc ms : Nat} {v0 : Nat} {v1 : Int32} {v2 : Int32} {v3 : Int32} (hc : Cx M X RX9 cX9_odds) (hr : Rx M 7 408 mc ms 7) (he : Ex M X (some .long) "odds" (some (.long r)) hz mc ms) (hm : 0 ≤ mc) (hs : 0 ≤ ms) (hf : bq_X9_odds_0 F h v0 v1 v2 v3 = some (r, hz)) : GG M X h 0 0 0 [(0, .ref (X.1 + v0)), (1, .int v1), (2, .int v2), (3, .int v3)] [] := by
  unfold bq_X9_odds_0 at hf
  refine r_aload_n hc 0 (dc_at dX9_odds 0 rfl) rfl ?_
  refine r_iload_n hc 1 (dc_at dX9_odds 1 rfl) rfl ?_
  refine r_iconst (1 : Int32) hc (dc_at dX9_odds 2 rfl) (by decide) ?_
  obtain ⟨ho, hf⟩ := cO_some hf
  refine ob hf fun x1 ex hf => ?_
  refine r_callVi (As := [.int v1, .int ((1 : Int32))]) (ci := 9) hc hr (dc_at dX9_odds 3 rfl) ml_X9_150 mv_X9_refusedRow vi_X9_refusedRow rfl ho rfl (mt_X9_refusedRow ex) (by first | exact Nat.le_of_ble_eq_true rfl | omega) (by first | exact Nat.le_of_ble_eq_true rfl | omega) (by first | exact Nat.le_of_ble_eq_true rfl | omega) (by omega) (by omega) ?_
  refine r_istore [(4, .int x1), (0, .ref (X.1 + v0)), (1, .int v1), (2, .int v2), (3, .int v3)] hc hr (dc_at dX9_odds 4 rfl) (by decide) rfl ?_
  refine r_iload hc 0 (dc_at dX9_odds 5 rfl) rfl ?_
  refine r_if_eq (tgt := 17) hc (dc_at dX9_odds 6 rfl) (by decide) hf (fun hf => ?_) (fun hf => ?_)
  · refine r_aload_n hc 1 (dc_at dX9_odds 10 rfl) rfl ?_
    refine r_iload_n hc 3 (dc_at dX9_odds 11 rfl) rfl ?_
    refine r_iload_n hc 4 (dc_at dX9_odds 12 rfl) rfl ?_
    obtain ⟨ho, hf⟩ := cO_some hf
    refine ob2 hf fun x2 h3 ex hf => ?_
    refine r_callVi (As := [.int v2, .int v3]) (ci := 9) hc hr (dc_at dX9_odds 13 rfl) ml_X9_132 mv_X9_asksFloor vi_X9_asksFloor rfl ho rfl (mt_X9_asksFloor ex) (by first | exact Nat.le_of_ble_eq_true rfl | omega) (by first | exact Nat.le_of_ble_eq_true rfl | omega) (by first | exact Nat.le_of_ble_eq_true rfl | omega) (by omega) (by omega) ?_
    refine r_if_eq (tgt := 39) hc (dc_at dX9_odds 14 rfl) (by decide) hf (fun hf => ?_) (fun hf => ?_)
    · refine r_ldc2 hc (dc_at dX9_odds 22 rfl) cl2_X9_174 ?_
      exact r_lret hc he (by omega) (by omega) (dc_at dX9_odds 23 rfl) hf
    · refine r_aload_n hc 1 (dc_at dX9_odds 15 rfl) rfl ?_
      refine r_aload_n hc 1 (dc_at dX9_odds 16 rfl) rfl ?_
      refine r_getR hc (dc_at dX9_odds 17 rfl) fl_X9_36 hf fun a4 hf => ?_
      refine r_iload_n hc 2 (dc_at dX9_odds 18 rfl) rfl ?_
      refine r_aaloadR (t := 4) hc (dc_at dX9_odds 19 rfl) rfl hf fun a5 hf => ?_
      obtain ⟨ho, hf⟩ := cO_some hf
      refine ob hf fun x6 ex hf => ?_
      refine r_callVi (As := [.ref (X.1 + a5)]) (ci := 9) hc hr (dc_at dX9_odds 20 rfl) ml_X9_327 mv_X9_hasButtonsAlone vi_X9_hasButtonsAlone rfl ho rfl (mt_X9_hasButtonsAlone ex) (by first | exact Nat.le_of_ble_eq_true rfl | omega) (by first | exact Nat.le_of_ble_eq_true rfl | omega) (by first | exact Nat.le_of_ble_eq_true rfl | omega) (by omega) (by omega) ?_
      refine r_if_ne (tgt := 43) hc (dc_at dX9_odds 21 rfl) (by decide) hf (fun hf => ?_) (fun hf => ?_)
      · refine r_aload_n hc 1 (dc_at dX9_odds 24 rfl) rfl ?_
        obtain ⟨ho, hf⟩ := cO_some hf
        refine ob2 hf fun a7 h8 ex hf => ?_
        refine r_callVrC (As := []) (ci := 9) hc hr (dc_at dX9_odds 25 rfl) ml_X9_210 mv_X9_routesFromHere vi_X9_routesFromHere rfl ho rfl (mt_X9_routesFromHere (mc := mc) (ms := ms) (mq_rt ex) (mq_nc ex)) (by first | exact Nat.le_of_ble_eq_true rfl | omega) (by first | exact Nat.le_of_ble_eq_true rfl | omega) (by first | exact Nat.le_of_ble_eq_true rfl | omega) (by omega) (by omega) ?_
        refine r_astore [(5, .ref (X.1 + a7)), (4, .int x1), (0, .ref (X.1 + v0)), (1, .int v1), (2, .int v2), (3, .int v3)] hc hr (dc_at dX9_odds 26 rfl) (by decide) rfl ?_
        refine r_aload hc 0 (dc_at dX9_odds 27 rfl) rfl ?_
        refine r_aload_n hc 2 (dc_at dX9_odds 28 rfl) rfl ?_
        refine r_getR hc (dc_at dX9_odds 29 rfl) fl_X9_36 hf fun a9 hf => ?_
        refine r_iload_n hc 3 (dc_at dX9_odds 30 rfl) rfl ?_
        refine r_aaloadR (t := 4) hc (dc_at dX9_odds 31 rfl) rfl hf fun a10 hf => ?_
        obtain ⟨ho, hf⟩ := cO_some hf
        refine ob2 hf fun x11 h12 ex hf => ?_
        refine r_callVi (As := [.ref (X.1 + a10)]) (ci := 5) hc hr (dc_at dX9_odds 32 rfl) ml_X9_331 mv_X5_layChances vi_X5_layChances rfl ho rfl (mt_X5_layChances ex) (by first | exact Nat.le_of_ble_eq_true rfl | omega) (by first | exact Nat.le_of_ble_eq_true rfl | omega) (by first | exact Nat.le_of_ble_eq_true rfl | omega) (by omega) (by omega) ?_
        refine r_istore [(6, .int x11), (5, .ref (X.1 + a7)), (4, .int x1), (0, .ref (X.1 + v0)), (1, .int v1), (2, .int v2), (3, .int v3)] hc hr (dc_at dX9_odds 33 rfl) (by decide) rfl ?_
        refine r_aload hc 1 (dc_at dX9_odds 34 rfl) rfl ?_
        refine r_getR hc (dc_at dX9_odds 35 rfl) fl_X9_225 hf fun a13 hf => ?_
        refine r_aload_n hc 3 (dc_at dX9_odds 36 rfl) rfl ?_
        refine r_getR hc (dc_at dX9_odds 37 rfl) fl_X9_59 hf fun a14 hf => ?_
        refine r_getL hc (dc_at dX9_odds 38 rfl) fl_X9_136 hf fun x15 hf => ?_
        refine r_l2i hc (dc_at dX9_odds 39 rfl) ?_
        refine r_aload_n hc 3 (dc_at dX9_odds 40 rfl) rfl ?_
        refine r_getR hc (dc_at dX9_odds 41 rfl) fl_X9_59 hf fun a16 hf => ?_
        refine r_getL hc (dc_at dX9_odds 42 rfl) fl_X9_140 hf fun x17 hf => ?_
        refine r_l2i hc (dc_at dX9_odds 43 rfl) ?_
        refine r_iload hc 0 (dc_at dX9_odds 44 rfl) rfl ?_
        obtain ⟨ho, hf⟩ := cO_some hf
        refine ob hf fun x18 ex hf => ?_
        refine r_callVl (As := [.int ((Int64.toInt32 x15)), .int ((Int64.toInt32 x17)), .int x11]) (ci := 1) hc hr (dc_at dX9_odds 45 rfl) ml_X9_335 mv_X1_weightOf vi_X1_weightOf rfl ho rfl (mt_X1_weightOf ex) (by first | exact Nat.le_of_ble_eq_true rfl | omega) (by first | exact Nat.le_of_ble_eq_true rfl | omega) (by first | exact Nat.le_of_ble_eq_true rfl | omega) (by omega) (by omega) ?_
        exact r_lret hc he (by omega) (by omega) (dc_at dX9_odds 46 rfl) hf
      · refine r_ldc2 hc (dc_at dX9_odds 22 rfl) cl2_X9_174 ?_
        exact r_lret hc he (by omega) (by omega) (dc_at dX9_odds 23 rfl) hf
  · refine r_iload hc 0 (dc_at dX9_odds 7 rfl) rfl ?_
    refine r_i2l hc (dc_at dX9_odds 8 rfl) ?_
    exact r_lret hc he (by omega) (by omega) (dc_at dX9_odds 9 rfl) hf
def mq_X9_odds (F : Nat) (h : PH) (p0 : Nat) (p1 : Int32) (p2 : Int32) (p3 : Int32) : Option (Int64 × PH) := bq_X9_odds_0 F h p0 p1 p2 p3
theorem mtq_X9_odds {l : Launch} {X : XT} {F : Nat} {h hz : PH} {p0 : Nat} {p1 : Int32} {p2 : Int32} {p3 : Int32} {r : Int64} {mc ms : Nat} (ex : mq_X9_odds F h p0 p1 p2 p3 = some (r, hz)) : MT l X yX9_odds cX9_odds 7 (some .long) 7 408 mc ms [.ref (X.1 + p0), .int p1, .int p2, .int p3] h (some (.long r)) hz := MT.of (by decide) (Nat.le_of_ble_eq_true rfl) fun M hl hc hr he => by
  subst hl
  exact gg_sub [0, 1, 2, 3] rfl (tq_X9_odds_0  hc hr he (Nat.zero_le _) (Nat.zero_le _) ex)
set_option maxRecDepth 20000 in
theorem le_X9_odds_0 {F : Nat} {h : PH} {v0 : Nat} {v1 : Int32} {v2 : Int32} {v3 : Int32} : LEo (bq_X9_odds_0 F h v0 v1 v2 v3) (b_X9_odds_0 F h v0 v1 v2 v3) := by
  unfold bq_X9_odds_0 b_X9_odds_0
  repeat' (first | with_reducible exact le_r _ | with_reducible exact le_rt | with_reducible refine le_cO ?_ | with_reducible refine le_b2 ?_ (fun _ _ => ?_) | with_reducible refine le_b1 (fun _ => ?_) | with_reducible refine le_bv (fun _ => ?_) | with_reducible refine le_if ?_ ?_)
theorem mtk_X9_odds {l : Launch} {X : XT} {F : Nat} {h hz : PH} {p0 : Nat} {p1 : Int32} {p2 : Int32} {p3 : Int32} {r : Int64} (ex : m_X9_odds F h p0 p1 p2 p3 = some (r, hz)) : MT l X yX9_odds cX9_odds 7 (some .long) 7 408 (kost (mq_X9_odds F h p0 p1 p2 p3).isNone 10 46057).1 (kost (mq_X9_odds F h p0 p1 p2 p3).isNone 10 46057).2 [.ref (X.1 + p0), .int p1, .int p2, .int p3] h (some (.long r)) hz := by
  cases hq : mq_X9_odds F h p0 p1 p2 p3 with
  | none => exact mt_X9_odds ex (fun _ => ⟨Nat.le_refl _, Nat.le_refl _⟩)
  | some v =>
    have e2 : m_X9_odds F h p0 p1 p2 p3 = some v := le_X9_odds_0 v hq
    rw [ex] at e2
    cases e2
    exact mtq_X9_odds hq
def bq_X9_ends_0 (F : Nat) (h : PH) (v0 : Nat) (v1 : Int32) : Option (Int32 × PH) := cO 9 h v0 ((m_X9_refusedRow h v0 v1 (1 : Int32)).bind fun x1 => (if x1 = 0 then ((gR 9 7 h v0).bind fun a2 => ((aR 4 h a2 v1).bind fun a3 => (cO 9 h v0 ((m_X9_hasButtonsAlone F h v0 a3).bind fun x4 => (if x4 = 0 then (some ((-3 : Int32), h)) else (cO 9 h v0 (bind2 (mq_routes F h v0) fun a5 h6 => ((gR 9 7 h6 v0).bind fun a7 => ((aR 4 h6 a7 v1).bind fun a8 => (cO 5 h6 a5 (bind2 (m_X5_layChances F h6 a5 a8) fun x9 h10 => ((gR 5 0 h10 a5).bind fun a11 => ((gI 1 4 h10 a11).bind fun x12 => (some ((x12 - x9), h10))))))))))))))) else (some (x1, h))))
set_option maxRecDepth 20000 in
theorem tq_X9_ends_0 {M : MV} {X : XT} {F : Nat} {h hz : PH} {r : Int32} {mc ms : Nat} {v0 : Nat} {v1 : Int32} (hc : Cx M X RX9 cX9_ends) (hr : Rx M 7 408 mc ms 5) (he : Ex M X (some .int) "ends" (some (.int r)) hz mc ms) (hm : 0 ≤ mc) (hs : 0 ≤ ms) (hf : bq_X9_ends_0 F h v0 v1 = some (r, hz)) : GG M X h 0 0 0 [(0, .ref (X.1 + v0)), (1, .int v1)] [] := by
  unfold bq_X9_ends_0 at hf
  refine r_aload_n hc 0 (dc_at dX9_ends 0 rfl) rfl ?_
  refine r_iload_n hc 1 (dc_at dX9_ends 1 rfl) rfl ?_
  refine r_iconst (1 : Int32) hc (dc_at dX9_ends 2 rfl) (by decide) ?_
  obtain ⟨ho, hf⟩ := cO_some hf
  refine ob hf fun x1 ex hf => ?_
  refine r_callVi (As := [.int v1, .int ((1 : Int32))]) (ci := 9) hc hr (dc_at dX9_ends 3 rfl) ml_X9_150 mv_X9_refusedRow vi_X9_refusedRow rfl ho rfl (mt_X9_refusedRow ex) (by first | exact Nat.le_of_ble_eq_true rfl | omega) (by first | exact Nat.le_of_ble_eq_true rfl | omega) (by first | exact Nat.le_of_ble_eq_true rfl | omega) (by omega) (by omega) ?_
  refine r_istore_n [(2, .int x1), (0, .ref (X.1 + v0)), (1, .int v1)] hc hr (dc_at dX9_ends 4 rfl) (by decide) rfl ?_
  refine r_iload_n hc 0 (dc_at dX9_ends 5 rfl) rfl ?_
  refine r_if_eq (tgt := 13) hc (dc_at dX9_ends 6 rfl) (by decide) hf (fun hf => ?_) (fun hf => ?_)
  · refine r_aload_n hc 1 (dc_at dX9_ends 9 rfl) rfl ?_
    refine r_aload_n hc 1 (dc_at dX9_ends 10 rfl) rfl ?_
    refine r_getR hc (dc_at dX9_ends 11 rfl) fl_X9_36 hf fun a2 hf => ?_
    refine r_iload_n hc 2 (dc_at dX9_ends 12 rfl) rfl ?_
    refine r_aaloadR (t := 4) hc (dc_at dX9_ends 13 rfl) rfl hf fun a3 hf => ?_
    obtain ⟨ho, hf⟩ := cO_some hf
    refine ob hf fun x4 ex hf => ?_
    refine r_callVi (As := [.ref (X.1 + a3)]) (ci := 9) hc hr (dc_at dX9_ends 14 rfl) ml_X9_327 mv_X9_hasButtonsAlone vi_X9_hasButtonsAlone rfl ho rfl (mt_X9_hasButtonsAlone ex) (by first | exact Nat.le_of_ble_eq_true rfl | omega) (by first | exact Nat.le_of_ble_eq_true rfl | omega) (by first | exact Nat.le_of_ble_eq_true rfl | omega) (by omega) (by omega) ?_
    refine r_if_ne (tgt := 29) hc (dc_at dX9_ends 15 rfl) (by decide) hf (fun hf => ?_) (fun hf => ?_)
    · refine r_aload_n hc 1 (dc_at dX9_ends 18 rfl) rfl ?_
      obtain ⟨ho, hf⟩ := cO_some hf
      refine ob2 hf fun a5 h6 ex hf => ?_
      refine r_callVrC (As := []) (ci := 9) hc hr (dc_at dX9_ends 19 rfl) ml_X9_210 mv_X9_routesFromHere vi_X9_routesFromHere rfl ho rfl (mt_X9_routesFromHere (mc := mc) (ms := ms) (mq_rt ex) (mq_nc ex)) (by first | exact Nat.le_of_ble_eq_true rfl | omega) (by first | exact Nat.le_of_ble_eq_true rfl | omega) (by first | exact Nat.le_of_ble_eq_true rfl | omega) (by omega) (by omega) ?_
      refine r_astore_n [(3, .ref (X.1 + a5)), (2, .int x1), (0, .ref (X.1 + v0)), (1, .int v1)] hc hr (dc_at dX9_ends 20 rfl) (by decide) rfl ?_
      refine r_aload_n hc 0 (dc_at dX9_ends 21 rfl) rfl ?_
      refine r_aload_n hc 2 (dc_at dX9_ends 22 rfl) rfl ?_
      refine r_getR hc (dc_at dX9_ends 23 rfl) fl_X9_36 hf fun a7 hf => ?_
      refine r_iload_n hc 3 (dc_at dX9_ends 24 rfl) rfl ?_
      refine r_aaloadR (t := 4) hc (dc_at dX9_ends 25 rfl) rfl hf fun a8 hf => ?_
      obtain ⟨ho, hf⟩ := cO_some hf
      refine ob2 hf fun x9 h10 ex hf => ?_
      refine r_callVi (As := [.ref (X.1 + a8)]) (ci := 5) hc hr (dc_at dX9_ends 26 rfl) ml_X9_331 mv_X5_layChances vi_X5_layChances rfl ho rfl (mt_X5_layChances ex) (by first | exact Nat.le_of_ble_eq_true rfl | omega) (by first | exact Nat.le_of_ble_eq_true rfl | omega) (by first | exact Nat.le_of_ble_eq_true rfl | omega) (by omega) (by omega) ?_
      refine r_istore [(4, .int x9), (3, .ref (X.1 + a5)), (2, .int x1), (0, .ref (X.1 + v0)), (1, .int v1)] hc hr (dc_at dX9_ends 27 rfl) (by decide) rfl ?_
      refine r_aload_n hc 1 (dc_at dX9_ends 28 rfl) rfl ?_
      refine r_getR hc (dc_at dX9_ends 29 rfl) fl_X9_225 hf fun a11 hf => ?_
      refine r_getI hc (dc_at dX9_ends 30 rfl) fl_X9_229 hf fun x12 hf => ?_
      refine r_iload hc 0 (dc_at dX9_ends 31 rfl) rfl ?_
      refine r_isub hc (dc_at dX9_ends 32 rfl) ?_
      exact r_iret hc he (by omega) (by omega) (dc_at dX9_ends 33 rfl) hf
    · refine r_bipush (-3 : Int32) hc (dc_at dX9_ends 16 rfl) (by decide) ?_
      exact r_iret hc he (by omega) (by omega) (dc_at dX9_ends 17 rfl) hf
  · refine r_iload_n hc 0 (dc_at dX9_ends 7 rfl) rfl ?_
    exact r_iret hc he (by omega) (by omega) (dc_at dX9_ends 8 rfl) hf
def mq_X9_ends (F : Nat) (h : PH) (p0 : Nat) (p1 : Int32) : Option (Int32 × PH) := bq_X9_ends_0 F h p0 p1
theorem mtq_X9_ends {l : Launch} {X : XT} {F : Nat} {h hz : PH} {p0 : Nat} {p1 : Int32} {r : Int32} {mc ms : Nat} (ex : mq_X9_ends F h p0 p1 = some (r, hz)) : MT l X yX9_ends cX9_ends 5 (some .int) 7 408 mc ms [.ref (X.1 + p0), .int p1] h (some (.int r)) hz := MT.of (by decide) (Nat.le_of_ble_eq_true rfl) fun M hl hc hr he => by
  subst hl
  exact gg_sub [0, 1] rfl (tq_X9_ends_0  hc hr he (Nat.zero_le _) (Nat.zero_le _) ex)
set_option maxRecDepth 20000 in
theorem le_X9_ends_0 {F : Nat} {h : PH} {v0 : Nat} {v1 : Int32} : LEo (bq_X9_ends_0 F h v0 v1) (b_X9_ends_0 F h v0 v1) := by
  unfold bq_X9_ends_0 b_X9_ends_0
  repeat' (first | with_reducible exact le_r _ | with_reducible exact le_rt | with_reducible refine le_cO ?_ | with_reducible refine le_b2 ?_ (fun _ _ => ?_) | with_reducible refine le_b1 (fun _ => ?_) | with_reducible refine le_bv (fun _ => ?_) | with_reducible refine le_if ?_ ?_)
theorem mtk_X9_ends {l : Launch} {X : XT} {F : Nat} {h hz : PH} {p0 : Nat} {p1 : Int32} {r : Int32} (ex : m_X9_ends F h p0 p1 = some (r, hz)) : MT l X yX9_ends cX9_ends 5 (some .int) 7 408 (kost (mq_X9_ends F h p0 p1).isNone 10 46057).1 (kost (mq_X9_ends F h p0 p1).isNone 10 46057).2 [.ref (X.1 + p0), .int p1] h (some (.int r)) hz := by
  cases hq : mq_X9_ends F h p0 p1 with
  | none => exact mt_X9_ends ex (fun _ => ⟨Nat.le_refl _, Nat.le_refl _⟩)
  | some v =>
    have e2 : m_X9_ends F h p0 p1 = some v := le_X9_ends_0 v hq
    rw [ex] at e2
    cases e2
    exact mtq_X9_ends hq
