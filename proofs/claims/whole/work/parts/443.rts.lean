theorem fillN {F : Nat} {s : List Sh} {a n : Nat} (hl : ln s a = n) (hn : n ≤ 10000) (x : Int32) : ∀ k i fuel, i + k = n → k < fuel → ∀ m : Mem, (∀ j, j < i → m.1 a j = x) → ∃ m', nl_J7_fill_53178_5 F s fuel m a x (q32 (i : Nat)) (q32 (n : Nat)) = some ((), m') ∧ (∀ j, j < n → m'.1 a j = x) ∧ m'.2 = m.2 ∧ ∀ b j, b ≠ a → m'.1 b j = m.1 b j := by
  intro k
  induction k with
  | zero =>
    intro i fuel hi hfu m h
    obtain ⟨fuel, rfl⟩ : ∃ f, fuel = f + 1 := ⟨fuel - 1, by omega⟩
    refine ⟨m, ?_, fun j hj => h j (by omega), rfl, fun _ _ _ => rfl⟩
    show nb_J7_fill_53178_5 F s (nl_J7_fill_53178_5 F s fuel) m a _ _ _ = _
    unfold nb_J7_fill_53178_5
    simp (disch := omega) only [Option.bind_some, bindv, bindv0, bind2_s, bind3_s, ↓reduceIte, Bool.false_eq_true, rZM_0, rZM_1, rZP_0, rZP_1, ptZ_0, ptZ_1, c32i, c64i, ncI, Int.natCast_add, Int.natCast_mul, q32_neg, q64_neg, q32_add, q32_sub, q32_mul, q64_add, q64_sub, q64_mul, q32_64i, q64_32, q32_lt_t, q32_lt_f, q32_le_t, q32_le_f, q32_eq_t, q32_eq_f, q64_lt_t, q64_lt_f, q64_le_t, q64_le_f, q64_eq_t, q64_eq_f, rdI_i, rdL_i, rdR_i, rdN_i, stI_i, stL_i, stR_i, wI_s, wI_n, wL_s, wL_n, wI_2, wI_3, wL_1, wL_3, wR_1, wR_2, Int.toNat_natCast, tnO, tn_add, tn_sub, tn_mul, Nat.add_sub_cancel, Nat.add_zero, Nat.zero_add, lnO, win_t, win_f]
  | succ k ih =>
    intro i fuel hi hfu m h
    obtain ⟨fuel, rfl⟩ : ∃ f, fuel = f + 1 := ⟨fuel - 1, by omega⟩
    obtain ⟨m', i1, i2, i3, i4⟩ := ih (i + 1) fuel (by omega) (by omega) (wI m a i x) (fun j hj => by
      by_cases c : j = i
      · rw [c, wI_s]
      · rw [wI_n (by omega)]; exact h j (by omega))
    refine ⟨m', ?_, i2, i3, fun b j hb => by rw [i4 b j hb, wI_n (by omega)]⟩
    rw [← i1, Int.natCast_add]
    show nb_J7_fill_53178_5 F s (nl_J7_fill_53178_5 F s fuel) m a _ _ _ = _
    unfold nb_J7_fill_53178_5
    simp (disch := omega) only [Option.bind_some, bindv, bindv0, bind2_s, bind3_s, ↓reduceIte, Bool.false_eq_true, rZM_0, rZM_1, rZP_0, rZP_1, ptZ_0, ptZ_1, c32i, c64i, ncI, Int.natCast_add, Int.natCast_mul, q32_neg, q64_neg, q32_add, q32_sub, q32_mul, q64_add, q64_sub, q64_mul, q32_64i, q64_32, q32_lt_t, q32_lt_f, q32_le_t, q32_le_f, q32_eq_t, q32_eq_f, q64_lt_t, q64_lt_f, q64_le_t, q64_le_f, q64_eq_t, q64_eq_f, rdI_i, rdL_i, rdR_i, rdN_i, stI_i, stL_i, stR_i, wI_s, wI_n, wL_s, wL_n, wI_2, wI_3, wL_1, wL_3, wR_1, wR_2, Int.toNat_natCast, tnO, tn_add, tn_sub, tn_mul, Nat.add_sub_cancel, Nat.add_zero, Nat.zero_add, lnO, win_t, win_f]
    first | done | rfl
theorem QB.k {s : List Sh} {m m' : Mem} {q : Nat} (h : QB s m q) (e : ∀ a k, a ≠ q ∨ k ≠ 5 → m'.2.2 a k = m.2.2 a k) : QB s m' q := by
  unfold QB at h ⊢
  rw [e q 0 (by omega), e q 1 (by omega), e q 2 (by omega), e q 4 (by omega), e (q + 1) 0 (by omega), e (q + 1) 1 (by omega), e (q + 1) 2 (by omega), e (q + 1) 3 (by omega), e (q + 1) 5 (by omega), e (q + 1) 6 (by omega)]
  exact h
/-- what the searcher's steps write -/
def KCQ (q : Nat) (m m' : Mem) : Prop := (∀ a k, a ≠ 16 → ¬ (q ≤ a ∧ a < q + 10) → m'.1 a k = m.1 a k) ∧ (∀ a k, a ≠ 17 → a ≠ 18 → a ≠ q + 7 → m'.2.1 a k = m.2.1 a k) ∧ m'.2.2 = m.2.2
theorem KCQ.rf {q : Nat} (m : Mem) : KCQ q m m := ⟨fun _ _ _ _ => rfl, fun _ _ _ _ _ => rfl, rfl⟩
theorem KCQ.tr {q : Nat} {m m1 m2 : Mem} (h : KCQ q m m1) (h2 : KCQ q m1 m2) : KCQ q m m2 := ⟨fun a k p r => (h2.1 a k p r).trans (h.1 a k p r), fun a k p r t => (h2.2.1 a k p r t).trans (h.2.1 a k p r t), h2.2.2.trans h.2.2⟩
theorem K9.kc {q : Nat} {m m' : Mem} (h : K9 m m') : KCQ q m m' := ⟨fun a k p _ => h.1 a k p, fun a k p r _ => h.2.1 a k ⟨p, r⟩, h.2.2⟩
theorem ST.kc {s : List Sh} {m m' : Mem} {ow : Nat → Nat} {nw q : Nat} (h : ST s m ow nw) (hq : m.2.2 0 16 = some q) (e : KCQ q m m') : ST s m' ow nw := by
  have q53 := (h.1.2.2.2.2.2.2.1 q hq).1.1
  refine h.rt hq (fun a k => ?_) (fun a k => ?_) (fun a k _ => by rw [e.2.2])
  · by_cases c : a = 16
    · omega
    · by_cases c2 : q ≤ a ∧ a < q + 10
      · omega
      · exact Or.inr (Or.inr (Or.inr (Or.inr (e.1 a k c c2))))
  · by_cases c : a = 17 ∨ a = 18 ∨ a = q + 7
    · omega
    · exact Or.inr (Or.inr (Or.inr (e.2.1 a k (by omega) (by omega) (by omega))))
theorem routes {F : Nat} (hF : 20000 ≤ F) {s : List Sh} {m : Mem} {ow : Nat → Nat} {nw : Nat} (h : ST s m ow nw) : ∃ s' m' ow' q, n_X9_routesFromHere F s m 0 = some (q, s', m') ∧ ST s' m' ow' nw ∧ m'.2.2 0 16 = some q ∧ m'.2.2 q 5 = some nw ∧ LG m' q [(A (m.1 24) 7, A (m.1 24) 8)] (fun _ => -1) ∧ (∃ t, s' = s ++ t) ∧ (∀ a k, a < s.length → ¬ (q ≤ a ∧ a < q + 10) → m'.1 a k = m.1 a k ∧ m'.2.1 a k = m.2.1 a k) ∧ (∀ a k, a < s.length → (a ≠ 0 ∨ k ≠ 16) → (a ≠ q ∨ k ≠ 5) → m'.2.2 a k = m.2.2 a k) ∧ (m.2.2 0 16 = none ∨ (m.2.2 0 16 = some q ∧ nq_routes F s m 0 = n_X9_routesFromHere F s m 0)) := by
  obtain ⟨s', m', ow', q, c1, c2, c3, c4, c5, c6, c7⟩ := searcher (F := F) h
  obtain ⟨qb, qo⟩ := c2.1.2.2.2.2.2.2.1 q c3
  have rn := c2.1.nw
  have hb := c2.1.2.2.2.1
  have ho := c2.1.2.2.2.2.1
  have q53 := qb.1
  have hne : nw ≠ q := ok_ne hb.2.1 qb.2.1 (by omega) (by omega) (by omega)
  have nq : ¬ (q ≤ nw ∧ nw < q + 10) := fun hc => by
    have := ow_out ho qo hne (show 0 < 10 by omega) (show nw - q < 10 by omega)
    omega
  obtain ⟨at4, at5, atf⟩ := c2.at
  have qb1 : QB s' (wI (wR m' q 5 (some nw)) (q + 1) 4 (q32 0)) q := qb.k (fun a k hk => by show (wR m' q 5 (some nw)).2.2 a k = _; rw [wR_3, if_neg (by omega)])
  obtain ⟨m4, f1, f2, f3, f4⟩ := fillN (F := F) (s := s') (a := q + 6) (n := 8192) qb.2.2.2.2.2.2.2.2.2.2.2.2.2.2.2.2.2.1 (by omega) (q32 (-1)) 8192 0 F (by omega) (by omega) (wI (wR m' q 5 (some nw)) (q + 1) 4 (q32 0)) (fun j hj => by omega)
  have qb4 : QB s' m4 q := qb1.k (fun a k _ => by rw [f3])
  have lg4 : LG m4 q [] (fun _ => -1) := ⟨by decide, by rw [f4 _ _ (by omega), wI_s]; rfl, fun i hi => absurd hi (Nat.not_lt_zero _), fun h hh => f2 h hh⟩
  obtain ⟨m7, p1, p2, p3, p4⟩ := putQ9 qb4 lg4 (A (m'.1 24) 7, A (m'.1 24) 8) (by decide) (-1)
  have e24 : m'.1 24 = m.1 24 := (c5 24 (by have := h.1.hp; obtain ⟨t, ht⟩ := this; rw [ht, List.length_append, sB_len]; omega)).1
  have ref7 : m7.2.2 = (wR m' q 5 (some nw)).2.2 := by rw [p3, f3]; rfl
  have lng7 : m7.2.1 = m'.2.1 := by rw [p3, f3]; rfl
  have i7 : ∀ a k, (a ≤ q ∨ q + 6 < a) → m7.1 a k = m'.1 a k := fun a k ha => by rw [p4 a k ha, f4 a k (by omega), wI_n (by omega)]; rfl
  have n4 : m4.1 nw 4 = q32 (A (m'.1 24) 7) := by rw [f4 _ _ (by omega), wI_n (by omega)]; exact at4
  have n5 : m4.1 nw 5 = q32 (A (m'.1 24) 8) := by rw [f4 _ _ (by omega), wI_n (by omega)]; exact at5
  have n0 : (wR m' q 5 (some nw)).2.2 q 0 = some (q + 1) := by rw [wR_3, if_neg (by omega)]; exact qb.2.2.2.1
  have n05 : (wI (wR m' q 5 (some nw)) (q + 1) 4 (q32 0)).2.2 (q + 1) 5 = some (q + 6) := qb1.2.2.2.2.2.2.2.2.2.2.2.1
  have l6 : ln s' (q + 6) = 8192 := qb.2.2.2.2.2.2.2.2.2.2.2.2.2.2.2.2.2.1
  have fx : n_J7_fill_53178 F s' (wI (wR m' q 5 (some nw)) (q + 1) 4 (q32 0)) (q + 6) (q32 (-1)) = some ((), m4) := by
    unfold n_J7_fill_53178 nb_J7_fill_53178_0
    rw [l6]
    exact f1
  have n40 : m4.2.2 q 0 = some (q + 1) := qb4.2.2.2.1
  have p1' : n_X1_put s' m4 (q + 1) (m4.1 nw 4) (m4.1 nw 5) (-1) = some ((), m7) := by
    rw [n4, n5, show (-1 : Int32) = q32 (-1) by simp only [c32i, q32_neg]]
    exact p1
  have n16 : m7.2.2 0 16 = some q := by rw [ref7, wR_3, if_neg (by omega)]; exact c3
  refine ⟨s', m7, ow', q, ?_, ?_, n16, ?_, ?_, c4, fun a k ha hk => ?_, fun a k ha hk hk2 => ?_, c7⟩
  · rw [c1]
    unfold nb_X9_routesFromHere_22 n_X5_begin nb_X5_begin_0 n_X1_clearAll nb_X1_clearAll_0
    rw [c3, Option.bind_some, rn, Option.bind_some, bindv, bindv0, n0, Option.bind_some, bindv, bindv0, show (-1 : Int32) = q32 (-1) by simp only [c32i, q32_neg], show (0 : Int32) = q32 0 from rfl, n05, Option.bind_some, fx, bind2_s, bind2_s, n40, Option.bind_some, show q32 (-1) = (-1 : Int32) by simp only [c32i, q32_neg], p1', bind2_s, bind2_s, n16, Option.bind_some]
  · refine c2.rt c3 (fun a k => ?_) (fun a k => by rw [lng7]; exact Or.inr (Or.inr (Or.inr rfl))) (fun a k hk => by rw [ref7, wR_3, if_neg (by omega)])
    by_cases c : q ≤ a ∧ a < q + 10
    · omega
    · exact Or.inr (Or.inr (Or.inr (Or.inr (i7 a k (by omega)))))
  · rw [ref7, wR_3, if_pos ⟨rfl, rfl⟩]
  · rw [e24] at p2
    obtain ⟨z1, z2, z3, z4⟩ := p2
    refine ⟨z1, z2, fun i hi => ?_, z4⟩
    have := z3 i hi
    have hi' : i = 0 := by have : [(A (m.1 24) 7, A (m.1 24) 8)].length = 1 := rfl; omega
    subst hi'
    exact this
  · rw [i7 a k (by omega), lng7, (c5 a ha).1, (c5 a ha).2]
    exact ⟨rfl, rfl⟩
  · rw [ref7, wR_3, if_neg (by omega)]
    exact c6 a k ha hk
/-! a spread: where all buttons lead, each floor once -/
def AD (R : List FR) (x : FR) : List FR := if x ∈ R then R else R ++ [x]
def SP1 (al : Nat → Int32) (R : List FR) (x : FR) (b : Nat) : List FR := if (LE al b x).1 = 0 then AD R (LE al b x).2 else R
def SPB (al : Nat → Int32) (x : FR) : Nat → Nat → List FR → List FR
  | 0, _, R => R
  | n + 1, b, R => SPB al x n (b + 1) (SP1 al R x b)
def SPR (al : Nat → Int32) (bc : Nat) : List FR → List FR → List FR
  | [], R => R
  | x :: P, R => SPR al bc P (SPB al x bc 0 R)
theorem AD_len (R : List FR) (x : FR) : R.length ≤ (AD R x).length ∧ (AD R x).length ≤ R.length + 1 := by
  unfold AD
  split
  · omega
  · rw [List.length_append, List.length_singleton]; omega
theorem SP1_len (al : Nat → Int32) (R : List FR) (x : FR) (b : Nat) : R.length ≤ (SP1 al R x b).length ∧ (SP1 al R x b).length ≤ R.length + 1 := by
  unfold SP1
  split
  · exact AD_len _ _
  · omega
theorem SPB_len (al : Nat → Int32) (x : FR) : ∀ n b R, R.length ≤ (SPB al x n b R).length ∧ (SPB al x n b R).length ≤ R.length + n := by
  intro n
  induction n with
  | zero => intro b R; exact ⟨Nat.le_refl _, Nat.le_refl _⟩
  | succ n ih =>
    intro b R
    have h1 := SP1_len al R x b
    have h2 := ih (b + 1) (SP1 al R x b)
    unfold SPB
    omega
theorem SPR_len (al : Nat → Int32) {bc : Nat} (hbc : bc ≤ 6) : ∀ P R, R.length ≤ (SPR al bc P R).length ∧ (SPR al bc P R).length ≤ R.length + 6 * P.length := by
  intro P
  induction P with
  | nil => intro R; exact ⟨Nat.le_refl _, Nat.le_refl _⟩
  | cons x P ih =>
    intro R
    have h1 := SPB_len al x bc 0 R
    have h2 := ih (SPB al x bc 0 R)
    unfold SPR
    rw [List.length_cons]
    omega
theorem FLS.ad {tp : Int} {R : List FR} {x : FR} (h : FLS tp R) (hx : FLR tp x.1 x.2) : FLS tp (AD R x) := by
  unfold AD
  split
  · exact h
  · exact h.ap (FLS.one hx)
theorem FLS.sp1 {al : Nat → Int32} (hw : WA al) {R : List FR} {x : FR} {b : Nat} (h : FLS (A al 1) R) (hx : FLR (A al 1) x.1 x.2) : FLS (A al 1) (SP1 al R x b) := by
  unfold SP1
  split
  · next c => exact h.ad (LE_flr hw hx.ok c)
  · exact h
theorem FLS.spb {al : Nat → Int32} (hw : WA al) {x : FR} (hx : FLR (A al 1) x.1 x.2) : ∀ n b R, FLS (A al 1) R → FLS (A al 1) (SPB al x n b R) := by
  intro n
  induction n with
  | zero => intro b R h; exact h
  | succ n ih => intro b R h; exact ih (b + 1) _ (h.sp1 hw hx)
theorem FLS.spr {al : Nat → Int32} (hw : WA al) (bc : Nat) : ∀ P R, FLS (A al 1) P → FLS (A al 1) R → FLS (A al 1) (SPR al bc P R) := by
  intro P
  induction P with
  | nil => intro R _ h; exact h
  | cons x P ih => intro R hP h; exact ih _ (fun y hy => hP y (List.mem_cons_of_mem _ hy)) (FLS.spb hw (hP x List.mem_cons_self) bc 0 R h)
