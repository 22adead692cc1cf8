/-! a button's sum: the class -/
def CDE9 (m : Mem) (r z : Nat) (out : List Int) : Prop := m.1 r 10 = q32 out.length ∧ ∀ i, i < out.length → m.1 (z + 2) i = q32 (out.getD i 0)
def STK9 (m : Mem) (r : Nat) (S : List Int) : Prop := m.1 r 12 = q32 S.length ∧ ∀ k, k < S.length → m.1 (r + 15) (S.length - 1 - k) = q32 (S.getD k 0)
/-- what a sum's reading leaves alone -/
def KSM (r z : Nat) (m m' : Mem) : Prop := (∀ a k, (a ≠ r ∨ (k ≠ 4 ∧ k ≠ 5 ∧ k ≠ 6 ∧ k ≠ 7 ∧ k ≠ 10 ∧ k ≠ 12)) → a ≠ r + 15 → a ≠ z + 2 → m'.1 a k = m.1 a k) ∧ m'.2 = m.2
theorem KSM.rf {r z : Nat} (m : Mem) : KSM r z m m := ⟨fun _ _ _ _ _ => rfl, rfl⟩
theorem KSM.tr {r z : Nat} {m m1 m2 : Mem} (h : KSM r z m m1) (h2 : KSM r z m1 m2) : KSM r z m m2 := ⟨fun a k p q t => (h2.1 a k p q t).trans (h.1 a k p q t), h2.2.trans h.2⟩
theorem KSM.pr {r z : Nat} {m m' : Mem} (h : KSM r z m m') : KPR r z m m' := ⟨fun a k p1 p2 p3 => h.1 a k (Or.inl p1) p2 (by omega), fun a k _ => by rw [h.2], by rw [h.2]⟩
theorem emit9 {s : List Sh} {m : Mem} {r z K N : Nat} {T : Nat → Int} (h : RCX s m r z K T N) {out : List Int} (hc : CDE9 m r z out) (hl : out.length < 900) (x : Int) : ∃ m', n_X3_emit s m r (q32 x) = some ((), m') ∧ CDE9 m' r z (out ++ [x]) ∧ m'.2 = m.2 ∧ ∀ a k, (a ≠ r ∨ k ≠ 10) → a ≠ z + 2 → m'.1 a k = m.1 a k := by
  have sp := h.sep
  obtain ⟨-, ⟨h1, -⟩, -, ⟨-, -, ⟨-, r8, -⟩, -, l2, -⟩, hs, -⟩ := h
  have zr := (hs 2 (by omega)).1
  obtain ⟨c1, c2⟩ := hc
  refine ⟨wI (wI m (z + 2) out.length (q32 x)) r 10 (q32 (out.length + 1)), ?_, ⟨?_, fun i hi => ?_⟩, rfl, fun a k p1 p2 => by rw [wI_n (by omega), wI_n (by omega)]⟩
  · unfold n_X3_emit nb_X3_emit_0
    simp (disch := omega) only [Option.bind_some, bindv, bindv0, bind2_s, bind3_s, ↓reduceIte, Bool.false_eq_true, rZM_0, rZM_1, rZP_0, rZP_1, ptZ_0, ptZ_1, c32i, c64i, ncI, Int.natCast_add, Int.natCast_mul, q32_neg, q64_neg, q32_add, q32_sub, q32_mul, q64_add, q64_sub, q64_mul, q32_64i, q64_32, q32_lt_t, q32_lt_f, q32_le_t, q32_le_f, q32_eq_t, q32_eq_f, q64_lt_t, q64_lt_f, q64_le_t, q64_le_f, q64_eq_t, q64_eq_f, rdI_i, rdL_i, rdR_i, rdN_i, stI_i, stL_i, stR_i, wI_s, wI_n, wL_s, wL_n, wI_2, wI_3, wL_1, wL_3, wR_1, wR_2, Int.toNat_natCast, tnO, tn_add, tn_sub, tn_mul, Nat.add_sub_cancel, Nat.add_zero, Nat.zero_add, lnO, win_t, win_f, h1, r8, l2, c1]
  · rw [wI_s, List.length_append, List.length_singleton, Int.natCast_add]; rfl
  · rw [List.length_append, List.length_singleton] at hi
    rw [wI_n (by omega), List.getD_eq_getElem?_getD]
    by_cases c : i = out.length
    · rw [c, wI_s, List.getElem?_append_right (Nat.le_refl _), Nat.sub_self]; rfl
    · rw [wI_n (by omega), c2 i (by omega), List.getD_eq_getElem?_getD, List.getElem?_append_left (by omega)]
theorem str9 {x : Int} (h : -7 ≤ x ∧ x ≤ -3) : m_X3_strength (q32 x) = some (q32 (stF x)) := by
  have : x = -7 ∨ x = -6 ∨ x = -5 ∨ x = -4 ∨ x = -3 := by omega
  rcases this with rfl | rfl | rfl | rfl | rfl <;> decide
theorem popL9 {F : Nat} {s : List Sh} {r z K N : Nat} {T : Nat → Int} {l : Int} (hl : l = 0 ∨ l = 1) : ∀ (S : List Int) fuel, S.length < fuel → S.length ≤ 60 → (∀ x ∈ S, -7 ≤ x ∧ x ≤ -3) → ∀ (m : Mem) (out : List Int), RCX s m r z K T N → STK9 m r S → CDE9 m r z out → out.length + S.length ≤ 900 → ∃ m', nl_X3_popSigns_7 F s fuel m r (q32 l) (q32 ((S.length : Int) - 1)) = some ((), m') ∧ STK9 m' r (popF l S).2 ∧ CDE9 m' r z (out ++ (popF l S).1) ∧ m'.2 = m.2 ∧ ∀ a k, (a ≠ r ∨ (k ≠ 10 ∧ k ≠ 12)) → a ≠ z + 2 → m'.1 a k = m.1 a k := by
  intro S
  induction S with
  | nil =>
    intro fuel hfu _ _ m out h hs hc hlen
    obtain ⟨fuel, rfl⟩ : ∃ f, fuel = f + 1 := ⟨fuel - 1, by omega⟩
    refine ⟨m, ?_, hs, by rw [show (popF l []).1 = [] from rfl, List.append_nil]; exact hc, rfl, fun _ _ _ _ => rfl⟩
    show nb_X3_popSigns_7 F s (nl_X3_popSigns_7 F s fuel) m r (q32 l) (q32 (-1)) = _
    unfold nb_X3_popSigns_7
    simp (disch := omega) only [Option.bind_some, bindv, bindv0, bind2_s, bind3_s, ↓reduceIte, Bool.false_eq_true, rZM_0, rZM_1, rZP_0, rZP_1, ptZ_0, ptZ_1, c32i, c64i, ncI, Int.natCast_add, Int.natCast_mul, q32_neg, q64_neg, q32_add, q32_sub, q32_mul, q64_add, q64_sub, q64_mul, q32_64i, q64_32, q32_lt_t, q32_lt_f, q32_le_t, q32_le_f, q32_eq_t, q32_eq_f, q64_lt_t, q64_lt_f, q64_le_t, q64_le_f, q64_eq_t, q64_eq_f, rdI_i, rdL_i, rdR_i, rdN_i, stI_i, stL_i, stR_i, wI_s, wI_n, wL_s, wL_n, wI_2, wI_3, wL_1, wL_3, wR_1, wR_2, Int.toNat_natCast, tnO, tn_add, tn_sub, tn_mul, Nat.add_sub_cancel, Nat.add_zero, Nat.zero_add, lnO, win_t, win_f]
  | cons x S ih =>
    intro fuel hfu h60 hx m out h hs hc hlen
    rw [List.length_cons] at hfu h60 hlen
    obtain ⟨fuel, rfl⟩ : ∃ f, fuel = f + 1 := ⟨fuel - 1, by omega⟩
    have xb := hx x List.mem_cons_self
    have r11 := h.2.1.2.2.1
    have l15 := h.2.2.1
    have zr := (h.2.2.2.2.1 2 (by omega)).1
    have zr15 := (h.2.2.2.2.1 2 (by omega)).2 15 (by omega) (by omega)
    obtain ⟨s1, s2⟩ := hs
    rw [List.length_cons] at s1 s2
    have top : m.1 (r + 15) S.length = q32 x := by
      have := s2 0 (by omega)
      rw [show S.length + 1 - 1 - 0 = S.length by omega] at this
      exact this
    have st := str9 xb
    have sb : -1 ≤ stF x ∧ stF x ≤ 1 := by unfold stF; split; omega; split <;> omega
    rw [List.length_cons, show (((S.length + 1 : Nat) : Int) - 1) = (S.length : Int) by omega]
    show ∃ m', nb_X3_popSigns_7 F s (nl_X3_popSigns_7 F s fuel) m r (q32 l) (q32 (S.length : Int)) = _ ∧ _
    by_cases cl : l ≤ stF x
    · have ep : popF l (x :: S) = (x :: (popF l S).1, (popF l S).2) := by
        show (if l ≤ stF x then _ else _) = _
        rw [if_pos cl]
      rw [ep]
      obtain ⟨m1, e1, e2, e3, e4⟩ := emit9 h hc (by omega) x
      have k1 : KSM r z m (wI m1 r 12 (q32 (S.length : Int))) := ⟨fun a k p1 p2 p3 => by rw [wI_n (by omega), e4 a k (by omega) p3], by rw [show (wI m1 r 12 (q32 (S.length : Int))).2 = m1.2 from rfl, e3]⟩
      obtain ⟨m2, i1, i2, i3, i4, i5⟩ := ih fuel (by omega) (by omega) (fun y hy => hx y (List.mem_cons_of_mem _ hy)) (wI m1 r 12 (q32 (S.length : Int))) (out ++ [x]) (h.k k1.pr) ⟨wI_s .., fun k hk => by
        rw [wI_n (by omega), e4 _ _ (by omega) (by omega)]
        have := s2 (k + 1) (by omega)
        rw [show S.length + 1 - 1 - (k + 1) = S.length - 1 - k by omega] at this
        exact this⟩ ⟨by rw [wI_n (by omega)]; exact e2.1, fun i hi => by rw [wI_n (by omega)]; exact e2.2 i hi⟩ (by rw [List.length_append, List.length_singleton]; omega)
      refine ⟨m2, ?_, i2, by rw [List.append_assoc] at i3; exact i3, by rw [i4, show (wI m1 r 12 (q32 (S.length : Int))).2 = m1.2 from rfl, e3], fun a k p1 p2 => by rw [i5 a k p1 p2, wI_n (by omega), e4 a k (by omega) p2]⟩
      rw [← i1]
      unfold nb_X3_popSigns_7
      generalize stF x = w at *
      simp (disch := omega) only [Option.bind_some, bindv, bindv0, bind2_s, bind3_s, ↓reduceIte, Bool.false_eq_true, rZM_0, rZM_1, rZP_0, rZP_1, ptZ_0, ptZ_1, c32i, c64i, ncI, Int.natCast_add, Int.natCast_mul, q32_neg, q64_neg, q32_add, q32_sub, q32_mul, q64_add, q64_sub, q64_mul, q32_64i, q64_32, q32_lt_t, q32_lt_f, q32_le_t, q32_le_f, q32_eq_t, q32_eq_f, q64_lt_t, q64_lt_f, q64_le_t, q64_le_f, q64_eq_t, q64_eq_f, rdI_i, rdL_i, rdR_i, rdN_i, stI_i, stL_i, stR_i, wI_s, wI_n, wL_s, wL_n, wI_2, wI_3, wL_1, wL_3, wR_1, wR_2, Int.toNat_natCast, tnO, tn_add, tn_sub, tn_mul, Nat.add_sub_cancel, Nat.add_zero, Nat.zero_add, lnO, win_t, win_f, r11, top, st, e1]
      first | done | rfl
    · have ep : popF l (x :: S) = ([], x :: S) := by
        show (if l ≤ stF x then _ else _) = _
        rw [if_neg cl]
      rw [ep]
      refine ⟨m, ?_, ⟨by rw [List.length_cons]; exact s1, fun k hk => by rw [List.length_cons] at hk ⊢; exact s2 k hk⟩, by rw [List.append_nil]; exact hc, rfl, fun _ _ _ _ => rfl⟩
      unfold nb_X3_popSigns_7
      generalize stF x = w at *
      simp (disch := omega) only [Option.bind_some, bindv, bindv0, bind2_s, bind3_s, ↓reduceIte, Bool.false_eq_true, rZM_0, rZM_1, rZP_0, rZP_1, ptZ_0, ptZ_1, c32i, c64i, ncI, Int.natCast_add, Int.natCast_mul, q32_neg, q64_neg, q32_add, q32_sub, q32_mul, q64_add, q64_sub, q64_mul, q32_64i, q64_32, q32_lt_t, q32_lt_f, q32_le_t, q32_le_f, q32_eq_t, q32_eq_f, q64_lt_t, q64_lt_f, q64_le_t, q64_le_f, q64_eq_t, q64_eq_f, rdI_i, rdL_i, rdR_i, rdN_i, stI_i, stL_i, stR_i, wI_s, wI_n, wL_s, wL_n, wI_2, wI_3, wL_1, wL_3, wR_1, wR_2, Int.toNat_natCast, tnO, tn_add, tn_sub, tn_mul, Nat.add_sub_cancel, Nat.add_zero, Nat.zero_add, lnO, win_t, win_f, r11, top, st]
theorem popS9 {F : Nat} (hF : 20000 ≤ F) {s : List Sh} {r z K N : Nat} {T : Nat → Int} {l : Int} (hl : l = 0 ∨ l = 1) {S out : List Int} (h60 : S.length ≤ 60) (hx : ∀ x ∈ S, -7 ≤ x ∧ x ≤ -3) {m : Mem} (h : RCX s m r z K T N) (hs : STK9 m r S) (hc : CDE9 m r z out) (hlen : out.length + S.length ≤ 900) : ∃ m', n_X3_popSigns F s m r (q32 l) = some ((), m') ∧ STK9 m' r (popF l S).2 ∧ CDE9 m' r z (out ++ (popF l S).1) ∧ KSM r z m m' ∧ ∀ k, k ≠ 10 → k ≠ 12 → m'.1 r k = m.1 r k := by
  obtain ⟨m', a1, a2, a3, a4, a5⟩ := popL9 (F := F) hl S F (by omega) h60 hx m out h hs hc hlen
  have zr := (h.2.2.2.2.1 2 (by omega)).1
  refine ⟨m', ?_, a2, a3, ⟨fun a k p1 p2 p3 => a5 a k (by omega) p3, a4⟩, fun k p1 p2 => a5 r k (by omega) (by omega)⟩
  have s1 := hs.1
  unfold n_X3_popSigns nb_X3_popSigns_0
  rw [s1, show q32 (S.length : Int) - 1 = q32 ((S.length : Int) - 1) by rw [show (1 : Int32) = q32 1 from rfl, q32_sub], bindv, bindv0]
  exact a1
theorem push9 {s : List Sh} {r z K N : Nat} {T : Nat → Int} {S : List Int} (h60 : S.length < 60) {m : Mem} (h : RCX s m r z K T N) (hs : STK9 m r S) (x : Int) : ∃ m', n_X3_pushSign s m r (q32 x) = some ((), m') ∧ STK9 m' r (x :: S) ∧ (∀ out, CDE9 m r z out → CDE9 m' r z out) ∧ KSM r z m m' ∧ ∀ k, k ≠ 12 → m'.1 r k = m.1 r k := by
  have r11 := h.2.1.2.2.1
  have l15 := h.2.2.1
  have zr := (h.2.2.2.2.1 2 (by omega)).1
  have zr15 := (h.2.2.2.2.1 2 (by omega)).2 15 (by omega) (by omega)
  obtain ⟨s1, s2⟩ := hs
  refine ⟨wI (wI m (r + 15) S.length (q32 x)) r 12 (q32 (S.length + 1)), ?_, ⟨?_, fun k hk => ?_⟩, fun out hc => ⟨?_, fun i hi => ?_⟩, ⟨fun a k p1 p2 p3 => by rw [wI_n (by omega), wI_n (by omega)], rfl⟩, fun k hk => by rw [wI_n (by omega), wI_n (by omega)]⟩
  · unfold n_X3_pushSign nb_X3_pushSign_0
    simp (disch := omega) only [Option.bind_some, bindv, bindv0, bind2_s, bind3_s, ↓reduceIte, Bool.false_eq_true, rZM_0, rZM_1, rZP_0, rZP_1, ptZ_0, ptZ_1, c32i, c64i, ncI, Int.natCast_add, Int.natCast_mul, q32_neg, q64_neg, q32_add, q32_sub, q32_mul, q64_add, q64_sub, q64_mul, q32_64i, q64_32, q32_lt_t, q32_lt_f, q32_le_t, q32_le_f, q32_eq_t, q32_eq_f, q64_lt_t, q64_lt_f, q64_le_t, q64_le_f, q64_eq_t, q64_eq_f, rdI_i, rdL_i, rdR_i, rdN_i, stI_i, stL_i, stR_i, wI_s, wI_n, wL_s, wL_n, wI_2, wI_3, wL_1, wL_3, wR_1, wR_2, Int.toNat_natCast, tnO, tn_add, tn_sub, tn_mul, Nat.add_sub_cancel, Nat.add_zero, Nat.zero_add, lnO, win_t, win_f, r11, s1]
  · rw [wI_s, List.length_cons, Int.natCast_add]; rfl
  · rw [List.length_cons] at hk ⊢
    rw [wI_n (by omega)]
    cases k with
    | zero =>
      rw [show S.length + 1 - 1 - 0 = S.length by omega, wI_s]
      rfl
    | succ k =>
      rw [wI_n (by omega), show S.length + 1 - 1 - (k + 1) = S.length - 1 - k by omega]
      exact s2 k (by omega)
  · rw [wI_n (by omega), wI_n (by omega)]; exact hc.1
  · rw [wI_n (by omega), wI_n (by omega)]; exact hc.2 i hi
theorem CUR.k {m m' : Mem} {r N i : Nat} {T : Nat → Int} (h : CUR m r T N i) (e : ∀ k, 4 ≤ k → k ≤ 7 → m'.1 r k = m.1 r k) : CUR m' r T N i := ⟨by rw [e 4 (by omega) (by omega)]; exact h.1, by rw [e 5 (by omega) (by omega)]; exact h.2.1, by rw [e 6 (by omega) (by omega)]; exact h.2.2.1, by rw [e 7 (by omega) (by omega)]; exact h.2.2.2⟩
theorem sign9 {s : List Sh} {m : Mem} {r : Nat} {k : Int} (hk : 0 ≤ k ∧ k ≤ 59) (h : m.1 r 5 = q32 k) : n_X3_signCode s m r = some (q32 (opF k)) := by
  unfold n_X3_signCode nb_X3_signCode_0
  rw [h]
  obtain ⟨n, rfl⟩ := Int.eq_ofNat_of_zero_le hk.1
  have : ∀ n : Nat, n < 60 → swN (q32 (n : Int)) (42) [some (-5 : Int32), some (-3 : Int32), some (0 : Int32), some (-4 : Int32), some (0 : Int32), some (-6 : Int32)] (some (0 : Int32)) = some (q32 (opF (n : Int))) := by decide +kernel
  exact this n (by omega)
/-- a stack of signs that can be: in each bracket a sum's sign, a term's sign -/
def SIV : Nat → List Int → Prop
  | 0, S => ∃ M Q, MQS M ∧ SQS Q ∧ S = M ++ (Q ++ [])
  | n + 1, S => ∃ M Q S', MQS M ∧ SQS Q ∧ S = M ++ (Q ++ (-7 :: S')) ∧ SIV n S'
theorem MQS.l {M : List Int} (h : MQS M) : M.length ≤ 1 ∧ ∀ x ∈ M, -7 ≤ x ∧ x ≤ -3 := by
  rcases h with rfl | ⟨x, rfl, hx⟩
  · exact ⟨by decide, fun y hy => (List.not_mem_nil hy).elim⟩
  · exact ⟨Nat.le_refl _, fun y hy => by rw [List.mem_singleton.mp hy]; omega⟩
theorem SQS.l {M : List Int} (h : SQS M) : M.length ≤ 1 ∧ ∀ x ∈ M, -7 ≤ x ∧ x ≤ -3 := by
  rcases h with rfl | ⟨x, rfl, hx⟩
  · exact ⟨by decide, fun y hy => (List.not_mem_nil hy).elim⟩
  · exact ⟨Nat.le_refl _, fun y hy => by rw [List.mem_singleton.mp hy]; omega⟩
theorem SIV.l : ∀ {n : Nat} {S : List Int}, SIV n S → S.length ≤ 3 * n + 2 ∧ ∀ x ∈ S, -7 ≤ x ∧ x ≤ -3 := by
  intro n
  induction n with
  | zero =>
    rintro S ⟨M, Q, hm, hq, rfl⟩
    refine ⟨by rw [List.length_append, List.length_append]; have := hm.l.1; have := hq.l.1; have : ([] : List Int).length = 0 := rfl; omega, fun x hx => ?_⟩
    rcases List.mem_append.mp hx with h | h
    · exact hm.l.2 x h
    · rw [List.append_nil] at h; exact hq.l.2 x h
  | succ n ih =>
    rintro S ⟨M, Q, S', hm, hq, rfl, h⟩
    obtain ⟨i1, i2⟩ := ih h
    refine ⟨by rw [List.length_append, List.length_append, List.length_cons]; have := hm.l.1; have := hq.l.1; omega, fun x hx => ?_⟩
    rcases List.mem_append.mp hx with h | h
    · exact hm.l.2 x h
    · rcases List.mem_append.mp h with h | h
      · exact hq.l.2 x h
      · rcases List.mem_cons.mp h with h | h
        · omega
        · exact i2 x h
theorem SIV.f {n : Nat} {S : List Int} (h : SIV n S) : ∃ M Q B, MQS M ∧ SQS Q ∧ BTM B ∧ S = M ++ (Q ++ B) ∧ (∀ M' Q', MQS M' → SQS Q' → SIV n (M' ++ (Q' ++ B))) ∧ (0 < n → ∃ S', B = -7 :: S' ∧ SIV (n - 1) S') := by
  cases n with
  | zero =>
    obtain ⟨M, Q, hm, hq, e⟩ := h
    exact ⟨M, Q, [], hm, hq, Or.inl rfl, e, fun M' Q' h1 h2 => ⟨M', Q', h1, h2, rfl⟩, fun h => by omega⟩
  | succ n =>
    obtain ⟨M, Q, S', hm, hq, e, h'⟩ := h
    exact ⟨M, Q, -7 :: S', hm, hq, Or.inr ⟨S', rfl⟩, e, fun M' Q' h1 h2 => ⟨M', Q', S', h1, h2, rfl, h'⟩, fun _ => ⟨S', rfl, h'⟩⟩
