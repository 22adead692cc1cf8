def KX (m m' : Mem) : Prop := (∀ a k, (a ≠ 23 ∨ (k ≠ 6 ∧ k ≠ 7 ∧ k ≠ 9 ∧ k ≠ 10)) → m'.1 a k = m.1 a k) ∧ m'.2 = m.2
theorem KX.rf (m : Mem) : KX m m := ⟨fun _ _ _ => rfl, rfl⟩
theorem KX.tr {m m1 m2 : Mem} (h : KX m m1) (h2 : KX m1 m2) : KX m m2 := ⟨fun a k p => (h2.1 a k p).trans (h.1 a k p), h2.2.trans h.2⟩
theorem KX.I {m : Mem} {k : Nat} {x : Int32} (h : k = 6 ∨ k = 7 ∨ k = 9 ∨ k = 10) : KX m (wI m 23 k x) := ⟨fun a j p => by rw [wI_n (by omega)], rfl⟩
theorem TXR.x {s : List Sh} {m m' : Mem} {N : Nat} {T : Nat → Int} (h : TXR s m N T) (e : KX m m') : TXR s m' N T := h.k (by rw [e.2]) (e.1 _ _ (by omega)) (fun k => e.1 _ _ (by omega))
theorem RUN_st {P : Int → Bool} {T : Nat → Int} : ∀ n p, RUN P T n p = p + n ∨ ¬ P (T (RUN P T n p)) = true := by
  intro n
  induction n with
  | zero => intro p; exact Or.inl rfl
  | succ n ih =>
    intro p
    unfold RUN
    by_cases c : P (T p) = true
    · rw [if_pos c]
      rcases ih (p + 1) with h | h
      · exact Or.inl (by omega)
      · exact Or.inr h
    · rw [if_neg c]; exact Or.inr c
theorem skL10 {F : Nat} {s : List Sh} {N : Nat} {T : Nat → Int} : ∀ n p fuel, p + n = N → n < fuel → ∀ m : Mem, TXR s m N T → m.1 23 6 = q32 (p : Nat) → ∃ m' g, nl_X10_next_8 F s fuel m 23 = nb_X10_next_8 F s g m' 23 ∧ m'.1 23 6 = q32 (RUN bkB T n p : Nat) ∧ KX m m' := by
  intro n
  induction n with
  | zero =>
    intro p fuel hp hfu m h h6
    obtain ⟨fuel, rfl⟩ : ∃ f, fuel = f + 1 := ⟨fuel - 1, by omega⟩
    exact ⟨m, nl_X10_next_8 F s fuel, rfl, h6, KX.rf m⟩
  | succ n ih =>
    intro p fuel hp hfu m h h6
    obtain ⟨fuel, rfl⟩ : ∃ f, fuel = f + 1 := ⟨fuel - 1, by omega⟩
    have hN := h.2.2.1
    by_cases c : isBk (T p)
    · have k1 : KX m (wI m 23 6 (q32 ((p + 1 : Nat) : Int))) := KX.I (by omega)
      obtain ⟨m', g, i1, i2, i3⟩ := ih (p + 1) fuel (by omega) (by omega) _ (h.x k1) (wI_s ..)
      refine ⟨m', g, ?_, ?_, k1.tr i3⟩
      · rw [← i1]
        have sp := see10 h (p := p) (by omega)
        rw [if_pos (show p < N by omega)] at sp
        rw [Int.natCast_add]
        show nb_X10_next_8 F s (nl_X10_next_8 F s fuel) m 23 = _
        unfold nb_X10_next_8 nb_X10_next_34
        rcases c with c | c
        · rw [c] at sp
          simp (disch := omega) only [Option.bind_some, bindv, bindv0, bind2_s, bind3_s, ↓reduceIte, Bool.false_eq_true, rZM_0, rZM_1, rZP_0, rZP_1, ptZ_0, ptZ_1, c32i, c64i, ncI, Int.natCast_add, Int.natCast_mul, q32_neg, q64_neg, q32_add, q32_sub, q32_mul, q64_add, q64_sub, q64_mul, q32_64i, q64_32, q32_lt_t, q32_lt_f, q32_le_t, q32_le_f, q32_eq_t, q32_eq_f, q64_lt_t, q64_lt_f, q64_le_t, q64_le_f, q64_eq_t, q64_eq_f, rdI_i, rdL_i, rdR_i, rdN_i, stI_i, stL_i, stR_i, wI_s, wI_n, wL_s, wL_n, wI_2, wI_3, wL_1, wL_3, wR_1, wR_2, Int.toNat_natCast, tnO, tn_add, tn_sub, tn_mul, Nat.add_sub_cancel, Nat.add_zero, Nat.zero_add, lnO, win_t, win_f, h6, sp]
          first | done | rfl
        · rw [c] at sp
          simp (disch := omega) only [Option.bind_some, bindv, bindv0, bind2_s, bind3_s, ↓reduceIte, Bool.false_eq_true, rZM_0, rZM_1, rZP_0, rZP_1, ptZ_0, ptZ_1, c32i, c64i, ncI, Int.natCast_add, Int.natCast_mul, q32_neg, q64_neg, q32_add, q32_sub, q32_mul, q64_add, q64_sub, q64_mul, q32_64i, q64_32, q32_lt_t, q32_lt_f, q32_le_t, q32_le_f, q32_eq_t, q32_eq_f, q64_lt_t, q64_lt_f, q64_le_t, q64_le_f, q64_eq_t, q64_eq_f, rdI_i, rdL_i, rdR_i, rdN_i, stI_i, stL_i, stR_i, wI_s, wI_n, wL_s, wL_n, wI_2, wI_3, wL_1, wL_3, wR_1, wR_2, Int.toNat_natCast, tnO, tn_add, tn_sub, tn_mul, Nat.add_sub_cancel, Nat.add_zero, Nat.zero_add, lnO, win_t, win_f, h6, sp]
          first | done | rfl
      · unfold RUN
        rw [if_pos (bkB_t c)]
        exact i2
    · refine ⟨m, nl_X10_next_8 F s fuel, rfl, ?_, KX.rf m⟩
      unfold RUN
      rw [if_neg (bkB_f c)]
      exact h6
theorem ltL10 {F : Nat} (hF : 20000 ≤ F) {s : List Sh} {N p : Nat} {T : Nat → Int} : ∀ n e fuel, e + n = N → n < fuel → p ≤ e → ∀ m : Mem, TXR s m N T → m.1 23 6 = q32 (p : Nat) → m.1 23 7 = q32 (e : Nat) → ∃ m', nl_X10_next_89 F s fuel m 23 = some ((), m') ∧ KX m m' ∧ m'.1 23 6 = q32 (p : Nat) ∧ m'.1 23 7 = q32 (RUN ltB T n e : Nat) ∧ m'.1 23 9 = q32 (rk (wkT T p (RUN ltB T n e - p))) := by
  intro n
  induction n with
  | zero =>
    intro e fuel he hfu hpe m h h6 h7
    obtain ⟨fuel, rfl⟩ : ∃ f, fuel = f + 1 := ⟨fuel - 1, by omega⟩
    have hN := h.2.2.1
    have sp := see10 h (p := e) (by omega)
    rw [if_neg (show ¬ e < N by omega)] at sp
    have sm := sm10 (c := -1) (by omega)
    rw [if_neg (by decide)] at sm
    have ky := key10 hF h h6 h7 ⟨hpe, by omega⟩
    refine ⟨wI m 23 9 (q32 (rk (wkT T p (e - p)))), ?_, KX.I (by omega), by rw [wI_n (by omega)]; exact h6, by rw [wI_n (by omega)]; exact h7, wI_s ..⟩
    show nb_X10_next_89 F s (nl_X10_next_89 F s fuel) m 23 = _
    unfold nb_X10_next_89
    simp (disch := omega) only [Option.bind_some, bindv, bindv0, bind2_s, bind3_s, ↓reduceIte, Bool.false_eq_true, rZM_0, rZM_1, rZP_0, rZP_1, ptZ_0, ptZ_1, c32i, c64i, ncI, Int.natCast_add, Int.natCast_mul, q32_neg, q64_neg, q32_add, q32_sub, q32_mul, q64_add, q64_sub, q64_mul, q32_64i, q64_32, q32_lt_t, q32_lt_f, q32_le_t, q32_le_f, q32_eq_t, q32_eq_f, q64_lt_t, q64_lt_f, q64_le_t, q64_le_f, q64_eq_t, q64_eq_f, rdI_i, rdL_i, rdR_i, rdN_i, stI_i, stL_i, stR_i, wI_s, wI_n, wL_s, wL_n, wI_2, wI_3, wL_1, wL_3, wR_1, wR_2, Int.toNat_natCast, tnO, tn_add, tn_sub, tn_mul, Nat.add_sub_cancel, Nat.add_zero, Nat.zero_add, lnO, win_t, win_f, h7, sp, sm, ky]
  | succ n ih =>
    intro e fuel he hfu hpe m h h6 h7
    obtain ⟨fuel, rfl⟩ : ∃ f, fuel = f + 1 := ⟨fuel - 1, by omega⟩
    have hN := h.2.2.1
    obtain ⟨u1, u2⟩ := h.2.2.2.2 e (by omega)
    have sp := see10 h (p := e) (by omega)
    rw [if_pos (show e < N by omega)] at sp
    have sm := sm10 (c := T e) (by omega)
    by_cases c : isLt (T e)
    · rw [show (if isLt (T e) then q32 1 else q32 0) = q32 1 from if_pos c] at sm
      have k1 : KX m (wI m 23 7 (q32 ((e + 1 : Nat) : Int))) := KX.I (by omega)
      obtain ⟨m', i1, i2, i3, i4, i5⟩ := ih (e + 1) fuel (by omega) (by omega) (by omega) _ (h.x k1) (by rw [wI_n (by omega)]; exact h6) (wI_s ..)
      have er : RUN ltB T (n + 1) e = RUN ltB T n (e + 1) := by
        show (if ltB (T e) = true then _ else _) = _
        rw [if_pos (ltB_t c)]
      rw [er]
      refine ⟨m', ?_, k1.tr i2, i3, i4, i5⟩
      rw [← i1, Int.natCast_add]
      show nb_X10_next_89 F s (nl_X10_next_89 F s fuel) m 23 = _
      unfold nb_X10_next_89
      simp (disch := omega) only [Option.bind_some, bindv, bindv0, bind2_s, bind3_s, ↓reduceIte, Bool.false_eq_true, rZM_0, rZM_1, rZP_0, rZP_1, ptZ_0, ptZ_1, c32i, c64i, ncI, Int.natCast_add, Int.natCast_mul, q32_neg, q64_neg, q32_add, q32_sub, q32_mul, q64_add, q64_sub, q64_mul, q32_64i, q64_32, q32_lt_t, q32_lt_f, q32_le_t, q32_le_f, q32_eq_t, q32_eq_f, q64_lt_t, q64_lt_f, q64_le_t, q64_le_f, q64_eq_t, q64_eq_f, rdI_i, rdL_i, rdR_i, rdN_i, stI_i, stL_i, stR_i, wI_s, wI_n, wL_s, wL_n, wI_2, wI_3, wL_1, wL_3, wR_1, wR_2, Int.toNat_natCast, tnO, tn_add, tn_sub, tn_mul, Nat.add_sub_cancel, Nat.add_zero, Nat.zero_add, lnO, win_t, win_f, h7, sp, sm]
      first | done | rfl
    · rw [show (if isLt (T e) then q32 1 else q32 0) = q32 0 from if_neg c] at sm
      have ky := key10 hF h h6 h7 ⟨hpe, by omega⟩
      have er : RUN ltB T (n + 1) e = e := by
        show (if ltB (T e) = true then _ else _) = _
        rw [if_neg (ltB_f c)]
      rw [er]
      refine ⟨wI m 23 9 (q32 (rk (wkT T p (e - p)))), ?_, KX.I (by omega), by rw [wI_n (by omega)]; exact h6, by rw [wI_n (by omega)]; exact h7, wI_s ..⟩
      show nb_X10_next_89 F s (nl_X10_next_89 F s fuel) m 23 = _
      unfold nb_X10_next_89
      simp (disch := omega) only [Option.bind_some, bindv, bindv0, bind2_s, bind3_s, ↓reduceIte, Bool.false_eq_true, rZM_0, rZM_1, rZP_0, rZP_1, ptZ_0, ptZ_1, c32i, c64i, ncI, Int.natCast_add, Int.natCast_mul, q32_neg, q64_neg, q32_add, q32_sub, q32_mul, q64_add, q64_sub, q64_mul, q32_64i, q64_32, q32_lt_t, q32_lt_f, q32_le_t, q32_le_f, q32_eq_t, q32_eq_f, q64_lt_t, q64_lt_f, q64_le_t, q64_le_f, q64_eq_t, q64_eq_f, rdI_i, rdL_i, rdR_i, rdN_i, stI_i, stL_i, stR_i, wI_s, wI_n, wL_s, wL_n, wI_2, wI_3, wL_1, wL_3, wR_1, wR_2, Int.toNat_natCast, tnO, tn_add, tn_sub, tn_mul, Nat.add_sub_cancel, Nat.add_zero, Nat.zero_add, lnO, win_t, win_f, h7, sp, sm, ky]
theorem AMT_s (T : Nat → Int) : ∀ n p a, AMT T (n + 1) p a = AMT T n p a * 10 + T (p + n) - 48 := by
  intro n
  induction n with
  | zero => intro p a; rfl
  | succ n ih =>
    intro p a
    show AMT T (n + 1) (p + 1) (a * 10 + T p - 48) = AMT T n (p + 1) (a * 10 + T p - 48) * 10 + T (p + (n + 1)) - 48
    rw [ih (p + 1), show p + 1 + n = p + (n + 1) by omega]
theorem dgL10 {F : Nat} (hF : 20000 ≤ F) {s : List Sh} {N p : Nat} {T : Nat → Int} : ∀ n e fuel, e + n = N → n < fuel → p ≤ e → ∀ m : Mem, TXR s m N T → m.1 23 6 = q32 (p : Nat) → m.1 23 7 = q32 (e : Nat) → (e - p ≤ 3 → m.1 23 10 = q32 (AMT T (e - p) p 0)) → ∃ m', nl_X10_next_146 F s fuel m 23 = some ((), m') ∧ KX m m' ∧ m'.1 23 6 = q32 (p : Nat) ∧ m'.1 23 7 = q32 (RUN dgB T n e : Nat) ∧ m'.1 23 9 = q32 (if RUN dgB T n e - p ≤ 3 then 16 else 18) ∧ (RUN dgB T n e - p ≤ 3 → m'.1 23 10 = q32 (AMT T (RUN dgB T n e - p) p 0)) := by
  have fin : ∀ e : Nat, e ≤ N → p ≤ e → ∀ m : Mem, TXR s m N T → m.1 23 6 = q32 (p : Nat) → m.1 23 7 = q32 (e : Nat) → (e - p ≤ 3 → m.1 23 10 = q32 (AMT T (e - p) p 0)) → ∀ x, n_X10_see s m 23 (q32 (e : Nat)) = some x → m_X10_isDigit x = some (q32 0) → ∀ g, ∃ m', nb_X10_next_146 F s g m 23 = some ((), m') ∧ KX m m' ∧ m'.1 23 6 = q32 (p : Nat) ∧ m'.1 23 7 = q32 (e : Nat) ∧ m'.1 23 9 = q32 (if e - p ≤ 3 then 16 else 18) ∧ (e - p ≤ 3 → m'.1 23 10 = q32 (AMT T (e - p) p 0)) := fun e he hpe m h h6 h7 h10 x sp dg g => by
    have hN := h.2.2.1
    refine ⟨wI m 23 9 (q32 (if e - p ≤ 3 then 16 else 18)), ?_, KX.I (by omega), by rw [wI_n (by omega)]; exact h6, by rw [wI_n (by omega)]; exact h7, wI_s .., fun hh => by rw [wI_n (by omega)]; exact h10 hh⟩
    unfold nb_X10_next_146 nb_X10_next_230
    rw [h7, sp, Option.bind_some, dg, Option.bind_some, if_pos (show q32 0 = (0 : Int32) from rfl)]
    by_cases c3 : e - p ≤ 3
    · rw [if_pos c3]
      simp (disch := omega) only [Option.bind_some, bindv, bindv0, bind2_s, bind3_s, ↓reduceIte, Bool.false_eq_true, rZM_0, rZM_1, rZP_0, rZP_1, ptZ_0, ptZ_1, c32i, c64i, ncI, Int.natCast_add, Int.natCast_mul, q32_neg, q64_neg, q32_add, q32_sub, q32_mul, q64_add, q64_sub, q64_mul, q32_64i, q64_32, q32_lt_t, q32_lt_f, q32_le_t, q32_le_f, q32_eq_t, q32_eq_f, q64_lt_t, q64_lt_f, q64_le_t, q64_le_f, q64_eq_t, q64_eq_f, rdI_i, rdL_i, rdR_i, rdN_i, stI_i, stL_i, stR_i, wI_s, wI_n, wL_s, wL_n, wI_2, wI_3, wL_1, wL_3, wR_1, wR_2, Int.toNat_natCast, tnO, tn_add, tn_sub, tn_mul, Nat.add_sub_cancel, Nat.add_zero, Nat.zero_add, lnO, win_t, win_f, h6]
    · rw [if_neg c3]
      simp (disch := omega) only [Option.bind_some, bindv, bindv0, bind2_s, bind3_s, ↓reduceIte, Bool.false_eq_true, rZM_0, rZM_1, rZP_0, rZP_1, ptZ_0, ptZ_1, c32i, c64i, ncI, Int.natCast_add, Int.natCast_mul, q32_neg, q64_neg, q32_add, q32_sub, q32_mul, q64_add, q64_sub, q64_mul, q32_64i, q64_32, q32_lt_t, q32_lt_f, q32_le_t, q32_le_f, q32_eq_t, q32_eq_f, q64_lt_t, q64_lt_f, q64_le_t, q64_le_f, q64_eq_t, q64_eq_f, rdI_i, rdL_i, rdR_i, rdN_i, stI_i, stL_i, stR_i, wI_s, wI_n, wL_s, wL_n, wI_2, wI_3, wL_1, wL_3, wR_1, wR_2, Int.toNat_natCast, tnO, tn_add, tn_sub, tn_mul, Nat.add_sub_cancel, Nat.add_zero, Nat.zero_add, lnO, win_t, win_f, h6]
  intro n
  induction n with
  | zero =>
    intro e fuel he hfu hpe m h h6 h7 h10
    obtain ⟨fuel, rfl⟩ : ∃ f, fuel = f + 1 := ⟨fuel - 1, by omega⟩
    have hN := h.2.2.1
    have sp := see10 h (p := e) (by omega)
    rw [if_neg (show ¬ e < N by omega)] at sp
    exact fin e (by omega) hpe m h h6 h7 h10 _ sp (by have := dg10 (c := -1) (by omega); rw [if_neg (by decide)] at this; exact this) _
  | succ n ih =>
    intro e fuel he hfu hpe m h h6 h7 h10
    obtain ⟨fuel, rfl⟩ : ∃ f, fuel = f + 1 := ⟨fuel - 1, by omega⟩
    have hN := h.2.2.1
    obtain ⟨u1, u2⟩ := h.2.2.2.2 e (by omega)
    have sp := see10 h (p := e) (by omega)
    rw [if_pos (show e < N by omega)] at sp
    have dg := dg10 (c := T e) (by omega)
    by_cases c : isDg (T e)
    · rw [show (if isDg (T e) then q32 1 else q32 0) = q32 1 from if_pos c] at dg
      have er : RUN dgB T (n + 1) e = RUN dgB T n (e + 1) := by
        show (if dgB (T e) = true then _ else _) = _
        rw [if_pos (dgB_t c)]
      rw [er]
      by_cases c3 : 3 ≤ e - p
      · have k1 : KX m (wI m 23 7 (q32 ((e + 1 : Nat) : Int))) := KX.I (by omega)
        obtain ⟨m', i1, i2, i3⟩ := ih (e + 1) fuel (by omega) (by omega) (by omega) _ (h.x k1) (by rw [wI_n (by omega)]; exact h6) (wI_s ..) (fun hh => by omega)
        refine ⟨m', ?_, k1.tr i2, i3⟩
        rw [← i1, Int.natCast_add]
        show nb_X10_next_146 F s (nl_X10_next_146 F s fuel) m 23 = _
        unfold nb_X10_next_146 nb_X10_next_196
        simp (disch := omega) only [Option.bind_some, bindv, bindv0, bind2_s, bind3_s, ↓reduceIte, Bool.false_eq_true, rZM_0, rZM_1, rZP_0, rZP_1, ptZ_0, ptZ_1, c32i, c64i, ncI, Int.natCast_add, Int.natCast_mul, q32_neg, q64_neg, q32_add, q32_sub, q32_mul, q64_add, q64_sub, q64_mul, q32_64i, q64_32, q32_lt_t, q32_lt_f, q32_le_t, q32_le_f, q32_eq_t, q32_eq_f, q64_lt_t, q64_lt_f, q64_le_t, q64_le_f, q64_eq_t, q64_eq_f, rdI_i, rdL_i, rdR_i, rdN_i, stI_i, stL_i, stR_i, wI_s, wI_n, wL_s, wL_n, wI_2, wI_3, wL_1, wL_3, wR_1, wR_2, Int.toNat_natCast, tnO, tn_add, tn_sub, tn_mul, Nat.add_sub_cancel, Nat.add_zero, Nat.zero_add, lnO, win_t, win_f, h7, sp, dg, h6]
        first | done | rfl
      · have h10' := h10 (by omega)
        have k1 : KX m (wI (wI m 23 10 (q32 (AMT T (e + 1 - p) p 0))) 23 7 (q32 ((e + 1 : Nat) : Int))) := (KX.I (by omega)).tr (KX.I (by omega))
        obtain ⟨m', i1, i2, i3⟩ := ih (e + 1) fuel (by omega) (by omega) (by omega) _ (h.x k1) (by rw [wI_n (by omega), wI_n (by omega)]; exact h6) (wI_s ..) (fun hh => by rw [wI_n (by omega), wI_s])
        refine ⟨m', ?_, k1.tr i2, i3⟩
        have ea : AMT T (e + 1 - p) p 0 = 10 * AMT T (e - p) p 0 + T e - 48 := by
          rw [show e + 1 - p = (e - p) + 1 by omega, AMT_s, show p + (e - p) = e by omega, Int.mul_comm]
        rw [← i1, ea, Int.natCast_add]
        show nb_X10_next_146 F s (nl_X10_next_146 F s fuel) m 23 = _
        unfold nb_X10_next_146 nb_X10_next_196
        generalize AMT T (e - p) p 0 = v at *
        simp (disch := omega) only [Option.bind_some, bindv, bindv0, bind2_s, bind3_s, ↓reduceIte, Bool.false_eq_true, rZM_0, rZM_1, rZP_0, rZP_1, ptZ_0, ptZ_1, c32i, c64i, ncI, Int.natCast_add, Int.natCast_mul, q32_neg, q64_neg, q32_add, q32_sub, q32_mul, q64_add, q64_sub, q64_mul, q32_64i, q64_32, q32_lt_t, q32_lt_f, q32_le_t, q32_le_f, q32_eq_t, q32_eq_f, q64_lt_t, q64_lt_f, q64_le_t, q64_le_f, q64_eq_t, q64_eq_f, rdI_i, rdL_i, rdR_i, rdN_i, stI_i, stL_i, stR_i, wI_s, wI_n, wL_s, wL_n, wI_2, wI_3, wL_1, wL_3, wR_1, wR_2, Int.toNat_natCast, tnO, tn_add, tn_sub, tn_mul, Nat.add_sub_cancel, Nat.add_zero, Nat.zero_add, lnO, win_t, win_f, h7, sp, dg, h6, h10']
        first | done | rfl
    · rw [show (if isDg (T e) then q32 1 else q32 0) = q32 0 from if_neg c] at dg
      have er : RUN dgB T (n + 1) e = e := by
        show (if dgB (T e) = true then _ else _) = _
        rw [if_neg (dgB_f c)]
      rw [er]
      exact fin e (by omega) hpe m h h6 h7 h10 _ sp dg _
def sg9s : List Int := [59, 58, 43, 45, 42, 47, 40, 41]
theorem ch9s : ∀ i, i < 8 → sChrF 9 (q32 (i : Nat)) = some (q32 (sg9s.getD i 0)) ∧ 0 ≤ sg9s.getD i 0 ∧ sg9s.getD i 0 < 256 := by decide
theorem le9s : sLenF 9 = some (q32 8) := by decide
def SGF (c : Int) : Nat → Nat → Int → Int
  | 0, _, v => v
  | n + 1, k, v => SGF c n (k + 1) (if c = sg9s.getD k 0 then 20 + (k : Int) else v)
theorem sgL10 {F : Nat} {s : List Sh} {N p : Nat} {T : Nat → Int} (hp : p < N) : ∀ n k fuel v, k + n = 8 → n < fuel → ∀ m : Mem, TXR s m N T → m.1 23 6 = q32 (p : Nat) → m.1 23 9 = q32 v → ∃ m', nl_X10_next_254 F s fuel m 23 (q32 (k : Nat)) = some ((), m') ∧ KX m m' ∧ m'.1 23 6 = m.1 23 6 ∧ m'.1 23 7 = m.1 23 7 ∧ m'.1 23 9 = q32 (SGF (T p) n k v) := by
  have l9 := le9s
  intro n
  induction n with
  | zero =>
    intro k fuel v hk hfu m h h6 h9
    obtain ⟨fuel, rfl⟩ : ∃ f, fuel = f + 1 := ⟨fuel - 1, by omega⟩
    refine ⟨m, ?_, KX.rf m, rfl, rfl, h9⟩
    show nb_X10_next_254 F s (nl_X10_next_254 F s fuel) m 23 _ = _
    unfold nb_X10_next_254
    simp (disch := omega) only [Option.bind_some, bindv, bindv0, bind2_s, bind3_s, ↓reduceIte, Bool.false_eq_true, rZM_0, rZM_1, rZP_0, rZP_1, ptZ_0, ptZ_1, c32i, c64i, ncI, Int.natCast_add, Int.natCast_mul, q32_neg, q64_neg, q32_add, q32_sub, q32_mul, q64_add, q64_sub, q64_mul, q32_64i, q64_32, q32_lt_t, q32_lt_f, q32_le_t, q32_le_f, q32_eq_t, q32_eq_f, q64_lt_t, q64_lt_f, q64_le_t, q64_le_f, q64_eq_t, q64_eq_f, rdI_i, rdL_i, rdR_i, rdN_i, stI_i, stL_i, stR_i, wI_s, wI_n, wL_s, wL_n, wI_2, wI_3, wL_1, wL_3, wR_1, wR_2, Int.toNat_natCast, tnO, tn_add, tn_sub, tn_mul, Nat.add_sub_cancel, Nat.add_zero, Nat.zero_add, lnO, win_t, win_f, l9]
  | succ n ih =>
    intro k fuel v hk hfu m h h6 h9
    obtain ⟨fuel, rfl⟩ : ∃ f, fuel = f + 1 := ⟨fuel - 1, by omega⟩
    have hN := h.2.2.1
    obtain ⟨u1, u2⟩ := h.2.2.2.2 p hp
    have sp := see10 h (p := p) (by omega)
    rw [if_pos hp] at sp
    obtain ⟨c1, c2⟩ := ch9s k (by omega)
    unfold SGF
    by_cases ce : T p = sg9s.getD k 0
    · rw [if_pos ce]
      have k1 : KX m (wI m 23 9 (q32 (20 + (k : Int)))) := KX.I (by omega)
      obtain ⟨m', i1, i2, i3, i4, i5⟩ := ih (k + 1) fuel (20 + (k : Int)) (by omega) (by omega) _ (h.x k1) (by rw [wI_n (by omega)]; exact h6) (wI_s ..)
      refine ⟨m', ?_, k1.tr i2, by rw [i3, wI_n (by omega)], by rw [i4, wI_n (by omega)], i5⟩
      rw [← i1, Int.natCast_add]
      rw [ce] at sp
      generalize sg9s.getD k 0 = y at *
      show nb_X10_next_254 F s (nl_X10_next_254 F s fuel) m 23 _ = _
      unfold nb_X10_next_254 nb_X10_next_288
      simp (disch := omega) only [Option.bind_some, bindv, bindv0, bind2_s, bind3_s, ↓reduceIte, Bool.false_eq_true, rZM_0, rZM_1, rZP_0, rZP_1, ptZ_0, ptZ_1, c32i, c64i, ncI, Int.natCast_add, Int.natCast_mul, q32_neg, q64_neg, q32_add, q32_sub, q32_mul, q64_add, q64_sub, q64_mul, q32_64i, q64_32, q32_lt_t, q32_lt_f, q32_le_t, q32_le_f, q32_eq_t, q32_eq_f, q64_lt_t, q64_lt_f, q64_le_t, q64_le_f, q64_eq_t, q64_eq_f, rdI_i, rdL_i, rdR_i, rdN_i, stI_i, stL_i, stR_i, wI_s, wI_n, wL_s, wL_n, wI_2, wI_3, wL_1, wL_3, wR_1, wR_2, Int.toNat_natCast, tnO, tn_add, tn_sub, tn_mul, Nat.add_sub_cancel, Nat.add_zero, Nat.zero_add, lnO, win_t, win_f, l9, h6, sp, c1]
      first | done | rfl
    · rw [if_neg ce]
      obtain ⟨m', i1, i2, i3, i4, i5⟩ := ih (k + 1) fuel v (by omega) (by omega) m h h6 h9
      refine ⟨m', ?_, i2, i3, i4, i5⟩
      rw [← i1, Int.natCast_add]
      generalize sg9s.getD k 0 = y at *
      show nb_X10_next_254 F s (nl_X10_next_254 F s fuel) m 23 _ = _
      unfold nb_X10_next_254 nb_X10_next_288
      simp (disch := omega) only [Option.bind_some, bindv, bindv0, bind2_s, bind3_s, ↓reduceIte, Bool.false_eq_true, rZM_0, rZM_1, rZP_0, rZP_1, ptZ_0, ptZ_1, c32i, c64i, ncI, Int.natCast_add, Int.natCast_mul, q32_neg, q64_neg, q32_add, q32_sub, q32_mul, q64_add, q64_sub, q64_mul, q32_64i, q64_32, q32_lt_t, q32_lt_f, q32_le_t, q32_le_f, q32_eq_t, q32_eq_f, q64_lt_t, q64_lt_f, q64_le_t, q64_le_f, q64_eq_t, q64_eq_f, rdI_i, rdL_i, rdR_i, rdN_i, stI_i, stL_i, stR_i, wI_s, wI_n, wL_s, wL_n, wI_2, wI_3, wL_1, wL_3, wR_1, wR_2, Int.toNat_natCast, tnO, tn_add, tn_sub, tn_mul, Nat.add_sub_cancel, Nat.add_zero, Nat.zero_add, lnO, win_t, win_f, l9, h6, sp, c1]
      first | done | rfl
theorem SGF_e {c : Int} (h : 0 ≤ c ∧ c < 256) : SGF c 8 0 18 = if isSg c then rk c else 18 := by
  obtain ⟨k, rfl⟩ := Int.eq_ofNat_of_zero_le h.1
  have : ∀ k : Nat, k < 256 → SGF (k : Int) 8 0 18 = if isSg (k : Int) then rk k else 18 := by decide +kernel
  exact this k (by omega)
