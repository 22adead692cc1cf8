/-! the reference's lines: numbers, fractions -/
/-- what taking numbers writes -/
def KA10 (m m' : Mem) : Prop := (∀ a k, (a ≠ 23 ∨ (k ≠ 6 ∧ k ≠ 7 ∧ k ≠ 9 ∧ k ≠ 10 ∧ k ≠ 11 ∧ k ≠ 12 ∧ k ≠ 17)) → m'.1 a k = m.1 a k) ∧ (∀ a k, (a ≠ 23 ∨ (k ≠ 15 ∧ k ≠ 16)) → m'.2.1 a k = m.2.1 a k) ∧ m'.2.2 = m.2.2
theorem KA10.rf (m : Mem) : KA10 m m := ⟨fun _ _ _ => rfl, fun _ _ _ => rfl, rfl⟩
theorem KA10.tr {m m1 m2 : Mem} (h : KA10 m m1) (h2 : KA10 m1 m2) : KA10 m m2 := ⟨fun a k p => (h2.1 a k p).trans (h.1 a k p), fun a k p => (h2.2.1 a k p).trans (h.2.1 a k p), h2.2.2.trans h.2.2⟩
theorem KX.ka {m m' : Mem} (h : KX m m') : KA10 m m' := ⟨fun a k p => h.1 a k (by omega), fun _ _ _ => by rw [h.2], by rw [h.2]⟩
theorem TXR.ka {s : List Sh} {m m' : Mem} {N : Nat} {T : Nat → Int} (h : TXR s m N T) (e : KA10 m m') : TXR s m' N T := h.k (by rw [e.2.2]) (e.1 _ _ (by omega)) (fun k => e.1 _ _ (by omega))
theorem fai10a {s : List Sh} {m : Mem} {T : Nat → Int} {N i : Nat} (h0 : m.1 23 11 = q32 0) (hs : RST m T N (tpos T N i)) {k : Nat} (hk : 1 ≤ k ∧ k ≤ 4) : ∃ m', n_X10_fails s m 23 (q32 (k : Nat)) = some ((), m') ∧ KA10 m m' ∧ FLT10 m' (if kdT T N (tpos T N i) = 0 then 1 else k) (tpos T N i) := by
  have h9 := hs.2.2.2.1
  have h6 := hs.1
  refine ⟨wI (wI m 23 11 (q32 ((if kdT T N (tpos T N i) = 0 then 1 else k : Nat) : Int))) 23 12 (q32 (tpos T N i : Nat)), ?_, ⟨fun a j p1 => by rw [wI_n (by omega), wI_n (by omega)], fun _ _ _ => rfl, rfl⟩, by rw [wI_n (by omega), wI_s], by split <;> omega, by split <;> omega, wI_s ..⟩
  unfold n_X10_fails nb_X10_fails_0 nb_X10_fails_23
  rw [h0, if_pos (show q32 0 = (0 : Int32) from rfl), h9]
  have rq := rk_q (T := T) (N := N) (p := tpos T N i) (c := 0) (by decide) (by decide)
  by_cases e : kdT T N (tpos T N i) = 0
  · rw [if_pos (show q32 (rk (kdT T N (tpos T N i))) = (18 : Int32) from rq.mpr e), if_pos e]
    simp (disch := omega) only [Option.bind_some, bindv, bindv0, bind2_s, bind3_s, ↓reduceIte, Bool.false_eq_true, rZM_0, rZM_1, rZP_0, rZP_1, ptZ_0, ptZ_1, c32i, c64i, ncI, Int.natCast_add, Int.natCast_mul, q32_neg, q64_neg, q32_add, q32_sub, q32_mul, q64_add, q64_sub, q64_mul, q32_64i, q64_32, q32_lt_t, q32_lt_f, q32_le_t, q32_le_f, q32_eq_t, q32_eq_f, q64_lt_t, q64_lt_f, q64_le_t, q64_le_f, q64_eq_t, q64_eq_f, rdI_i, rdL_i, rdR_i, rdN_i, stI_i, stL_i, stR_i, wI_s, wI_n, wL_s, wL_n, wI_2, wI_3, wL_1, wL_3, wR_1, wR_2, Int.toNat_natCast, tnO, tn_add, tn_sub, tn_mul, Nat.add_sub_cancel, Nat.add_zero, Nat.zero_add, lnO, win_t, win_f, h6]
    first | done | rfl
  · rw [if_neg (show ¬ q32 (rk (kdT T N (tpos T N i))) = (18 : Int32) from fun h => e (rq.mp h)), if_neg e]
    simp (disch := omega) only [Option.bind_some, bindv, bindv0, bind2_s, bind3_s, ↓reduceIte, Bool.false_eq_true, rZM_0, rZM_1, rZP_0, rZP_1, ptZ_0, ptZ_1, c32i, c64i, ncI, Int.natCast_add, Int.natCast_mul, q32_neg, q64_neg, q32_add, q32_sub, q32_mul, q64_add, q64_sub, q64_mul, q32_64i, q64_32, q32_lt_t, q32_lt_f, q32_le_t, q32_le_f, q32_eq_t, q32_eq_f, q64_lt_t, q64_lt_f, q64_le_t, q64_le_f, q64_eq_t, q64_eq_f, rdI_i, rdL_i, rdR_i, rdN_i, stI_i, stL_i, stR_i, wI_s, wI_n, wL_s, wL_n, wI_2, wI_3, wL_1, wL_3, wR_1, wR_2, Int.toNat_natCast, tnO, tn_add, tn_sub, tn_mul, Nat.add_sub_cancel, Nat.add_zero, Nat.zero_add, lnO, win_t, win_f, h6]
/-- where the reference stands in a text -/
def CN10 (s : List Sh) (m : Mem) (T : Nat → Int) (N K i : Nat) : Prop := TXR s m N T ∧ m.1 23 11 = q32 0 ∧ RST m T N (tpos T N i) ∧ i < K
theorem tak10f {F : Nat} {s : List Sh} {m : Mem} {k p : Nat} (h : FLT10 m k p) (a b : Int32) : n_X10_takes F s m 23 a b = some (m.1 23 10, m) := by
  unfold n_X10_takes nb_X10_takes_0
  rw [is10f h, Option.bind_some, if_pos rfl, fai10f h, bind2_s]
  unfold nb_X10_takes_37
  rw [if_neg (flt_ne h)]
theorem tak10 {F : Nat} (hF : 20000 ≤ F) {s : List Sh} {m : Mem} {T : Nat → Int} {N K i : Nat} (hK : TKE T N K) (h : CN10 s m T N K i) {lo hh : Int} (hlo : 0 ≤ lo ∧ lo ≤ 999) (hhi : 0 ≤ hh ∧ hh ≤ 999) : match numW (kdF T N) (amF T N) i lo hh with
  | .inl (k, j) => j < K ∧ ∃ x m', n_X10_takes F s m 23 (q32 lo) (q32 hh) = some (x, m') ∧ KA10 m m' ∧ FLT10 m' k (tpos T N j)
  | .inr (j, v) => i < j ∧ j < K ∧ 0 ≤ v ∧ v ≤ 999 ∧ ∃ m', n_X10_takes F s m 23 (q32 lo) (q32 hh) = some (q32 v, m') ∧ KX m m' ∧ CN10 s m' T N K j := by
  obtain ⟨hx, h0, hs, hi⟩ := h
  have i16 : n_X10_is s m 23 (16 : Int32) = some (if kdT T N (tpos T N i) = 2 then q32 1 else q32 0) := is10 (s := s) h0 hs (c := 2) (by decide) (by decide)
  unfold n_X10_takes nb_X10_takes_0 numW
  rw [i16, Option.bind_some]
  by_cases c2 : kdF T N i = 2
  · have c2' : kdT T N (tpos T N i) = 2 := c2
    have hi1 := hK.nx hi (by omega) (by omega)
    have hpN := hK.2.2.2 i hi1
    have ab := amT_b hK.1 hpN c2'
    rw [if_pos c2, if_pos c2', if_neg (show ¬ q32 1 = (0 : Int32) by decide), hs.2.2.2.2 c2', q32_64 (by unfold B31; omega), q32_64 (by unfold B31; omega), q32_64 (by unfold B31; omega), win (by unfold B63; omega) (by unfold B63; omega) (by unfold B63; omega), Option.bind_some]
    by_cases cc : amF T N i < lo ∨ hh < amF T N i
    · have cc' : ¬ (lo ≤ amT T N (tpos T N i) ∧ amT T N (tpos T N i) ≤ hh) := by dsimp only [amF] at cc; omega
      rw [if_pos cc, if_neg cc', if_pos rfl]
      obtain ⟨m1, a1, a2, a3⟩ := fai10a (s := s) h0 hs (k := 3) (by omega)
      rw [if_neg (by omega)] at a3
      have a1' : n_X10_fails s m 23 (3 : Int32) = some ((), m1) := a1
      refine ⟨hi, m1.1 23 10, m1, ?_, a2, a3⟩
      rw [a1', bind2_s]
      unfold nb_X10_takes_37
      rw [if_neg (flt_ne a3)]
    · have cc' : lo ≤ amT T N (tpos T N i) ∧ amT T N (tpos T N i) ≤ hh := by dsimp only [amF] at cc; omega
      rw [if_neg cc, if_pos cc', if_neg (show ¬ (1 : Int32) = 0 by decide)]
      obtain ⟨m1, a1, a2, a3⟩ := step10 hF hx hs hpN
      refine ⟨by omega, hi1, ab.1, ab.2, m1, ?_, a2, hx.x a2, a2.n11 h0, a3, hi1⟩
      unfold nb_X10_takes_37
      rw [h0, if_pos (show q32 0 = (0 : Int32) from rfl), a1, bind2_s, hs.2.2.2.2 c2']
  · have c2' : ¬ kdT T N (tpos T N i) = 2 := c2
    rw [if_neg c2, if_neg c2', if_pos (show q32 0 = (0 : Int32) from rfl)]
    obtain ⟨m1, a1, a2, a3⟩ := fai10a (s := s) h0 hs (k := 2) (by omega)
    have a1' : n_X10_fails s m 23 (2 : Int32) = some ((), m1) := a1
    refine ⟨hi, m1.1 23 10, m1, ?_, a2, a3⟩
    rw [a1', bind2_s]
    unfold nb_X10_takes_37
    rw [if_neg (flt_ne a3)]
def frcU (kd am : Nat → Int) (i : Nat) : (Nat × Nat) ⊕ (Nat × FR) := match numW kd am i 0 999 with
  | .inl e => .inl e
  | .inr (j, u) => if kd j = 47 then (match numW kd am (j + 1) 1 99 with
    | .inl e => .inl e
    | .inr (k, l) => .inr (k, nrm u l)) else .inr (j, nrm u 1)
theorem frcT_U {kd am : Nat → Int} {i tp : Nat} {ex : Int} : frcT kd am i ex tp = match frcU kd am i with
    | .inl e => .inl e
    | .inr (k, f) => if kd k = ex then (if f.1 ≤ tp * f.2 then .inr (k, f) else .inl (3, k)) else .inl (csF kd k, k) := by
  unfold frcT frcU
  cases numW kd am i 0 999 with
  | inl e => rfl
  | inr p =>
    obtain ⟨j, u⟩ := p
    dsimp only
    by_cases c : kd j = 47
    · rw [if_pos c, if_pos c]
      cases numW kd am (j + 1) 1 99 with
      | inl e => rfl
      | inr p => rfl
    · rw [if_neg c, if_neg c]
theorem tfr10 {F : Nat} (hF : 20000 ≤ F) {s : List Sh} (hp : ∃ t, s = sB ++ t) {m : Mem} (hr : RF m) {T : Nat → Int} {N K i tp : Nat} (hK : TKE T N K) (htp : 1 ≤ tp ∧ tp ≤ 9) (h1 : m.1 27 1 = q32 (tp : Nat)) (h : CN10 s m T N K i) : match frcU (kdF T N) (amF T N) i with
  | .inl (k, j) => j < K ∧ ∃ m', n_X10_takesFraction F s m 23 = some ((), m') ∧ KA10 m m' ∧ FLT10 m' k (tpos T N j)
  | .inr (j, f) => i < j ∧ j < K ∧ (0 ≤ f.1 ∧ f.1 ≤ 999 ∧ 1 ≤ f.2 ∧ f.2 ≤ 99) ∧ ∃ m', n_X10_takesFraction F s m 23 = some ((), m') ∧ KA10 m m' ∧ CN10 s m' T N K j ∧ m'.2.1 23 15 = q64 f.1 ∧ m'.2.1 23 16 = q64 f.2 ∧ m'.1 23 17 = q32 (if f.1 ≤ tp * f.2 then 0 else 1) := by
  have l27 := ln27 hp
  have r4 := rf23_4 hr
  -- what is done when both numbers are there
  have fin : ∀ (m1 : Mem) (j : Nat) (u l : Int), KA10 m m1 → CN10 s m1 T N K j → 0 ≤ u ∧ u ≤ 999 → 1 ≤ l ∧ l ≤ 99 → ∃ m', nb_X10_takesFraction_29 F s m1 23 (q32 u) (q32 l) = some ((), m') ∧ KA10 m m' ∧ CN10 s m' T N K j ∧ m'.2.1 23 15 = q64 (nrm u l).1 ∧ m'.2.1 23 16 = q64 (nrm u l).2 ∧ m'.1 23 17 = q32 (if (nrm u l).1 ≤ tp * (nrm u l).2 then 0 else 1) := by
    intro m1 j u l k1 c1 hu hl
    obtain ⟨x1, x0, xs, xi⟩ := c1
    obtain ⟨m2, b1, b2, b3, b4, b5, b6⟩ := lays10 (s := s) (m := m1) (p := u) (q := l) (by omega) (by omega) (by omega)
    have sm := nrm_sm hu hl
    generalize nrm u l = f at *
    obtain ⟨fu, fl⟩ := f
    dsimp only at *
    have r4' : m2.2.2 23 4 = some 27 := by rw [b5, k1.2.2]; exact r4
    have i1 : m2.1 27 1 = q32 (tp : Nat) := by rw [b4, k1.1 _ _ (by omega)]; exact h1
    have tb : (tp : Int) * fl ≤ 9 * 99 := Int.mul_le_mul (by omega) (by omega) (by omega) (by omega)
    have tb0 : 0 ≤ (tp : Int) * fl := Int.mul_nonneg (by omega) (by omega)
    have eq : nb_X10_takesFraction_29 F s m1 23 (q32 u) (q32 l) = some ((), wI m2 23 17 (q32 (if fu ≤ tp * fl then 0 else 1))) := by
      unfold nb_X10_takesFraction_29
      rw [x0, if_pos (show q32 0 = (0 : Int32) from rfl), q32_64 (by unfold B31; omega), q32_64 (by unfold B31; omega), b1, bind2_s, r4', Option.bind_some, rdI_c 1 (by omega) (by omega), Option.bind_some, i1, b2, b3, q32_64 (by unfold B31; omega), q64_mul]
      by_cases c : fu ≤ tp * fl
      · rw [if_pos (by rw [q64_le (by unfold B63; omega) (by unfold B63; omega)]; exact c), if_pos c]; rfl
      · rw [if_neg (by rw [q64_le (by unfold B63; omega) (by unfold B63; omega)]; exact c), if_neg c]; rfl
    refine ⟨_, eq, k1.tr ⟨fun a k p => by rw [wI_n (by omega), b4], fun a k p => b6 a k p, b5⟩, ⟨x1.k (by rw [wI_3, b5]) (by rw [wI_n (by omega), b4]) (fun k => by rw [wI_n (by omega), b4]), by rw [wI_n (by omega), b4]; exact x0, ?_, xi⟩, b2, b3, wI_s ..⟩
    unfold RST at xs ⊢
    rw [wI_n (by omega), wI_n (by omega), wI_n (by omega), wI_n (by omega), b4]
    exact xs
  have t1 := tak10 hF hK h (lo := 0) (hh := 999) (by omega) (by omega)
  unfold n_X10_takesFraction nb_X10_takesFraction_0 frcU
  cases e1 : numW (kdF T N) (amF T N) i 0 999 with
  | inl p =>
    obtain ⟨k, j⟩ := p
    rw [e1] at t1
    obtain ⟨a0, x, m1, a1, a2, a3⟩ := t1
    have a1' : n_X10_takes F s m 23 (0 : Int32) (999 : Int32) = some (x, m1) := a1
    refine ⟨a0, m1, ?_, a2, a3⟩
    rw [a1', bind2_s, eat10f a3, bind2_s, if_pos rfl]
    unfold nb_X10_takesFraction_29
    rw [if_neg (flt_ne a3)]
  | inr p =>
    obtain ⟨j, u⟩ := p
    rw [e1] at t1
    obtain ⟨a0, a00, u0, u1, m1, a1, a2, a3⟩ := t1
    have a1' : n_X10_takes F s m 23 (0 : Int32) (999 : Int32) = some (q32 u, m1) := a1
    have e47 := eat10 hF a3.1 a3.2.1 a3.2.2.1 (c := 47) (by decide) (by decide) (by decide)
    dsimp only
    by_cases c47 : kdF T N j = 47
    · rw [if_pos c47]
      have hj1 := hK.nx a00 (by omega) (by omega)
      obtain ⟨m2, b1, b2, b3⟩ := e47.1 c47
      have b1' : n_X10_eats F s m1 23 (25 : Int32) = some (q32 1, m2) := b1
      have cn2 : CN10 s m2 T N K (j + 1) := ⟨a3.1.x b2, b2.n11 a3.2.1, b3, hj1⟩
      have t2 := tak10 hF hK cn2 (lo := 1) (hh := 99) (by omega) (by omega)
      cases e2 : numW (kdF T N) (amF T N) (j + 1) 1 99 with
      | inl p =>
        obtain ⟨k, j2⟩ := p
        rw [e2] at t2
        obtain ⟨d0, x, m3, d1, d2, d3⟩ := t2
        have d1' : n_X10_takes F s m2 23 (1 : Int32) (99 : Int32) = some (x, m3) := d1
        refine ⟨d0, m3, ?_, (a2.ka.tr b2.ka).tr d2, d3⟩
        rw [a1', bind2_s, b1', bind2_s, if_neg (show ¬ q32 1 = (0 : Int32) by decide), d1', bind2_s]
        unfold nb_X10_takesFraction_29
        rw [if_neg (flt_ne d3)]
      | inr p =>
        obtain ⟨j2, l⟩ := p
        have lv := numW_v e2
        rw [e2] at t2
        obtain ⟨d0, d00, l0, l1, m3, d1, d2, d3⟩ := t2
        have d1' : n_X10_takes F s m2 23 (1 : Int32) (99 : Int32) = some (q32 l, m3) := d1
        have sm := nrm_sm (u := u) (l := l) (by omega) (by omega)
        obtain ⟨m4, f1, f2, f3, f4⟩ := fin m3 j2 u l ((a2.ka.tr b2.ka).tr d2.ka) d3 (by omega) (by omega)
        refine ⟨by omega, d00, ⟨sm.1, sm.2.1, sm.2.2.1, sm.2.2.2.1⟩, m4, ?_, f2, f3, f4⟩
        rw [a1', bind2_s, b1', bind2_s, if_neg (show ¬ q32 1 = (0 : Int32) by decide), d1', bind2_s]
        exact f1
    · rw [if_neg c47]
      have b1' : n_X10_eats F s m1 23 (25 : Int32) = some (q32 0, m1) := e47.2 c47
      have sm := nrm_sm (u := u) (l := 1) (by omega) (by omega)
      obtain ⟨m4, f1, f2, f3, f4⟩ := fin m1 j u 1 a2.ka a3 (by omega) (by omega)
      refine ⟨a0, a00, ⟨sm.1, sm.2.1, sm.2.2.1, sm.2.2.2.1⟩, m4, ?_, f2, f3, f4⟩
      rw [a1', bind2_s, b1', bind2_s, if_pos (show q32 0 = (0 : Int32) from rfl)]
      exact f1
