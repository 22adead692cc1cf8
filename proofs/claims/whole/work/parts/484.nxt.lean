/-! tokens, by the reference -/
def TXR (s : List Sh) (m : Mem) (N : Nat) (T : Nat → Int) : Prop := m.2.2 23 3 = some 26 ∧ m.1 23 8 = q32 N ∧ N ≤ 900 ∧ ln s 26 = 900 ∧ ∀ k, k < N → m.1 26 k = q32 (T k) ∧ 0 ≤ T k ∧ T k < 256
theorem TXR.k {s : List Sh} {m m' : Mem} {N : Nat} {T : Nat → Int} (h : TXR s m N T) (e1 : m'.2.2 23 3 = m.2.2 23 3) (e2 : m'.1 23 8 = m.1 23 8) (e3 : ∀ k, m'.1 26 k = m.1 26 k) : TXR s m' N T := by
  obtain ⟨h1, h2, h3, h4, h5⟩ := h
  exact ⟨by rw [e1]; exact h1, by rw [e2]; exact h2, h3, h4, fun k hk => by rw [e3]; exact h5 k hk⟩
theorem see10 {s : List Sh} {m : Mem} {N p : Nat} {T : Nat → Int} (h : TXR s m N T) (hp : p ≤ 1000) : n_X10_see s m 23 (q32 (p : Nat)) = some (if p < N then q32 (T p) else q32 (-1)) := by
  obtain ⟨h1, h2, h3, h4, h5⟩ := h
  unfold n_X10_see nb_X10_see_0
  by_cases c : p < N
  · obtain ⟨u1, u2⟩ := h5 p c
    rw [if_pos c]
    simp (disch := omega) only [Option.bind_some, bindv, bindv0, bind2_s, bind3_s, ↓reduceIte, Bool.false_eq_true, rZM_0, rZM_1, rZP_0, rZP_1, ptZ_0, ptZ_1, c32i, c64i, ncI, Int.natCast_add, Int.natCast_mul, q32_neg, q64_neg, q32_add, q32_sub, q32_mul, q64_add, q64_sub, q64_mul, q32_64i, q64_32, q32_lt_t, q32_lt_f, q32_le_t, q32_le_f, q32_eq_t, q32_eq_f, q64_lt_t, q64_lt_f, q64_le_t, q64_le_f, q64_eq_t, q64_eq_f, rdI_i, rdL_i, rdR_i, rdN_i, stI_i, stL_i, stR_i, wI_s, wI_n, wL_s, wL_n, wI_2, wI_3, wL_1, wL_3, wR_1, wR_2, Int.toNat_natCast, tnO, tn_add, tn_sub, tn_mul, Nat.add_sub_cancel, Nat.add_zero, Nat.zero_add, lnO, win_t, win_f, h2, h1, u1]
  · rw [if_neg c]
    simp (disch := omega) only [Option.bind_some, bindv, bindv0, bind2_s, bind3_s, ↓reduceIte, Bool.false_eq_true, rZM_0, rZM_1, rZP_0, rZP_1, ptZ_0, ptZ_1, c32i, c64i, ncI, Int.natCast_add, Int.natCast_mul, q32_neg, q64_neg, q32_add, q32_sub, q32_mul, q64_add, q64_sub, q64_mul, q32_64i, q64_32, q32_lt_t, q32_lt_f, q32_le_t, q32_le_f, q32_eq_t, q32_eq_f, q64_lt_t, q64_lt_f, q64_le_t, q64_le_f, q64_eq_t, q64_eq_f, rdI_i, rdL_i, rdR_i, rdN_i, stI_i, stL_i, stR_i, wI_s, wI_n, wL_s, wL_n, wI_2, wI_3, wL_1, wL_3, wR_1, wR_2, Int.toNat_natCast, tnO, tn_add, tn_sub, tn_mul, Nat.add_sub_cancel, Nat.add_zero, Nat.zero_add, lnO, win_t, win_f, h2]
theorem dg10 {c : Int} (h : -1 ≤ c ∧ c < 256) : m_X10_isDigit (q32 c) = some (if isDg c then q32 1 else q32 0) := by
  unfold m_X10_isDigit
  by_cases c0 : c = -1
  · subst c0; decide
  · obtain ⟨k, rfl⟩ := Int.eq_ofNat_of_zero_le (show 0 ≤ c by omega)
    have : ∀ k : Nat, k < 256 → b_X10_isDigit_0 (q32 (k : Int)) = some (if isDg (k : Int) then q32 1 else q32 0) := by decide +kernel
    exact this k (by omega)
theorem sm10 {c : Int} (h : -1 ≤ c ∧ c < 256) : m_X10_isSmall (q32 c) = some (if isLt c then q32 1 else q32 0) := by
  unfold m_X10_isSmall
  by_cases c0 : c = -1
  · subst c0; decide
  · obtain ⟨k, rfl⟩ := Int.eq_ofNat_of_zero_le (show 0 ≤ c by omega)
    have : ∀ k : Nat, k < 256 → b_X10_isSmall_0 (q32 (k : Int)) = some (if isLt (k : Int) then q32 1 else q32 0) := by decide +kernel
    exact this k (by omega)
def st8 : List Int := [32, 116, 111, 112, 32, 98, 117, 116, 116, 111, 110, 32, 102, 108, 111, 111, 114, 32, 104, 97, 115, 32, 116, 101, 110, 97, 110, 116, 32, 97, 116, 32, 115, 116, 105, 99, 107, 32, 120, 32]
theorem ch8 : ∀ i, i < 40 → sChrF 8 (q32 (i : Nat)) = some (q32 (st8.getD i 0)) := by decide +kernel
theorem le8 : sLenF 8 = some (q32 40) := by decide
/-- the word v stands in the list at o, a blank behind it -/
def WAT (o : Nat) (v : List Int) : Prop := o + v.length < 40 ∧ (∀ i, i < v.length → st8.getD (o + i) 0 = v.getD i 0 ∧ v.getD i 0 ≠ 32 ∧ 0 ≤ v.getD i 0 ∧ v.getD i 0 < 256) ∧ st8.getD (o + v.length) 0 = 32
theorem keyS {F : Nat} {s : List Sh} {m : Mem} (n4 : Nat → Int32 → Int32 → Option Int32) {v1 : Nat} : ∀ (v : List Int) o fuel, WAT o v → v.length < fuel → nl_X10_keyAt_97 F s n4 m fuel 23 (q32 (v1 : Nat)) (q32 (o : Nat)) = n4 23 (q32 (v1 + 1 : Nat)) (q32 (o + v.length + 1 : Nat)) := by
  intro v
  induction v with
  | nil =>
    intro o fuel hw hfu
    obtain ⟨fuel, rfl⟩ : ∃ f, fuel = f + 1 := ⟨fuel - 1, by omega⟩
    obtain ⟨w1, w2, w3⟩ := hw
    have w1' : o < 40 := w1
    have c := ch8 o w1'
    have w3' : st8.getD o 0 = 32 := w3
    rw [w3'] at c
    show nb_X10_keyAt_97 F s n4 (nl_X10_keyAt_97 F s n4 m fuel) m 23 _ _ = _
    unfold nb_X10_keyAt_97
    rw [Int.natCast_add v1 1, show ((o + ([] : List Int).length + 1 : Nat) : Int) = (o : Int) + 1 from rfl]
    simp (disch := omega) only [Option.bind_some, bindv, bindv0, bind2_s, bind3_s, ↓reduceIte, Bool.false_eq_true, rZM_0, rZM_1, rZP_0, rZP_1, ptZ_0, ptZ_1, c32i, c64i, ncI, Int.natCast_add, Int.natCast_mul, q32_neg, q64_neg, q32_add, q32_sub, q32_mul, q64_add, q64_sub, q64_mul, q32_64i, q64_32, q32_lt_t, q32_lt_f, q32_le_t, q32_le_f, q32_eq_t, q32_eq_f, q64_lt_t, q64_lt_f, q64_le_t, q64_le_f, q64_eq_t, q64_eq_f, rdI_i, rdL_i, rdR_i, rdN_i, stI_i, stL_i, stR_i, wI_s, wI_n, wL_s, wL_n, wI_2, wI_3, wL_1, wL_3, wR_1, wR_2, Int.toNat_natCast, tnO, tn_add, tn_sub, tn_mul, Nat.add_sub_cancel, Nat.add_zero, Nat.zero_add, lnO, win_t, win_f, c]
    first | done | rfl
  | cons x v ih =>
    intro o fuel hw hfu
    rw [List.length_cons] at hfu
    obtain ⟨fuel, rfl⟩ : ∃ f, fuel = f + 1 := ⟨fuel - 1, by omega⟩
    obtain ⟨w1, w2, w3⟩ := hw
    rw [List.length_cons] at w1 w3
    have c := ch8 o (by omega)
    obtain ⟨y1, y2, y3, y4⟩ := w2 0 (by rw [List.length_cons]; omega)
    have y1' : st8.getD o 0 = x := y1
    have y2' : x ≠ 32 := y2
    have y3' : 0 ≤ x ∧ x < 256 := ⟨y3, y4⟩
    rw [y1'] at c
    have ih := ih (o + 1) fuel ⟨by omega, fun i hi => by
      have := w2 (i + 1) (by rw [List.length_cons]; omega)
      rw [show o + 1 + i = o + (i + 1) by omega]
      exact this, by rw [show o + 1 + v.length = o + (v.length + 1) by omega]; exact w3⟩ (by omega)
    rw [show o + (x :: v).length + 1 = o + 1 + v.length + 1 by rw [List.length_cons]; omega, ← ih, Int.natCast_add o 1]
    show nb_X10_keyAt_97 F s n4 (nl_X10_keyAt_97 F s n4 m fuel) m 23 _ _ = _
    unfold nb_X10_keyAt_97
    simp (disch := omega) only [Option.bind_some, bindv, bindv0, bind2_s, bind3_s, ↓reduceIte, Bool.false_eq_true, rZM_0, rZM_1, rZP_0, rZP_1, ptZ_0, ptZ_1, c32i, c64i, ncI, Int.natCast_add, Int.natCast_mul, q32_neg, q64_neg, q32_add, q32_sub, q32_mul, q64_add, q64_sub, q64_mul, q32_64i, q64_32, q32_lt_t, q32_lt_f, q32_le_t, q32_le_f, q32_eq_t, q32_eq_f, q64_lt_t, q64_lt_f, q64_le_t, q64_le_f, q64_eq_t, q64_eq_f, rdI_i, rdL_i, rdR_i, rdN_i, stI_i, stL_i, stR_i, wI_s, wI_n, wL_s, wL_n, wI_2, wI_3, wL_1, wL_3, wR_1, wR_2, Int.toNat_natCast, tnO, tn_add, tn_sub, tn_mul, Nat.add_sub_cancel, Nat.add_zero, Nat.zero_add, lnO, win_t, win_f, c]
    first | done | rfl
theorem keyC {F : Nat} {s : List Sh} {m : Mem} {N p e : Nat} {T : Nat → Int} (h : TXR s m N T) (h6 : m.1 23 6 = q32 (p : Nat)) (h7 : m.1 23 7 = q32 (e : Nat)) (hpe : p ≤ e ∧ e ≤ N) (n4 : Nat → Int32 → Int32 → Option Int32) {v1 o : Nat} : ∀ (v : List Int) k fuel, WAT (o + k) v → v.length < fuel → nl_X10_keyAt_15 F s n4 m fuel 23 (q32 (v1 : Nat)) (q32 (o : Nat)) (q32 (k : Nat)) = if p + k + v.length = e ∧ eqB T (p + k) v = true then some (q32 (v1 : Nat)) else nl_X10_keyAt_97 F s n4 m F 23 (q32 (v1 : Nat)) (q32 (o : Nat)) := by
  have hN := h.2.2.1
  intro v
  induction v with
  | nil =>
    intro k fuel hw hfu
    obtain ⟨fuel, rfl⟩ : ∃ f, fuel = f + 1 := ⟨fuel - 1, by omega⟩
    obtain ⟨w1, w2, w3⟩ := hw
    have w1' : o + k < 40 := w1
    have c := ch8 (o + k) w1'
    have w3' : st8.getD (o + k) 0 = 32 := w3
    rw [w3', Int.natCast_add] at c
    show nb_X10_keyAt_15 F s n4 (nl_X10_keyAt_15 F s n4 m fuel) m 23 _ _ _ = if p + k = e ∧ true = true then _ else _
    unfold nb_X10_keyAt_15 nb_X10_keyAt_69
    by_cases ce : p + k = e
    · rw [show (if p + k = e ∧ true = true then some (q32 (v1 : Int)) else nl_X10_keyAt_97 F s n4 m F 23 (q32 (v1 : Nat)) (q32 (o : Nat))) = some (q32 (v1 : Int)) from if_pos ⟨ce, rfl⟩]
      have ce' : (p : Int) + k = e := by omega
      simp (disch := omega) only [Option.bind_some, bindv, bindv0, bind2_s, bind3_s, ↓reduceIte, Bool.false_eq_true, rZM_0, rZM_1, rZP_0, rZP_1, ptZ_0, ptZ_1, c32i, c64i, ncI, Int.natCast_add, Int.natCast_mul, q32_neg, q64_neg, q32_add, q32_sub, q32_mul, q64_add, q64_sub, q64_mul, q32_64i, q64_32, q32_lt_t, q32_lt_f, q32_le_t, q32_le_f, q32_eq_t, q32_eq_f, q64_lt_t, q64_lt_f, q64_le_t, q64_le_f, q64_eq_t, q64_eq_f, rdI_i, rdL_i, rdR_i, rdN_i, stI_i, stL_i, stR_i, wI_s, wI_n, wL_s, wL_n, wI_2, wI_3, wL_1, wL_3, wR_1, wR_2, Int.toNat_natCast, tnO, tn_add, tn_sub, tn_mul, Nat.add_sub_cancel, Nat.add_zero, Nat.zero_add, lnO, win_t, win_f, c, h6, h7]
    · rw [show (if p + k = e ∧ true = true then some (q32 (v1 : Int)) else nl_X10_keyAt_97 F s n4 m F 23 (q32 (v1 : Nat)) (q32 (o : Nat))) = nl_X10_keyAt_97 F s n4 m F 23 (q32 (v1 : Nat)) (q32 (o : Nat)) from if_neg (fun h => ce h.1)]
      simp (disch := omega) only [Option.bind_some, bindv, bindv0, bind2_s, bind3_s, ↓reduceIte, Bool.false_eq_true, rZM_0, rZM_1, rZP_0, rZP_1, ptZ_0, ptZ_1, c32i, c64i, ncI, Int.natCast_add, Int.natCast_mul, q32_neg, q64_neg, q32_add, q32_sub, q32_mul, q64_add, q64_sub, q64_mul, q32_64i, q64_32, q32_lt_t, q32_lt_f, q32_le_t, q32_le_f, q32_eq_t, q32_eq_f, q64_lt_t, q64_lt_f, q64_le_t, q64_le_f, q64_eq_t, q64_eq_f, rdI_i, rdL_i, rdR_i, rdN_i, stI_i, stL_i, stR_i, wI_s, wI_n, wL_s, wL_n, wI_2, wI_3, wL_1, wL_3, wR_1, wR_2, Int.toNat_natCast, tnO, tn_add, tn_sub, tn_mul, Nat.add_sub_cancel, Nat.add_zero, Nat.zero_add, lnO, win_t, win_f, c, h6, h7]
  | cons x v ih =>
    intro k fuel hw hfu
    rw [List.length_cons] at hfu
    obtain ⟨fuel, rfl⟩ : ∃ f, fuel = f + 1 := ⟨fuel - 1, by omega⟩
    obtain ⟨w1, w2, w3⟩ := hw
    rw [List.length_cons] at w1 w3
    have c := ch8 (o + k) (by omega)
    obtain ⟨y1, y2, y3, y4⟩ := w2 0 (by rw [List.length_cons]; omega)
    have y1' : st8.getD (o + k) 0 = x := y1
    have y2' : x ≠ 32 := y2
    have y3' : 0 ≤ x ∧ x < 256 := ⟨y3, y4⟩
    rw [y1', Int.natCast_add] at c
    have ih := ih (k + 1) fuel ⟨by omega, fun i hi => by
      have := w2 (i + 1) (by rw [List.length_cons]; omega)
      rw [show o + (k + 1) + i = o + k + (i + 1) by omega]
      exact this, by rw [show o + (k + 1) + v.length = o + k + (v.length + 1) by omega]; exact w3⟩ (by omega)
    have h3 := h.1
    have l26 := h.2.2.2.1
    rw [List.length_cons]
    show nb_X10_keyAt_15 F s n4 (nl_X10_keyAt_15 F s n4 m fuel) m 23 _ _ _ = _
    by_cases ce : e ≤ p + k
    · rw [if_neg (by omega)]
      unfold nb_X10_keyAt_15 nb_X10_keyAt_69
      simp (disch := omega) only [Option.bind_some, bindv, bindv0, bind2_s, bind3_s, ↓reduceIte, Bool.false_eq_true, rZM_0, rZM_1, rZP_0, rZP_1, ptZ_0, ptZ_1, c32i, c64i, ncI, Int.natCast_add, Int.natCast_mul, q32_neg, q64_neg, q32_add, q32_sub, q32_mul, q64_add, q64_sub, q64_mul, q32_64i, q64_32, q32_lt_t, q32_lt_f, q32_le_t, q32_le_f, q32_eq_t, q32_eq_f, q64_lt_t, q64_lt_f, q64_le_t, q64_le_f, q64_eq_t, q64_eq_f, rdI_i, rdL_i, rdR_i, rdN_i, stI_i, stL_i, stR_i, wI_s, wI_n, wL_s, wL_n, wI_2, wI_3, wL_1, wL_3, wR_1, wR_2, Int.toNat_natCast, tnO, tn_add, tn_sub, tn_mul, Nat.add_sub_cancel, Nat.add_zero, Nat.zero_add, lnO, win_t, win_f, c, h6, h7]
    · obtain ⟨u1, u2⟩ := h.2.2.2.2 (p + k) (by omega)
      have en : ((p : Int) + (k : Int)).toNat = p + k := by omega
      by_cases ct : T (p + k) = x
      · have ee : eqB T (p + k) (x :: v) = eqB T (p + (k + 1)) v := by
          show (decide (T (p + k) = x) && eqB T (p + k + 1) v) = _
          rw [decide_eq_true ct]; rfl
        rw [ee, show p + k + (v.length + 1) = p + (k + 1) + v.length by omega, ← ih, Int.natCast_add k]
        rw [ct] at u1
        unfold nb_X10_keyAt_15
        simp (disch := omega) only [Option.bind_some, bindv, bindv0, bind2_s, bind3_s, ↓reduceIte, Bool.false_eq_true, rZM_0, rZM_1, rZP_0, rZP_1, ptZ_0, ptZ_1, c32i, c64i, ncI, Int.natCast_add, Int.natCast_mul, q32_neg, q64_neg, q32_add, q32_sub, q32_mul, q64_add, q64_sub, q64_mul, q32_64i, q64_32, q32_lt_t, q32_lt_f, q32_le_t, q32_le_f, q32_eq_t, q32_eq_f, q64_lt_t, q64_lt_f, q64_le_t, q64_le_f, q64_eq_t, q64_eq_f, rdI_i, rdL_i, rdR_i, rdN_i, stI_i, stL_i, stR_i, wI_s, wI_n, wL_s, wL_n, wI_2, wI_3, wL_1, wL_3, wR_1, wR_2, Int.toNat_natCast, c, h6, h7, h3, en, u1]
        first | done | rfl
      · have ee : eqB T (p + k) (x :: v) = false := by
          show (decide (T (p + k) = x) && eqB T (p + k + 1) v) = _
          rw [decide_eq_false ct]; rfl
        rw [ee, if_neg (fun h => by cases h.2)]
        unfold nb_X10_keyAt_15 nb_X10_keyAt_69
        simp (disch := omega) only [Option.bind_some, bindv, bindv0, bind2_s, bind3_s, ↓reduceIte, Bool.false_eq_true, rZM_0, rZM_1, rZP_0, rZP_1, ptZ_0, ptZ_1, c32i, c64i, ncI, Int.natCast_add, Int.natCast_mul, q32_neg, q64_neg, q32_add, q32_sub, q32_mul, q64_add, q64_sub, q64_mul, q32_64i, q64_32, q32_lt_t, q32_lt_f, q32_le_t, q32_le_f, q32_eq_t, q32_eq_f, q64_lt_t, q64_lt_f, q64_le_t, q64_le_f, q64_eq_t, q64_eq_f, rdI_i, rdL_i, rdR_i, rdN_i, stI_i, stL_i, stR_i, wI_s, wI_n, wL_s, wL_n, wI_2, wI_3, wL_1, wL_3, wR_1, wR_2, Int.toNat_natCast, c, h6, h7, h3, en, u1]
theorem keyW {F : Nat} (hF : 20000 ≤ F) {s : List Sh} {m : Mem} {N p e : Nat} {T : Nat → Int} (h : TXR s m N T) (h6 : m.1 23 6 = q32 (p : Nat)) (h7 : m.1 23 7 = q32 (e : Nat)) (hpe : p ≤ e ∧ e ≤ N) {v1 o fuel : Nat} {v : List Int} (hw : WAT o v) : nl_X10_keyAt_4 F s m (fuel + 1) 23 (q32 (v1 : Nat)) (q32 (o : Nat)) = if e - p = v.length ∧ eqB T p v = true then some (q32 (v1 : Nat)) else nl_X10_keyAt_4 F s m fuel 23 (q32 (v1 + 1 : Nat)) (q32 (o + v.length + 1 : Nat)) := by
  have w1 := hw.1
  have c := keyC (F := F) h h6 h7 hpe (nl_X10_keyAt_4 F s m fuel) (v1 := v1) (o := o) v 0 F (by rw [Nat.add_zero]; exact hw) (by omega)
  have sk := keyS (F := F) (s := s) (m := m) (nl_X10_keyAt_4 F s m fuel) (v1 := v1) v o F hw (by omega)
  have l8 := le8
  rw [← sk]
  show nb_X10_keyAt_4 F s (nl_X10_keyAt_4 F s m fuel) m 23 _ _ = _
  have c' : nl_X10_keyAt_15 F s (nl_X10_keyAt_4 F s m fuel) m F 23 (q32 (v1 : Nat)) (q32 (o : Nat)) (q32 0) = if e - p = v.length ∧ eqB T p v = true then some (q32 (v1 : Nat)) else nl_X10_keyAt_97 F s (nl_X10_keyAt_4 F s m fuel) m F 23 (q32 (v1 : Nat)) (q32 (o : Nat)) := by
    have c2 : nl_X10_keyAt_15 F s (nl_X10_keyAt_4 F s m fuel) m F 23 (q32 (v1 : Nat)) (q32 (o : Nat)) (q32 0) = _ := c
    rw [c2]
    by_cases cc : e - p = v.length ∧ eqB T p v = true
    · rw [if_pos cc, if_pos ⟨by omega, cc.2⟩]
    · rw [if_neg cc, if_neg (fun h => cc ⟨by omega, h.2⟩)]
  rw [← c']
  unfold nb_X10_keyAt_4
  simp (disch := omega) only [Option.bind_some, bindv, bindv0, bind2_s, bind3_s, ↓reduceIte, Bool.false_eq_true, rZM_0, rZM_1, rZP_0, rZP_1, ptZ_0, ptZ_1, c32i, c64i, ncI, Int.natCast_add, Int.natCast_mul, q32_neg, q64_neg, q32_add, q32_sub, q32_mul, q64_add, q64_sub, q64_mul, q32_64i, q64_32, q32_lt_t, q32_lt_f, q32_le_t, q32_le_f, q32_eq_t, q32_eq_f, q64_lt_t, q64_lt_f, q64_le_t, q64_le_f, q64_eq_t, q64_eq_f, rdI_i, rdL_i, rdR_i, rdN_i, stI_i, stL_i, stR_i, wI_s, wI_n, wL_s, wL_n, wI_2, wI_3, wL_1, wL_3, wR_1, wR_2, Int.toNat_natCast, tnO, tn_add, tn_sub, tn_mul, Nat.add_sub_cancel, Nat.add_zero, Nat.zero_add, lnO, win_t, win_f, l8]
theorem wat (k : Nat) (o : Nat) (v : List Int) (h : decide (o + v.length < 40) && (List.range v.length).all (fun i => decide (st8.getD (o + i) 0 = v.getD i 0) && decide (v.getD i 0 ≠ 32) && decide (0 ≤ v.getD i 0) && decide (v.getD i 0 < 256)) && decide (st8.getD (o + v.length) 0 = 32) = true) : WAT o v := by
  rw [Bool.and_eq_true, Bool.and_eq_true, decide_eq_true_eq, decide_eq_true_eq, List.all_eq_true] at h
  refine ⟨by simpa using h.1.1, fun i hi => ?_, of_decide_eq_true h.2⟩
  have := h.1.2 i (List.mem_range.mpr hi)
  simp only [Bool.and_eq_true, decide_eq_true_eq] at this
  exact ⟨this.1.1.1, this.1.1.2, this.1.2, this.2⟩
/-- the reference's word for a kind of the class's -/
def rk (k : Int) : Int := if k = 0 then 18 else if k = 1 then 17 else if k = 2 then 16 else if k = 3 then 15 else if k = 4 then 0 else if k = 5 then 1 else if k = 6 then 2 else if k = 10 then 3 else if k = 7 then 4 else if k = 8 then 5 else if k = 9 then 6 else if k = 11 then 7 else if k = 59 then 20 else if k = 58 then 21 else if k = 43 then 22 else if k = 45 then 23 else if k = 42 then 24 else if k = 47 then 25 else if k = 40 then 26 else 27
theorem key10 {F : Nat} (hF : 20000 ≤ F) {s : List Sh} {m : Mem} {N p e : Nat} {T : Nat → Int} (h : TXR s m N T) (h6 : m.1 23 6 = q32 (p : Nat)) (h7 : m.1 23 7 = q32 (e : Nat)) (hpe : p ≤ e ∧ e ≤ N) : n_X10_keyAt F s m 23 = some (q32 (rk (wkT T p (e - p)))) := by
  obtain ⟨G, rfl⟩ : ∃ G, F = G + 9 := ⟨F - 9, by omega⟩
  have k0 := keyW hF h h6 h7 hpe (v1 := 0) (o := 1) (fuel := G + 8) (v := wd 1) (wat 0 _ _ (by decide))
  have k1 := keyW hF h h6 h7 hpe (v1 := 1) (o := 5) (fuel := G + 7) (v := wd 2) (wat 0 _ _ (by decide))
  have k2 := keyW hF h h6 h7 hpe (v1 := 2) (o := 12) (fuel := G + 6) (v := wd 3) (wat 0 _ _ (by decide))
  have k3 := keyW hF h h6 h7 hpe (v1 := 3) (o := 18) (fuel := G + 5) (v := wd 4) (wat 0 _ _ (by decide))
  have k4 := keyW hF h h6 h7 hpe (v1 := 4) (o := 22) (fuel := G + 4) (v := wd 5) (wat 0 _ _ (by decide))
  have k5 := keyW hF h h6 h7 hpe (v1 := 5) (o := 29) (fuel := G + 3) (v := wd 6) (wat 0 _ _ (by decide))
  have k6 := keyW hF h h6 h7 hpe (v1 := 6) (o := 32) (fuel := G + 2) (v := wd 7) (wat 0 _ _ (by decide))
  have k7 := keyW hF h h6 h7 hpe (v1 := 7) (o := 38) (fuel := G + 1) (v := wd 0) (wat 0 _ _ (by decide))
  have k8 : nl_X10_keyAt_4 (G + 9) s m (G + 1) 23 (q32 ((7 + 1 : Nat) : Int)) (q32 ((38 + (wd 0).length + 1 : Nat) : Int)) = some (q32 15) := by
    have l8 := le8
    show nb_X10_keyAt_4 (G + 9) s (nl_X10_keyAt_4 (G + 9) s m G) m 23 (q32 8) (q32 40) = _
    unfold nb_X10_keyAt_4
    simp (disch := omega) only [Option.bind_some, bindv, bindv0, bind2_s, bind3_s, ↓reduceIte, Bool.false_eq_true, rZM_0, rZM_1, rZP_0, rZP_1, ptZ_0, ptZ_1, c32i, c64i, ncI, Int.natCast_add, Int.natCast_mul, q32_neg, q64_neg, q32_add, q32_sub, q32_mul, q64_add, q64_sub, q64_mul, q32_64i, q64_32, q32_lt_t, q32_lt_f, q32_le_t, q32_le_f, q32_eq_t, q32_eq_f, q64_lt_t, q64_lt_f, q64_le_t, q64_le_f, q64_eq_t, q64_eq_f, rdI_i, rdL_i, rdR_i, rdN_i, stI_i, stL_i, stR_i, wI_s, wI_n, wL_s, wL_n, wI_2, wI_3, wL_1, wL_3, wR_1, wR_2, Int.toNat_natCast, tnO, tn_add, tn_sub, tn_mul, Nat.add_sub_cancel, Nat.add_zero, Nat.zero_add, lnO, win_t, win_f, l8]
  have start : n_X10_keyAt (G + 9) s m 23 = nl_X10_keyAt_4 (G + 9) s m (G + 8 + 1) 23 (q32 ((0 : Nat) : Int)) (q32 ((1 : Nat) : Int)) := rfl
  rw [start, k0]
  have dis : ∀ a b : Nat, a < 8 → b < 8 → a ≠ b → ¬ (WIS T p (e - p) a ∧ WIS T p (e - p) b) := by
    have key : ∀ (u w : List Int) (q : Nat), u.length = w.length → eqB T q u = true → eqB T q w = true → u = w := by
      intro u
      induction u with
      | nil => intro w q hl _ _; cases w with | nil => rfl | cons _ _ => cases hl
      | cons x u ih =>
        intro w q hl h1 h2
        cases w with
        | nil => cases hl
        | cons y w =>
          have h1' : (decide (T q = x) && eqB T (q + 1) u) = true := h1
          have h2' : (decide (T q = y) && eqB T (q + 1) w) = true := h2
          rw [Bool.and_eq_true, decide_eq_true_eq] at h1' h2'
          rw [ih w (q + 1) (by simpa using hl) h1'.2 h2'.2, ← h1'.1, ← h2'.1]
    intro a b ha hb hab hh
    have := key (wd a) (wd b) p (by rw [← hh.1.1, ← hh.2.1]) hh.1.2 hh.2.2
    have all : ∀ a, a < 8 → ∀ b, b < 8 → wd a = wd b → a = b := by decide
    exact hab (all a ha b hb this)
  unfold wkT
  by_cases c1 : WIS T p (e - p) 1
  · rw [if_pos (show e - p = (wd 1).length ∧ _ from c1), if_neg (fun h => dis 0 1 (by omega) (by omega) (by omega) ⟨h, c1⟩), if_pos c1]; rfl
  rw [if_neg (show ¬ (e - p = (wd 1).length ∧ _) from c1)]
  rw [show nl_X10_keyAt_4 (G + 9) s m (G + 8) 23 (q32 ((0 + 1 : Nat) : Int)) (q32 ((1 + (wd 1).length + 1 : Nat) : Int)) = nl_X10_keyAt_4 (G + 9) s m (G + 7 + 1) 23 (q32 ((1 : Nat) : Int)) (q32 ((5 : Nat) : Int)) from rfl, k1]
  by_cases c2 : WIS T p (e - p) 2
  · rw [if_pos (show e - p = (wd 2).length ∧ _ from c2), if_neg (fun h => dis 0 2 (by omega) (by omega) (by omega) ⟨h, c2⟩), if_neg c1, if_pos c2]; rfl
  rw [if_neg (show ¬ (e - p = (wd 2).length ∧ _) from c2)]
  rw [show nl_X10_keyAt_4 (G + 9) s m (G + 7) 23 (q32 ((1 + 1 : Nat) : Int)) (q32 ((5 + (wd 2).length + 1 : Nat) : Int)) = nl_X10_keyAt_4 (G + 9) s m (G + 6 + 1) 23 (q32 ((2 : Nat) : Int)) (q32 ((12 : Nat) : Int)) from rfl, k2]
  by_cases c3 : WIS T p (e - p) 3
  · rw [if_pos (show e - p = (wd 3).length ∧ _ from c3), if_neg (fun h => dis 0 3 (by omega) (by omega) (by omega) ⟨h, c3⟩), if_neg c1, if_neg c2, if_pos c3]; rfl
  rw [if_neg (show ¬ (e - p = (wd 3).length ∧ _) from c3)]
  rw [show nl_X10_keyAt_4 (G + 9) s m (G + 6) 23 (q32 ((2 + 1 : Nat) : Int)) (q32 ((12 + (wd 3).length + 1 : Nat) : Int)) = nl_X10_keyAt_4 (G + 9) s m (G + 5 + 1) 23 (q32 ((3 : Nat) : Int)) (q32 ((18 : Nat) : Int)) from rfl, k3]
  by_cases c4 : WIS T p (e - p) 4
  · rw [if_pos (show e - p = (wd 4).length ∧ _ from c4), if_neg (fun h => dis 0 4 (by omega) (by omega) (by omega) ⟨h, c4⟩), if_neg c1, if_neg c2, if_neg c3, if_pos c4]; rfl
  rw [if_neg (show ¬ (e - p = (wd 4).length ∧ _) from c4)]
  rw [show nl_X10_keyAt_4 (G + 9) s m (G + 5) 23 (q32 ((3 + 1 : Nat) : Int)) (q32 ((18 + (wd 4).length + 1 : Nat) : Int)) = nl_X10_keyAt_4 (G + 9) s m (G + 4 + 1) 23 (q32 ((4 : Nat) : Int)) (q32 ((22 : Nat) : Int)) from rfl, k4]
  by_cases c5 : WIS T p (e - p) 5
  · rw [if_pos (show e - p = (wd 5).length ∧ _ from c5), if_neg (fun h => dis 0 5 (by omega) (by omega) (by omega) ⟨h, c5⟩), if_neg c1, if_neg c2, if_neg c3, if_neg c4, if_pos c5]; rfl
  rw [if_neg (show ¬ (e - p = (wd 5).length ∧ _) from c5)]
  rw [show nl_X10_keyAt_4 (G + 9) s m (G + 4) 23 (q32 ((4 + 1 : Nat) : Int)) (q32 ((22 + (wd 5).length + 1 : Nat) : Int)) = nl_X10_keyAt_4 (G + 9) s m (G + 3 + 1) 23 (q32 ((5 : Nat) : Int)) (q32 ((29 : Nat) : Int)) from rfl, k5]
  by_cases c6 : WIS T p (e - p) 6
  · rw [if_pos (show e - p = (wd 6).length ∧ _ from c6), if_neg (fun h => dis 0 6 (by omega) (by omega) (by omega) ⟨h, c6⟩), if_neg c1, if_neg c2, if_neg c3, if_neg c4, if_neg c5, if_pos c6]; rfl
  rw [if_neg (show ¬ (e - p = (wd 6).length ∧ _) from c6)]
  rw [show nl_X10_keyAt_4 (G + 9) s m (G + 3) 23 (q32 ((5 + 1 : Nat) : Int)) (q32 ((29 + (wd 6).length + 1 : Nat) : Int)) = nl_X10_keyAt_4 (G + 9) s m (G + 2 + 1) 23 (q32 ((6 : Nat) : Int)) (q32 ((32 : Nat) : Int)) from rfl, k6]
  by_cases c7 : WIS T p (e - p) 7
  · rw [if_pos (show e - p = (wd 7).length ∧ _ from c7), if_neg (fun h => dis 0 7 (by omega) (by omega) (by omega) ⟨h, c7⟩), if_neg c1, if_neg c2, if_neg c3, if_neg c4, if_neg c5, if_neg c6, if_pos c7]; rfl
  rw [if_neg (show ¬ (e - p = (wd 7).length ∧ _) from c7)]
  rw [show nl_X10_keyAt_4 (G + 9) s m (G + 2) 23 (q32 ((6 + 1 : Nat) : Int)) (q32 ((32 + (wd 7).length + 1 : Nat) : Int)) = nl_X10_keyAt_4 (G + 9) s m (G + 1 + 1) 23 (q32 ((7 : Nat) : Int)) (q32 ((38 : Nat) : Int)) from rfl, k7]
  by_cases c0 : WIS T p (e - p) 0
  · rw [if_pos (show e - p = (wd 0).length ∧ _ from c0), if_pos c0]; rfl
  rw [if_neg (show ¬ (e - p = (wd 0).length ∧ _) from c0), k8, if_neg c0, if_neg c1, if_neg c2, if_neg c3, if_neg c4, if_neg c5, if_neg c6, if_neg c7]
  rfl
