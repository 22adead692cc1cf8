/-! a row that fits is taken -/
def CDE (P : Nat → Nat) : Nat → Nat → Nat → Nat
  | 0, _, x => x
  | n + 1, k, x => CDE P n (k + 1) (6 * x + P k)
theorem takeL9 {F : Nat} {s : List Sh} {w sz c : Nat} {v : Int} (hv : B31 v) {P : Nat → Nat} (hsz : sz ≤ 8) (hP : ∀ i, i < sz → P i < 6) (l1 : ln s (w + 1) = 8) (l2 : ln s (w + 2) = 8) (hc : c ≤ 2000000) : ∀ (n fuel : Nat), n < fuel → ∀ (m : Mem) (k x : Nat), k + n = sz → m.2.2 w 2 = some (w + 1) → m.2.2 w 3 = some (w + 2) → m.1 w 0 = q32 c → m.1 w 7 = q32 v → (∀ i, i < sz → m.1 (w + 2) i = q32 (P i)) → x < 6 ^ k → ∃ m', nl_X8_takeRow_4 F s fuel m w (q32 sz) (q32 x) (q32 k) = some ((), m') ∧ m'.2 = m.2 ∧ (∀ a j, (a ≠ w ∨ (j ≠ 0 ∧ j ≠ 1)) → (a ≠ w + 1 ∨ j < k ∨ sz ≤ j) → m'.1 a j = m.1 a j) ∧ m'.1 w 0 = q32 ((c + 1 : Nat) : Int) ∧ m'.1 w 1 = (if (c : Int) = v then q32 (CDE P n k x : Nat) else m.1 w 1) ∧ ∀ i, k ≤ i → i < sz → m'.1 (w + 1) i = if c = 0 then q32 (P i) else if m.1 (w + 1) i = q32 (P i) then q32 (P i) else q32 (-1) := by
  intro n
  induction n with
  | zero =>
    intro fuel hf m k x hk r2 r3 h0 h7 hr hx
    obtain ⟨fuel, rfl⟩ : ∃ f, fuel = f + 1 := ⟨fuel - 1, by omega⟩
    unfold CDE
    by_cases cv : (c : Int) = v
    · rw [if_pos cv]
      refine ⟨wI (wI m w 1 (q32 x)) w 0 (q32 ((c : Int) + 1)), ?_, rfl, fun a j h1 h2 => by rw [wI_n (by omega), wI_n (by omega)], by rw [wI_s]; rfl, by rw [wI_n (by omega), wI_s], fun i h1 h2 => by omega⟩
      show nb_X8_takeRow_4 F s (nl_X8_takeRow_4 F s fuel) m w _ _ _ = _
      unfold nb_X8_takeRow_4 nb_X8_takeRow_87
      subst cv
      simp (disch := omega) only [Option.bind_some, bindv, bindv0, bind2_s, bind3_s, ↓reduceIte, Bool.false_eq_true, rZM_0, rZM_1, rZP_0, rZP_1, ptZ_0, ptZ_1, c32i, c64i, ncI, Int.natCast_add, Int.natCast_mul, q32_neg, q64_neg, q32_add, q32_sub, q32_mul, q64_add, q64_sub, q64_mul, q32_64i, q64_32, q32_lt_t, q32_lt_f, q32_le_t, q32_le_f, q32_eq_t, q32_eq_f, q64_lt_t, q64_lt_f, q64_le_t, q64_le_f, q64_eq_t, q64_eq_f, rdI_i, rdL_i, rdR_i, rdN_i, stI_i, stL_i, stR_i, wI_s, wI_n, wL_s, wL_n, wI_2, wI_3, wL_1, wL_3, wR_1, wR_2, Int.toNat_natCast, tnO, tn_add, tn_sub, tn_mul, Nat.add_sub_cancel, Nat.add_zero, Nat.zero_add, lnO, win_t, win_f, h0, h7]
    · rw [if_neg cv]
      refine ⟨wI m w 0 (q32 ((c : Int) + 1)), ?_, rfl, fun a j h1 h2 => by rw [wI_n (by omega)], by rw [wI_s]; rfl, by rw [wI_n (by omega)], fun i h1 h2 => by omega⟩
      show nb_X8_takeRow_4 F s (nl_X8_takeRow_4 F s fuel) m w _ _ _ = _
      unfold nb_X8_takeRow_4 nb_X8_takeRow_87
      simp (disch := omega) only [Option.bind_some, bindv, bindv0, bind2_s, bind3_s, ↓reduceIte, Bool.false_eq_true, rZM_0, rZM_1, rZP_0, rZP_1, ptZ_0, ptZ_1, c32i, c64i, ncI, Int.natCast_add, Int.natCast_mul, q32_neg, q64_neg, q32_add, q32_sub, q32_mul, q64_add, q64_sub, q64_mul, q32_64i, q64_32, q32_lt_t, q32_lt_f, q32_le_t, q32_le_f, q32_eq_t, q32_eq_f, q64_lt_t, q64_lt_f, q64_le_t, q64_le_f, q64_eq_t, q64_eq_f, rdI_i, rdL_i, rdR_i, rdN_i, stI_i, stL_i, stR_i, wI_s, wI_n, wL_s, wL_n, wI_2, wI_3, wL_1, wL_3, wR_1, wR_2, Int.toNat_natCast, tnO, tn_add, tn_sub, tn_mul, Nat.add_sub_cancel, Nat.add_zero, Nat.zero_add, lnO, win_t, win_f, h0, h7]
  | succ n ih =>
    intro fuel hf m k x hk r2 r3 h0 h7 hr hx
    obtain ⟨fuel, rfl⟩ : ∃ f, fuel = f + 1 := ⟨fuel - 1, by omega⟩
    have hPk := hP k (by omega)
    have hrk := hr k (by omega)
    have p8 : 6 ^ k ≤ 6 ^ 8 := Nat.pow_le_pow_right (by omega) (by omega)
    have p8e : 6 ^ 8 = 1679616 := rfl
    have hx2 : 6 * x + P k < 6 ^ (k + 1) := by rw [Nat.pow_succ]; omega
    -- the next places, behind a memory that differs in place k alone
    have go : ∀ y : Int32, ∃ m', nl_X8_takeRow_4 F s fuel (wI m (w + 1) k y) w (q32 sz) (q32 ((6 * x + P k : Nat) : Int)) (q32 ((k : Int) + 1)) = some ((), m') ∧ m'.2 = m.2 ∧ (∀ a j, (a ≠ w ∨ (j ≠ 0 ∧ j ≠ 1)) → (a ≠ w + 1 ∨ j < k ∨ sz ≤ j) → m'.1 a j = m.1 a j) ∧ m'.1 w 0 = q32 ((c + 1 : Nat) : Int) ∧ m'.1 w 1 = (if (c : Int) = v then q32 (CDE P (n + 1) k x : Nat) else m.1 w 1) ∧ m'.1 (w + 1) k = y ∧ ∀ i, k + 1 ≤ i → i < sz → m'.1 (w + 1) i = if c = 0 then q32 (P i) else if m.1 (w + 1) i = q32 (P i) then q32 (P i) else q32 (-1) := fun y => by
      obtain ⟨m', e1, e2, e3, e4, e5, e6⟩ := ih fuel (by omega) (wI m (w + 1) k y) (k + 1) (6 * x + P k) (by omega) r2 r3 (by rw [wI_n (by omega)]; exact h0) (by rw [wI_n (by omega)]; exact h7) (fun i hi => by rw [wI_n (by omega)]; exact hr i hi) hx2
      rw [Int.natCast_add k] at e1
      refine ⟨m', e1, e2, fun a j h1 h2 => by rw [e3 a j h1 (by omega), wI_n (by omega)], e4, by rw [e5, wI_n (by omega)]; rfl, by rw [e3 (w + 1) k (by omega) (by omega), wI_s], fun i h1 h2 => ?_⟩
      rw [e6 i h1 h2, wI_n (by omega)]
    have ex : q32 ((6 * x + P k : Nat) : Int) = q32 ((x : Int) * 6 + P k) := by congr 1; omega
    have fin : ∀ (y : Int32), (y = if c = 0 then q32 (P k) else if m.1 (w + 1) k = q32 (P k) then q32 (P k) else q32 (-1)) → nl_X8_takeRow_4 F s (fuel + 1) m w (q32 sz) (q32 x) (q32 k) = nl_X8_takeRow_4 F s fuel (wI m (w + 1) k y) w (q32 sz) (q32 ((6 * x + P k : Nat) : Int)) (q32 ((k : Int) + 1)) → ∃ m', nl_X8_takeRow_4 F s (fuel + 1) m w (q32 sz) (q32 x) (q32 k) = some ((), m') ∧ m'.2 = m.2 ∧ (∀ a j, (a ≠ w ∨ (j ≠ 0 ∧ j ≠ 1)) → (a ≠ w + 1 ∨ j < k ∨ sz ≤ j) → m'.1 a j = m.1 a j) ∧ m'.1 w 0 = q32 ((c + 1 : Nat) : Int) ∧ m'.1 w 1 = (if (c : Int) = v then q32 (CDE P (n + 1) k x : Nat) else m.1 w 1) ∧ ∀ i, k ≤ i → i < sz → m'.1 (w + 1) i = if c = 0 then q32 (P i) else if m.1 (w + 1) i = q32 (P i) then q32 (P i) else q32 (-1) := fun y hy st => by
      obtain ⟨m', e1, e2, e3, e4, e5, e6, e7⟩ := go y
      refine ⟨m', st.trans e1, e2, e3, e4, e5, fun i h1 h2 => ?_⟩
      by_cases e : i = k
      · subst e; rw [e6]; exact hy
      · exact e7 i (by omega) h2
    have same : ∀ y, m.1 (w + 1) k = y → wI m (w + 1) k y = m := fun y hy => by
      refine Prod.ext (funext fun a => funext fun j => ?_) rfl
      rw [wI_1]
      split
      · rename_i h; rw [h.1, h.2, hy]
      · rfl
    by_cases c0 : c = 0
    · refine fin (q32 (P k)) (by rw [if_pos c0]) ?_
      show nb_X8_takeRow_4 F s (nl_X8_takeRow_4 F s fuel) m w _ _ _ = _
      unfold nb_X8_takeRow_4 nb_X8_takeRow_65
      rw [ex]
      simp (disch := omega) only [Option.bind_some, bindv, bindv0, bind2_s, bind3_s, ↓reduceIte, Bool.false_eq_true, rZM_0, rZM_1, rZP_0, rZP_1, ptZ_0, ptZ_1, c32i, c64i, ncI, Int.natCast_add, Int.natCast_mul, q32_neg, q64_neg, q32_add, q32_sub, q32_mul, q64_add, q64_sub, q64_mul, q32_64i, q64_32, q32_lt_t, q32_lt_f, q32_le_t, q32_le_f, q32_eq_t, q32_eq_f, q64_lt_t, q64_lt_f, q64_le_t, q64_le_f, q64_eq_t, q64_eq_f, rdI_i, rdL_i, rdR_i, rdN_i, stI_i, stL_i, stR_i, wI_s, wI_n, wL_s, wL_n, wI_2, wI_3, wL_1, wL_3, wR_1, wR_2, Int.toNat_natCast, tnO, tn_add, tn_sub, tn_mul, Nat.add_sub_cancel, Nat.add_zero, Nat.zero_add, lnO, win_t, win_f, h0, r2, r3, hrk]
    · by_cases c1 : m.1 (w + 1) k = q32 (P k)
      · refine fin (q32 (P k)) (by rw [if_neg c0, if_pos c1]) ?_
        rw [same _ c1]
        show nb_X8_takeRow_4 F s (nl_X8_takeRow_4 F s fuel) m w _ _ _ = _
        unfold nb_X8_takeRow_4 nb_X8_takeRow_65
        rw [ex]
        simp (disch := omega) only [Option.bind_some, bindv, bindv0, bind2_s, bind3_s, ↓reduceIte, Bool.false_eq_true, rZM_0, rZM_1, rZP_0, rZP_1, ptZ_0, ptZ_1, c32i, c64i, ncI, Int.natCast_add, Int.natCast_mul, q32_neg, q64_neg, q32_add, q32_sub, q32_mul, q64_add, q64_sub, q64_mul, q32_64i, q64_32, q32_lt_t, q32_lt_f, q32_le_t, q32_le_f, q32_eq_t, q32_eq_f, q64_lt_t, q64_lt_f, q64_le_t, q64_le_f, q64_eq_t, q64_eq_f, rdI_i, rdL_i, rdR_i, rdN_i, stI_i, stL_i, stR_i, wI_s, wI_n, wL_s, wL_n, wI_2, wI_3, wL_1, wL_3, wR_1, wR_2, Int.toNat_natCast, tnO, tn_add, tn_sub, tn_mul, Nat.add_sub_cancel, Nat.add_zero, Nat.zero_add, lnO, win_t, win_f, h0, r2, r3, hrk, c1]
      · refine fin (q32 (-1)) (by rw [if_neg c0, if_neg c1]) ?_
        show nb_X8_takeRow_4 F s (nl_X8_takeRow_4 F s fuel) m w _ _ _ = _
        unfold nb_X8_takeRow_4 nb_X8_takeRow_65
        rw [ex]
        simp (disch := omega) only [Option.bind_some, bindv, bindv0, bind2_s, bind3_s, ↓reduceIte, Bool.false_eq_true, rZM_0, rZM_1, rZP_0, rZP_1, ptZ_0, ptZ_1, c32i, c64i, ncI, Int.natCast_add, Int.natCast_mul, q32_neg, q64_neg, q32_add, q32_sub, q32_mul, q64_add, q64_sub, q64_mul, q32_64i, q64_32, q32_lt_t, q32_lt_f, q32_le_t, q32_le_f, q32_eq_t, q32_eq_f, q64_lt_t, q64_lt_f, q64_le_t, q64_le_f, q64_eq_t, q64_eq_f, rdI_i, rdL_i, rdR_i, rdN_i, stI_i, stL_i, stR_i, wI_s, wI_n, wL_s, wL_n, wI_2, wI_3, wL_1, wL_3, wR_1, wR_2, Int.toNat_natCast, tnO, tn_add, tn_sub, tn_mul, Nat.add_sub_cancel, Nat.add_zero, Nat.zero_add, lnO, win_t, win_f, h0, r2, r3, hrk, c1]
theorem tallyL10 {nrc : Mem → Nat → Int32 → Int32 → Int64 → Int64 → Option (Unit × Mem)} {F : Nat} {s : List Sh} (hp : ∃ t, s = sB ++ t) {sz c : Nat} {v : Int} (hv : B31 v) {P : Nat → Nat} (hsz : sz ≤ 8) (hP : ∀ i, i < sz → P i < 6) (hc : c ≤ 2000000) : ∀ (n fuel : Nat), n < fuel → ∀ (m : Mem) (k : Nat), k + n = sz → RF m → m.1 23 46 = q32 c → m.1 23 47 = q32 v → (∀ i, i < sz → m.1 44 i = q32 (P i)) → ∃ m', nl_X10_goesFit_13 nrc F s fuel m 23 (q32 sz) (q32 k) = some ((), m') ∧ m'.2 = m.2 ∧ (∀ a j, (a ≠ 23 ∨ j ≠ 46) → a ≠ 45 → a ≠ 46 → m'.1 a j = m.1 a j) ∧ m'.1 23 46 = q32 ((c + 1 : Nat) : Int) ∧ (∀ i, m'.1 45 i = if k ≤ i ∧ i < sz ∧ (c : Int) = v then q32 (P i) else m.1 45 i) ∧ ∀ i b, b < 6 → m'.1 46 (6 * i + b) = if k ≤ i ∧ i < sz ∧ b = P i then m.1 46 (6 * i + b) + 1 else m.1 46 (6 * i + b) := by
  have l44 := ln44 hp
  have l45 := ln45 hp
  have l46 := ln46 hp
  intro n
  induction n with
  | zero =>
    intro fuel hf m k hk hr h46 h47 hR
    obtain ⟨fuel, rfl⟩ : ∃ f, fuel = f + 1 := ⟨fuel - 1, by omega⟩
    refine ⟨wI m 23 46 (q32 ((c : Int) + 1)), ?_, rfl, fun a j h1 h2 h3 => wI_n h1, by rw [wI_s]; rfl, fun i => by rw [if_neg (by omega), wI_n (by omega)], fun i b hb => by rw [if_neg (by omega), wI_n (by omega)]⟩
    show nb_X10_goesFit_13 nrc F s (nl_X10_goesFit_13 nrc F s fuel) m 23 _ _ = _
    unfold nb_X10_goesFit_13
    simp (disch := omega) only [Option.bind_some, bindv, bindv0, bind2_s, bind3_s, ↓reduceIte, Bool.false_eq_true, rZM_0, rZM_1, rZP_0, rZP_1, ptZ_0, ptZ_1, c32i, c64i, ncI, Int.natCast_add, Int.natCast_mul, q32_neg, q64_neg, q32_add, q32_sub, q32_mul, q64_add, q64_sub, q64_mul, q32_64i, q64_32, q32_lt_t, q32_lt_f, q32_le_t, q32_le_f, q32_eq_t, q32_eq_f, q64_lt_t, q64_lt_f, q64_le_t, q64_le_f, q64_eq_t, q64_eq_f, rdI_i, rdL_i, rdR_i, rdN_i, stI_i, stL_i, stR_i, wI_s, wI_n, wL_s, wL_n, wI_2, wI_3, wL_1, wL_3, wR_1, wR_2, Int.toNat_natCast, tnO, tn_add, tn_sub, tn_mul, Nat.add_sub_cancel, Nat.add_zero, Nat.zero_add, lnO, win_t, win_f, h46]
  | succ n ih =>
    intro fuel hf m k hk hr h46 h47 hR
    obtain ⟨fuel, rfl⟩ : ∃ f, fuel = f + 1 := ⟨fuel - 1, by omega⟩
    have r43 := rf23_43 hr
    have r44 := rf23_44 hr
    have r45 := rf23_45 hr
    have hPk := hP k (by omega)
    have hrk := hR k (by omega)
    have e6 : ((6 : Int) * k + P k).toNat = 6 * k + P k := by omega
    obtain ⟨m', i1, i2, i3, i4, i5, i6⟩ := ih fuel (by omega) (wI (wI m 46 (6 * k + P k) (m.1 46 (6 * k + P k) + 1)) 45 k (if (c : Int) = v then q32 (P k) else m.1 45 k)) (k + 1) (by omega) (hr.same rfl) (by rw [wI_n (by omega), wI_n (by omega)]; exact h46) (by rw [wI_n (by omega), wI_n (by omega)]; exact h47) (fun i hi => by rw [wI_n (by omega), wI_n (by omega)]; exact hR i hi)
    rw [Int.natCast_add k] at i1
    refine ⟨m', ?_, i2, fun a j h1 h2 h3 => by rw [i3 a j h1 h2 h3, wI_n (by omega), wI_n (by omega)], i4, fun i => ?_, fun i b hb => ?_⟩
    · refine Eq.trans ?_ i1
      show nb_X10_goesFit_13 nrc F s (nl_X10_goesFit_13 nrc F s fuel) m 23 _ _ = _
      unfold nb_X10_goesFit_13 nb_X10_goesFit_75
      by_cases cv : (c : Int) = v
      · rw [if_pos cv]
        subst cv
        simp (disch := omega) only [Option.bind_some, bindv, bindv0, bind2_s, bind3_s, ↓reduceIte, Bool.false_eq_true, rZM_0, rZM_1, rZP_0, rZP_1, ptZ_0, ptZ_1, c32i, c64i, ncI, Int.natCast_add, Int.natCast_mul, q32_neg, q64_neg, q32_add, q32_sub, q32_mul, q64_add, q64_sub, q64_mul, q32_64i, q64_32, q32_lt_t, q32_lt_f, q32_le_t, q32_le_f, q32_eq_t, q32_eq_f, q64_lt_t, q64_lt_f, q64_le_t, q64_le_f, q64_eq_t, q64_eq_f, rdI_i, rdL_i, rdR_i, rdN_i, stI_i, stL_i, stR_i, wI_s, wI_n, wL_s, wL_n, wI_2, wI_3, wL_1, wL_3, wR_1, wR_2, Int.toNat_natCast, r43, r44, r45, e6, hrk, h46, h47]
      · rw [if_neg cv]
        simp (disch := omega) only [Option.bind_some, bindv, bindv0, bind2_s, bind3_s, ↓reduceIte, Bool.false_eq_true, rZM_0, rZM_1, rZP_0, rZP_1, ptZ_0, ptZ_1, c32i, c64i, ncI, Int.natCast_add, Int.natCast_mul, q32_neg, q64_neg, q32_add, q32_sub, q32_mul, q64_add, q64_sub, q64_mul, q32_64i, q64_32, q32_lt_t, q32_lt_f, q32_le_t, q32_le_f, q32_eq_t, q32_eq_f, q64_lt_t, q64_lt_f, q64_le_t, q64_le_f, q64_eq_t, q64_eq_f, rdI_i, rdL_i, rdR_i, rdN_i, stI_i, stL_i, stR_i, wI_s, wI_n, wL_s, wL_n, wI_2, wI_3, wL_1, wL_3, wR_1, wR_2, Int.toNat_natCast, r43, r44, r45, e6, hrk, h46, h47]
    · rw [i5 i]
      by_cases e : i = k
      · subst e
        rw [if_neg (by omega), wI_s]
        by_cases cv : (c : Int) = v
        · rw [if_pos cv, if_pos (by omega)]
        · rw [if_neg cv, if_neg (by omega)]
      · rw [wI_n (by omega), wI_n (by omega)]
        by_cases g : k ≤ i ∧ i < sz ∧ (c : Int) = v
        · rw [if_pos g, if_pos (by omega)]
        · rw [if_neg g, if_neg (by omega)]
    · rw [i6 i b hb, wI_n (by omega)]
      by_cases e : i = k
      · subst e
        rw [if_neg (by omega)]
        by_cases eb : b = P i
        · subst eb
          rw [wI_s, if_pos (by omega)]
        · rw [wI_n (by omega), if_neg (by omega)]
      · rw [wI_n (by omega)]
        by_cases g : k ≤ i ∧ i < sz ∧ b = P i
        · rw [if_pos g, if_pos (by omega)]
        · rw [if_neg g, if_neg (by omega)]
