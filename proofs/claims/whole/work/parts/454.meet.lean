/-! who meets whom, by the reference -/
def P9 (m : Mem) (P : List FR) : Prop := ∀ i, i < P.length → m.1 40 i = q32 (gt P i).1 ∧ m.1 41 i = q32 (gt P i).2
theorem P9.k {m m' : Mem} {P : List FR} (h : P9 m P) (e : KN m m') : P9 m' P := fun i hi => by rw [e.1 40 i (by omega) (by omega), e.1 41 i (by omega) (by omega)]; exact h i hi
theorem reaM10 {F : Nat} (hF : 20000 ≤ F) {s : List Sh} (hp : ∃ t, s = sB ++ t) {al : Nat → Int32} (hw : WA al) {bc : Nat} (h2 : al 2 = q32 bc) (hbc : bc ≤ 6) {x : FR} {n : Nat} (hn : n ≤ 4) (u w : Int32) : ∀ j k fuel, k + j = n → j < fuel → ∀ m : Mem, RD m al → PG m (LY al bc x k) → FLS (A al 1) (LY al bc x k) → ∃ m', nl_X10_laysMeet_25 F s fuel m 23 u (q32 n) w (q32 (k : Nat)) = nl_X10_laysMeet_55 F s F m' 23 u (q32 n) w (q32 (LY al bc x n).length) (q32 0) ∧ KN m m' ∧ PG m' (LY al bc x n) ∧ FLS (A al 1) (LY al bc x n) := by
  intro j
  induction j with
  | zero =>
    intro k fuel hk hfu m hr hg hf
    obtain ⟨fuel, rfl⟩ : ∃ f, fuel = f + 1 := ⟨fuel - 1, by omega⟩
    have hk' : k = n := by omega
    subst hk'
    have g1 := hg.1
    refine ⟨m, ?_, KN.rf m, hg, hf⟩
    show nb_X10_laysMeet_25 F s (nl_X10_laysMeet_25 F s fuel) m 23 _ _ _ _ = _
    unfold nb_X10_laysMeet_25
    simp (disch := omega) only [Option.bind_some, bindv, bindv0, bind2_s, bind3_s, ↓reduceIte, Bool.false_eq_true, rZM_0, rZM_1, rZP_0, rZP_1, ptZ_0, ptZ_1, c32i, c64i, ncI, Int.natCast_add, Int.natCast_mul, q32_neg, q64_neg, q32_add, q32_sub, q32_mul, q64_add, q64_sub, q64_mul, q32_64i, q64_32, q32_lt_t, q32_lt_f, q32_le_t, q32_le_f, q32_eq_t, q32_eq_f, q64_lt_t, q64_lt_f, q64_le_t, q64_le_f, q64_eq_t, q64_eq_f, rdI_i, rdL_i, rdR_i, rdN_i, stI_i, stL_i, stR_i, wI_s, wI_n, wL_s, wL_n, wI_2, wI_3, wL_1, wL_3, wR_1, wR_2, Int.toNat_natCast, tnO, tn_add, tn_sub, tn_mul, Nat.add_sub_cancel, Nat.add_zero, Nat.zero_add, lnO, win_t, win_f, g1]
  | succ j ih =>
    intro k fuel hk hfu m hr hg hf
    obtain ⟨fuel, rfl⟩ : ∃ f, fuel = f + 1 := ⟨fuel - 1, by omega⟩
    have lk := LY_len al hbc x k
    have l4 : 6 ^ k ≤ 6 ^ 4 := Nat.pow_le_pow_right (by omega) (by omega)
    have l4' : 6 ^ 4 = 1296 := by decide
    obtain ⟨m1, m2, a1, a2, a3, a4, a5⟩ := goBe10 hF hp hw h2 hbc hf (w := 0) (by omega) (by omega) hr hg
    rw [SPW_0] at a4 a5
    obtain ⟨m3, b1, b2, b3, b4⟩ := ih (k + 1) fuel (by omega) (by omega) m2 (hr.k a3) a4 a5
    refine ⟨m3, ?_, a3.tr b2, b3, b4⟩
    rw [← b1, Int.natCast_add]
    have a1' : n_X10_goes F s m 23 (q32 0) = some ((), m1) := a1
    show nb_X10_laysMeet_25 F s (nl_X10_laysMeet_25 F s fuel) m 23 _ _ _ _ = _
    unfold nb_X10_laysMeet_25
    simp (disch := omega) only [Option.bind_some, bindv, bindv0, bind2_s, bind3_s, ↓reduceIte, Bool.false_eq_true, rZM_0, rZM_1, rZP_0, rZP_1, ptZ_0, ptZ_1, c32i, c64i, ncI, Int.natCast_add, Int.natCast_mul, q32_neg, q64_neg, q32_add, q32_sub, q32_mul, q64_add, q64_sub, q64_mul, q32_64i, q64_32, q32_lt_t, q32_lt_f, q32_le_t, q32_le_f, q32_eq_t, q32_eq_f, q64_lt_t, q64_lt_f, q64_le_t, q64_le_f, q64_eq_t, q64_eq_f, rdI_i, rdL_i, rdR_i, rdN_i, stI_i, stL_i, stR_i, wI_s, wI_n, wL_s, wL_n, wI_2, wI_3, wL_1, wL_3, wR_1, wR_2, Int.toNat_natCast, tnO, tn_add, tn_sub, tn_mul, Nat.add_sub_cancel, Nat.add_zero, Nat.zero_add, lnO, win_t, win_f, a1', a2]
    first | done | rfl
/-- what a copy of a way writes -/
def KV40 (m m' : Mem) : Prop := (∀ a k, a ≠ 40 → a ≠ 41 → m'.1 a k = m.1 a k) ∧ m'.2 = m.2
theorem cpM10 {F : Nat} {s : List Sh} (hp : ∃ t, s = sB ++ t) {P : List FR} (hP : P.length ≤ 1400) (u n w : Int32) : ∀ j i fuel, i + j = P.length → j < fuel → ∀ m : Mem, RF m → PG m P → (∀ k, k < i → m.1 40 k = q32 (gt P k).1 ∧ m.1 41 k = q32 (gt P k).2) → ∃ m', nl_X10_laysMeet_55 F s fuel m 23 u n w (q32 P.length) (q32 (i : Nat)) = nb_X10_laysMeet_55 F s (nl_X10_laysMeet_55 F s (fuel - j - 1)) m' 23 u n w (q32 P.length) (q32 P.length) ∧ KV40 m m' ∧ P9 m' P := by
  have l37 := ln37 hp
  have l38 := ln38 hp
  have l40 := ln40 hp
  have l41 := ln41 hp
  intro j
  induction j with
  | zero =>
    intro i fuel hi hfu m hr hg h
    obtain ⟨fuel, rfl⟩ : ∃ f, fuel = f + 1 := ⟨fuel - 1, by omega⟩
    have hi' : i = P.length := by omega
    subst hi'
    exact ⟨m, rfl, ⟨fun _ _ _ _ => rfl, rfl⟩, h⟩
  | succ j ih =>
    intro i fuel hi hfu m hr hg h
    obtain ⟨fuel, rfl⟩ : ∃ f, fuel = f + 1 := ⟨fuel - 1, by omega⟩
    have r31 := rf23_31 hr
    have r32 := rf23_32 hr
    have r37 := rf23_37 hr
    have r38 := rf23_38 hr
    obtain ⟨u1, u2⟩ := hg.2 i (by omega)
    obtain ⟨m', i1, i2, i3⟩ := ih (i + 1) fuel (by omega) (by omega) (wI (wI m 40 i (q32 (gt P i).1)) 41 i (q32 (gt P i).2)) (hr.same rfl) ⟨by rw [wI_n (by omega), wI_n (by omega)]; exact hg.1, fun k hk => by rw [wI_n (by omega), wI_n (by omega), wI_n (by omega), wI_n (by omega)]; exact hg.2 k hk⟩ (fun k hk => by
      by_cases c : k = i
      · rw [c, wI_s, wI_n (by omega), wI_s]
        exact ⟨rfl, rfl⟩
      · rw [wI_n (by omega), wI_n (by omega), wI_n (by omega), wI_n (by omega)]
        exact h k (by omega))
    refine ⟨m', ?_, ⟨fun a k p1 p2 => by rw [i2.1 a k p1 p2, wI_n (by omega), wI_n (by omega)], i2.2⟩, i3⟩
    rw [show fuel + 1 - (j + 1) - 1 = fuel - j - 1 by omega, ← i1, Int.natCast_add]
    show nb_X10_laysMeet_55 F s (nl_X10_laysMeet_55 F s fuel) m 23 _ _ _ _ _ = _
    unfold nb_X10_laysMeet_55
    simp (disch := omega) only [Option.bind_some, bindv, bindv0, bind2_s, bind3_s, ↓reduceIte, Bool.false_eq_true, rZM_0, rZM_1, rZP_0, rZP_1, ptZ_0, ptZ_1, c32i, c64i, ncI, Int.natCast_add, Int.natCast_mul, q32_neg, q64_neg, q32_add, q32_sub, q32_mul, q64_add, q64_sub, q64_mul, q32_64i, q64_32, q32_lt_t, q32_lt_f, q32_le_t, q32_le_f, q32_eq_t, q32_eq_f, q64_lt_t, q64_lt_f, q64_le_t, q64_le_f, q64_eq_t, q64_eq_f, rdI_i, rdL_i, rdR_i, rdN_i, stI_i, stL_i, stR_i, wI_s, wI_n, wL_s, wL_n, wI_2, wI_3, wL_1, wL_3, wR_1, wR_2, Int.toNat_natCast, tnO, tn_add, tn_sub, tn_mul, Nat.add_sub_cancel, Nat.add_zero, Nat.zero_add, lnO, win_t, win_f, r31, r32, r37, r38, u1, u2]
    first | done | rfl
theorem reaW10 {F : Nat} (hF : 20000 ≤ F) {s : List Sh} (hp : ∃ t, s = sB ++ t) {al : Nat → Int32} (hw : WA al) {bc : Nat} (h2 : al 2 = q32 bc) (hbc : bc ≤ 6) {y : FR} {n w : Nat} (hw1 : w ≤ 1) (hn : n ≤ 4) (v : Int32) : ∀ j k fuel, k + j = n → j < fuel → ∀ m : Mem, RD m al → PG m (LW al bc w y k) → FLS (A al 1) (LW al bc w y k) → ∃ m', nl_X10_laysMeet_121 F s fuel m 23 (q32 n) (q32 w) v (q32 (k : Nat)) = nl_X10_laysMeet_150 F s F m' 23 v (q32 0) ∧ KN m m' ∧ PG m' (LW al bc w y n) ∧ FLS (A al 1) (LW al bc w y n) ∧ MG m' [] (fun _ => -1) (fun _ => -1) := by
  intro j
  induction j with
  | zero =>
    intro k fuel hk hfu m hr hg hf
    obtain ⟨fuel, rfl⟩ : ∃ f, fuel = f + 1 := ⟨fuel - 1, by omega⟩
    have hk' : k = n := by omega
    subst hk'
    obtain ⟨m1, f1, f2, f3, f4⟩ := forg10 hF hp hr.1 (fun _ => -1) (fun _ => -1)
    have k1 : KG m m1 := ⟨fun a k p1 p2 => f4 a k (by omega) (by omega), fun a k _ _ _ => by rw [f3], by rw [f3]⟩
    refine ⟨m1, ?_, k1.kn, hg.k k1, hf, f2⟩
    show nb_X10_laysMeet_121 F s (nl_X10_laysMeet_121 F s fuel) m 23 _ _ _ _ = _
    unfold nb_X10_laysMeet_121
    simp (disch := omega) only [Option.bind_some, bindv, bindv0, bind2_s, bind3_s, ↓reduceIte, Bool.false_eq_true, rZM_0, rZM_1, rZP_0, rZP_1, ptZ_0, ptZ_1, c32i, c64i, ncI, Int.natCast_add, Int.natCast_mul, q32_neg, q64_neg, q32_add, q32_sub, q32_mul, q64_add, q64_sub, q64_mul, q32_64i, q64_32, q32_lt_t, q32_lt_f, q32_le_t, q32_le_f, q32_eq_t, q32_eq_f, q64_lt_t, q64_lt_f, q64_le_t, q64_le_f, q64_eq_t, q64_eq_f, rdI_i, rdL_i, rdR_i, rdN_i, stI_i, stL_i, stR_i, wI_s, wI_n, wL_s, wL_n, wI_2, wI_3, wL_1, wL_3, wR_1, wR_2, Int.toNat_natCast, tnO, tn_add, tn_sub, tn_mul, Nat.add_sub_cancel, Nat.add_zero, Nat.zero_add, lnO, win_t, win_f, f1]
  | succ j ih =>
    intro k fuel hk hfu m hr hg hf
    obtain ⟨fuel, rfl⟩ : ∃ f, fuel = f + 1 := ⟨fuel - 1, by omega⟩
    have lk := LW_len al hbc hw1 y k
    have l4 : 7 ^ k ≤ 7 ^ 3 := Nat.pow_le_pow_right (by omega) (by omega)
    have l4' : 7 ^ 3 = 343 := by decide
    have l5 : (6 + w) * (LW al bc w y k).length ≤ 7 * (LW al bc w y k).length := Nat.mul_le_mul_right _ (by omega)
    obtain ⟨m1, m2, a1, a2, a3, a4, a5⟩ := goBe10 hF hp hw h2 hbc hf hw1 (by omega) hr hg
    obtain ⟨m3, b1, b2, b3, b4, b5⟩ := ih (k + 1) fuel (by omega) (by omega) m2 (hr.k a3) a4 a5
    refine ⟨m3, ?_, a3.tr b2, b3, b4, b5⟩
    rw [← b1, Int.natCast_add]
    show nb_X10_laysMeet_121 F s (nl_X10_laysMeet_121 F s fuel) m 23 _ _ _ _ = _
    unfold nb_X10_laysMeet_121
    simp (disch := omega) only [Option.bind_some, bindv, bindv0, bind2_s, bind3_s, ↓reduceIte, Bool.false_eq_true, rZM_0, rZM_1, rZP_0, rZP_1, ptZ_0, ptZ_1, c32i, c64i, ncI, Int.natCast_add, Int.natCast_mul, q32_neg, q64_neg, q32_add, q32_sub, q32_mul, q64_add, q64_sub, q64_mul, q32_64i, q64_32, q32_lt_t, q32_lt_f, q32_le_t, q32_le_f, q32_eq_t, q32_eq_f, q64_lt_t, q64_lt_f, q64_le_t, q64_le_f, q64_eq_t, q64_eq_f, rdI_i, rdL_i, rdR_i, rdN_i, stI_i, stL_i, stR_i, wI_s, wI_n, wL_s, wL_n, wI_2, wI_3, wL_1, wL_3, wR_1, wR_2, Int.toNat_natCast, tnO, tn_add, tn_sub, tn_mul, Nat.add_sub_cancel, Nat.add_zero, Nat.zero_add, lnO, win_t, win_f, a1, a2]
    first | done | rfl
theorem insM10 {F : Nat} (hF : 20000 ≤ F) {s : List Sh} (hp : ∃ t, s = sB ++ t) {al : Nat → Int32} {Q : List FR} (hQ : FLS (A al 1) Q) (hQl : Q.length ≤ 8000) (v : Int32) : ∀ (T : List FR) fuel i, i + T.length = Q.length → T.length < fuel → (∀ j, j < T.length → gt Q (i + j) = gt T j) → ∀ (m : Mem) (R : List FR) (C D : Nat → Int), R ++ T = Q → RD m al → PG m Q → MG m R C D → ∃ m' C' D', nl_X10_laysMeet_150 F s fuel m 23 v (q32 (i : Nat)) = nl_X10_laysMeet_193 F s F m' 23 v (q32 0) (q32 0) ∧ KN m m' ∧ MG m' Q C' D' := by
  have l37 := ln37 hp
  have l38 := ln38 hp
  intro T
  induction T with
  | nil =>
    intro fuel i hi hfu hT m R C D hR hr hg hM
    obtain ⟨fuel, rfl⟩ : ∃ f, fuel = f + 1 := ⟨fuel - 1, by omega⟩
    have hi' : i = Q.length := hi
    have g1 := hg.1
    rw [List.append_nil] at hR
    subst hR
    refine ⟨m, C, D, ?_, KN.rf m, hM⟩
    show nb_X10_laysMeet_150 F s (nl_X10_laysMeet_150 F s fuel) m 23 _ _ = _
    unfold nb_X10_laysMeet_150
    simp (disch := omega) only [Option.bind_some, bindv, bindv0, bind2_s, bind3_s, ↓reduceIte, Bool.false_eq_true, rZM_0, rZM_1, rZP_0, rZP_1, ptZ_0, ptZ_1, c32i, c64i, ncI, Int.natCast_add, Int.natCast_mul, q32_neg, q64_neg, q32_add, q32_sub, q32_mul, q64_add, q64_sub, q64_mul, q32_64i, q64_32, q32_lt_t, q32_lt_f, q32_le_t, q32_le_f, q32_eq_t, q32_eq_f, q64_lt_t, q64_lt_f, q64_le_t, q64_le_f, q64_eq_t, q64_eq_f, rdI_i, rdL_i, rdR_i, rdN_i, stI_i, stL_i, stR_i, wI_s, wI_n, wL_s, wL_n, wI_2, wI_3, wL_1, wL_3, wR_1, wR_2, Int.toNat_natCast, tnO, tn_add, tn_sub, tn_mul, Nat.add_sub_cancel, Nat.add_zero, Nat.zero_add, lnO, win_t, win_f, g1]
  | cons x T ih =>
    intro fuel i hi hfu hT m R C D hR hr hg hM
    rw [List.length_cons] at hi hfu
    obtain ⟨fuel, rfl⟩ : ∃ f, fuel = f + 1 := ⟨fuel - 1, by omega⟩
    have g1 := hg.1
    have r31 := rf23_31 hr.1
    have r32 := rf23_32 hr.1
    have hx : gt Q i = x := by
      have := hT 0 (by rw [List.length_cons]; omega)
      rw [Nat.add_zero] at this
      exact this
    obtain ⟨u1, u2⟩ := hg.2 i (by omega)
    have hxf := hQ.at (i := i) (by omega)
    rw [hx] at u1 u2 hxf
    have xb := hxf.b
    have hlen : R.length ≤ Q.length := by rw [← hR, List.length_append]; omega
    obtain ⟨m1, p1, p2, p3, -, p4⟩ := gput hF hp hr hM (by omega) hxf (-1) (-1)
    obtain ⟨m2, C2, D2, i1, i2, i3⟩ := ih fuel (i + 1) (by omega) (by omega) (fun j hj => by
      have := hT (j + 1) (by rw [List.length_cons]; omega)
      rw [show i + 1 + j = i + (j + 1) by omega]
      exact this) m1 (R ++ [x]) _ _ (by rw [List.append_assoc]; exact hR) p3 (hg.k p2) p4
    refine ⟨m2, C2, D2, ?_, p2.kn.tr i2, i3⟩
    rw [← i1, Int.natCast_add]
    show nb_X10_laysMeet_150 F s (nl_X10_laysMeet_150 F s fuel) m 23 _ _ = _
    unfold nb_X10_laysMeet_150
    simp (disch := omega) only [Option.bind_some, bindv, bindv0, bind2_s, bind3_s, ↓reduceIte, Bool.false_eq_true, rZM_0, rZM_1, rZP_0, rZP_1, ptZ_0, ptZ_1, c32i, c64i, ncI, Int.natCast_add, Int.natCast_mul, q32_neg, q64_neg, q32_add, q32_sub, q32_mul, q64_add, q64_sub, q64_mul, q32_64i, q64_32, q32_lt_t, q32_lt_f, q32_le_t, q32_le_f, q32_eq_t, q32_eq_f, q64_lt_t, q64_lt_f, q64_le_t, q64_le_f, q64_eq_t, q64_eq_f, rdI_i, rdL_i, rdR_i, rdN_i, stI_i, stL_i, stR_i, wI_s, wI_n, wL_s, wL_n, wI_2, wI_3, wL_1, wL_3, wR_1, wR_2, Int.toNat_natCast, tnO, tn_add, tn_sub, tn_mul, Nat.add_sub_cancel, Nat.add_zero, Nat.zero_add, lnO, win_t, win_f, g1, r31, r32, u1, u2, p1]
    first | done | rfl
/-- the floor that was found first, so far -/
def FN (m : Mem) (P : List FR) (b : Int) : Prop := b = -1 ∨ (m.1 23 39 = q32 (gt P b.toNat).1 ∧ m.1 23 40 = q32 (gt P b.toNat).2)
theorem lcL10 {F : Nat} (hF : 20000 ≤ F) {s : List Sh} (hp : ∃ t, s = sB ++ t) {tp : Int} {P Q : List FR} (hP : FLS tp P) (hQ : FLS tp Q) (hPl : P.length ≤ 1400) (hQl : Q.length ≤ 8000) : ∀ (n i fuel : Nat) (b : Int), i + n = P.length → n < fuel → -1 ≤ b → b < i → ∀ (m : Mem) (C D : Nat → Int), RF m → P9 m P → MG m Q C D → FN m P b → ∃ m', nl_X10_laysMeet_193 F s fuel m 23 (q32 P.length) (q32 (if b = -1 then 0 else 1)) (q32 (i : Nat)) = some (q32 (if LCX Q P n i b = -1 then 0 else 1), m') ∧ FN m' P (LCX Q P n i b) ∧ (∀ a k, a ≠ 23 ∨ (k ≠ 39 ∧ k ≠ 40) → m'.1 a k = m.1 a k) ∧ m'.2 = m.2 := by
  have l40 := ln40 hp
  have l41 := ln41 hp
  intro n
  induction n with
  | zero =>
    intro i fuel b hi hfu hb1 hb2 m C D hr hg hM hf
    obtain ⟨fuel, rfl⟩ : ∃ f, fuel = f + 1 := ⟨fuel - 1, by omega⟩
    refine ⟨m, ?_, hf, fun _ _ _ => rfl, rfl⟩
    show nb_X10_laysMeet_193 F s (nl_X10_laysMeet_193 F s fuel) m 23 _ _ _ = _
    unfold nb_X10_laysMeet_193 LCX
    by_cases c : b = -1
    · rw [if_pos c]
      simp (disch := omega) only [Option.bind_some, bindv, bindv0, bind2_s, bind3_s, ↓reduceIte, Bool.false_eq_true, rZM_0, rZM_1, rZP_0, rZP_1, ptZ_0, ptZ_1, c32i, c64i, ncI, Int.natCast_add, Int.natCast_mul, q32_neg, q64_neg, q32_add, q32_sub, q32_mul, q64_add, q64_sub, q64_mul, q32_64i, q64_32, q32_lt_t, q32_lt_f, q32_le_t, q32_le_f, q32_eq_t, q32_eq_f, q64_lt_t, q64_lt_f, q64_le_t, q64_le_f, q64_eq_t, q64_eq_f, rdI_i, rdL_i, rdR_i, rdN_i, stI_i, stL_i, stR_i, wI_s, wI_n, wL_s, wL_n, wI_2, wI_3, wL_1, wL_3, wR_1, wR_2, Int.toNat_natCast, tnO, tn_add, tn_sub, tn_mul, Nat.add_sub_cancel, Nat.add_zero, Nat.zero_add, lnO, win_t, win_f]
    · rw [if_neg c]
      simp (disch := omega) only [Option.bind_some, bindv, bindv0, bind2_s, bind3_s, ↓reduceIte, Bool.false_eq_true, rZM_0, rZM_1, rZP_0, rZP_1, ptZ_0, ptZ_1, c32i, c64i, ncI, Int.natCast_add, Int.natCast_mul, q32_neg, q64_neg, q32_add, q32_sub, q32_mul, q64_add, q64_sub, q64_mul, q32_64i, q64_32, q32_lt_t, q32_lt_f, q32_le_t, q32_le_f, q32_eq_t, q32_eq_f, q64_lt_t, q64_lt_f, q64_le_t, q64_le_f, q64_eq_t, q64_eq_f, rdI_i, rdL_i, rdR_i, rdN_i, stI_i, stL_i, stR_i, wI_s, wI_n, wL_s, wL_n, wI_2, wI_3, wL_1, wL_3, wR_1, wR_2, Int.toNat_natCast, tnO, tn_add, tn_sub, tn_mul, Nat.add_sub_cancel, Nat.add_zero, Nat.zero_add, lnO, win_t, win_f]
  | succ n ih =>
    intro i fuel b hi hfu hb1 hb2 m C D hr hg hM hf
    obtain ⟨fuel, rfl⟩ : ∃ f, fuel = f + 1 := ⟨fuel - 1, by omega⟩
    have r37 := rf23_37 hr
    have r38 := rf23_38 hr
    obtain ⟨u1, u2⟩ := hg i (by omega)
    have hx := hP.at (i := i) (by omega)
    have xb := hx.b
    obtain ⟨f1, f2⟩ := gmet hF hp hr hM (by omega) hQ hx
    -- keep
    have keep : ∀ m' : Mem, (∃ m2, nl_X10_laysMeet_193 F s fuel m 23 (q32 P.length) (q32 (if b = -1 then 0 else 1)) (q32 ((i + 1 : Nat) : Int)) = some (q32 (if LCX Q P n (i + 1) b = -1 then 0 else 1), m2) ∧ FN m2 P (LCX Q P n (i + 1) b) ∧ (∀ a k, a ≠ 23 ∨ (k ≠ 39 ∧ k ≠ 40) → m2.1 a k = m.1 a k) ∧ m2.2 = m.2) := fun _ => ih (i + 1) fuel b (by omega) (by omega) hb1 (by omega) m C D hr hg hM hf
    have take : ∃ m2, nl_X10_laysMeet_193 F s fuel (wI (wI m 23 39 (q32 (gt P i).1)) 23 40 (q32 (gt P i).2)) 23 (q32 P.length) (q32 1) (q32 ((i + 1 : Nat) : Int)) = some (q32 (if LCX Q P n (i + 1) i = -1 then 0 else 1), m2) ∧ FN m2 P (LCX Q P n (i + 1) i) ∧ (∀ a k, a ≠ 23 ∨ (k ≠ 39 ∧ k ≠ 40) → m2.1 a k = m.1 a k) ∧ m2.2 = m.2 := by
      obtain ⟨m2, i1, i2, i3, i4⟩ := ih (i + 1) fuel i (by omega) (by omega) (by omega) (by omega) (wI (wI m 23 39 (q32 (gt P i).1)) 23 40 (q32 (gt P i).2)) C D (hr.same rfl) (fun k hk => by rw [wI_n (by omega), wI_n (by omega), wI_n (by omega), wI_n (by omega)]; exact hg k hk) (hM.k (fun a k hk => by rw [wI_n (by omega), wI_n (by omega)])) (Or.inr (by rw [Int.toNat_natCast, wI_s, wI_n (by omega), wI_s]; exact ⟨rfl, rfl⟩))
      rw [if_neg (show ¬ (i : Int) = -1 by omega)] at i1
      exact ⟨m2, i1, i2, fun a k hk => by rw [i3 a k hk, wI_n (by omega), wI_n (by omega)], i4⟩
    show ∃ m', nb_X10_laysMeet_193 F s (nl_X10_laysMeet_193 F s fuel) m 23 _ _ _ = _ ∧ _
    unfold LCX
    by_cases cQ : gt P i ∈ Q
    · obtain ⟨r, r1, r2, r3⟩ := f1 cQ
      by_cases c : b = -1
      · rw [if_pos (show (b = -1 ∨ fbl (gt P i) (gt P b.toNat)) ∧ gt P i ∈ Q from ⟨Or.inl c, cQ⟩), if_pos c]
        obtain ⟨m2, i1, i2, i3, i4⟩ := take
        refine ⟨m2, ?_, i2, i3, i4⟩
        rw [← i1, Int.natCast_add]
        unfold nb_X10_laysMeet_193 nb_X10_laysMeet_264 nb_X10_laysMeet_289
        simp (disch := omega) only [Option.bind_some, bindv, bindv0, bind2_s, bind3_s, ↓reduceIte, Bool.false_eq_true, rZM_0, rZM_1, rZP_0, rZP_1, ptZ_0, ptZ_1, c32i, c64i, ncI, Int.natCast_add, Int.natCast_mul, q32_neg, q64_neg, q32_add, q32_sub, q32_mul, q64_add, q64_sub, q64_mul, q32_64i, q64_32, q32_lt_t, q32_lt_f, q32_le_t, q32_le_f, q32_eq_t, q32_eq_f, q64_lt_t, q64_lt_f, q64_le_t, q64_le_f, q64_eq_t, q64_eq_f, rdI_i, rdL_i, rdR_i, rdN_i, stI_i, stL_i, stR_i, wI_s, wI_n, wL_s, wL_n, wI_2, wI_3, wL_1, wL_3, wR_1, wR_2, Int.toNat_natCast, tnO, tn_add, tn_sub, tn_mul, Nat.add_sub_cancel, Nat.add_zero, Nat.zero_add, lnO, win_t, win_f, r37, r38, u1, u2, r3]
        first | done | rfl
      · obtain ⟨h39, h40⟩ := hf.resolve_left c
        obtain ⟨k, rfl⟩ := Int.eq_ofNat_of_zero_le (show 0 ≤ b by omega)
        rw [Int.toNat_natCast] at h39 h40
        have yb := (hP.at (i := k) (by omega)).b
        have ag := agn (a := (gt P i).1) (b := (gt P i).2) (c := (gt P k).1) (d := (gt P k).2) (by omega) (by omega) (by omega) (by omega)
        rw [Int.toNat_natCast]
        by_cases c2 : fbl (gt P i) (gt P k)
        · rw [if_pos (show ((k : Int) = -1 ∨ fbl (gt P i) (gt P k)) ∧ gt P i ∈ Q from ⟨Or.inr c2, cQ⟩), if_neg c]
          rw [if_pos (show _ < _ from c2)] at ag
          obtain ⟨m2, i1, i2, i3, i4⟩ := take
          refine ⟨m2, ?_, i2, i3, i4⟩
          rw [← i1, Int.natCast_add]
          unfold nb_X10_laysMeet_193 nb_X10_laysMeet_264 nb_X10_laysMeet_289
          simp (disch := omega) only [Option.bind_some, bindv, bindv0, bind2_s, bind3_s, ↓reduceIte, Bool.false_eq_true, rZM_0, rZM_1, rZP_0, rZP_1, ptZ_0, ptZ_1, c32i, c64i, ncI, Int.natCast_add, Int.natCast_mul, q32_neg, q64_neg, q32_add, q32_sub, q32_mul, q64_add, q64_sub, q64_mul, q32_64i, q64_32, q32_lt_t, q32_lt_f, q32_le_t, q32_le_f, q32_eq_t, q32_eq_f, q64_lt_t, q64_lt_f, q64_le_t, q64_le_f, q64_eq_t, q64_eq_f, rdI_i, rdL_i, rdR_i, rdN_i, stI_i, stL_i, stR_i, wI_s, wI_n, wL_s, wL_n, wI_2, wI_3, wL_1, wL_3, wR_1, wR_2, Int.toNat_natCast, tnO, tn_add, tn_sub, tn_mul, Nat.add_sub_cancel, Nat.add_zero, Nat.zero_add, lnO, win_t, win_f, r37, r38, u1, u2, r3, h39, h40, ag]
          first | done | rfl
        · rw [if_neg (show ¬ (((k : Int) = -1 ∨ fbl (gt P i) (gt P k)) ∧ gt P i ∈ Q) from fun h => h.1.elim c c2)]
          rw [if_neg (show ¬ (_ < _) from c2)] at ag
          obtain ⟨m2, i1, i2, i3, i4⟩ := keep m
          refine ⟨m2, ?_, i2, i3, i4⟩
          rw [← i1, Int.natCast_add, if_neg c]
          unfold nb_X10_laysMeet_193 nb_X10_laysMeet_289
          by_cases c3 : (gt P k).1 * (gt P i).2 < (gt P i).1 * (gt P k).2
          · rw [if_pos c3] at ag
            simp (disch := omega) only [Option.bind_some, bindv, bindv0, bind2_s, bind3_s, ↓reduceIte, Bool.false_eq_true, rZM_0, rZM_1, rZP_0, rZP_1, ptZ_0, ptZ_1, c32i, c64i, ncI, Int.natCast_add, Int.natCast_mul, q32_neg, q64_neg, q32_add, q32_sub, q32_mul, q64_add, q64_sub, q64_mul, q32_64i, q64_32, q32_lt_t, q32_lt_f, q32_le_t, q32_le_f, q32_eq_t, q32_eq_f, q64_lt_t, q64_lt_f, q64_le_t, q64_le_f, q64_eq_t, q64_eq_f, rdI_i, rdL_i, rdR_i, rdN_i, stI_i, stL_i, stR_i, wI_s, wI_n, wL_s, wL_n, wI_2, wI_3, wL_1, wL_3, wR_1, wR_2, Int.toNat_natCast, tnO, tn_add, tn_sub, tn_mul, Nat.add_sub_cancel, Nat.add_zero, Nat.zero_add, lnO, win_t, win_f, r37, r38, u1, u2, r3, h39, h40, ag]
            first | done | rfl
          · rw [if_neg c3] at ag
            simp (disch := omega) only [Option.bind_some, bindv, bindv0, bind2_s, bind3_s, ↓reduceIte, Bool.false_eq_true, rZM_0, rZM_1, rZP_0, rZP_1, ptZ_0, ptZ_1, c32i, c64i, ncI, Int.natCast_add, Int.natCast_mul, q32_neg, q64_neg, q32_add, q32_sub, q32_mul, q64_add, q64_sub, q64_mul, q32_64i, q64_32, q32_lt_t, q32_lt_f, q32_le_t, q32_le_f, q32_eq_t, q32_eq_f, q64_lt_t, q64_lt_f, q64_le_t, q64_le_f, q64_eq_t, q64_eq_f, rdI_i, rdL_i, rdR_i, rdN_i, stI_i, stL_i, stR_i, wI_s, wI_n, wL_s, wL_n, wI_2, wI_3, wL_1, wL_3, wR_1, wR_2, Int.toNat_natCast, tnO, tn_add, tn_sub, tn_mul, Nat.add_sub_cancel, Nat.add_zero, Nat.zero_add, lnO, win_t, win_f, r37, r38, u1, u2, r3, h39, h40, ag]
            first | done | rfl
    · have r3 := f2 cQ
      rw [if_neg (show ¬ ((b = -1 ∨ fbl (gt P i) (gt P b.toNat)) ∧ gt P i ∈ Q) from fun h => cQ h.2)]
      obtain ⟨m2, i1, i2, i3, i4⟩ := keep m
      refine ⟨m2, ?_, i2, i3, i4⟩
      rw [← i1, Int.natCast_add]
      unfold nb_X10_laysMeet_193 nb_X10_laysMeet_289
      simp (disch := omega) only [Option.bind_some, bindv, bindv0, bind2_s, bind3_s, ↓reduceIte, Bool.false_eq_true, rZM_0, rZM_1, rZP_0, rZP_1, ptZ_0, ptZ_1, c32i, c64i, ncI, Int.natCast_add, Int.natCast_mul, q32_neg, q64_neg, q32_add, q32_sub, q32_mul, q64_add, q64_sub, q64_mul, q32_64i, q64_32, q32_lt_t, q32_lt_f, q32_le_t, q32_le_f, q32_eq_t, q32_eq_f, q64_lt_t, q64_lt_f, q64_le_t, q64_le_f, q64_eq_t, q64_eq_f, rdI_i, rdL_i, rdR_i, rdN_i, stI_i, stL_i, stR_i, wI_s, wI_n, wL_s, wL_n, wI_2, wI_3, wL_1, wL_3, wR_1, wR_2, Int.toNat_natCast, tnO, tn_add, tn_sub, tn_mul, Nat.add_sub_cancel, Nat.add_zero, Nat.zero_add, lnO, win_t, win_f, r37, r38, u1, u2, r3]
      first | done | rfl
