theorem noRow_ok {s : List Sh} {m m' : Mem} {ow : Nat → Nat} {nw : Nat} (h : ST s m ow nw) (hk : TK m m') (hr' : RF m') {i : Int} (hi : B31 i) (e : n_X9_refusedRow s m 0 (q32 i) (q32 2) = some (q32 0)) : n_X10_noRow s m' 23 (q32 i) (q32 2) = some (q32 0) := by
  rcases row_cases h hk hr' hi (l := 2) (Or.inr rfl) with ⟨r, c1, c2, c3, k1, k2⟩ | ⟨j, t, sz, -, -, -, -, -, k2⟩
  · have k1' : n_X9_refusedRow s m 0 (q32 i) (q32 2) = some (q32 r) := k1
    rw [e] at k1'
    have : q32 (0 : Int) = q32 r := Option.some.inj k1'
    rw [q32_eq_f (by omega)] at this
    exact this.elim
  · rw [if_neg (by omega)] at k2
    exact k2
theorem TR.grow {s t' : List Sh} {m m' : Mem} {j t sz : Nat} (hp : ∃ t, s = sB ++ t) (h : TR s m j t sz) (e : ∀ a, a < s.length → m'.1 a = m.1 a ∧ m'.2.1 a = m.2.1 a) (er : ∀ a k, a < s.length → (a ≠ 0 ∨ k ≠ 17) → m'.2.2 a k = m.2.2 a k) : TR (s ++ t') m' j t sz := by
  have hL : 53 ≤ s.length := by obtain ⟨t, ht⟩ := hp; rw [ht, List.length_append, sB_len]; omega
  obtain ⟨h1, h2, h3, h4, h5, h6, h7, h8, h9, ⟨so, k1, k2, k3⟩, h10⟩ := h
  have hl := ln_lt (s := s) (a := t + 1) (by rw [h6]; decide)
  refine ⟨h1, by rw [er 13 j (by omega) (by omega)]; exact h2, h3, ok_ap h4, by rw [er t 2 (by omega) (by omega)]; exact h5, by rw [ln_ap hl]; exact h6, h7, by rw [(e t (by omega)).1]; exact h8, by rw [(e 51 (by omega)).1]; exact h9, ⟨so, k1, by rw [(e t (by omega)).1]; exact k2, by rw [(e 50 (by omega)).1]; exact k3⟩, fun k hk => ?_⟩
  rw [(e (t + 1) (by omega)).2, (e 52 (by omega)).2]
  exact h10 k hk
theorem codeL10 {F : Nat} {s : List Sh} (hp : ∃ t, s = sB ++ t) {m : Mem} (hr : RF m) {j sz : Nat} (hj : j < 4) (hsz : sz ≤ 8) (h51 : m.1 51 j = q32 sz) {P : ROW} (h45 : ∀ i, i < sz → m.1 45 i = q32 (P i)) : ∀ (n fuel : Nat), n < fuel → ∀ (k x : Nat), k + n = sz → nl_X10_fits_53 F s fuel m 23 (q32 j) (q32 x) (q32 k) = some (q32 (CDE P n k x : Nat), m) := by
  have l45 := ln45 hp
  have l51 := ln51 hp
  have r44 := rf23_44 hr
  have r53 := rf23_53 hr
  intro n
  induction n with
  | zero =>
    intro fuel hf k x hk
    obtain ⟨fuel, rfl⟩ : ∃ f, fuel = f + 1 := ⟨fuel - 1, by omega⟩
    show nb_X10_fits_53 F s (nl_X10_fits_53 F s fuel) m 23 _ _ _ = _
    unfold nb_X10_fits_53 CDE
    simp (disch := omega) only [Option.bind_some, bindv, bindv0, bind2_s, bind3_s, ↓reduceIte, Bool.false_eq_true, rZM_0, rZM_1, rZP_0, rZP_1, ptZ_0, ptZ_1, c32i, c64i, ncI, Int.natCast_add, Int.natCast_mul, q32_neg, q64_neg, q32_add, q32_sub, q32_mul, q64_add, q64_sub, q64_mul, q32_64i, q64_32, q32_lt_t, q32_lt_f, q32_le_t, q32_le_f, q32_eq_t, q32_eq_f, q64_lt_t, q64_lt_f, q64_le_t, q64_le_f, q64_eq_t, q64_eq_f, rdI_i, rdL_i, rdR_i, rdN_i, stI_i, stL_i, stR_i, wI_s, wI_n, wL_s, wL_n, wI_2, wI_3, wL_1, wL_3, wR_1, wR_2, Int.toNat_natCast, tnO, tn_add, tn_sub, tn_mul, Nat.add_sub_cancel, Nat.add_zero, Nat.zero_add, lnO, win_t, win_f, r53, h51]
  | succ n ih =>
    intro fuel hf k x hk
    obtain ⟨fuel, rfl⟩ : ∃ f, fuel = f + 1 := ⟨fuel - 1, by omega⟩
    have ih := ih fuel (by omega) (k + 1) (6 * x + P k) (by omega)
    have hrk := h45 k (by omega)
    rw [Int.natCast_add k] at ih
    show nb_X10_fits_53 F s (nl_X10_fits_53 F s fuel) m 23 _ _ _ = _
    unfold nb_X10_fits_53 CDE
    rw [← ih]
    simp (disch := omega) only [Option.bind_some, bindv, bindv0, bind2_s, bind3_s, ↓reduceIte, Bool.false_eq_true, rZM_0, rZM_1, rZP_0, rZP_1, ptZ_0, ptZ_1, c32i, c64i, ncI, Int.natCast_add, Int.natCast_mul, q32_neg, q64_neg, q32_add, q32_sub, q32_mul, q64_add, q64_sub, q64_mul, q32_64i, q64_32, q32_lt_t, q32_lt_f, q32_le_t, q32_le_f, q32_eq_t, q32_eq_f, q64_lt_t, q64_lt_f, q64_le_t, q64_le_f, q64_eq_t, q64_eq_f, rdI_i, rdL_i, rdR_i, rdN_i, stI_i, stL_i, stR_i, wI_s, wI_n, wL_s, wL_n, wI_2, wI_3, wL_1, wL_3, wR_1, wR_2, Int.toNat_natCast, tnO, tn_add, tn_sub, tn_mul, Nat.add_sub_cancel, Nat.add_zero, Nat.zero_add, lnO, win_t, win_f, r53, h51, r44, hrk]
    first | rfl | skip
