/-! what was seen, and how many rows there are -/
def SOK (T : Nat → Int) (fc k sz : Nat) : Prop := ∀ i, k ≤ i → i < sz → -1 ≤ T i ∧ T i < fc
theorem SOK_s {T : Nat → Int} {fc k sz : Nat} (h : k < sz) : SOK T fc k sz ↔ (-1 ≤ T k ∧ T k < fc) ∧ SOK T fc (k + 1) sz := by
  constructor
  · intro hh
    exact ⟨hh k (by omega) h, fun i h1 h2 => hh i (by omega) h2⟩
  · intro hh i h1 h2
    by_cases e : i = k
    · subst e; exact hh.1
    · exact hh.2 i (by omega) h2
theorem seenL9 {F : Nat} {s : List Sh} {m : Mem} {nw j t sz fc : Nat} (rn : m.2.2 0 4 = some nw) (a9 : m.1 nw 9 = q32 fc) (hfc : fc ≤ 8) (ht : TR s m j t sz) {T : Nat → Int} (hT : ∀ k, k < sz → m.2.1 52 (40 * j + k) = q64 (T k) ∧ B63 (T k)) : ∀ (n fuel : Nat), n < fuel → ∀ k, k + n = sz → (SOK T fc k sz → nl_X9_refusedSeen_23 F s m fuel 0 t (q32 k) = some (q32 0)) ∧ (¬ SOK T fc k sz → nl_X9_refusedSeen_23 F s m fuel 0 t (q32 k) = some (q32 (-3))) := by
  obtain ⟨h1, h2, h3, h4, h5, h6, h7, h8, h9, -, h10⟩ := ht
  intro n
  induction n with
  | zero =>
    intro fuel hf k hk
    obtain ⟨fuel, rfl⟩ : ∃ f, fuel = f + 1 := ⟨fuel - 1, by omega⟩
    refine ⟨fun _ => ?_, fun hn => absurd (fun i h1 h2 => by omega) hn⟩
    show nb_X9_refusedSeen_23 F s (nl_X9_refusedSeen_23 F s m fuel) m 0 _ _ = _
    unfold nb_X9_refusedSeen_23
    simp (disch := omega) only [Option.bind_some, bindv, bindv0, bind2_s, bind3_s, ↓reduceIte, Bool.false_eq_true, rZM_0, rZM_1, rZP_0, rZP_1, ptZ_0, ptZ_1, c32i, c64i, ncI, Int.natCast_add, Int.natCast_mul, q32_neg, q64_neg, q32_add, q32_sub, q32_mul, q64_add, q64_sub, q64_mul, q32_64i, q64_32, q32_lt_t, q32_lt_f, q32_le_t, q32_le_f, q32_eq_t, q32_eq_f, q64_lt_t, q64_lt_f, q64_le_t, q64_le_f, q64_eq_t, q64_eq_f, rdI_i, rdL_i, rdR_i, rdN_i, stI_i, stL_i, stR_i, wI_s, wI_n, wL_s, wL_n, wI_2, wI_3, wL_1, wL_3, wR_1, wR_2, Int.toNat_natCast, tnO, tn_add, tn_sub, tn_mul, Nat.add_sub_cancel, Nat.add_zero, Nat.zero_add, lnO, win_t, win_f, h8]
  | succ n ih =>
    intro fuel hf k hk
    obtain ⟨fuel, rfl⟩ : ∃ f, fuel = f + 1 := ⟨fuel - 1, by omega⟩
    obtain ⟨i1, i2⟩ := ih fuel (by omega) (k + 1) (by omega)
    rw [Int.natCast_add] at i1 i2
    obtain ⟨g1, g2⟩ := hT k (by omega)
    have g3 : m.2.1 (t + 1) k = q64 (T k) := by rw [h10 k (by omega)]; exact g1
    unfold B63 at g2
    have step : nl_X9_refusedSeen_23 F s m (fuel + 1) 0 t (q32 k) = if -1 ≤ T k ∧ T k < fc then nl_X9_refusedSeen_23 F s m fuel 0 t (q32 ((k : Int) + 1)) else some (q32 (-3)) := by
      show nb_X9_refusedSeen_23 F s (nl_X9_refusedSeen_23 F s m fuel) m 0 _ _ = _
      unfold nb_X9_refusedSeen_23
      by_cases c1 : T k < -1
      · rw [if_neg (show ¬ (-1 ≤ T k ∧ T k < fc) by omega)]; simp (disch := omega) only [Option.bind_some, bindv, bindv0, bind2_s, bind3_s, ↓reduceIte, Bool.false_eq_true, rZM_0, rZM_1, rZP_0, rZP_1, ptZ_0, ptZ_1, c32i, c64i, ncI, Int.natCast_add, Int.natCast_mul, q32_neg, q64_neg, q32_add, q32_sub, q32_mul, q64_add, q64_sub, q64_mul, q32_64i, q64_32, q32_lt_t, q32_lt_f, q32_le_t, q32_le_f, q32_eq_t, q32_eq_f, q64_lt_t, q64_lt_f, q64_le_t, q64_le_f, q64_eq_t, q64_eq_f, rdI_i, rdL_i, rdR_i, rdN_i, stI_i, stL_i, stR_i, wI_s, wI_n, wL_s, wL_n, wI_2, wI_3, wL_1, wL_3, wR_1, wR_2, Int.toNat_natCast, tnO, tn_add, tn_sub, tn_mul, Nat.add_sub_cancel, Nat.add_zero, Nat.zero_add, lnO, win_t, win_f, h8, h5, g3]
      · by_cases c2 : T k < fc
        · rw [if_pos (show (-1 ≤ T k ∧ T k < fc) by omega)]; simp (disch := omega) only [Option.bind_some, bindv, bindv0, bind2_s, bind3_s, ↓reduceIte, Bool.false_eq_true, rZM_0, rZM_1, rZP_0, rZP_1, ptZ_0, ptZ_1, c32i, c64i, ncI, Int.natCast_add, Int.natCast_mul, q32_neg, q64_neg, q32_add, q32_sub, q32_mul, q64_add, q64_sub, q64_mul, q32_64i, q64_32, q32_lt_t, q32_lt_f, q32_le_t, q32_le_f, q32_eq_t, q32_eq_f, q64_lt_t, q64_lt_f, q64_le_t, q64_le_f, q64_eq_t, q64_eq_f, rdI_i, rdL_i, rdR_i, rdN_i, stI_i, stL_i, stR_i, wI_s, wI_n, wL_s, wL_n, wI_2, wI_3, wL_1, wL_3, wR_1, wR_2, Int.toNat_natCast, tnO, tn_add, tn_sub, tn_mul, Nat.add_sub_cancel, Nat.add_zero, Nat.zero_add, lnO, win_t, win_f, h8, h5, g3, rn, a9]
        · rw [if_neg (show ¬ (-1 ≤ T k ∧ T k < fc) by omega)]; simp (disch := omega) only [Option.bind_some, bindv, bindv0, bind2_s, bind3_s, ↓reduceIte, Bool.false_eq_true, rZM_0, rZM_1, rZP_0, rZP_1, ptZ_0, ptZ_1, c32i, c64i, ncI, Int.natCast_add, Int.natCast_mul, q32_neg, q64_neg, q32_add, q32_sub, q32_mul, q64_add, q64_sub, q64_mul, q32_64i, q64_32, q32_lt_t, q32_lt_f, q32_le_t, q32_le_f, q32_eq_t, q32_eq_f, q64_lt_t, q64_lt_f, q64_le_t, q64_le_f, q64_eq_t, q64_eq_f, rdI_i, rdL_i, rdR_i, rdN_i, stI_i, stL_i, stR_i, wI_s, wI_n, wL_s, wL_n, wI_2, wI_3, wL_1, wL_3, wR_1, wR_2, Int.toNat_natCast, tnO, tn_add, tn_sub, tn_mul, Nat.add_sub_cancel, Nat.add_zero, Nat.zero_add, lnO, win_t, win_f, h8, h5, g3, rn, a9]
    rw [step, SOK_s (by omega)]
    by_cases c : -1 ≤ T k ∧ T k < fc
    · rw [if_pos c]
      exact ⟨fun h => i1 h.2, fun h => i2 (fun hh => h ⟨c, hh⟩)⟩
    · rw [if_neg c]
      exact ⟨fun h => absurd h.1 c, fun _ => rfl⟩
theorem seenL10 {F : Nat} {s : List Sh} (hp : ∃ t, s = sB ++ t) {m : Mem} (hr : RF m) {j sz fc : Nat} (hj : j < 4) (h40 : sz ≤ 40) (b3 : m.1 24 3 = q32 fc) (hfc : fc ≤ 8) (h51 : m.1 51 j = q32 sz) {T : Nat → Int} (hT : ∀ k, k < sz → m.2.1 52 (40 * j + k) = q64 (T k) ∧ B63 (T k)) (w2 w3 : Int32) : ∀ (n fuel : Nat), n < fuel → ∀ k, k + n = sz → (SOK T fc k sz → nl_X10_laysFits_19 F s fuel m 23 (q32 j) w2 w3 (q32 k) = if w3 = 0 then some (q32 (-3), m) else nl_X10_laysFits_90 F s F m 23 (q32 j) w2 (q64 1) (q32 0)) ∧ (¬ SOK T fc k sz → nl_X10_laysFits_19 F s fuel m 23 (q32 j) w2 w3 (q32 k) = some (q32 (-3), m)) := by
  have r1 := rf23_1 hr
  have r53 := rf23_53 hr
  have r54 := rf23_54 hr
  have l24 := ln24 hp
  have l51 := ln51 hp
  have l52 := ln52 hp
  intro n
  induction n with
  | zero =>
    intro fuel hf k hk
    obtain ⟨fuel, rfl⟩ : ∃ f, fuel = f + 1 := ⟨fuel - 1, by omega⟩
    refine ⟨fun _ => ?_, fun hn => absurd (fun i h1 h2 => by omega) hn⟩
    show nb_X10_laysFits_19 F s (nl_X10_laysFits_19 F s fuel) m 23 _ _ _ _ = _
    unfold nb_X10_laysFits_19
    simp (disch := omega) only [Option.bind_some, bindv, bindv0, bind2_s, bind3_s, ↓reduceIte, Bool.false_eq_true, rZM_0, rZM_1, rZP_0, rZP_1, ptZ_0, ptZ_1, c32i, c64i, ncI, Int.natCast_add, Int.natCast_mul, q32_neg, q64_neg, q32_add, q32_sub, q32_mul, q64_add, q64_sub, q64_mul, q32_64i, q64_32, q32_lt_t, q32_lt_f, q32_le_t, q32_le_f, q32_eq_t, q32_eq_f, q64_lt_t, q64_lt_f, q64_le_t, q64_le_f, q64_eq_t, q64_eq_f, rdI_i, rdL_i, rdR_i, rdN_i, stI_i, stL_i, stR_i, wI_s, wI_n, wL_s, wL_n, wI_2, wI_3, wL_1, wL_3, wR_1, wR_2, Int.toNat_natCast, tnO, tn_add, tn_sub, tn_mul, Nat.add_sub_cancel, Nat.add_zero, Nat.zero_add, lnO, win_t, win_f, r53, h51]
  | succ n ih =>
    intro fuel hf k hk
    obtain ⟨fuel, rfl⟩ : ∃ f, fuel = f + 1 := ⟨fuel - 1, by omega⟩
    obtain ⟨i1, i2⟩ := ih fuel (by omega) (k + 1) (by omega)
    rw [Int.natCast_add] at i1 i2
    obtain ⟨g1, g2⟩ := hT k (by omega)
    unfold B63 at g2
    have ei : ((40 : Int) * j + k).toNat = 40 * j + k := by omega
    have it : ∀ x : Int, -9223372036854775808 ≤ x → x < 9223372036854775808 → n_X10_isTold s m 23 (q64 x) = some (if 0 ≤ x ∧ x < fc then q32 1 else q32 0) := fun x x1 x2 => by
      unfold n_X10_isTold nb_X10_isTold_0
      by_cases c : 0 ≤ x ∧ x < fc
      · rw [if_pos c]; simp (disch := omega) only [Option.bind_some, bindv, bindv0, bind2_s, bind3_s, ↓reduceIte, Bool.false_eq_true, rZM_0, rZM_1, rZP_0, rZP_1, ptZ_0, ptZ_1, c32i, c64i, ncI, Int.natCast_add, Int.natCast_mul, q32_neg, q64_neg, q32_add, q32_sub, q32_mul, q64_add, q64_sub, q64_mul, q32_64i, q64_32, q32_lt_t, q32_lt_f, q32_le_t, q32_le_f, q32_eq_t, q32_eq_f, q64_lt_t, q64_lt_f, q64_le_t, q64_le_f, q64_eq_t, q64_eq_f, rdI_i, rdL_i, rdR_i, rdN_i, stI_i, stL_i, stR_i, wI_s, wI_n, wL_s, wL_n, wI_2, wI_3, wL_1, wL_3, wR_1, wR_2, Int.toNat_natCast, tnO, tn_add, tn_sub, tn_mul, Nat.add_sub_cancel, Nat.add_zero, Nat.zero_add, lnO, win_t, win_f, r1, b3]
      · rw [if_neg c]; simp (disch := omega) only [Option.bind_some, bindv, bindv0, bind2_s, bind3_s, ↓reduceIte, Bool.false_eq_true, rZM_0, rZM_1, rZP_0, rZP_1, ptZ_0, ptZ_1, c32i, c64i, ncI, Int.natCast_add, Int.natCast_mul, q32_neg, q64_neg, q32_add, q32_sub, q32_mul, q64_add, q64_sub, q64_mul, q32_64i, q64_32, q32_lt_t, q32_lt_f, q32_le_t, q32_le_f, q32_eq_t, q32_eq_f, q64_lt_t, q64_lt_f, q64_le_t, q64_le_f, q64_eq_t, q64_eq_f, rdI_i, rdL_i, rdR_i, rdN_i, stI_i, stL_i, stR_i, wI_s, wI_n, wL_s, wL_n, wI_2, wI_3, wL_1, wL_3, wR_1, wR_2, Int.toNat_natCast, tnO, tn_add, tn_sub, tn_mul, Nat.add_sub_cancel, Nat.add_zero, Nat.zero_add, lnO, win_t, win_f, r1, b3]
    have step : nl_X10_laysFits_19 F s (fuel + 1) m 23 (q32 j) w2 w3 (q32 k) = if -1 ≤ T k ∧ T k < fc then nl_X10_laysFits_19 F s fuel m 23 (q32 j) w2 w3 (q32 ((k : Int) + 1)) else some (q32 (-3), m) := by
      show nb_X10_laysFits_19 F s (nl_X10_laysFits_19 F s fuel) m 23 _ _ _ _ = _
      unfold nb_X10_laysFits_19 nb_X10_laysFits_71
      have it := it (T k) g2.1 g2.2
      by_cases c1 : T k = -1
      · rw [if_pos (show (-1 ≤ T k ∧ T k < fc) by omega)]; simp (disch := omega) only [Option.bind_some, bindv, bindv0, bind2_s, bind3_s, ↓reduceIte, Bool.false_eq_true, rZM_0, rZM_1, rZP_0, rZP_1, ptZ_0, ptZ_1, c32i, c64i, ncI, Int.natCast_add, Int.natCast_mul, q32_neg, q64_neg, q32_add, q32_sub, q32_mul, q64_add, q64_sub, q64_mul, q32_64i, q64_32, q32_lt_t, q32_lt_f, q32_le_t, q32_le_f, q32_eq_t, q32_eq_f, q64_lt_t, q64_lt_f, q64_le_t, q64_le_f, q64_eq_t, q64_eq_f, rdI_i, rdL_i, rdR_i, rdN_i, stI_i, stL_i, stR_i, wI_s, wI_n, wL_s, wL_n, wI_2, wI_3, wL_1, wL_3, wR_1, wR_2, Int.toNat_natCast, r53, h51, r54, ei, g1]
      · by_cases c2 : 0 ≤ T k ∧ T k < fc
        · rw [if_pos c2] at it
          rw [if_pos (show (-1 ≤ T k ∧ T k < fc) by omega)]; simp (disch := omega) only [Option.bind_some, bindv, bindv0, bind2_s, bind3_s, ↓reduceIte, Bool.false_eq_true, rZM_0, rZM_1, rZP_0, rZP_1, ptZ_0, ptZ_1, c32i, c64i, ncI, Int.natCast_add, Int.natCast_mul, q32_neg, q64_neg, q32_add, q32_sub, q32_mul, q64_add, q64_sub, q64_mul, q32_64i, q64_32, q32_lt_t, q32_lt_f, q32_le_t, q32_le_f, q32_eq_t, q32_eq_f, q64_lt_t, q64_lt_f, q64_le_t, q64_le_f, q64_eq_t, q64_eq_f, rdI_i, rdL_i, rdR_i, rdN_i, stI_i, stL_i, stR_i, wI_s, wI_n, wL_s, wL_n, wI_2, wI_3, wL_1, wL_3, wR_1, wR_2, Int.toNat_natCast, r53, h51, r54, ei, g1, it]
        · rw [if_neg c2] at it
          rw [if_neg (show ¬ (-1 ≤ T k ∧ T k < fc) by omega)]; simp (disch := omega) only [Option.bind_some, bindv, bindv0, bind2_s, bind3_s, ↓reduceIte, Bool.false_eq_true, rZM_0, rZM_1, rZP_0, rZP_1, ptZ_0, ptZ_1, c32i, c64i, ncI, Int.natCast_add, Int.natCast_mul, q32_neg, q64_neg, q32_add, q32_sub, q32_mul, q64_add, q64_sub, q64_mul, q32_64i, q64_32, q32_lt_t, q32_lt_f, q32_le_t, q32_le_f, q32_eq_t, q32_eq_f, q64_lt_t, q64_lt_f, q64_le_t, q64_le_f, q64_eq_t, q64_eq_f, rdI_i, rdL_i, rdR_i, rdN_i, stI_i, stL_i, stR_i, wI_s, wI_n, wL_s, wL_n, wI_2, wI_3, wL_1, wL_3, wR_1, wR_2, Int.toNat_natCast, r53, h51, r54, ei, g1, it]
    rw [step, SOK_s (by omega)]
    by_cases c : -1 ≤ T k ∧ T k < fc
    · rw [if_pos c]
      exact ⟨fun h => i1 h.2, fun h => i2 (fun hh => h ⟨c, hh⟩)⟩
    · rw [if_neg c]
      exact ⟨fun h => absurd h.1 c, fun _ => rfl⟩
theorem fewL9 {F : Nat} {s : List Sh} {m : Mem} {nw sz bc : Nat} (rn : m.2.2 0 4 = some nw) (a6 : m.1 nw 6 = q32 bc) (hbc : bc ≤ 6) (hsz : sz ≤ 8) : ∀ (n fuel : Nat), n < fuel → ∀ (k x : Nat), k + n = sz → x ≤ 6 ^ k → nl_X9_fewRows_5 F s m fuel 0 (q32 sz) (q64 x) (q32 k) = some (if 200000 < x * bc ^ n then q32 0 else q32 1) := by
  intro n
  induction n with
  | zero =>
    intro fuel hf k x hk hx
    obtain ⟨fuel, rfl⟩ : ∃ f, fuel = f + 1 := ⟨fuel - 1, by omega⟩
    have p8 : 6 ^ k ≤ 6 ^ 8 := Nat.pow_le_pow_right (by omega) (by omega)
    have p8e : 6 ^ 8 = 1679616 := rfl
    show nb_X9_fewRows_5 F s (nl_X9_fewRows_5 F s m fuel) m 0 _ _ _ = _
    unfold nb_X9_fewRows_5
    rw [Nat.pow_zero, Nat.mul_one]
    by_cases c : 200000 < x
    · rw [if_pos c]; simp (disch := omega) only [Option.bind_some, bindv, bindv0, bind2_s, bind3_s, ↓reduceIte, Bool.false_eq_true, rZM_0, rZM_1, rZP_0, rZP_1, ptZ_0, ptZ_1, c32i, c64i, ncI, Int.natCast_add, Int.natCast_mul, q32_neg, q64_neg, q32_add, q32_sub, q32_mul, q64_add, q64_sub, q64_mul, q32_64i, q64_32, q32_lt_t, q32_lt_f, q32_le_t, q32_le_f, q32_eq_t, q32_eq_f, q64_lt_t, q64_lt_f, q64_le_t, q64_le_f, q64_eq_t, q64_eq_f, rdI_i, rdL_i, rdR_i, rdN_i, stI_i, stL_i, stR_i, wI_s, wI_n, wL_s, wL_n, wI_2, wI_3, wL_1, wL_3, wR_1, wR_2, Int.toNat_natCast, tnO, tn_add, tn_sub, tn_mul, Nat.add_sub_cancel, Nat.add_zero, Nat.zero_add, lnO, win_t, win_f]
    · rw [if_neg c]; simp (disch := omega) only [Option.bind_some, bindv, bindv0, bind2_s, bind3_s, ↓reduceIte, Bool.false_eq_true, rZM_0, rZM_1, rZP_0, rZP_1, ptZ_0, ptZ_1, c32i, c64i, ncI, Int.natCast_add, Int.natCast_mul, q32_neg, q64_neg, q32_add, q32_sub, q32_mul, q64_add, q64_sub, q64_mul, q32_64i, q64_32, q32_lt_t, q32_lt_f, q32_le_t, q32_le_f, q32_eq_t, q32_eq_f, q64_lt_t, q64_lt_f, q64_le_t, q64_le_f, q64_eq_t, q64_eq_f, rdI_i, rdL_i, rdR_i, rdN_i, stI_i, stL_i, stR_i, wI_s, wI_n, wL_s, wL_n, wI_2, wI_3, wL_1, wL_3, wR_1, wR_2, Int.toNat_natCast, tnO, tn_add, tn_sub, tn_mul, Nat.add_sub_cancel, Nat.add_zero, Nat.zero_add, lnO, win_t, win_f]
  | succ n ih =>
    intro fuel hf k x hk hx
    obtain ⟨fuel, rfl⟩ : ∃ f, fuel = f + 1 := ⟨fuel - 1, by omega⟩
    have hx2 : x * bc ≤ 6 ^ (k + 1) := by rw [Nat.pow_succ]; exact Nat.mul_le_mul hx hbc
    have p8 : 6 ^ k ≤ 6 ^ 8 := Nat.pow_le_pow_right (by omega) (by omega)
    have p8e : 6 ^ 8 = 1679616 := rfl
    have ih := ih fuel (by omega) (k + 1) (x * bc) (by omega) hx2
    rw [Int.natCast_add, Int.natCast_mul] at ih
    rw [Nat.pow_succ, Nat.mul_comm (bc ^ n) bc, ← Nat.mul_assoc, ← ih]
    show nb_X9_fewRows_5 F s (nl_X9_fewRows_5 F s m fuel) m 0 _ _ _ = _
    unfold nb_X9_fewRows_5
    simp (disch := omega) only [Option.bind_some, bindv, bindv0, bind2_s, bind3_s, ↓reduceIte, Bool.false_eq_true, rZM_0, rZM_1, rZP_0, rZP_1, ptZ_0, ptZ_1, c32i, c64i, ncI, Int.natCast_add, Int.natCast_mul, q32_neg, q64_neg, q32_add, q32_sub, q32_mul, q64_add, q64_sub, q64_mul, q32_64i, q64_32, q32_lt_t, q32_lt_f, q32_le_t, q32_le_f, q32_eq_t, q32_eq_f, q64_lt_t, q64_lt_f, q64_le_t, q64_le_f, q64_eq_t, q64_eq_f, rdI_i, rdL_i, rdR_i, rdN_i, stI_i, stL_i, stR_i, wI_s, wI_n, wL_s, wL_n, wI_2, wI_3, wL_1, wL_3, wR_1, wR_2, Int.toNat_natCast, tnO, tn_add, tn_sub, tn_mul, Nat.add_sub_cancel, Nat.add_zero, Nat.zero_add, lnO, win_t, win_f, rn, a6]
    first | rfl | skip
theorem fewL10 {F : Nat} {s : List Sh} (hp : ∃ t, s = sB ++ t) {m : Mem} (hr : RF m) {j sz bc : Nat} (hj : j < 4) (b2 : m.1 24 2 = q32 bc) (h51 : m.1 51 j = q32 sz) (hbc : bc ≤ 6) (hsz : sz ≤ 8) (w2 : Int32) : ∀ (n fuel : Nat), n < fuel → ∀ (k x : Nat), k + n = sz → x ≤ 6 ^ k → nl_X10_laysFits_90 F s fuel m 23 (q32 j) w2 (q64 x) (q32 k) = if 200000 < x * bc ^ n then some (q32 (-1000), m) else nl_X10_laysFits_135 F s F m 23 (q32 j) w2 (q32 0) := by
  have r1 := rf23_1 hr
  have r53 := rf23_53 hr
  have l24 := ln24 hp
  have l51 := ln51 hp
  intro n
  induction n with
  | zero =>
    intro fuel hf k x hk hx
    obtain ⟨fuel, rfl⟩ : ∃ f, fuel = f + 1 := ⟨fuel - 1, by omega⟩
    have p8 : 6 ^ k ≤ 6 ^ 8 := Nat.pow_le_pow_right (by omega) (by omega)
    have p8e : 6 ^ 8 = 1679616 := rfl
    show nb_X10_laysFits_90 F s (nl_X10_laysFits_90 F s fuel) m 23 _ _ _ _ = _
    unfold nb_X10_laysFits_90
    rw [Nat.pow_zero, Nat.mul_one]
    by_cases c : 200000 < x
    · rw [if_pos c]; simp (disch := omega) only [Option.bind_some, bindv, bindv0, bind2_s, bind3_s, ↓reduceIte, Bool.false_eq_true, rZM_0, rZM_1, rZP_0, rZP_1, ptZ_0, ptZ_1, c32i, c64i, ncI, Int.natCast_add, Int.natCast_mul, q32_neg, q64_neg, q32_add, q32_sub, q32_mul, q64_add, q64_sub, q64_mul, q32_64i, q64_32, q32_lt_t, q32_lt_f, q32_le_t, q32_le_f, q32_eq_t, q32_eq_f, q64_lt_t, q64_lt_f, q64_le_t, q64_le_f, q64_eq_t, q64_eq_f, rdI_i, rdL_i, rdR_i, rdN_i, stI_i, stL_i, stR_i, wI_s, wI_n, wL_s, wL_n, wI_2, wI_3, wL_1, wL_3, wR_1, wR_2, Int.toNat_natCast, tnO, tn_add, tn_sub, tn_mul, Nat.add_sub_cancel, Nat.add_zero, Nat.zero_add, lnO, win_t, win_f, r53, h51]
    · rw [if_neg c]; simp (disch := omega) only [Option.bind_some, bindv, bindv0, bind2_s, bind3_s, ↓reduceIte, Bool.false_eq_true, rZM_0, rZM_1, rZP_0, rZP_1, ptZ_0, ptZ_1, c32i, c64i, ncI, Int.natCast_add, Int.natCast_mul, q32_neg, q64_neg, q32_add, q32_sub, q32_mul, q64_add, q64_sub, q64_mul, q32_64i, q64_32, q32_lt_t, q32_lt_f, q32_le_t, q32_le_f, q32_eq_t, q32_eq_f, q64_lt_t, q64_lt_f, q64_le_t, q64_le_f, q64_eq_t, q64_eq_f, rdI_i, rdL_i, rdR_i, rdN_i, stI_i, stL_i, stR_i, wI_s, wI_n, wL_s, wL_n, wI_2, wI_3, wL_1, wL_3, wR_1, wR_2, Int.toNat_natCast, tnO, tn_add, tn_sub, tn_mul, Nat.add_sub_cancel, Nat.add_zero, Nat.zero_add, lnO, win_t, win_f, r53, h51]
  | succ n ih =>
    intro fuel hf k x hk hx
    obtain ⟨fuel, rfl⟩ : ∃ f, fuel = f + 1 := ⟨fuel - 1, by omega⟩
    have hx2 : x * bc ≤ 6 ^ (k + 1) := by rw [Nat.pow_succ]; exact Nat.mul_le_mul hx hbc
    have p8 : 6 ^ k ≤ 6 ^ 8 := Nat.pow_le_pow_right (by omega) (by omega)
    have p8e : 6 ^ 8 = 1679616 := rfl
    have ih := ih fuel (by omega) (k + 1) (x * bc) (by omega) hx2
    rw [Int.natCast_add, Int.natCast_mul] at ih
    rw [Nat.pow_succ, Nat.mul_comm (bc ^ n) bc, ← Nat.mul_assoc, ← ih]
    show nb_X10_laysFits_90 F s (nl_X10_laysFits_90 F s fuel) m 23 _ _ _ _ = _
    unfold nb_X10_laysFits_90
    simp (disch := omega) only [Option.bind_some, bindv, bindv0, bind2_s, bind3_s, ↓reduceIte, Bool.false_eq_true, rZM_0, rZM_1, rZP_0, rZP_1, ptZ_0, ptZ_1, c32i, c64i, ncI, Int.natCast_add, Int.natCast_mul, q32_neg, q64_neg, q32_add, q32_sub, q32_mul, q64_add, q64_sub, q64_mul, q32_64i, q64_32, q32_lt_t, q32_lt_f, q32_le_t, q32_le_f, q32_eq_t, q32_eq_f, q64_lt_t, q64_lt_f, q64_le_t, q64_le_f, q64_eq_t, q64_eq_f, rdI_i, rdL_i, rdR_i, rdN_i, stI_i, stL_i, stR_i, wI_s, wI_n, wL_s, wL_n, wI_2, wI_3, wL_1, wL_3, wR_1, wR_2, Int.toNat_natCast, tnO, tn_add, tn_sub, tn_mul, Nat.add_sub_cancel, Nat.add_zero, Nat.zero_add, lnO, win_t, win_f, r53, h51, r1, b2]
    first | rfl | skip
