/-! PURE: a floor that is told anew -/
theorem cpM_i {s : List Sh} {m : Mem} {a b : Nat} {sp dp n : Int} (h : 0 ≤ sp ∧ 0 ≤ dp ∧ 0 ≤ n ∧ sp + n ≤ ln s a ∧ dp + n ≤ ln s b ∧ sp + n < 2147483648 ∧ dp + n < 2147483648) : cpM s m a (q32 sp) b (q32 dp) (q32 n) = some (wC m a sp.toNat b dp.toNat n.toNat) := by
  unfold cpM
  rw [(i_nn ⟨h.1, by omega⟩).2, (i_nn ⟨h.2.1, by omega⟩).2, (i_nn ⟨h.2.2.1, by omega⟩).2, if_pos ⟨⟨(i_nn ⟨h.1, by omega⟩).1, (i_nn ⟨h.2.1, by omega⟩).1, (i_nn ⟨h.2.2.1, by omega⟩).1⟩, by omega, by omega⟩]
theorem wC_1 (m : Mem) (a sp b dp n c j : Nat) : (wC m a sp b dp n).1 c j = if c = b ∧ dp ≤ j ∧ j < dp + n then m.1 a (sp + (j - dp)) else m.1 c j := rfl
theorem wC_n {m : Mem} {a sp b dp n c j : Nat} (h : c ≠ b ∨ j < dp ∨ dp + n ≤ j) : (wC m a sp b dp n).1 c j = m.1 c j := by rw [wC_1, if_neg (by omega)]
theorem wC_2 (m : Mem) (a sp b dp n : Nat) : (wC m a sp b dp n).2 = m.2 := rfl
def insI (U : Nat → Int) (fc : Nat) (u : Int) : Nat → Int := fun k => if k = fc then u else U k
def insX (X : Nat → Nat → Nat) (fc : Nat) (x : Nat → Nat) : Nat → Nat → Nat := fun k z => if k = fc then x z else X k z
def insO (O : Nat → Nat) (fc p : Nat) : Nat → Nat := fun j => if j < p then O j else if j = p then fc else O (j - 1)
theorem FD.add {fc tp : Nat} {U L : Nat → Int} {X : Nat → Nat → Nat} {O : Nat → Nat} (hd : FD fc tp U L X O) (h8 : fc < 8) {u l : Int} (hf : FLR tp u l) (hl : l ≤ 99) {x : Nat → Nat} (hx : ∀ z, z < 3 → x z ≤ 99) (hn : ∀ k, k < fc → ¬ (U k = u ∧ L k = l)) : FD (fc + 1) tp (insI U fc u) (insI L fc l) (insX X fc x) (insO O fc (Sm (blw U L u l) fc)) := by
  have hf' := hf
  unfold FLR at hf'
  have ho := hd.2.2.2.2
  obtain ⟨c1, c2, c3⟩ := ho.cnt (u := u) (l := l) (by omega)
  generalize Sm (blw U L u l) fc = p at *
  have hO := ho.1
  refine ⟨by omega, hd.2.1, hd.2.2.1, fun k hk => ?_, ?_, ?_, ?_⟩
  · unfold insI insX
    by_cases c : k = fc
    · rw [if_pos c, if_pos c]
      refine ⟨hf, hl, fun z hz => ?_⟩
      rw [if_pos c]; exact hx z hz
    · rw [if_neg c, if_neg c]
      obtain ⟨f1, f2, f3⟩ := hd.2.2.2.1 k (by omega)
      refine ⟨f1, f2, fun z hz => ?_⟩
      rw [if_neg c]; exact f3 z hz
  · intro i hi
    unfold insO
    by_cases a : i < p
    · rw [if_pos a]; have := hO i (by omega); omega
    · rw [if_neg a]
      by_cases b : i = p
      · rw [if_pos b]; omega
      · rw [if_neg b]; have := hO (i - 1) (by omega); omega
  · intro k hk
    unfold insI
    by_cases c : k = fc
    · rw [if_pos c]; omega
    · rw [if_neg c]; exact ho.2.1 k (by omega)
  · have lo : ∀ i, i < p → insI U fc u (insO O fc p i) = U (O i) ∧ insI L fc l (insO O fc p i) = L (O i) := fun i hi => by
      have := hO i (by omega)
      unfold insO insI
      rw [if_pos hi, if_neg (by omega), if_neg (by omega)]
      exact ⟨rfl, rfl⟩
    have mi : insI U fc u (insO O fc p p) = u ∧ insI L fc l (insO O fc p p) = l := by
      have eo : insO O fc p p = fc := by unfold insO; rw [if_neg (by omega), if_pos rfl]
      rw [eo]
      unfold insI
      rw [if_pos rfl, if_pos rfl]
      exact ⟨rfl, rfl⟩
    have hi' : ∀ i, p < i → i < fc + 1 → insI U fc u (insO O fc p i) = U (O (i - 1)) ∧ insI L fc l (insO O fc p i) = L (O (i - 1)) := fun i h1 h2 => by
      have := hO (i - 1) (by omega)
      have eo : insO O fc p i = O (i - 1) := by unfold insO; rw [if_neg (by omega), if_neg (by omega)]
      rw [eo]
      unfold insI
      rw [if_neg (by omega), if_neg (by omega)]
      exact ⟨rfl, rfl⟩
    have above : ∀ i, p ≤ i → i < fc → u * L (O i) < U (O i) * l := fun i h1 h2 => by
      have h3 := c3 i h1 h2
      have k1 := hO i h2
      obtain ⟨f1, f2, f3⟩ := hd.2.2.2.1 _ k1
      unfold FLR at f1
      apply Classical.byContradiction
      intro hnot
      have e : U (O i) * l = u * L (O i) := by omega
      obtain ⟨e1, e2⟩ := low_uniq (a := U (O i)) (b := L (O i)) (c := u) (d := l) (by omega) (by omega) f1.2.2.2.2.2 hf'.2.2.2.2.2 e
      exact hn _ k1 ⟨e1, e2⟩
    intro i j hij hj
    by_cases a : j < p
    · rw [(lo i (by omega)).1, (lo i (by omega)).2, (lo j a).1, (lo j a).2]
      exact ho.2.2 i j hij (by omega)
    · by_cases b : j = p
      · subst b
        rw [(lo i hij).1, (lo i hij).2, mi.1, mi.2]
        exact c2 i hij
      · rw [(hi' j (by omega) hj).1, (hi' j (by omega) hj).2]
        by_cases c : i < p
        · rw [(lo i c).1, (lo i c).2]
          exact ho.2.2 i (j - 1) (by omega) (by omega)
        · by_cases d : i = p
          · subst d
            rw [mi.1, mi.2]
            exact above (j - 1) (by omega) (by omega)
          · rw [(hi' i (by omega) (by omega)).1, (hi' i (by omega) (by omega)).2]
            exact ho.2.2 (i - 1) (j - 1) (by omega) (by omega)
theorem addL9 {F : Nat} {s : List Sh} {n fc tp p : Nat} {U L : Nat → Int} {X : Nat → Nat → Nat} {O : Nat → Nat} (hd : FD fc tp U L X O) (h8 : fc < 8) (hp : p ≤ fc) (l3 : ln s (n + 3) = 8) (l4 : ln s (n + 4) = 8) (l5 : ln s (n + 5) = 24) (l6 : ln s (n + 6) = 3) (l7 : ln s (n + 7) = 8) {u l : Int32} {x : Nat → Nat} : ∀ (q fuel : Nat), q < fuel → ∀ (m : Mem) (i : Nat), m.1 n 9 = q32 fc → m.2.2 n 10 = some (n + 3) → m.2.2 n 11 = some (n + 4) → m.2.2 n 12 = some (n + 5) → m.2.2 n 13 = some (n + 6) → m.2.2 n 14 = some (n + 7) → (∀ z, z < 3 → m.1 (n + 6) z = q32 (x z)) → (∀ j, j < fc → j ≤ i → m.1 (n + 7) j = q32 (O j)) → (∀ j, i < j → j ≤ fc → m.1 (n + 7) j = q32 (O (j - 1))) → p + q = i → i ≤ fc → ∃ m', nl_X0_addFloor_25 F s fuel m n u l (q32 p) (q32 i) = some ((), m') ∧ m'.2 = m.2 ∧ (∀ a k, a ≠ n + 3 ∧ a ≠ n + 4 ∧ a ≠ n + 5 ∧ a ≠ n + 7 ∧ (a ≠ n ∨ k ≠ 9) → m'.1 a k = m.1 a k) ∧ m'.1 n 9 = q32 (fc + 1 : Nat) ∧ (∀ j, j < fc + 1 → m'.1 (n + 7) j = q32 (insO O fc p j)) ∧ (∀ k, k < fc → m'.1 (n + 3) k = m.1 (n + 3) k ∧ m'.1 (n + 4) k = m.1 (n + 4) k) ∧ m'.1 (n + 3) fc = u ∧ m'.1 (n + 4) fc = l ∧ (∀ k, k < 3 * fc → m'.1 (n + 5) k = m.1 (n + 5) k) ∧ ∀ z, z < 3 → m'.1 (n + 5) (3 * fc + z) = q32 (x z) := by
  intro q
  induction q with
  | zero =>
    intro fuel hf m i a9 r10 r11 r12 r13 r14 hx ho1 ho2 hi hic
    obtain ⟨fuel, rfl⟩ : ∃ f, fuel = f + 1 := ⟨fuel - 1, by omega⟩
    obtain rfl : p = i := by omega
    have ec : (fc : Int) * 3 = ((3 * fc : Nat) : Int) := by omega
    refine ⟨wI (wC (wI (wI (wI m (n + 7) p (q32 fc)) (n + 3) fc u) (n + 4) fc l) (n + 6) 0 (n + 5) (3 * fc) 3) n 9 (q32 (fc + 1 : Nat)), ?_, rfl, fun a k h => ?_, ?_, fun j hj => ?_, fun k hk => ⟨?_, ?_⟩, ?_, ?_, fun k hk => ?_, fun z hz => ?_⟩
    · show nb_X0_addFloor_25 F s (nl_X0_addFloor_25 F s fuel) m n u l (q32 p) (q32 p) = _
      unfold nb_X0_addFloor_25
      simp (disch := omega) only [Option.bind_some, bindv, bindv0, bind2_s, bind3_s, ↓reduceIte, Bool.false_eq_true, rZM_0, rZM_1, rZP_0, rZP_1, ptZ_0, ptZ_1, c32i, c64i, ncI, Int.natCast_add, Int.natCast_mul, q32_neg, q64_neg, q32_add, q32_sub, q32_mul, q64_add, q64_sub, q64_mul, q32_64i, q64_32, q32_lt_t, q32_lt_f, q32_le_t, q32_le_f, q32_eq_t, q32_eq_f, q64_lt_t, q64_lt_f, q64_le_t, q64_le_f, q64_eq_t, q64_eq_f, rdI_i, rdL_i, rdR_i, rdN_i, stI_i, stL_i, stR_i, wI_s, wI_n, wL_s, wL_n, wI_2, wI_3, wL_1, wL_3, wR_1, wR_2, Int.toNat_natCast, tnO, tn_add, tn_sub, tn_mul, Nat.add_sub_cancel, Nat.add_zero, Nat.zero_add, lnO, win_t, win_f, r10, r11, r12, r13, r14, a9, ec, cpM_i, wC_2, wC_n]
    · rw [wI_n (by omega), wC_n (by omega)]; simp (disch := omega) only [Option.bind_some, bindv, bindv0, bind2_s, bind3_s, ↓reduceIte, Bool.false_eq_true, rZM_0, rZM_1, rZP_0, rZP_1, ptZ_0, ptZ_1, c32i, c64i, ncI, Int.natCast_add, Int.natCast_mul, q32_neg, q64_neg, q32_add, q32_sub, q32_mul, q64_add, q64_sub, q64_mul, q32_64i, q64_32, q32_lt_t, q32_lt_f, q32_le_t, q32_le_f, q32_eq_t, q32_eq_f, q64_lt_t, q64_lt_f, q64_le_t, q64_le_f, q64_eq_t, q64_eq_f, rdI_i, rdL_i, rdR_i, rdN_i, stI_i, stL_i, stR_i, wI_s, wI_n, wL_s, wL_n, wI_2, wI_3, wL_1, wL_3, wR_1, wR_2, Int.toNat_natCast, tnO, tn_add, tn_sub, tn_mul, Nat.add_sub_cancel, Nat.add_zero, Nat.zero_add, lnO, win_t, win_f]
    · simp (disch := omega) only [Option.bind_some, bindv, bindv0, bind2_s, bind3_s, ↓reduceIte, Bool.false_eq_true, rZM_0, rZM_1, rZP_0, rZP_1, ptZ_0, ptZ_1, c32i, c64i, ncI, Int.natCast_add, Int.natCast_mul, q32_neg, q64_neg, q32_add, q32_sub, q32_mul, q64_add, q64_sub, q64_mul, q32_64i, q64_32, q32_lt_t, q32_lt_f, q32_le_t, q32_le_f, q32_eq_t, q32_eq_f, q64_lt_t, q64_lt_f, q64_le_t, q64_le_f, q64_eq_t, q64_eq_f, rdI_i, rdL_i, rdR_i, rdN_i, stI_i, stL_i, stR_i, wI_s, wI_n, wL_s, wL_n, wI_2, wI_3, wL_1, wL_3, wR_1, wR_2, Int.toNat_natCast, tnO, tn_add, tn_sub, tn_mul, Nat.add_sub_cancel, Nat.add_zero, Nat.zero_add, lnO, win_t, win_f]
    · rw [wI_n (by omega), wC_n (by omega)]
      unfold insO
      by_cases c1 : j < p
      · rw [if_pos c1]; simp (disch := omega) only [Option.bind_some, bindv, bindv0, bind2_s, bind3_s, ↓reduceIte, Bool.false_eq_true, rZM_0, rZM_1, rZP_0, rZP_1, ptZ_0, ptZ_1, c32i, c64i, ncI, Int.natCast_add, Int.natCast_mul, q32_neg, q64_neg, q32_add, q32_sub, q32_mul, q64_add, q64_sub, q64_mul, q32_64i, q64_32, q32_lt_t, q32_lt_f, q32_le_t, q32_le_f, q32_eq_t, q32_eq_f, q64_lt_t, q64_lt_f, q64_le_t, q64_le_f, q64_eq_t, q64_eq_f, rdI_i, rdL_i, rdR_i, rdN_i, stI_i, stL_i, stR_i, wI_s, wI_n, wL_s, wL_n, wI_2, wI_3, wL_1, wL_3, wR_1, wR_2, Int.toNat_natCast, tnO, tn_add, tn_sub, tn_mul, Nat.add_sub_cancel, Nat.add_zero, Nat.zero_add, lnO, win_t, win_f]; exact ho1 j (by omega) (by omega)
      · rw [if_neg c1]
        by_cases c2 : j = p
        · rw [if_pos c2]; subst c2; simp (disch := omega) only [Option.bind_some, bindv, bindv0, bind2_s, bind3_s, ↓reduceIte, Bool.false_eq_true, rZM_0, rZM_1, rZP_0, rZP_1, ptZ_0, ptZ_1, c32i, c64i, ncI, Int.natCast_add, Int.natCast_mul, q32_neg, q64_neg, q32_add, q32_sub, q32_mul, q64_add, q64_sub, q64_mul, q32_64i, q64_32, q32_lt_t, q32_lt_f, q32_le_t, q32_le_f, q32_eq_t, q32_eq_f, q64_lt_t, q64_lt_f, q64_le_t, q64_le_f, q64_eq_t, q64_eq_f, rdI_i, rdL_i, rdR_i, rdN_i, stI_i, stL_i, stR_i, wI_s, wI_n, wL_s, wL_n, wI_2, wI_3, wL_1, wL_3, wR_1, wR_2, Int.toNat_natCast, tnO, tn_add, tn_sub, tn_mul, Nat.add_sub_cancel, Nat.add_zero, Nat.zero_add, lnO, win_t, win_f]
        · rw [if_neg c2]; simp (disch := omega) only [Option.bind_some, bindv, bindv0, bind2_s, bind3_s, ↓reduceIte, Bool.false_eq_true, rZM_0, rZM_1, rZP_0, rZP_1, ptZ_0, ptZ_1, c32i, c64i, ncI, Int.natCast_add, Int.natCast_mul, q32_neg, q64_neg, q32_add, q32_sub, q32_mul, q64_add, q64_sub, q64_mul, q32_64i, q64_32, q32_lt_t, q32_lt_f, q32_le_t, q32_le_f, q32_eq_t, q32_eq_f, q64_lt_t, q64_lt_f, q64_le_t, q64_le_f, q64_eq_t, q64_eq_f, rdI_i, rdL_i, rdR_i, rdN_i, stI_i, stL_i, stR_i, wI_s, wI_n, wL_s, wL_n, wI_2, wI_3, wL_1, wL_3, wR_1, wR_2, Int.toNat_natCast, tnO, tn_add, tn_sub, tn_mul, Nat.add_sub_cancel, Nat.add_zero, Nat.zero_add, lnO, win_t, win_f]; exact ho2 j (by omega) (by omega)
    · rw [wI_n (by omega), wC_n (by omega)]; simp (disch := omega) only [Option.bind_some, bindv, bindv0, bind2_s, bind3_s, ↓reduceIte, Bool.false_eq_true, rZM_0, rZM_1, rZP_0, rZP_1, ptZ_0, ptZ_1, c32i, c64i, ncI, Int.natCast_add, Int.natCast_mul, q32_neg, q64_neg, q32_add, q32_sub, q32_mul, q64_add, q64_sub, q64_mul, q32_64i, q64_32, q32_lt_t, q32_lt_f, q32_le_t, q32_le_f, q32_eq_t, q32_eq_f, q64_lt_t, q64_lt_f, q64_le_t, q64_le_f, q64_eq_t, q64_eq_f, rdI_i, rdL_i, rdR_i, rdN_i, stI_i, stL_i, stR_i, wI_s, wI_n, wL_s, wL_n, wI_2, wI_3, wL_1, wL_3, wR_1, wR_2, Int.toNat_natCast, tnO, tn_add, tn_sub, tn_mul, Nat.add_sub_cancel, Nat.add_zero, Nat.zero_add, lnO, win_t, win_f]
    · rw [wI_n (by omega), wC_n (by omega)]; simp (disch := omega) only [Option.bind_some, bindv, bindv0, bind2_s, bind3_s, ↓reduceIte, Bool.false_eq_true, rZM_0, rZM_1, rZP_0, rZP_1, ptZ_0, ptZ_1, c32i, c64i, ncI, Int.natCast_add, Int.natCast_mul, q32_neg, q64_neg, q32_add, q32_sub, q32_mul, q64_add, q64_sub, q64_mul, q32_64i, q64_32, q32_lt_t, q32_lt_f, q32_le_t, q32_le_f, q32_eq_t, q32_eq_f, q64_lt_t, q64_lt_f, q64_le_t, q64_le_f, q64_eq_t, q64_eq_f, rdI_i, rdL_i, rdR_i, rdN_i, stI_i, stL_i, stR_i, wI_s, wI_n, wL_s, wL_n, wI_2, wI_3, wL_1, wL_3, wR_1, wR_2, Int.toNat_natCast, tnO, tn_add, tn_sub, tn_mul, Nat.add_sub_cancel, Nat.add_zero, Nat.zero_add, lnO, win_t, win_f]
    · rw [wI_n (by omega), wC_n (by omega)]; simp (disch := omega) only [Option.bind_some, bindv, bindv0, bind2_s, bind3_s, ↓reduceIte, Bool.false_eq_true, rZM_0, rZM_1, rZP_0, rZP_1, ptZ_0, ptZ_1, c32i, c64i, ncI, Int.natCast_add, Int.natCast_mul, q32_neg, q64_neg, q32_add, q32_sub, q32_mul, q64_add, q64_sub, q64_mul, q32_64i, q64_32, q32_lt_t, q32_lt_f, q32_le_t, q32_le_f, q32_eq_t, q32_eq_f, q64_lt_t, q64_lt_f, q64_le_t, q64_le_f, q64_eq_t, q64_eq_f, rdI_i, rdL_i, rdR_i, rdN_i, stI_i, stL_i, stR_i, wI_s, wI_n, wL_s, wL_n, wI_2, wI_3, wL_1, wL_3, wR_1, wR_2, Int.toNat_natCast, tnO, tn_add, tn_sub, tn_mul, Nat.add_sub_cancel, Nat.add_zero, Nat.zero_add, lnO, win_t, win_f]
    · rw [wI_n (by omega), wC_n (by omega)]; simp (disch := omega) only [Option.bind_some, bindv, bindv0, bind2_s, bind3_s, ↓reduceIte, Bool.false_eq_true, rZM_0, rZM_1, rZP_0, rZP_1, ptZ_0, ptZ_1, c32i, c64i, ncI, Int.natCast_add, Int.natCast_mul, q32_neg, q64_neg, q32_add, q32_sub, q32_mul, q64_add, q64_sub, q64_mul, q32_64i, q64_32, q32_lt_t, q32_lt_f, q32_le_t, q32_le_f, q32_eq_t, q32_eq_f, q64_lt_t, q64_lt_f, q64_le_t, q64_le_f, q64_eq_t, q64_eq_f, rdI_i, rdL_i, rdR_i, rdN_i, stI_i, stL_i, stR_i, wI_s, wI_n, wL_s, wL_n, wI_2, wI_3, wL_1, wL_3, wR_1, wR_2, Int.toNat_natCast, tnO, tn_add, tn_sub, tn_mul, Nat.add_sub_cancel, Nat.add_zero, Nat.zero_add, lnO, win_t, win_f]
    · rw [wI_n (by omega), wC_n (by omega)]; simp (disch := omega) only [Option.bind_some, bindv, bindv0, bind2_s, bind3_s, ↓reduceIte, Bool.false_eq_true, rZM_0, rZM_1, rZP_0, rZP_1, ptZ_0, ptZ_1, c32i, c64i, ncI, Int.natCast_add, Int.natCast_mul, q32_neg, q64_neg, q32_add, q32_sub, q32_mul, q64_add, q64_sub, q64_mul, q32_64i, q64_32, q32_lt_t, q32_lt_f, q32_le_t, q32_le_f, q32_eq_t, q32_eq_f, q64_lt_t, q64_lt_f, q64_le_t, q64_le_f, q64_eq_t, q64_eq_f, rdI_i, rdL_i, rdR_i, rdN_i, stI_i, stL_i, stR_i, wI_s, wI_n, wL_s, wL_n, wI_2, wI_3, wL_1, wL_3, wR_1, wR_2, Int.toNat_natCast, tnO, tn_add, tn_sub, tn_mul, Nat.add_sub_cancel, Nat.add_zero, Nat.zero_add, lnO, win_t, win_f]
    · rw [wI_n (by omega), wC_1, if_pos (by omega), show 0 + (3 * fc + z - 3 * fc) = z by omega]
      simp (disch := omega) only [Option.bind_some, bindv, bindv0, bind2_s, bind3_s, ↓reduceIte, Bool.false_eq_true, rZM_0, rZM_1, rZP_0, rZP_1, ptZ_0, ptZ_1, c32i, c64i, ncI, Int.natCast_add, Int.natCast_mul, q32_neg, q64_neg, q32_add, q32_sub, q32_mul, q64_add, q64_sub, q64_mul, q32_64i, q64_32, q32_lt_t, q32_lt_f, q32_le_t, q32_le_f, q32_eq_t, q32_eq_f, q64_lt_t, q64_lt_f, q64_le_t, q64_le_f, q64_eq_t, q64_eq_f, rdI_i, rdL_i, rdR_i, rdN_i, stI_i, stL_i, stR_i, wI_s, wI_n, wL_s, wL_n, wI_2, wI_3, wL_1, wL_3, wR_1, wR_2, Int.toNat_natCast, tnO, tn_add, tn_sub, tn_mul, Nat.add_sub_cancel, Nat.add_zero, Nat.zero_add, lnO, win_t, win_f]
      exact hx z hz
  | succ q ih =>
    intro fuel hf m i a9 r10 r11 r12 r13 r14 hx ho1 ho2 hi hic
    obtain ⟨fuel, rfl⟩ : ∃ f, fuel = f + 1 := ⟨fuel - 1, by omega⟩
    have en : ((i : Int) - 1).toNat = i - 1 := by omega
    have o1 := ho1 (i - 1) (by omega) (by omega)
    obtain ⟨m', q1, q2, q3, q4, q5, q6, q7, q8, q9, q10⟩ := ih fuel (by omega) (wI m (n + 7) i (q32 (O (i - 1)))) (i - 1) (by simp (disch := omega) only [Option.bind_some, bindv, bindv0, bind2_s, bind3_s, ↓reduceIte, Bool.false_eq_true, rZM_0, rZM_1, rZP_0, rZP_1, ptZ_0, ptZ_1, c32i, c64i, ncI, Int.natCast_add, Int.natCast_mul, q32_neg, q64_neg, q32_add, q32_sub, q32_mul, q64_add, q64_sub, q64_mul, q32_64i, q64_32, q32_lt_t, q32_lt_f, q32_le_t, q32_le_f, q32_eq_t, q32_eq_f, q64_lt_t, q64_lt_f, q64_le_t, q64_le_f, q64_eq_t, q64_eq_f, rdI_i, rdL_i, rdR_i, rdN_i, stI_i, stL_i, stR_i, wI_s, wI_n, wL_s, wL_n, wI_2, wI_3, wL_1, wL_3, wR_1, wR_2, Int.toNat_natCast, tnO, tn_add, tn_sub, tn_mul, Nat.add_sub_cancel, Nat.add_zero, Nat.zero_add, lnO, win_t, win_f, a9]) r10 r11 r12 r13 r14 (fun z hz => by simp (disch := omega) only [Option.bind_some, bindv, bindv0, bind2_s, bind3_s, ↓reduceIte, Bool.false_eq_true, rZM_0, rZM_1, rZP_0, rZP_1, ptZ_0, ptZ_1, c32i, c64i, ncI, Int.natCast_add, Int.natCast_mul, q32_neg, q64_neg, q32_add, q32_sub, q32_mul, q64_add, q64_sub, q64_mul, q32_64i, q64_32, q32_lt_t, q32_lt_f, q32_le_t, q32_le_f, q32_eq_t, q32_eq_f, q64_lt_t, q64_lt_f, q64_le_t, q64_le_f, q64_eq_t, q64_eq_f, rdI_i, rdL_i, rdR_i, rdN_i, stI_i, stL_i, stR_i, wI_s, wI_n, wL_s, wL_n, wI_2, wI_3, wL_1, wL_3, wR_1, wR_2, Int.toNat_natCast, tnO, tn_add, tn_sub, tn_mul, Nat.add_sub_cancel, Nat.add_zero, Nat.zero_add, lnO, win_t, win_f]; exact hx z hz) (fun j h1 h2 => by simp (disch := omega) only [Option.bind_some, bindv, bindv0, bind2_s, bind3_s, ↓reduceIte, Bool.false_eq_true, rZM_0, rZM_1, rZP_0, rZP_1, ptZ_0, ptZ_1, c32i, c64i, ncI, Int.natCast_add, Int.natCast_mul, q32_neg, q64_neg, q32_add, q32_sub, q32_mul, q64_add, q64_sub, q64_mul, q32_64i, q64_32, q32_lt_t, q32_lt_f, q32_le_t, q32_le_f, q32_eq_t, q32_eq_f, q64_lt_t, q64_lt_f, q64_le_t, q64_le_f, q64_eq_t, q64_eq_f, rdI_i, rdL_i, rdR_i, rdN_i, stI_i, stL_i, stR_i, wI_s, wI_n, wL_s, wL_n, wI_2, wI_3, wL_1, wL_3, wR_1, wR_2, Int.toNat_natCast, tnO, tn_add, tn_sub, tn_mul, Nat.add_sub_cancel, Nat.add_zero, Nat.zero_add, lnO, win_t, win_f]; exact ho1 j h1 (by omega)) (fun j h1 h2 => by
      by_cases c : j = i
      · subst c; simp (disch := omega) only [Option.bind_some, bindv, bindv0, bind2_s, bind3_s, ↓reduceIte, Bool.false_eq_true, rZM_0, rZM_1, rZP_0, rZP_1, ptZ_0, ptZ_1, c32i, c64i, ncI, Int.natCast_add, Int.natCast_mul, q32_neg, q64_neg, q32_add, q32_sub, q32_mul, q64_add, q64_sub, q64_mul, q32_64i, q64_32, q32_lt_t, q32_lt_f, q32_le_t, q32_le_f, q32_eq_t, q32_eq_f, q64_lt_t, q64_lt_f, q64_le_t, q64_le_f, q64_eq_t, q64_eq_f, rdI_i, rdL_i, rdR_i, rdN_i, stI_i, stL_i, stR_i, wI_s, wI_n, wL_s, wL_n, wI_2, wI_3, wL_1, wL_3, wR_1, wR_2, Int.toNat_natCast, tnO, tn_add, tn_sub, tn_mul, Nat.add_sub_cancel, Nat.add_zero, Nat.zero_add, lnO, win_t, win_f]
      · simp (disch := omega) only [Option.bind_some, bindv, bindv0, bind2_s, bind3_s, ↓reduceIte, Bool.false_eq_true, rZM_0, rZM_1, rZP_0, rZP_1, ptZ_0, ptZ_1, c32i, c64i, ncI, Int.natCast_add, Int.natCast_mul, q32_neg, q64_neg, q32_add, q32_sub, q32_mul, q64_add, q64_sub, q64_mul, q32_64i, q64_32, q32_lt_t, q32_lt_f, q32_le_t, q32_le_f, q32_eq_t, q32_eq_f, q64_lt_t, q64_lt_f, q64_le_t, q64_le_f, q64_eq_t, q64_eq_f, rdI_i, rdL_i, rdR_i, rdN_i, stI_i, stL_i, stR_i, wI_s, wI_n, wL_s, wL_n, wI_2, wI_3, wL_1, wL_3, wR_1, wR_2, Int.toNat_natCast, tnO, tn_add, tn_sub, tn_mul, Nat.add_sub_cancel, Nat.add_zero, Nat.zero_add, lnO, win_t, win_f]; exact ho2 j (by omega) h2) (by omega) (by omega)
    refine ⟨m', ?_, q2, fun a k h => ?_, q4, q5, fun k hk => ⟨?_, ?_⟩, q7, q8, fun k hk => ?_, q10⟩
    · show nb_X0_addFloor_25 F s (nl_X0_addFloor_25 F s fuel) m n u l (q32 p) (q32 i) = _
      unfold nb_X0_addFloor_25
      have e2 : q32 ((i : Int) + -1) = q32 ((i - 1 : Nat) : Int) := by congr 1; omega
      simp (disch := omega) only [Option.bind_some, bindv, bindv0, bind2_s, bind3_s, ↓reduceIte, Bool.false_eq_true, rZM_0, rZM_1, rZP_0, rZP_1, ptZ_0, ptZ_1, c32i, c64i, ncI, Int.natCast_add, Int.natCast_mul, q32_neg, q64_neg, q32_add, q32_sub, q32_mul, q64_add, q64_sub, q64_mul, q32_64i, q64_32, q32_lt_t, q32_lt_f, q32_le_t, q32_le_f, q32_eq_t, q32_eq_f, q64_lt_t, q64_lt_f, q64_le_t, q64_le_f, q64_eq_t, q64_eq_f, rdI_i, rdL_i, rdR_i, rdN_i, stI_i, stL_i, stR_i, wI_s, wI_n, wL_s, wL_n, wI_2, wI_3, wL_1, wL_3, wR_1, wR_2, Int.toNat_natCast, tnO, tn_add, tn_sub, tn_mul, Nat.add_sub_cancel, Nat.add_zero, Nat.zero_add, lnO, win_t, win_f, r14, en, o1, e2]
      exact q1
    · rw [q3 a k h]; simp (disch := omega) only [Option.bind_some, bindv, bindv0, bind2_s, bind3_s, ↓reduceIte, Bool.false_eq_true, rZM_0, rZM_1, rZP_0, rZP_1, ptZ_0, ptZ_1, c32i, c64i, ncI, Int.natCast_add, Int.natCast_mul, q32_neg, q64_neg, q32_add, q32_sub, q32_mul, q64_add, q64_sub, q64_mul, q32_64i, q64_32, q32_lt_t, q32_lt_f, q32_le_t, q32_le_f, q32_eq_t, q32_eq_f, q64_lt_t, q64_lt_f, q64_le_t, q64_le_f, q64_eq_t, q64_eq_f, rdI_i, rdL_i, rdR_i, rdN_i, stI_i, stL_i, stR_i, wI_s, wI_n, wL_s, wL_n, wI_2, wI_3, wL_1, wL_3, wR_1, wR_2, Int.toNat_natCast, tnO, tn_add, tn_sub, tn_mul, Nat.add_sub_cancel, Nat.add_zero, Nat.zero_add, lnO, win_t, win_f]
    · rw [(q6 k hk).1]; simp (disch := omega) only [Option.bind_some, bindv, bindv0, bind2_s, bind3_s, ↓reduceIte, Bool.false_eq_true, rZM_0, rZM_1, rZP_0, rZP_1, ptZ_0, ptZ_1, c32i, c64i, ncI, Int.natCast_add, Int.natCast_mul, q32_neg, q64_neg, q32_add, q32_sub, q32_mul, q64_add, q64_sub, q64_mul, q32_64i, q64_32, q32_lt_t, q32_lt_f, q32_le_t, q32_le_f, q32_eq_t, q32_eq_f, q64_lt_t, q64_lt_f, q64_le_t, q64_le_f, q64_eq_t, q64_eq_f, rdI_i, rdL_i, rdR_i, rdN_i, stI_i, stL_i, stR_i, wI_s, wI_n, wL_s, wL_n, wI_2, wI_3, wL_1, wL_3, wR_1, wR_2, Int.toNat_natCast, tnO, tn_add, tn_sub, tn_mul, Nat.add_sub_cancel, Nat.add_zero, Nat.zero_add, lnO, win_t, win_f]
    · rw [(q6 k hk).2]; simp (disch := omega) only [Option.bind_some, bindv, bindv0, bind2_s, bind3_s, ↓reduceIte, Bool.false_eq_true, rZM_0, rZM_1, rZP_0, rZP_1, ptZ_0, ptZ_1, c32i, c64i, ncI, Int.natCast_add, Int.natCast_mul, q32_neg, q64_neg, q32_add, q32_sub, q32_mul, q64_add, q64_sub, q64_mul, q32_64i, q64_32, q32_lt_t, q32_lt_f, q32_le_t, q32_le_f, q32_eq_t, q32_eq_f, q64_lt_t, q64_lt_f, q64_le_t, q64_le_f, q64_eq_t, q64_eq_f, rdI_i, rdL_i, rdR_i, rdN_i, stI_i, stL_i, stR_i, wI_s, wI_n, wL_s, wL_n, wI_2, wI_3, wL_1, wL_3, wR_1, wR_2, Int.toNat_natCast, tnO, tn_add, tn_sub, tn_mul, Nat.add_sub_cancel, Nat.add_zero, Nat.zero_add, lnO, win_t, win_f]
    · rw [q9 k hk]; simp (disch := omega) only [Option.bind_some, bindv, bindv0, bind2_s, bind3_s, ↓reduceIte, Bool.false_eq_true, rZM_0, rZM_1, rZP_0, rZP_1, ptZ_0, ptZ_1, c32i, c64i, ncI, Int.natCast_add, Int.natCast_mul, q32_neg, q64_neg, q32_add, q32_sub, q32_mul, q64_add, q64_sub, q64_mul, q32_64i, q64_32, q32_lt_t, q32_lt_f, q32_le_t, q32_le_f, q32_eq_t, q32_eq_f, q64_lt_t, q64_lt_f, q64_le_t, q64_le_f, q64_eq_t, q64_eq_f, rdI_i, rdL_i, rdR_i, rdN_i, stI_i, stL_i, stR_i, wI_s, wI_n, wL_s, wL_n, wI_2, wI_3, wL_1, wL_3, wR_1, wR_2, Int.toNat_natCast, tnO, tn_add, tn_sub, tn_mul, Nat.add_sub_cancel, Nat.add_zero, Nat.zero_add, lnO, win_t, win_f]
theorem addF9 {F : Nat} (hF : 100 ≤ F) {s : List Sh} {m : Mem} {n fc tp : Nat} {U L : Nat → Int} {X : Nat → Nat → Nat} {O : Nat → Nat} (hd : FD fc tp U L X O) (h9 : F9 s m n fc U L X O) (h8 : fc < 8) (r13 : m.2.2 n 13 = some (n + 6)) (l6 : ln s (n + 6) = 3) {u l : Int} (hu : 0 ≤ u ∧ u ≤ 1000000) (hl : 1 ≤ l ∧ l ≤ 1000000) {x : Nat → Nat} (hx : ∀ z, z < 3 → m.1 (n + 6) z = q32 (x z)) : ∃ m', n_X0_addFloor F s m n (q32 u) (q32 l) = some ((), m') ∧ m'.2 = m.2 ∧ (∀ a k, a ≠ n + 3 ∧ a ≠ n + 4 ∧ a ≠ n + 5 ∧ a ≠ n + 7 ∧ (a ≠ n ∨ k ≠ 9) → m'.1 a k = m.1 a k) ∧ F9 s m' n (fc + 1) (insI U fc u) (insI L fc l) (insX X fc x) (insO O fc (Sm (blw U L u l) fc)) := by
  have tb := tb9 (F := F) hF hd h9 (u := u) (l := l) (by omega) (by omega)
  obtain ⟨c1, -, -⟩ := hd.2.2.2.2.cnt (u := u) (l := l) (by omega)
  obtain ⟨a9, ⟨r10, r11, r12, r14⟩, ⟨l3, l4, l5, l7⟩, hv, ho⟩ := h9
  generalize Sm (blw U L u l) fc = p at *
  obtain ⟨m', q1, q2, q3, q4, q5, q6, q7, q8, q9, q10⟩ := addL9 (F := F) hd h8 c1 l3 l4 l5 l6 l7 (u := q32 u) (l := q32 l) (fc - p) F (by omega) m fc a9 r10 r11 r12 r13 r14 hx (fun j h1 _ => ho j h1) (fun j h1 h2 => by omega) (by omega) (by omega)
  refine ⟨m', ?_, q2, q3, q4, by rw [q2]; exact ⟨r10, r11, r12, r14⟩, ⟨l3, l4, l5, l7⟩, fun k hk => ?_, q5⟩
  · unfold n_X0_addFloor nb_X0_addFloor_0
    simp (disch := omega) only [Option.bind_some, bindv, bindv0, bind2_s, bind3_s, ↓reduceIte, Bool.false_eq_true, rZM_0, rZM_1, rZP_0, rZP_1, ptZ_0, ptZ_1, c32i, c64i, ncI, Int.natCast_add, Int.natCast_mul, q32_neg, q64_neg, q32_add, q32_sub, q32_mul, q64_add, q64_sub, q64_mul, q32_64i, q64_32, q32_lt_t, q32_lt_f, q32_le_t, q32_le_f, q32_eq_t, q32_eq_f, q64_lt_t, q64_lt_f, q64_le_t, q64_le_f, q64_eq_t, q64_eq_f, rdI_i, rdL_i, rdR_i, rdN_i, stI_i, stL_i, stR_i, wI_s, wI_n, wL_s, wL_n, wI_2, wI_3, wL_1, wL_3, wR_1, wR_2, Int.toNat_natCast, tnO, tn_add, tn_sub, tn_mul, Nat.add_sub_cancel, Nat.add_zero, Nat.zero_add, lnO, win_t, win_f, a9, tb]
    exact q1
  · unfold insI insX
    by_cases c : k = fc
    · subst c
      rw [if_pos rfl, if_pos rfl]
      refine ⟨q7, q8, fun z hz => ?_⟩
      rw [if_pos rfl]
      exact q10 z hz
    · obtain ⟨v1, v2, v3⟩ := hv k (by omega)
      rw [if_neg c, if_neg c]
      refine ⟨by rw [(q6 k (by omega)).1]; exact v1, by rw [(q6 k (by omega)).2]; exact v2, fun z hz => ?_⟩
      rw [if_neg c, q9 _ (by omega)]
      exact v3 z hz
/-- the told floor that is one, if there is -/
def FAT (U L : Nat → Int) (u l : Int) : Nat → Nat → Int
  | 0, _ => -1
  | q + 1, i => if U i = u ∧ L i = l then i else FAT U L u l q (i + 1)
theorem FAT_n {U L : Nat → Int} {u l : Int} : ∀ q i, FAT U L u l q i = -1 ∨ (i ≤ FAT U L u l q i ∧ FAT U L u l q i < i + q) := by
  intro q
  induction q with
  | zero => intro i; exact Or.inl rfl
  | succ q ih =>
    intro i
    unfold FAT
    split
    · exact Or.inr (by omega)
    · rcases ih (i + 1) with h | h
      · exact Or.inl h
      · exact Or.inr (by omega)
theorem FAT_none {U L : Nat → Int} {u l : Int} : ∀ q i, FAT U L u l q i = -1 ↔ ∀ k, i ≤ k → k < i + q → ¬ (U k = u ∧ L k = l) := by
  intro q
  induction q with
  | zero => intro i; exact ⟨fun _ k h1 h2 => by omega, fun _ => rfl⟩
  | succ q ih =>
    intro i
    unfold FAT
    by_cases c : U i = u ∧ L i = l
    · rw [if_pos c]
      refine ⟨fun h => by omega, fun h => absurd c (h i (by omega) (by omega))⟩
    · rw [if_neg c, ih (i + 1)]
      refine ⟨fun h k h1 h2 => ?_, fun h k h1 h2 => h k (by omega) (by omega)⟩
      by_cases e : k = i
      · subst e; exact c
      · exact h k (by omega) (by omega)
theorem fatL9 {F : Nat} {s : List Sh} {m : Mem} {n fc tp : Nat} {U L : Nat → Int} {X : Nat → Nat → Nat} {O : Nat → Nat} (hd : FD fc tp U L X O) (h9 : F9 s m n fc U L X O) {u l : Int} (hu : u.natAbs ≤ 1000000000) (hl : l.natAbs ≤ 1000000000) : ∀ (q fuel : Nat), q < fuel → ∀ i, i + q = fc → nl_X0_floorAt_3 F s m fuel n (q64 u) (q64 l) (q32 i) = some (q32 (FAT U L u l q i)) := by
  obtain ⟨a9, ⟨r10, r11, r12, r14⟩, ⟨l3, l4, l5, l7⟩, hv, -⟩ := h9
  have h8 := hd.1
  intro q
  induction q with
  | zero =>
    intro fuel hf i hi
    obtain ⟨fuel, rfl⟩ : ∃ f, fuel = f + 1 := ⟨fuel - 1, by omega⟩
    show nb_X0_floorAt_3 F s (nl_X0_floorAt_3 F s m fuel) m n _ _ _ = _
    unfold nb_X0_floorAt_3 FAT
    simp (disch := omega) only [Option.bind_some, bindv, bindv0, bind2_s, bind3_s, ↓reduceIte, Bool.false_eq_true, rZM_0, rZM_1, rZP_0, rZP_1, ptZ_0, ptZ_1, c32i, c64i, ncI, Int.natCast_add, Int.natCast_mul, q32_neg, q64_neg, q32_add, q32_sub, q32_mul, q64_add, q64_sub, q64_mul, q32_64i, q64_32, q32_lt_t, q32_lt_f, q32_le_t, q32_le_f, q32_eq_t, q32_eq_f, q64_lt_t, q64_lt_f, q64_le_t, q64_le_f, q64_eq_t, q64_eq_f, rdI_i, rdL_i, rdR_i, rdN_i, stI_i, stL_i, stR_i, wI_s, wI_n, wL_s, wL_n, wI_2, wI_3, wL_1, wL_3, wR_1, wR_2, Int.toNat_natCast, tnO, tn_add, tn_sub, tn_mul, Nat.add_sub_cancel, Nat.add_zero, Nat.zero_add, lnO, win_t, win_f, a9]
  | succ q ih =>
    intro fuel hf i hi
    obtain ⟨fuel, rfl⟩ : ∃ f, fuel = f + 1 := ⟨fuel - 1, by omega⟩
    obtain ⟨v1, v2, -⟩ := hv i (by omega)
    obtain ⟨b1, b2, b3, b4, -⟩ := hd.b (k := i) (by omega)
    have ih := ih fuel (by omega) (i + 1) (by omega)
    rw [Int.natCast_add] at ih
    show nb_X0_floorAt_3 F s (nl_X0_floorAt_3 F s m fuel) m n _ _ _ = _
    unfold nb_X0_floorAt_3 FAT nb_X0_floorAt_41
    by_cases c1 : U i = u
    · by_cases c2 : L i = l
      · rw [if_pos (And.intro c1 c2)]
        simp (disch := omega) only [Option.bind_some, bindv, bindv0, bind2_s, bind3_s, ↓reduceIte, Bool.false_eq_true, rZM_0, rZM_1, rZP_0, rZP_1, ptZ_0, ptZ_1, c32i, c64i, ncI, Int.natCast_add, Int.natCast_mul, q32_neg, q64_neg, q32_add, q32_sub, q32_mul, q64_add, q64_sub, q64_mul, q32_64i, q64_32, q32_lt_t, q32_lt_f, q32_le_t, q32_le_f, q32_eq_t, q32_eq_f, q64_lt_t, q64_lt_f, q64_le_t, q64_le_f, q64_eq_t, q64_eq_f, rdI_i, rdL_i, rdR_i, rdN_i, stI_i, stL_i, stR_i, wI_s, wI_n, wL_s, wL_n, wI_2, wI_3, wL_1, wL_3, wR_1, wR_2, Int.toNat_natCast, tnO, tn_add, tn_sub, tn_mul, Nat.add_sub_cancel, Nat.add_zero, Nat.zero_add, lnO, win_t, win_f, a9, r10, r11, v1, v2]
      · rw [if_neg (show ¬ (U i = u ∧ L i = l) by omega)]
        simp (disch := omega) only [Option.bind_some, bindv, bindv0, bind2_s, bind3_s, ↓reduceIte, Bool.false_eq_true, rZM_0, rZM_1, rZP_0, rZP_1, ptZ_0, ptZ_1, c32i, c64i, ncI, Int.natCast_add, Int.natCast_mul, q32_neg, q64_neg, q32_add, q32_sub, q32_mul, q64_add, q64_sub, q64_mul, q32_64i, q64_32, q32_lt_t, q32_lt_f, q32_le_t, q32_le_f, q32_eq_t, q32_eq_f, q64_lt_t, q64_lt_f, q64_le_t, q64_le_f, q64_eq_t, q64_eq_f, rdI_i, rdL_i, rdR_i, rdN_i, stI_i, stL_i, stR_i, wI_s, wI_n, wL_s, wL_n, wI_2, wI_3, wL_1, wL_3, wR_1, wR_2, Int.toNat_natCast, tnO, tn_add, tn_sub, tn_mul, Nat.add_sub_cancel, Nat.add_zero, Nat.zero_add, lnO, win_t, win_f, a9, r10, r11, v1, v2]
        exact ih
    · rw [if_neg (show ¬ (U i = u ∧ L i = l) by omega)]
      simp (disch := omega) only [Option.bind_some, bindv, bindv0, bind2_s, bind3_s, ↓reduceIte, Bool.false_eq_true, rZM_0, rZM_1, rZP_0, rZP_1, ptZ_0, ptZ_1, c32i, c64i, ncI, Int.natCast_add, Int.natCast_mul, q32_neg, q64_neg, q32_add, q32_sub, q32_mul, q64_add, q64_sub, q64_mul, q32_64i, q64_32, q32_lt_t, q32_lt_f, q32_le_t, q32_le_f, q32_eq_t, q32_eq_f, q64_lt_t, q64_lt_f, q64_le_t, q64_le_f, q64_eq_t, q64_eq_f, rdI_i, rdL_i, rdR_i, rdN_i, stI_i, stL_i, stR_i, wI_s, wI_n, wL_s, wL_n, wI_2, wI_3, wL_1, wL_3, wR_1, wR_2, Int.toNat_natCast, tnO, tn_add, tn_sub, tn_mul, Nat.add_sub_cancel, Nat.add_zero, Nat.zero_add, lnO, win_t, win_f, a9, r10, r11, v1, v2]
      exact ih
theorem fat9 {F : Nat} (hF : 100 ≤ F) {s : List Sh} {m : Mem} {n fc tp : Nat} {U L : Nat → Int} {X : Nat → Nat → Nat} {O : Nat → Nat} (hd : FD fc tp U L X O) (h9 : F9 s m n fc U L X O) {u l : Int} (hu : u.natAbs ≤ 1000000000) (hl : l.natAbs ≤ 1000000000) : n_X0_floorAt F s m n (q64 u) (q64 l) = some (q32 (FAT U L u l fc 0)) := fatL9 hd h9 hu hl fc F (by have := hd.1; omega) 0 (by omega)
/-- a house with other told floors -/
theorem HREL.fl {s : List Sh} {m m' : Mem} {n : Nat} {al al' : Nat → Int32} (h : HREL m n al) {fc tp : Nat} {U L : Nat → Int} {X : Nat → Nat → Nat} {O : Nat → Nat} (ht : A al 1 = tp) (hd : FD fc tp U L X O) (h9 : F9 s m' n fc U L X O) (b3 : al' 3 = q32 fc) (h10 : ∀ k, k < fc → al' (9 + k) = q32 (U k) ∧ al' (17 + k) = q32 (L k) ∧ ∀ z, z < 3 → al' (25 + 8 * z + k) = q32 (X k z)) (eh : ∀ a k, (n ≤ a ∧ a < n + 3) ∨ a = n + 8 ∨ a = n + 9 → a ≠ n ∨ k ≠ 9 → m'.1 a k = m.1 a k) (ea : ∀ k, k < 999 → k ≠ 3 → k < 9 ∨ 49 ≤ k → al' k = al k) : HREL m' n al' := by
  have e1 : m'.1 (n + 1) = m.1 (n + 1) := funext fun k => eh _ _ (by omega) (by omega)
  have e2 : m'.1 (n + 2) = m.1 (n + 2) := funext fun k => eh _ _ (by omega) (by omega)
  have e8 : m'.1 (n + 8) = m.1 (n + 8) := funext fun k => eh _ _ (by omega) (by omega)
  have e9 : m'.1 (n + 9) = m.1 (n + 9) := funext fun k => eh _ _ (by omega) (by omega)
  have e0 : ∀ k, k ≠ 9 → m'.1 n k = m.1 n k := fun k hk => eh _ _ (by omega) (by omega)
  obtain ⟨a9, -, -, hv, ho⟩ := h9
  unfold HREL at h ⊢
  rw [e1, e2, e8, e9]
  obtain ⟨tp', sk, nl, bc, fc', tc, au, aw, S, U', L', V, W, X', O', h1, h2, h3, h4, ⟨s1, s2, s3, s4, s5, s6, s7⟩, hh6, h7, h8⟩ := h
  obtain rfl : tp' = tp := by have := A_q h3.2.1 (by omega); omega
  refine ⟨tp', sk, nl, bc, fc, tc, au, aw, S, U, L, V, W, X, O, ⟨by omega, by omega, by omega, by omega, by omega, hd.1, by omega⟩, ?_, ?_, h4, ⟨s1, s2, s3, s4, fun b hb => ?_, fun i hi => ?_, s7⟩, fun k hk => ?_, ⟨fun i hi => ⟨hd.2.2.2.2.1 i hi, ho i hi⟩, hd.2.2.2.2.2.2⟩, fun i hi => ?_⟩
  · rw [e0 0 (by omega), e0 1 (by omega), e0 2 (by omega), e0 4 (by omega), e0 5 (by omega), e0 6 (by omega), e0 15 (by omega)]
    exact ⟨h2.1, h2.2.1, h2.2.2.1, h2.2.2.2.1, h2.2.2.2.2.1, h2.2.2.2.2.2.1, a9, h2.2.2.2.2.2.2.2⟩
  · rw [ea 0 (by omega) (by omega) (by omega), ea 1 (by omega) (by omega) (by omega), ea 2 (by omega) (by omega) (by omega), ea 4 (by omega) (by omega) (by omega), ea 5 (by omega) (by omega) (by omega), ea 6 (by omega) (by omega) (by omega), ea 7 (by omega) (by omega) (by omega), ea 8 (by omega) (by omega) (by omega), e0 3 (by omega)]
    exact ⟨h3.1, h3.2.1, h3.2.2.1, b3, h3.2.2.2.2.1, h3.2.2.2.2.2.1, h3.2.2.2.2.2.2.1, h3.2.2.2.2.2.2.2.1, h3.2.2.2.2.2.2.2.2⟩
  · rw [ea _ (by omega) (by omega) (by omega), ea _ (by omega) (by omega) (by omega)]; exact s5 b hb
  · rw [ea _ (by omega) (by omega) (by omega)]; exact s6 i hi
  · obtain ⟨v1, v2, v3⟩ := hv k hk
    obtain ⟨w1, w2, w3⟩ := h10 k hk
    obtain ⟨f1, f2, f3⟩ := hd.2.2.2.1 k hk
    exact ⟨v1, v2, f1, f2, w1, w2, fun z hz => ⟨f3 z hz, v3 z hz, w3 z hz⟩⟩
  · obtain ⟨b1, b2, b3, b4, b5, b6⟩ := h8 i hi
    exact ⟨b1, b2, b3, b4, by rw [ea _ (by omega) (by omega) (by omega)]; exact b5, by rw [ea _ (by omega) (by omega) (by omega)]; exact b6⟩
/-! tells -/
def WS (fc : Nat) (U L : Nat → Int) (X : Nat → Nat → Nat) (O : Nat → Nat) (f : FR) (z : Nat) : Nat := ((STF fc U L (fun k => X k z) O f).1.tdiv (STF fc U L (fun k => X k z) O f).2).toNat
theorem WS_b {fc tp : Nat} {U L : Nat → Int} {X : Nat → Nat → Nat} {O : Nat → Nat} (hd : FD fc tp U L X O) {f : FR} (h1 : 0 ≤ f.1) (h2 : 1 ≤ f.2 ∧ f.2 ≤ 1000000) {z : Nat} (hz : z < 3) : WS fc U L X O f z ≤ 99 ∧ (STF fc U L (fun k => X k z) O f).1.tdiv (STF fc U L (fun k => X k z) O f).2 = (WS fc U L X O f z : Int) := by
  obtain ⟨b1, b2, b3, b4⟩ := STF_b hd h1 (Q := 1000000) (by omega) h2 hz
  have := td_b b1 b3 (B := 99) b2
  unfold WS
  omega
theorem tellsS9 {F : Nat} (hF : 1000 ≤ F) {s : List Sh} {m : Mem} {n fc tp : Nat} {U L : Nat → Int} {X : Nat → Nat → Nat} {O : Nat → Nat} (hr : RF m) (rn : m.2.2 0 4 = some n) (hd : FD fc tp U L X O) (h9 : F9 s m n fc U L X O) (r13n : m.2.2 n 13 = some (n + 6)) (l6 : ln s (n + 6) = 3) {f : FR} (h1 : 0 ≤ f.1 ∧ f.1 ≤ 1000000) (h2 : 1 ≤ f.2 ∧ f.2 ≤ 1000000) (c0 : m.2.1 19 0 = q64 f.1) (c1 : m.2.1 19 1 = q64 f.2) {z : Nat} (hz : z < 3) (fuel : Nat) : nl_X9_tells_71 F s (fuel + 1) m 0 (q32 z) = nl_X9_tells_71 F s fuel (wI (PT m 20 (STF fc U L (fun k => X k z) O f)) (n + 6) z (q32 (WS fc U L X O f z))) 0 (q32 (z + 1 : Nat)) := by
  have r12 := rf0_12 hr
  have r13 := rf0_13 hr
  have s9 := stuff9 (m := m) hF hd h9 (f := f) h1 h2 hz (r := 20)
  obtain ⟨b1, b2, b3, b4⟩ := STF_b hd h1.1 (Q := 1000000) (by omega) h2 hz
  obtain ⟨w1, w2⟩ := WS_b hd h1.1 h2 hz
  generalize WS fc U L X O f z = w at *
  generalize STF fc U L (fun k => X k z) O f = g at *
  have wh : n_X2_whole s (PT m 20 g) 20 = some (q64 (w : Int)) := by
    unfold n_X2_whole nb_X2_whole_0
    rw [PT_0, PT_l, ← w2]
    simp (disch := omega) only [Option.bind_some, bindv, bindv0, bind2_s, bind3_s, ↓reduceIte, Bool.false_eq_true, rZM_0, rZM_1, rZP_0, rZP_1, ptZ_0, ptZ_1, c32i, c64i, ncI, Int.natCast_add, Int.natCast_mul, q32_neg, q64_neg, q32_add, q32_sub, q32_mul, q64_add, q64_sub, q64_mul, q32_64i, q64_32, q32_lt_t, q32_lt_f, q32_le_t, q32_le_f, q32_eq_t, q32_eq_f, q64_lt_t, q64_lt_f, q64_le_t, q64_le_f, q64_eq_t, q64_eq_f, rdI_i, rdL_i, rdR_i, rdN_i, stI_i, stL_i, stR_i, wI_s, wI_n, wL_s, wL_n, wI_2, wI_3, wL_1, wL_3, wR_1, wR_2, Int.toNat_natCast, tnO, tn_add, tn_sub, tn_mul, Nat.add_sub_cancel, Nat.add_zero, Nat.zero_add, lnO, win_t, win_f, q64_div_n]
  show nb_X9_tells_71 F s (nl_X9_tells_71 F s fuel) m 0 (q32 z) = _
  unfold nb_X9_tells_71
  simp (disch := omega) only [Option.bind_some, bindv, bindv0, bind2_s, bind3_s, ↓reduceIte, Bool.false_eq_true, rZM_0, rZM_1, rZP_0, rZP_1, ptZ_0, ptZ_1, c32i, c64i, ncI, Int.natCast_add, Int.natCast_mul, q32_neg, q64_neg, q32_add, q32_sub, q32_mul, q64_add, q64_sub, q64_mul, q32_64i, q64_32, q32_lt_t, q32_lt_f, q32_le_t, q32_le_f, q32_eq_t, q32_eq_f, q64_lt_t, q64_lt_f, q64_le_t, q64_le_f, q64_eq_t, q64_eq_f, rdI_i, rdL_i, rdR_i, rdN_i, stI_i, stL_i, stR_i, wI_s, wI_n, wL_s, wL_n, wI_2, wI_3, wL_1, wL_3, wR_1, wR_2, Int.toNat_natCast, tnO, tn_add, tn_sub, tn_mul, Nat.add_sub_cancel, Nat.add_zero, Nat.zero_add, lnO, win_t, win_f, rn, r12, r13, c0, c1, s9, PT_3, r13n, wh]
theorem tells9 {F : Nat} (hF : 1000 ≤ F) {s : List Sh} {m : Mem} {n fc tp : Nat} {U L : Nat → Int} {X : Nat → Nat → Nat} {O : Nat → Nat} (hr : RF m) (hn : n = 2 ∨ 53 ≤ n) (rn : m.2.2 0 4 = some n) (hd : FD fc tp U L X O) (h9 : F9 s m n fc U L X O) (h8 : fc < 8) (r13n : m.2.2 n 13 = some (n + 6)) (l6 : ln s (n + 6) = 3) {f : FR} (h1 : 0 ≤ f.1 ∧ f.1 ≤ 1000000) (h2 : 1 ≤ f.2 ∧ f.2 ≤ 1000000) (c0 : m.2.1 19 0 = q64 f.1) (c1 : m.2.1 19 1 = q64 f.2) : ∃ m', nl_X9_tells_71 F s F m 0 (q32 0) = some (q32 fc, m') ∧ m'.2.2 = m.2.2 ∧ (∀ a k, a ≠ 20 → m'.2.1 a k = m.2.1 a k) ∧ (∀ a k, (a < n + 3 ∨ n + 8 ≤ a) ∧ (a ≠ n ∨ k ≠ 9) → m'.1 a k = m.1 a k) ∧ F9 s m' n (fc + 1) (insI U fc f.1) (insI L fc f.2) (insX X fc (WS fc U L X O f)) (insO O fc (Sm (blw U L f.1 f.2) fc)) := by
  obtain ⟨F', hF'⟩ : ∃ f, F = f + 4 := ⟨F - 4, by omega⟩
  generalize hG : (fun z => STF fc U L (fun k => X k z) O f) = G at *
  have eG : ∀ z, STF fc U L (fun k => X k z) O f = G z := fun z => by rw [← hG]
  generalize hW : WS fc U L X O f = w at *
  let M1 := wI (PT m 20 (G 0)) (n + 6) 0 (q32 (w 0))
  let M2 := wI (PT M1 20 (G 1)) (n + 6) 1 (q32 (w 1))
  let M3 := wI (PT M2 20 (G 2)) (n + 6) 2 (q32 (w 2))
  have o1 : ∀ a k, a ≠ n + 6 → M1.1 a k = m.1 a k := fun a k h => by
    show (wI (PT m 20 (G 0)) (n + 6) 0 (q32 (w 0))).1 a k = _
    simp (disch := omega) only [Option.bind_some, bindv, bindv0, bind2_s, bind3_s, ↓reduceIte, Bool.false_eq_true, rZM_0, rZM_1, rZP_0, rZP_1, ptZ_0, ptZ_1, c32i, c64i, ncI, Int.natCast_add, Int.natCast_mul, q32_neg, q64_neg, q32_add, q32_sub, q32_mul, q64_add, q64_sub, q64_mul, q32_64i, q64_32, q32_lt_t, q32_lt_f, q32_le_t, q32_le_f, q32_eq_t, q32_eq_f, q64_lt_t, q64_lt_f, q64_le_t, q64_le_f, q64_eq_t, q64_eq_f, rdI_i, rdL_i, rdR_i, rdN_i, stI_i, stL_i, stR_i, wI_s, wI_n, wL_s, wL_n, wI_2, wI_3, wL_1, wL_3, wR_1, wR_2, Int.toNat_natCast, tnO, tn_add, tn_sub, tn_mul, Nat.add_sub_cancel, Nat.add_zero, Nat.zero_add, lnO, win_t, win_f]; rfl
  have o2 : ∀ a k, a ≠ n + 6 → M2.1 a k = m.1 a k := fun a k h => by
    show (wI (PT M1 20 (G 1)) (n + 6) 1 (q32 (w 1))).1 a k = _
    simp (disch := omega) only [Option.bind_some, bindv, bindv0, bind2_s, bind3_s, ↓reduceIte, Bool.false_eq_true, rZM_0, rZM_1, rZP_0, rZP_1, ptZ_0, ptZ_1, c32i, c64i, ncI, Int.natCast_add, Int.natCast_mul, q32_neg, q64_neg, q32_add, q32_sub, q32_mul, q64_add, q64_sub, q64_mul, q32_64i, q64_32, q32_lt_t, q32_lt_f, q32_le_t, q32_le_f, q32_eq_t, q32_eq_f, q64_lt_t, q64_lt_f, q64_le_t, q64_le_f, q64_eq_t, q64_eq_f, rdI_i, rdL_i, rdR_i, rdN_i, stI_i, stL_i, stR_i, wI_s, wI_n, wL_s, wL_n, wI_2, wI_3, wL_1, wL_3, wR_1, wR_2, Int.toNat_natCast, tnO, tn_add, tn_sub, tn_mul, Nat.add_sub_cancel, Nat.add_zero, Nat.zero_add, lnO, win_t, win_f]; exact o1 a k h
  have o3 : ∀ a k, a ≠ n + 6 → M3.1 a k = m.1 a k := fun a k h => by
    show (wI (PT M2 20 (G 2)) (n + 6) 2 (q32 (w 2))).1 a k = _
    simp (disch := omega) only [Option.bind_some, bindv, bindv0, bind2_s, bind3_s, ↓reduceIte, Bool.false_eq_true, rZM_0, rZM_1, rZP_0, rZP_1, ptZ_0, ptZ_1, c32i, c64i, ncI, Int.natCast_add, Int.natCast_mul, q32_neg, q64_neg, q32_add, q32_sub, q32_mul, q64_add, q64_sub, q64_mul, q32_64i, q64_32, q32_lt_t, q32_lt_f, q32_le_t, q32_le_f, q32_eq_t, q32_eq_f, q64_lt_t, q64_lt_f, q64_le_t, q64_le_f, q64_eq_t, q64_eq_f, rdI_i, rdL_i, rdR_i, rdN_i, stI_i, stL_i, stR_i, wI_s, wI_n, wL_s, wL_n, wI_2, wI_3, wL_1, wL_3, wR_1, wR_2, Int.toNat_natCast, tnO, tn_add, tn_sub, tn_mul, Nat.add_sub_cancel, Nat.add_zero, Nat.zero_add, lnO, win_t, win_f]; exact o2 a k h
  have L1 : ∀ a k, a ≠ 20 → M1.2.1 a k = m.2.1 a k := fun a k h => PT_n (Or.inl h)
  have L2 : ∀ a k, a ≠ 20 → M2.2.1 a k = m.2.1 a k := fun a k h => (PT_n (Or.inl h)).trans (L1 a k h)
  have L3 : ∀ a k, a ≠ 20 → M3.2.1 a k = m.2.1 a k := fun a k h => (PT_n (Or.inl h)).trans (L2 a k h)
  have t0 := tellsS9 (m := m) hF hr rn hd h9 r13n l6 h1 h2 c0 c1 (z := 0) (by omega) (F' + 3)
  have t1 := tellsS9 (m := M1) hF (hr.same rfl) rn hd (h9.k (fun a k h => o1 a k (by omega)) rfl) r13n l6 h1 h2 ((L1 _ _ (by omega)).trans c0) ((L1 _ _ (by omega)).trans c1) (z := 1) (by omega) (F' + 2)
  have t2 := tellsS9 (m := M2) hF (hr.same rfl) rn hd (h9.k (fun a k h => o2 a k (by omega)) rfl) r13n l6 h1 h2 ((L2 _ _ (by omega)).trans c0) ((L2 _ _ (by omega)).trans c1) (z := 2) (by omega) (F' + 1)
  rw [eG, hW] at t0 t1 t2
  have h93 : F9 s M3 n fc U L X O := h9.k (fun a k h => o3 a k (by omega)) rfl
  obtain ⟨m', q1, q2, q3, q4⟩ := addF9 (F := F) (m := M3) (by omega) hd h93 h8 r13n l6 (u := f.1) (l := f.2) h1 h2 (x := w) (fun z hz => by
    show (wI (PT (wI (PT (wI (PT m 20 (G 0)) (n + 6) 0 (q32 (w 0))) 20 (G 1)) (n + 6) 1 (q32 (w 1))) 20 (G 2)) (n + 6) 2 (q32 (w 2))).1 (n + 6) z = _
    rcases (show z = 0 ∨ z = 1 ∨ z = 2 by omega) with rfl | rfl | rfl
    · simp (disch := omega) only [Option.bind_some, bindv, bindv0, bind2_s, bind3_s, ↓reduceIte, Bool.false_eq_true, rZM_0, rZM_1, rZP_0, rZP_1, ptZ_0, ptZ_1, c32i, c64i, ncI, Int.natCast_add, Int.natCast_mul, q32_neg, q64_neg, q32_add, q32_sub, q32_mul, q64_add, q64_sub, q64_mul, q32_64i, q64_32, q32_lt_t, q32_lt_f, q32_le_t, q32_le_f, q32_eq_t, q32_eq_f, q64_lt_t, q64_lt_f, q64_le_t, q64_le_f, q64_eq_t, q64_eq_f, rdI_i, rdL_i, rdR_i, rdN_i, stI_i, stL_i, stR_i, wI_s, wI_n, wL_s, wL_n, wI_2, wI_3, wL_1, wL_3, wR_1, wR_2, Int.toNat_natCast, tnO, tn_add, tn_sub, tn_mul, Nat.add_sub_cancel, Nat.add_zero, Nat.zero_add, lnO, win_t, win_f, PT_1]
    · simp (disch := omega) only [Option.bind_some, bindv, bindv0, bind2_s, bind3_s, ↓reduceIte, Bool.false_eq_true, rZM_0, rZM_1, rZP_0, rZP_1, ptZ_0, ptZ_1, c32i, c64i, ncI, Int.natCast_add, Int.natCast_mul, q32_neg, q64_neg, q32_add, q32_sub, q32_mul, q64_add, q64_sub, q64_mul, q32_64i, q64_32, q32_lt_t, q32_lt_f, q32_le_t, q32_le_f, q32_eq_t, q32_eq_f, q64_lt_t, q64_lt_f, q64_le_t, q64_le_f, q64_eq_t, q64_eq_f, rdI_i, rdL_i, rdR_i, rdN_i, stI_i, stL_i, stR_i, wI_s, wI_n, wL_s, wL_n, wI_2, wI_3, wL_1, wL_3, wR_1, wR_2, Int.toNat_natCast, tnO, tn_add, tn_sub, tn_mul, Nat.add_sub_cancel, Nat.add_zero, Nat.zero_add, lnO, win_t, win_f, PT_1]
    · simp (disch := omega) only [Option.bind_some, bindv, bindv0, bind2_s, bind3_s, ↓reduceIte, Bool.false_eq_true, rZM_0, rZM_1, rZP_0, rZP_1, ptZ_0, ptZ_1, c32i, c64i, ncI, Int.natCast_add, Int.natCast_mul, q32_neg, q64_neg, q32_add, q32_sub, q32_mul, q64_add, q64_sub, q64_mul, q32_64i, q64_32, q32_lt_t, q32_lt_f, q32_le_t, q32_le_f, q32_eq_t, q32_eq_f, q64_lt_t, q64_lt_f, q64_le_t, q64_le_f, q64_eq_t, q64_eq_f, rdI_i, rdL_i, rdR_i, rdN_i, stI_i, stL_i, stR_i, wI_s, wI_n, wL_s, wL_n, wI_2, wI_3, wL_1, wL_3, wR_1, wR_2, Int.toNat_natCast, tnO, tn_add, tn_sub, tn_mul, Nat.add_sub_cancel, Nat.add_zero, Nat.zero_add, lnO, win_t, win_f, PT_1])
  have r12 := rf0_12 hr
  refine ⟨m', ?_, by rw [q2]; rfl, fun a k h => by rw [q2]; exact L3 a k h, fun a k h => ?_, q4⟩
  · have b9 := q4.1
    have rn' : m'.2.2 0 4 = some n := by rw [q2]; exact rn
    have last : nl_X9_tells_71 F s (F' + 1) M3 0 (q32 3) = some (q32 fc, m') := by
      show nb_X9_tells_71 F s (nl_X9_tells_71 F s F') M3 0 (q32 3) = _
      have rn3 : M3.2.2 0 4 = some n := rn
      have r123 : M3.2.2 0 12 = some 19 := r12
      have c03 : M3.2.1 19 0 = q64 f.1 := (L3 _ _ (by omega)).trans c0
      have c13 : M3.2.1 19 1 = q64 f.2 := (L3 _ _ (by omega)).trans c1
      have ef : q32 ((fc : Int) + 1 - 1) = q32 fc := by congr 1; omega
      unfold nb_X9_tells_71
      simp (disch := omega) only [Option.bind_some, bindv, bindv0, bind2_s, bind3_s, ↓reduceIte, Bool.false_eq_true, rZM_0, rZM_1, rZP_0, rZP_1, ptZ_0, ptZ_1, c32i, c64i, ncI, Int.natCast_add, Int.natCast_mul, q32_neg, q64_neg, q32_add, q32_sub, q32_mul, q64_add, q64_sub, q64_mul, q32_64i, q64_32, q32_lt_t, q32_lt_f, q32_le_t, q32_le_f, q32_eq_t, q32_eq_f, q64_lt_t, q64_lt_f, q64_le_t, q64_le_f, q64_eq_t, q64_eq_f, rdI_i, rdL_i, rdR_i, rdN_i, stI_i, stL_i, stR_i, wI_s, wI_n, wL_s, wL_n, wI_2, wI_3, wL_1, wL_3, wR_1, wR_2, Int.toNat_natCast, tnO, tn_add, tn_sub, tn_mul, Nat.add_sub_cancel, Nat.add_zero, Nat.zero_add, lnO, win_t, win_f, rn3, r123, c03, c13, q1, rn', b9, ef]
    rw [hF'] at t0 t1 t2 last ⊢
    exact t0.trans (t1.trans (t2.trans last))
  · rw [q3 a k (by omega)]; exact o3 a k (by omega)
theorem tellsF10 {F : Nat} {s : List Sh} (hp : ∃ t, s = sB ++ t) {m : Mem} {fc tp : Nat} {U L : Nat → Int} {X : Nat → Nat → Nat} {O : Nat → Nat} (hd : FD fc tp U L X O) (h10 : F10 m fc U L X) {u l : Int} (hu : u.natAbs ≤ 1000000000) (hl : l.natAbs ≤ 1000000000) : ∀ (q fuel : Nat), q < fuel → ∀ i, i + q = fc → nl_X10_tells_62 F s fuel m 23 (q64 u) (q64 l) (q32 fc) (q32 i) = if FAT U L u l q i = -1 then nl_X10_tells_114 F s F m 23 (q64 u) (q64 l) (q32 fc) (q32 0) else some (q32 (-5), m) := by
  have l24 := ln24 hp
  have r1 := rf23_1 h10.1
  have h8 := hd.1
  intro q
  induction q with
  | zero =>
    intro fuel hf i hi
    obtain ⟨fuel, rfl⟩ : ∃ f, fuel = f + 1 := ⟨fuel - 1, by omega⟩
    show nb_X10_tells_62 F s (nl_X10_tells_62 F s fuel) m 23 _ _ _ _ = _
    unfold nb_X10_tells_62 FAT
    simp (disch := omega) only [Option.bind_some, bindv, bindv0, bind2_s, bind3_s, ↓reduceIte, Bool.false_eq_true, rZM_0, rZM_1, rZP_0, rZP_1, ptZ_0, ptZ_1, c32i, c64i, ncI, Int.natCast_add, Int.natCast_mul, q32_neg, q64_neg, q32_add, q32_sub, q32_mul, q64_add, q64_sub, q64_mul, q32_64i, q64_32, q32_lt_t, q32_lt_f, q32_le_t, q32_le_f, q32_eq_t, q32_eq_f, q64_lt_t, q64_lt_f, q64_le_t, q64_le_f, q64_eq_t, q64_eq_f, rdI_i, rdL_i, rdR_i, rdN_i, stI_i, stL_i, stR_i, wI_s, wI_n, wL_s, wL_n, wI_2, wI_3, wL_1, wL_3, wR_1, wR_2, Int.toNat_natCast, tnO, tn_add, tn_sub, tn_mul, Nat.add_sub_cancel, Nat.add_zero, Nat.zero_add, lnO, win_t, win_f]
  | succ q ih =>
    intro fuel hf i hi
    obtain ⟨fuel, rfl⟩ : ∃ f, fuel = f + 1 := ⟨fuel - 1, by omega⟩
    obtain ⟨v1, v2, -⟩ := h10.2.2 i (by omega)
    obtain ⟨b1, b2, b3, b4, -⟩ := hd.b (k := i) (by omega)
    have ih := ih fuel (by omega) (i + 1) (by omega)
    rw [Int.natCast_add] at ih
    show nb_X10_tells_62 F s (nl_X10_tells_62 F s fuel) m 23 _ _ _ _ = _
    unfold nb_X10_tells_62 FAT nb_X10_tells_105
    by_cases c1 : U i = u
    · by_cases c2 : L i = l
      · rw [if_pos (And.intro c1 c2), if_neg (show ¬ ((i : Int) = -1) by omega)]
        simp (disch := omega) only [Option.bind_some, bindv, bindv0, bind2_s, bind3_s, ↓reduceIte, Bool.false_eq_true, rZM_0, rZM_1, rZP_0, rZP_1, ptZ_0, ptZ_1, c32i, c64i, ncI, Int.natCast_add, Int.natCast_mul, q32_neg, q64_neg, q32_add, q32_sub, q32_mul, q64_add, q64_sub, q64_mul, q32_64i, q64_32, q32_lt_t, q32_lt_f, q32_le_t, q32_le_f, q32_eq_t, q32_eq_f, q64_lt_t, q64_lt_f, q64_le_t, q64_le_f, q64_eq_t, q64_eq_f, rdI_i, rdL_i, rdR_i, rdN_i, stI_i, stL_i, stR_i, wI_s, wI_n, wL_s, wL_n, wI_2, wI_3, wL_1, wL_3, wR_1, wR_2, Int.toNat_natCast, tnO, tn_add, tn_sub, tn_mul, Nat.add_sub_cancel, Nat.add_zero, Nat.zero_add, lnO, win_t, win_f, r1, v1, v2]
      · rw [if_neg (show ¬ (U i = u ∧ L i = l) by omega)]
        simp (disch := omega) only [Option.bind_some, bindv, bindv0, bind2_s, bind3_s, ↓reduceIte, Bool.false_eq_true, rZM_0, rZM_1, rZP_0, rZP_1, ptZ_0, ptZ_1, c32i, c64i, ncI, Int.natCast_add, Int.natCast_mul, q32_neg, q64_neg, q32_add, q32_sub, q32_mul, q64_add, q64_sub, q64_mul, q32_64i, q64_32, q32_lt_t, q32_lt_f, q32_le_t, q32_le_f, q32_eq_t, q32_eq_f, q64_lt_t, q64_lt_f, q64_le_t, q64_le_f, q64_eq_t, q64_eq_f, rdI_i, rdL_i, rdR_i, rdN_i, stI_i, stL_i, stR_i, wI_s, wI_n, wL_s, wL_n, wI_2, wI_3, wL_1, wL_3, wR_1, wR_2, Int.toNat_natCast, tnO, tn_add, tn_sub, tn_mul, Nat.add_sub_cancel, Nat.add_zero, Nat.zero_add, lnO, win_t, win_f, r1, v1, v2]
        exact ih
    · rw [if_neg (show ¬ (U i = u ∧ L i = l) by omega)]
      simp (disch := omega) only [Option.bind_some, bindv, bindv0, bind2_s, bind3_s, ↓reduceIte, Bool.false_eq_true, rZM_0, rZM_1, rZP_0, rZP_1, ptZ_0, ptZ_1, c32i, c64i, ncI, Int.natCast_add, Int.natCast_mul, q32_neg, q64_neg, q32_add, q32_sub, q32_mul, q64_add, q64_sub, q64_mul, q32_64i, q64_32, q32_lt_t, q32_lt_f, q32_le_t, q32_le_f, q32_eq_t, q32_eq_f, q64_lt_t, q64_lt_f, q64_le_t, q64_le_f, q64_eq_t, q64_eq_f, rdI_i, rdL_i, rdR_i, rdN_i, stI_i, stL_i, stR_i, wI_s, wI_n, wL_s, wL_n, wI_2, wI_3, wL_1, wL_3, wR_1, wR_2, Int.toNat_natCast, tnO, tn_add, tn_sub, tn_mul, Nat.add_sub_cancel, Nat.add_zero, Nat.zero_add, lnO, win_t, win_f, r1, v1, v2]
      exact ih
theorem tellsS10 {F : Nat} (hF : 1000 ≤ F) {s : List Sh} (hp : ∃ t, s = sB ++ t) {m : Mem} {fc tp : Nat} {U L : Nat → Int} {X : Nat → Nat → Nat} {O : Nat → Nat} (hd : FD fc tp U L X O) (h10 : F10 m fc U L X) (h8 : fc < 8) {f : FR} (h1 : 0 ≤ f.1 ∧ f.1 ≤ 1000000) (h2 : 1 ≤ f.2 ∧ f.2 ≤ 1000000) {z : Nat} (hz : z < 3) (fuel : Nat) : ∃ m', nl_X10_tells_114 F s (fuel + 1) m 23 (q64 f.1) (q64 f.2) (q32 fc) (q32 z) = nl_X10_tells_114 F s fuel m' 23 (q64 f.1) (q64 f.2) (q32 fc) (q32 (z + 1 : Nat)) ∧ F10 m' fc U L X ∧ m'.2.2 = m.2.2 ∧ (∀ a k, a ≠ 30 ∧ (a ≠ 24 ∨ k ≠ 25 + 8 * z + fc) → m'.1 a k = m.1 a k) ∧ m'.1 24 (25 + 8 * z + fc) = q32 (WS fc U L X O f z) ∧ ∀ a k, a ≠ 23 ∨ (k ≠ 15 ∧ k ≠ 16) → m'.2.1 a k = m.2.1 a k := by
  obtain ⟨m1, e1, e2, e3, e4⟩ := stuff10 hF hp hd h10 (f := f) h1 h2 hz
  obtain ⟨b1, b2, b3, b4⟩ := STF_b hd h1.1 (Q := 1000000) (by omega) h2 hz
  obtain ⟨w1, w2⟩ := WS_b hd h1.1 h2 hz
  have l24 := ln24 hp
  have r1' : m1.2.2 23 1 = some 24 := by rw [e2.1]; exact rf23_1 h10.1
  have h10' := h10.ks e2 hd.1
  generalize WS fc U L X O f z = w at *
  generalize STF fc U L (fun k => X k z) O f = g at *
  have dv : q64 g.1 / q64 g.2 = q64 (w : Int) := by rw [← w2]; exact q64_div_n (by omega)
  refine ⟨wI m1 24 (25 + 8 * z + fc) (q32 w), ?_, ⟨h10'.1.same rfl, ?_, fun k hk => ?_⟩, e2.1, fun a k h => ?_, wI_s _ _ _ _, fun a k h => e2.2.2 a k h⟩
  · show nb_X10_tells_114 F s (nl_X10_tells_114 F s fuel) m 23 _ _ _ _ = _
    unfold nb_X10_tells_114
    have en : (25 + 8 * (z : Int) + fc).toNat = 25 + 8 * z + fc := by omega
    simp (disch := omega) only [Option.bind_some, bindv, bindv0, bind2_s, bind3_s, ↓reduceIte, Bool.false_eq_true, rZM_0, rZM_1, rZP_0, rZP_1, ptZ_0, ptZ_1, c32i, c64i, ncI, Int.natCast_add, Int.natCast_mul, q32_neg, q64_neg, q32_add, q32_sub, q32_mul, q64_add, q64_sub, q64_mul, q32_64i, q64_32, q32_lt_t, q32_lt_f, q32_le_t, q32_le_f, q32_eq_t, q32_eq_f, q64_lt_t, q64_lt_f, q64_le_t, q64_le_f, q64_eq_t, q64_eq_f, rdI_i, rdL_i, rdR_i, rdN_i, stI_i, stL_i, stR_i, wI_s, wI_n, wL_s, wL_n, wI_2, wI_3, wL_1, wL_3, wR_1, wR_2, Int.toNat_natCast, tnO, tn_add, tn_sub, tn_mul, Nat.add_sub_cancel, Nat.add_zero, Nat.zero_add, lnO, win_t, win_f, e1, r1', e3, e4, dv]
  · simp (disch := omega) only [Option.bind_some, bindv, bindv0, bind2_s, bind3_s, ↓reduceIte, Bool.false_eq_true, rZM_0, rZM_1, rZP_0, rZP_1, ptZ_0, ptZ_1, c32i, c64i, ncI, Int.natCast_add, Int.natCast_mul, q32_neg, q64_neg, q32_add, q32_sub, q32_mul, q64_add, q64_sub, q64_mul, q32_64i, q64_32, q32_lt_t, q32_lt_f, q32_le_t, q32_le_f, q32_eq_t, q32_eq_f, q64_lt_t, q64_lt_f, q64_le_t, q64_le_f, q64_eq_t, q64_eq_f, rdI_i, rdL_i, rdR_i, rdN_i, stI_i, stL_i, stR_i, wI_s, wI_n, wL_s, wL_n, wI_2, wI_3, wL_1, wL_3, wR_1, wR_2, Int.toNat_natCast, tnO, tn_add, tn_sub, tn_mul, Nat.add_sub_cancel, Nat.add_zero, Nat.zero_add, lnO, win_t, win_f]; exact h10'.2.1
  · obtain ⟨v1, v2, v3⟩ := h10'.2.2 k hk
    refine ⟨by simp (disch := omega) only [Option.bind_some, bindv, bindv0, bind2_s, bind3_s, ↓reduceIte, Bool.false_eq_true, rZM_0, rZM_1, rZP_0, rZP_1, ptZ_0, ptZ_1, c32i, c64i, ncI, Int.natCast_add, Int.natCast_mul, q32_neg, q64_neg, q32_add, q32_sub, q32_mul, q64_add, q64_sub, q64_mul, q32_64i, q64_32, q32_lt_t, q32_lt_f, q32_le_t, q32_le_f, q32_eq_t, q32_eq_f, q64_lt_t, q64_lt_f, q64_le_t, q64_le_f, q64_eq_t, q64_eq_f, rdI_i, rdL_i, rdR_i, rdN_i, stI_i, stL_i, stR_i, wI_s, wI_n, wL_s, wL_n, wI_2, wI_3, wL_1, wL_3, wR_1, wR_2, Int.toNat_natCast, tnO, tn_add, tn_sub, tn_mul, Nat.add_sub_cancel, Nat.add_zero, Nat.zero_add, lnO, win_t, win_f]; exact v1, by simp (disch := omega) only [Option.bind_some, bindv, bindv0, bind2_s, bind3_s, ↓reduceIte, Bool.false_eq_true, rZM_0, rZM_1, rZP_0, rZP_1, ptZ_0, ptZ_1, c32i, c64i, ncI, Int.natCast_add, Int.natCast_mul, q32_neg, q64_neg, q32_add, q32_sub, q32_mul, q64_add, q64_sub, q64_mul, q32_64i, q64_32, q32_lt_t, q32_lt_f, q32_le_t, q32_le_f, q32_eq_t, q32_eq_f, q64_lt_t, q64_lt_f, q64_le_t, q64_le_f, q64_eq_t, q64_eq_f, rdI_i, rdL_i, rdR_i, rdN_i, stI_i, stL_i, stR_i, wI_s, wI_n, wL_s, wL_n, wI_2, wI_3, wL_1, wL_3, wR_1, wR_2, Int.toNat_natCast, tnO, tn_add, tn_sub, tn_mul, Nat.add_sub_cancel, Nat.add_zero, Nat.zero_add, lnO, win_t, win_f]; exact v2, fun y hy => ?_⟩
    rw [wI_n (by omega)]; exact v3 y hy
  · rw [wI_n (by omega)]; exact e2.2.1 a k (by omega)
theorem tells10 {F : Nat} (hF : 1000 ≤ F) {s : List Sh} (hp : ∃ t, s = sB ++ t) {m : Mem} {fc tp : Nat} {U L : Nat → Int} {X : Nat → Nat → Nat} {O : Nat → Nat} (hd : FD fc tp U L X O) (h10 : F10 m fc U L X) (h8 : fc < 8) {f : FR} (h1 : 0 ≤ f.1 ∧ f.1 ≤ 1000000) (h2 : 1 ≤ f.2 ∧ f.2 ≤ 1000000) : ∃ m', nl_X10_tells_114 F s F m 23 (q64 f.1) (q64 f.2) (q32 fc) (q32 0) = some (q32 fc, m') ∧ m'.2.2 = m.2.2 ∧ (∀ a k, a ≠ 23 ∨ (k ≠ 15 ∧ k ≠ 16) → m'.2.1 a k = m.2.1 a k) ∧ (∀ a k, a ≠ 30 ∧ (a ≠ 24 ∨ (k ≠ 3 ∧ (k < 9 ∨ 49 ≤ k))) → m'.1 a k = m.1 a k) ∧ m'.1 24 3 = q32 (fc + 1 : Nat) ∧ ∀ k, k < fc + 1 → m'.1 24 (9 + k) = q32 (insI U fc f.1 k) ∧ m'.1 24 (17 + k) = q32 (insI L fc f.2 k) ∧ ∀ z, z < 3 → m'.1 24 (25 + 8 * z + k) = q32 (insX X fc (WS fc U L X O f) k z) := by
  obtain ⟨F', hF'⟩ : ∃ f, F = f + 4 := ⟨F - 4, by omega⟩
  obtain ⟨m1, a1, a2, a3, a4, a5, a6⟩ := tellsS10 hF hp hd h10 h8 h1 h2 (z := 0) (by omega) (F' + 3)
  obtain ⟨m2, b1, b2, b3, b4, b5, b6⟩ := tellsS10 hF hp hd a2 h8 h1 h2 (z := 1) (by omega) (F' + 2)
  obtain ⟨m3, c1, c2, c3, c4, c5, c6⟩ := tellsS10 hF hp hd b2 h8 h1 h2 (z := 2) (by omega) (F' + 1)
  have l24 := ln24 hp
  have r1 := rf23_1 c2.1
  have d3 := c2.2.1
  refine ⟨wI (wI (wI m3 24 (9 + fc) (q32 f.1)) 24 (17 + fc) (q32 f.2)) 24 3 (q32 (fc + 1 : Nat)), ?_, ?_, fun a k h => ?_, fun a k h => ?_, ?_, fun k hk => ?_⟩
  · have last : nl_X10_tells_114 F s (F' + 1) m3 23 (q64 f.1) (q64 f.2) (q32 fc) (q32 3) = some (q32 fc, wI (wI (wI m3 24 (9 + fc) (q32 f.1)) 24 (17 + fc) (q32 f.2)) 24 3 (q32 (fc + 1 : Nat))) := by
      show nb_X10_tells_114 F s (nl_X10_tells_114 F s F') m3 23 _ _ _ _ = _
      unfold nb_X10_tells_114
      simp (disch := omega) only [Option.bind_some, bindv, bindv0, bind2_s, bind3_s, ↓reduceIte, Bool.false_eq_true, rZM_0, rZM_1, rZP_0, rZP_1, ptZ_0, ptZ_1, c32i, c64i, ncI, Int.natCast_add, Int.natCast_mul, q32_neg, q64_neg, q32_add, q32_sub, q32_mul, q64_add, q64_sub, q64_mul, q32_64i, q64_32, q32_lt_t, q32_lt_f, q32_le_t, q32_le_f, q32_eq_t, q32_eq_f, q64_lt_t, q64_lt_f, q64_le_t, q64_le_f, q64_eq_t, q64_eq_f, rdI_i, rdL_i, rdR_i, rdN_i, stI_i, stL_i, stR_i, wI_s, wI_n, wL_s, wL_n, wI_2, wI_3, wL_1, wL_3, wR_1, wR_2, Int.toNat_natCast, tnO, tn_add, tn_sub, tn_mul, Nat.add_sub_cancel, Nat.add_zero, Nat.zero_add, lnO, win_t, win_f, r1, d3]
    rw [hF'] at a1 b1 c1 last ⊢
    exact a1.trans (b1.trans (c1.trans last))
  · show m3.2.2 = _
    rw [c3, b3, a3]
  · show m3.2.1 a k = _
    rw [c6 a k h, b6 a k h, a6 a k h]
  · rw [wI_n (by omega), wI_n (by omega), wI_n (by omega), c4 a k (by omega), b4 a k (by omega), a4 a k (by omega)]
  · simp (disch := omega) only [Option.bind_some, bindv, bindv0, bind2_s, bind3_s, ↓reduceIte, Bool.false_eq_true, rZM_0, rZM_1, rZP_0, rZP_1, ptZ_0, ptZ_1, c32i, c64i, ncI, Int.natCast_add, Int.natCast_mul, q32_neg, q64_neg, q32_add, q32_sub, q32_mul, q64_add, q64_sub, q64_mul, q32_64i, q64_32, q32_lt_t, q32_lt_f, q32_le_t, q32_le_f, q32_eq_t, q32_eq_f, q64_lt_t, q64_lt_f, q64_le_t, q64_le_f, q64_eq_t, q64_eq_f, rdI_i, rdL_i, rdR_i, rdN_i, stI_i, stL_i, stR_i, wI_s, wI_n, wL_s, wL_n, wI_2, wI_3, wL_1, wL_3, wR_1, wR_2, Int.toNat_natCast, tnO, tn_add, tn_sub, tn_mul, Nat.add_sub_cancel, Nat.add_zero, Nat.zero_add, lnO, win_t, win_f]
  · unfold insI insX
    by_cases e : k = fc
    · subst e
      rw [if_pos rfl, if_pos rfl]
      refine ⟨by simp (disch := omega) only [Option.bind_some, bindv, bindv0, bind2_s, bind3_s, ↓reduceIte, Bool.false_eq_true, rZM_0, rZM_1, rZP_0, rZP_1, ptZ_0, ptZ_1, c32i, c64i, ncI, Int.natCast_add, Int.natCast_mul, q32_neg, q64_neg, q32_add, q32_sub, q32_mul, q64_add, q64_sub, q64_mul, q32_64i, q64_32, q32_lt_t, q32_lt_f, q32_le_t, q32_le_f, q32_eq_t, q32_eq_f, q64_lt_t, q64_lt_f, q64_le_t, q64_le_f, q64_eq_t, q64_eq_f, rdI_i, rdL_i, rdR_i, rdN_i, stI_i, stL_i, stR_i, wI_s, wI_n, wL_s, wL_n, wI_2, wI_3, wL_1, wL_3, wR_1, wR_2, Int.toNat_natCast, tnO, tn_add, tn_sub, tn_mul, Nat.add_sub_cancel, Nat.add_zero, Nat.zero_add, lnO, win_t, win_f], by simp (disch := omega) only [Option.bind_some, bindv, bindv0, bind2_s, bind3_s, ↓reduceIte, Bool.false_eq_true, rZM_0, rZM_1, rZP_0, rZP_1, ptZ_0, ptZ_1, c32i, c64i, ncI, Int.natCast_add, Int.natCast_mul, q32_neg, q64_neg, q32_add, q32_sub, q32_mul, q64_add, q64_sub, q64_mul, q32_64i, q64_32, q32_lt_t, q32_lt_f, q32_le_t, q32_le_f, q32_eq_t, q32_eq_f, q64_lt_t, q64_lt_f, q64_le_t, q64_le_f, q64_eq_t, q64_eq_f, rdI_i, rdL_i, rdR_i, rdN_i, stI_i, stL_i, stR_i, wI_s, wI_n, wL_s, wL_n, wI_2, wI_3, wL_1, wL_3, wR_1, wR_2, Int.toNat_natCast, tnO, tn_add, tn_sub, tn_mul, Nat.add_sub_cancel, Nat.add_zero, Nat.zero_add, lnO, win_t, win_f], fun z hz => ?_⟩
      rw [if_pos rfl]
      rw [wI_n (by omega), wI_n (by omega), wI_n (by omega)]
      rcases (show z = 0 ∨ z = 1 ∨ z = 2 by omega) with rfl | rfl | rfl
      · rw [c4 _ _ (by omega), b4 _ _ (by omega)]; exact a5
      · rw [c4 _ _ (by omega)]; exact b5
      · exact c5
    · obtain ⟨v1, v2, v3⟩ := c2.2.2 k (by omega)
      rw [if_neg e, if_neg e]
      refine ⟨by rw [wI_n (by omega), wI_n (by omega), wI_n (by omega)]; exact v1, by rw [wI_n (by omega), wI_n (by omega), wI_n (by omega)]; exact v2, fun z hz => ?_⟩
      rw [if_neg e, wI_n (by omega), wI_n (by omega), wI_n (by omega)]
      exact v3 z hz
theorem opk_tells {F : Nat} (hF : 1000 ≤ F) {s : List Sh} {m : Mem} (h : INV s m) (w1 w2 : Int32) : OPK s m (n_X9_tells F s m 0 w1 w2) (fun m1 => n_X10_tells F s m1 23 w1 w2) := by
  have h0 := h
  obtain ⟨hg, ow, nw, hst⟩ := h
  have hl := hst.1
  have hp := hl.hp
  have hr := hl.rf
  have hn := hl.hn
  have rn := hl.nw
  have r1 := rf23_1 hr
  have l24 := ln24 hp
  obtain ⟨u, hu, rfl⟩ := q32_of w1
  obtain ⟨l, hll, rfl⟩ := q32_of w2
  have r12 := rf0_12 hr
  obtain ⟨-, -, ⟨-, -, -, -, -, r13n, -⟩, -, -, -, -, -, l6, -⟩ := hl.2.2.2.1
  obtain ⟨fc, tp, U, L, X, O, hd, h9, h10, -, htp⟩ := hst.fd
  have h8 := hd.1
  have fin : ∀ r m1 m2, n_X9_tells F s m 0 (q32 u) (q32 l) = some (r, m1) → n_X10_tells F s m1 23 (q32 u) (q32 l) = some (r, m2) → ST s m2 ow nw → m2.2.2 = m.2.2 → OPK s m (n_X9_tells F s m 0 (q32 u) (q32 l)) (fun m1 => n_X10_tells F s m1 23 (q32 u) (q32 l)) := fun r m1 m2 e1 e2 st er =>
    ⟨r, m1, m2, e1, e2, ⟨(un_X10_tells (un_X9_tells hg (okB hp).1 e1).2 (okB hp).2 e2).2, ow, nw, st⟩, er⟩
  rcases asks_cases (F := F) (by omega) hst hu hll with ⟨m1, k1, k2, k3⟩ | ⟨f, k1, k2, k3⟩
  · obtain ⟨m2, k4, k5⟩ := k3 (wI m1 23 0 (q32 0)) (hr.same k2.r) (by simp (disch := omega) only [Option.bind_some, bindv, bindv0, bind2_s, bind3_s, ↓reduceIte, Bool.false_eq_true, rZM_0, rZM_1, rZP_0, rZP_1, ptZ_0, ptZ_1, c32i, c64i, ncI, Int.natCast_add, Int.natCast_mul, q32_neg, q64_neg, q32_add, q32_sub, q32_mul, q64_add, q64_sub, q64_mul, q32_64i, q64_32, q32_lt_t, q32_lt_f, q32_le_t, q32_le_f, q32_eq_t, q32_eq_f, q64_lt_t, q64_lt_f, q64_le_t, q64_le_f, q64_eq_t, q64_eq_f, rdI_i, rdL_i, rdR_i, rdN_i, stI_i, stL_i, stR_i, wI_s, wI_n, wL_s, wL_n, wI_2, wI_3, wL_1, wL_3, wR_1, wR_2, Int.toNat_natCast, tnO, tn_add, tn_sub, tn_mul, Nat.add_sub_cancel, Nat.add_zero, Nat.zero_add, lnO, win_t, win_f]; exact k2.i _ _ (by omega))
    refine fin (q32 (-3)) m1 m2 ?_ ?_ (hst.sc (k2.tr ((SC.k0 m1).tr k5))) (k2.tr ((SC.k0 m1).tr k5)).r
    · unfold n_X9_tells nb_X9_tells_0
      simp (disch := omega) only [Option.bind_some, bindv, bindv0, bind2_s, bind3_s, ↓reduceIte, Bool.false_eq_true, rZM_0, rZM_1, rZP_0, rZP_1, ptZ_0, ptZ_1, c32i, c64i, ncI, Int.natCast_add, Int.natCast_mul, q32_neg, q64_neg, q32_add, q32_sub, q32_mul, q64_add, q64_sub, q64_mul, q32_64i, q64_32, q32_lt_t, q32_lt_f, q32_le_t, q32_le_f, q32_eq_t, q32_eq_f, q64_lt_t, q64_lt_f, q64_le_t, q64_le_f, q64_eq_t, q64_eq_f, rdI_i, rdL_i, rdR_i, rdN_i, stI_i, stL_i, stR_i, wI_s, wI_n, wL_s, wL_n, wI_2, wI_3, wL_1, wL_3, wR_1, wR_2, Int.toNat_natCast, tnO, tn_add, tn_sub, tn_mul, Nat.add_sub_cancel, Nat.add_zero, Nat.zero_add, lnO, win_t, win_f, k1]
    · unfold n_X10_tells nb_X10_tells_0
      simp (disch := omega) only [Option.bind_some, bindv, bindv0, bind2_s, bind3_s, ↓reduceIte, Bool.false_eq_true, rZM_0, rZM_1, rZP_0, rZP_1, ptZ_0, ptZ_1, c32i, c64i, ncI, Int.natCast_add, Int.natCast_mul, q32_neg, q64_neg, q32_add, q32_sub, q32_mul, q64_add, q64_sub, q64_mul, q32_64i, q64_32, q32_lt_t, q32_lt_f, q32_le_t, q32_le_f, q32_eq_t, q32_eq_f, q64_lt_t, q64_lt_f, q64_le_t, q64_le_f, q64_eq_t, q64_eq_f, rdI_i, rdL_i, rdR_i, rdN_i, stI_i, stL_i, stR_i, wI_s, wI_n, wL_s, wL_n, wI_2, wI_3, wL_1, wL_3, wR_1, wR_2, Int.toNat_natCast, tnO, tn_add, tn_sub, tn_mul, Nat.add_sub_cancel, Nat.add_zero, Nat.zero_add, lnO, win_t, win_f, k4]
  · have kf := k1
    unfold FLR at kf
    have k2' : n_X9_asksFloor F s m 0 (q32 u) (q32 l) = some (q32 1, PT m 19 f) := k2
    have sc0 : SC m (PS (wI (PT m 19 f) 23 0 (q32 0)) f) := (((SC.rf m).pt (by omega)).tr (SC.k0 _)).ps
    have k4 := k3 (wI (PT m 19 f) 23 0 (q32 0)) (hr.same rfl) (by simp (disch := omega) only [Option.bind_some, bindv, bindv0, bind2_s, bind3_s, ↓reduceIte, Bool.false_eq_true, rZM_0, rZM_1, rZP_0, rZP_1, ptZ_0, ptZ_1, c32i, c64i, ncI, Int.natCast_add, Int.natCast_mul, q32_neg, q64_neg, q32_add, q32_sub, q32_mul, q64_add, q64_sub, q64_mul, q32_64i, q64_32, q32_lt_t, q32_lt_f, q32_le_t, q32_le_f, q32_eq_t, q32_eq_f, q64_lt_t, q64_lt_f, q64_le_t, q64_le_f, q64_eq_t, q64_eq_f, rdI_i, rdL_i, rdR_i, rdN_i, stI_i, stL_i, stR_i, wI_s, wI_n, wL_s, wL_n, wI_2, wI_3, wL_1, wL_3, wR_1, wR_2, Int.toNat_natCast, tnO, tn_add, tn_sub, tn_mul, Nat.add_sub_cancel, Nat.add_zero, Nat.zero_add, lnO, win_t, win_f]; rfl)
    have b9 : (PT m 19 f).1 nw 9 = q32 fc := h9.1
    have b10 : (PS (wI (PT m 19 f) 23 0 (q32 0)) f).1 24 3 = q32 fc := by rw [PS_1]; simp (disch := omega) only [Option.bind_some, bindv, bindv0, bind2_s, bind3_s, ↓reduceIte, Bool.false_eq_true, rZM_0, rZM_1, rZP_0, rZP_1, ptZ_0, ptZ_1, c32i, c64i, ncI, Int.natCast_add, Int.natCast_mul, q32_neg, q64_neg, q32_add, q32_sub, q32_mul, q64_add, q64_sub, q64_mul, q32_64i, q64_32, q32_lt_t, q32_lt_f, q32_le_t, q32_le_f, q32_eq_t, q32_eq_f, q64_lt_t, q64_lt_f, q64_le_t, q64_le_f, q64_eq_t, q64_eq_f, rdI_i, rdL_i, rdR_i, rdN_i, stI_i, stL_i, stR_i, wI_s, wI_n, wL_s, wL_n, wI_2, wI_3, wL_1, wL_3, wR_1, wR_2, Int.toNat_natCast, tnO, tn_add, tn_sub, tn_mul, Nat.add_sub_cancel, Nat.add_zero, Nat.zero_add, lnO, win_t, win_f]; exact h10.2.1
    by_cases c99 : f.2 ≤ 99
    · by_cases c8 : fc = 8
      · refine fin (q32 (-4)) (PT m 19 f) _ ?_ ?_ (hst.sc sc0) rfl
        · unfold n_X9_tells nb_X9_tells_0
          simp (disch := omega) only [Option.bind_some, bindv, bindv0, bind2_s, bind3_s, ↓reduceIte, Bool.false_eq_true, rZM_0, rZM_1, rZP_0, rZP_1, ptZ_0, ptZ_1, c32i, c64i, ncI, Int.natCast_add, Int.natCast_mul, q32_neg, q64_neg, q32_add, q32_sub, q32_mul, q64_add, q64_sub, q64_mul, q32_64i, q64_32, q32_lt_t, q32_lt_f, q32_le_t, q32_le_f, q32_eq_t, q32_eq_f, q64_lt_t, q64_lt_f, q64_le_t, q64_le_f, q64_eq_t, q64_eq_f, rdI_i, rdL_i, rdR_i, rdN_i, stI_i, stL_i, stR_i, wI_s, wI_n, wL_s, wL_n, wI_2, wI_3, wL_1, wL_3, wR_1, wR_2, Int.toNat_natCast, tnO, tn_add, tn_sub, tn_mul, Nat.add_sub_cancel, Nat.add_zero, Nat.zero_add, lnO, win_t, win_f, k2', PT_3, r12, PT_l, rn, b9]
        · unfold n_X10_tells nb_X10_tells_0
          simp (disch := omega) only [Option.bind_some, bindv, bindv0, bind2_s, bind3_s, ↓reduceIte, Bool.false_eq_true, rZM_0, rZM_1, rZP_0, rZP_1, ptZ_0, ptZ_1, c32i, c64i, ncI, Int.natCast_add, Int.natCast_mul, q32_neg, q64_neg, q32_add, q32_sub, q32_mul, q64_add, q64_sub, q64_mul, q32_64i, q64_32, q32_lt_t, q32_lt_f, q32_le_t, q32_le_f, q32_eq_t, q32_eq_f, q64_lt_t, q64_lt_f, q64_le_t, q64_le_f, q64_eq_t, q64_eq_f, rdI_i, rdL_i, rdR_i, rdN_i, stI_i, stL_i, stR_i, wI_s, wI_n, wL_s, wL_n, wI_2, wI_3, wL_1, wL_3, wR_1, wR_2, Int.toNat_natCast, tnO, tn_add, tn_sub, tn_mul, Nat.add_sub_cancel, Nat.add_zero, Nat.zero_add, lnO, win_t, win_f, k4, PS_l, PS_3, PT_3, r1, b10]
      · have fa := fat9 (F := F) (m := PT m 19 f) (by omega) hd h9 (u := f.1) (l := f.2) (by omega) (by omega)
        have fb := FAT_n (U := U) (L := L) (u := f.1) (l := f.2) fc 0
        have f10 : F10 (PS (wI (PT m 19 f) 23 0 (q32 0)) f) fc U L X := h10.k (fun j _ => by rw [PS_1]; simp (disch := omega) only [Option.bind_some, bindv, bindv0, bind2_s, bind3_s, ↓reduceIte, Bool.false_eq_true, rZM_0, rZM_1, rZP_0, rZP_1, ptZ_0, ptZ_1, c32i, c64i, ncI, Int.natCast_add, Int.natCast_mul, q32_neg, q64_neg, q32_add, q32_sub, q32_mul, q64_add, q64_sub, q64_mul, q32_64i, q64_32, q32_lt_t, q32_lt_f, q32_le_t, q32_le_f, q32_eq_t, q32_eq_f, q64_lt_t, q64_lt_f, q64_le_t, q64_le_f, q64_eq_t, q64_eq_f, rdI_i, rdL_i, rdR_i, rdN_i, stI_i, stL_i, stR_i, wI_s, wI_n, wL_s, wL_n, wI_2, wI_3, wL_1, wL_3, wR_1, wR_2, Int.toNat_natCast, tnO, tn_add, tn_sub, tn_mul, Nat.add_sub_cancel, Nat.add_zero, Nat.zero_add, lnO, win_t, win_f]; rfl) rfl h8
        by_cases cf : FAT U L f.1 f.2 fc 0 = -1
        · rw [cf] at fa
          have hnew := (FAT_none (U := U) (L := L) (u := f.1) (l := f.2) fc 0).mp cf
          obtain ⟨m1, p1, p2, p3, p4, p5⟩ := tells9 (m := PT m 19 f) hF (hr.same rfl) hn rn hd h9 (by omega) r13n l6 (f := f) (by omega) (by omega) (PT_0 _ _ _) (PT_l _ _ _)
          have hr1 : RF m1 := hr.same p2
          have k4 := k3 (wI m1 23 0 (q32 0)) (hr1.same rfl) (by simp (disch := omega) only [Option.bind_some, bindv, bindv0, bind2_s, bind3_s, ↓reduceIte, Bool.false_eq_true, rZM_0, rZM_1, rZP_0, rZP_1, ptZ_0, ptZ_1, c32i, c64i, ncI, Int.natCast_add, Int.natCast_mul, q32_neg, q64_neg, q32_add, q32_sub, q32_mul, q64_add, q64_sub, q64_mul, q32_64i, q64_32, q32_lt_t, q32_lt_f, q32_le_t, q32_le_f, q32_eq_t, q32_eq_f, q64_lt_t, q64_lt_f, q64_le_t, q64_le_f, q64_eq_t, q64_eq_f, rdI_i, rdL_i, rdR_i, rdN_i, stI_i, stL_i, stR_i, wI_s, wI_n, wL_s, wL_n, wI_2, wI_3, wL_1, wL_3, wR_1, wR_2, Int.toNat_natCast, tnO, tn_add, tn_sub, tn_mul, Nat.add_sub_cancel, Nat.add_zero, Nat.zero_add, lnO, win_t, win_f]; rw [p4 _ _ (by omega)]; rfl)
          have f10 : F10 (PS (wI m1 23 0 (q32 0)) f) fc U L X := h10.k (fun j _ => by rw [PS_1]; simp (disch := omega) only [Option.bind_some, bindv, bindv0, bind2_s, bind3_s, ↓reduceIte, Bool.false_eq_true, rZM_0, rZM_1, rZP_0, rZP_1, ptZ_0, ptZ_1, c32i, c64i, ncI, Int.natCast_add, Int.natCast_mul, q32_neg, q64_neg, q32_add, q32_sub, q32_mul, q64_add, q64_sub, q64_mul, q32_64i, q64_32, q32_lt_t, q32_lt_f, q32_le_t, q32_le_f, q32_eq_t, q32_eq_f, q64_lt_t, q64_lt_f, q64_le_t, q64_le_f, q64_eq_t, q64_eq_f, rdI_i, rdL_i, rdR_i, rdN_i, stI_i, stL_i, stR_i, wI_s, wI_n, wL_s, wL_n, wI_2, wI_3, wL_1, wL_3, wR_1, wR_2, Int.toNat_natCast, tnO, tn_add, tn_sub, tn_mul, Nat.add_sub_cancel, Nat.add_zero, Nat.zero_add, lnO, win_t, win_f]; rw [p4 _ _ (by omega)]; rfl) p2 h8
          have fL := tellsF10 (F := F) hp hd f10 (u := f.1) (l := f.2) (by omega) (by omega) fc F (by omega) 0 (by omega)
          rw [if_pos cf] at fL
          obtain ⟨m2, q1, q2, q3, q4, q5, q6⟩ := tells10 hF hp hd f10 (by omega) (f := f) (by omega) (by omega)
          have b10 : (PS (wI m1 23 0 (q32 0)) f).1 24 3 = q32 fc := f10.2.1
          have r1' := rf23_1 hr1
          have hd' := hd.add (by omega) (u := f.1) (l := f.2) (by rw [← htp]; exact k1) c99 (x := WS fc U L X O f) (fun z hz => (WS_b hd (f := f) (by omega) (by omega) hz).1) (fun k hk => hnew k (by omega) (by omega))
          have m2o : ∀ a k, a ≠ 30 ∧ (a ≠ 24 ∨ (k ≠ 3 ∧ (k < 9 ∨ 49 ≤ k))) ∧ (a ≠ 23 ∨ k ≠ 0) → m2.1 a k = m1.1 a k := fun a k h => by
            rw [q4 a k (by omega), PS_1, wI_n (by omega)]
          have er : m2.2.2 = m.2.2 := by rw [q2]; exact p2
          refine fin (q32 fc) m1 m2 ?_ ?_ (hst.hh er (fun a k => ?_) (fun a k => ?_) (hst.2.1.fl (s := s) htp hd' (p5.k (fun a k h => m2o a k (by omega)) (by rw [q2]; rfl)) q5 q6 (fun a k h1 h2 => ?_) (fun k h1 h2 h3 => ?_))) er
          · unfold n_X9_tells nb_X9_tells_0
            simp (disch := omega) only [Option.bind_some, bindv, bindv0, bind2_s, bind3_s, ↓reduceIte, Bool.false_eq_true, rZM_0, rZM_1, rZP_0, rZP_1, ptZ_0, ptZ_1, c32i, c64i, ncI, Int.natCast_add, Int.natCast_mul, q32_neg, q64_neg, q32_add, q32_sub, q32_mul, q64_add, q64_sub, q64_mul, q32_64i, q64_32, q32_lt_t, q32_lt_f, q32_le_t, q32_le_f, q32_eq_t, q32_eq_f, q64_lt_t, q64_lt_f, q64_le_t, q64_le_f, q64_eq_t, q64_eq_f, rdI_i, rdL_i, rdR_i, rdN_i, stI_i, stL_i, stR_i, wI_s, wI_n, wL_s, wL_n, wI_2, wI_3, wL_1, wL_3, wR_1, wR_2, Int.toNat_natCast, tnO, tn_add, tn_sub, tn_mul, Nat.add_sub_cancel, Nat.add_zero, Nat.zero_add, lnO, win_t, win_f, k2', PT_3, r12, PT_0, PT_l, rn, b9, fa]
            exact p1
          · unfold n_X10_tells nb_X10_tells_0
            simp (disch := omega) only [Option.bind_some, bindv, bindv0, bind2_s, bind3_s, ↓reduceIte, Bool.false_eq_true, rZM_0, rZM_1, rZP_0, rZP_1, ptZ_0, ptZ_1, c32i, c64i, ncI, Int.natCast_add, Int.natCast_mul, q32_neg, q64_neg, q32_add, q32_sub, q32_mul, q64_add, q64_sub, q64_mul, q32_64i, q64_32, q32_lt_t, q32_lt_f, q32_le_t, q32_le_f, q32_eq_t, q32_eq_f, q64_lt_t, q64_lt_f, q64_le_t, q64_le_f, q64_eq_t, q64_eq_f, rdI_i, rdL_i, rdR_i, rdN_i, stI_i, stL_i, stR_i, wI_s, wI_n, wL_s, wL_n, wI_2, wI_3, wL_1, wL_3, wR_1, wR_2, Int.toNat_natCast, tnO, tn_add, tn_sub, tn_mul, Nat.add_sub_cancel, Nat.add_zero, Nat.zero_add, lnO, win_t, win_f, k4, PS_0, PS_l, PS_3, r1', b10]
            exact fL.trans q1
          · by_cases c1 : a = 30 ∨ (a = 24 ∧ (k = 3 ∨ (9 ≤ k ∧ k < 49))) ∨ (a = 23 ∧ k = 0) ∨ (nw ≤ a ∧ a < nw + 10)
            · omega
            · rw [m2o a k (by omega), p4 a k (by omega), PT_1]; simp
          · by_cases c1 : a = 23 ∨ a = 19 ∨ a = 20
            · omega
            · rw [q3 a k (by omega), PS_n (by omega), wI_2, p3 a k (by omega), PT_n (by omega)]; simp
          · rw [m2o a k (by omega), p4 a k (by omega), PT_1]
          · rw [m2o _ k (by omega), p4 _ k (by omega), PT_1]
        · have fL := tellsF10 (F := F) hp hd f10 (u := f.1) (l := f.2) (by omega) (by omega) fc F (by omega) 0 (by omega)
          rw [if_neg cf] at fL
          refine fin (q32 (-5)) (PT m 19 f) _ ?_ ?_ (hst.sc sc0) rfl
          · unfold n_X9_tells nb_X9_tells_0
            simp (disch := omega) only [Option.bind_some, bindv, bindv0, bind2_s, bind3_s, ↓reduceIte, Bool.false_eq_true, rZM_0, rZM_1, rZP_0, rZP_1, ptZ_0, ptZ_1, c32i, c64i, ncI, Int.natCast_add, Int.natCast_mul, q32_neg, q64_neg, q32_add, q32_sub, q32_mul, q64_add, q64_sub, q64_mul, q32_64i, q64_32, q32_lt_t, q32_lt_f, q32_le_t, q32_le_f, q32_eq_t, q32_eq_f, q64_lt_t, q64_lt_f, q64_le_t, q64_le_f, q64_eq_t, q64_eq_f, rdI_i, rdL_i, rdR_i, rdN_i, stI_i, stL_i, stR_i, wI_s, wI_n, wL_s, wL_n, wI_2, wI_3, wL_1, wL_3, wR_1, wR_2, Int.toNat_natCast, tnO, tn_add, tn_sub, tn_mul, Nat.add_sub_cancel, Nat.add_zero, Nat.zero_add, lnO, win_t, win_f, k2', PT_3, r12, PT_0, PT_l, rn, b9, fa]
          · unfold n_X10_tells nb_X10_tells_0
            simp (disch := omega) only [Option.bind_some, bindv, bindv0, bind2_s, bind3_s, ↓reduceIte, Bool.false_eq_true, rZM_0, rZM_1, rZP_0, rZP_1, ptZ_0, ptZ_1, c32i, c64i, ncI, Int.natCast_add, Int.natCast_mul, q32_neg, q64_neg, q32_add, q32_sub, q32_mul, q64_add, q64_sub, q64_mul, q32_64i, q64_32, q32_lt_t, q32_lt_f, q32_le_t, q32_le_f, q32_eq_t, q32_eq_f, q64_lt_t, q64_lt_f, q64_le_t, q64_le_f, q64_eq_t, q64_eq_f, rdI_i, rdL_i, rdR_i, rdN_i, stI_i, stL_i, stR_i, wI_s, wI_n, wL_s, wL_n, wI_2, wI_3, wL_1, wL_3, wR_1, wR_2, Int.toNat_natCast, tnO, tn_add, tn_sub, tn_mul, Nat.add_sub_cancel, Nat.add_zero, Nat.zero_add, lnO, win_t, win_f, k4, PS_0, PS_l, PS_3, PT_3, r1, b10]
            exact fL
    · refine fin (q32 (-3)) (PT m 19 f) _ ?_ ?_ (hst.sc sc0) rfl
      · unfold n_X9_tells nb_X9_tells_0
        simp (disch := omega) only [Option.bind_some, bindv, bindv0, bind2_s, bind3_s, ↓reduceIte, Bool.false_eq_true, rZM_0, rZM_1, rZP_0, rZP_1, ptZ_0, ptZ_1, c32i, c64i, ncI, Int.natCast_add, Int.natCast_mul, q32_neg, q64_neg, q32_add, q32_sub, q32_mul, q64_add, q64_sub, q64_mul, q32_64i, q64_32, q32_lt_t, q32_lt_f, q32_le_t, q32_le_f, q32_eq_t, q32_eq_f, q64_lt_t, q64_lt_f, q64_le_t, q64_le_f, q64_eq_t, q64_eq_f, rdI_i, rdL_i, rdR_i, rdN_i, stI_i, stL_i, stR_i, wI_s, wI_n, wL_s, wL_n, wI_2, wI_3, wL_1, wL_3, wR_1, wR_2, Int.toNat_natCast, tnO, tn_add, tn_sub, tn_mul, Nat.add_sub_cancel, Nat.add_zero, Nat.zero_add, lnO, win_t, win_f, k2', PT_3, r12, PT_l]
      · unfold n_X10_tells nb_X10_tells_0
        simp (disch := omega) only [Option.bind_some, bindv, bindv0, bind2_s, bind3_s, ↓reduceIte, Bool.false_eq_true, rZM_0, rZM_1, rZP_0, rZP_1, ptZ_0, ptZ_1, c32i, c64i, ncI, Int.natCast_add, Int.natCast_mul, q32_neg, q64_neg, q32_add, q32_sub, q32_mul, q64_add, q64_sub, q64_mul, q32_64i, q64_32, q32_lt_t, q32_lt_f, q32_le_t, q32_le_f, q32_eq_t, q32_eq_f, q64_lt_t, q64_lt_f, q64_le_t, q64_le_f, q64_eq_t, q64_eq_f, rdI_i, rdL_i, rdR_i, rdN_i, stI_i, stL_i, stR_i, wI_s, wI_n, wL_s, wL_n, wI_2, wI_3, wL_1, wL_3, wR_1, wR_2, Int.toNat_natCast, tnO, tn_add, tn_sub, tn_mul, Nat.add_sub_cancel, Nat.add_zero, Nat.zero_add, lnO, win_t, win_f, k4, PS_l]
