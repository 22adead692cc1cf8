/-- the first K tokens stand at r -/
def TKA (m : Mem) (r K : Nat) (T : Nat → Int) (N : Nat) : Prop := m.1 (r + 11) 0 = q32 K ∧ ∀ i, i < K → m.1 (r + 12) i = q32 (kdT T N (tpos T N i)) ∧ m.1 (r + 13) i = q32 (tpos T N i : Nat) ∧ m.1 (r + 14) i = q32 (amT T N (tpos T N i))
/-- the arrays of a reader's tokens -/
def RTK (s : List Sh) (m : Mem) (r : Nat) : Prop := 53 ≤ r ∧ (m.2.2 (r + 11) 1 = some (r + 12) ∧ m.2.2 (r + 11) 2 = some (r + 13) ∧ m.2.2 (r + 11) 3 = some (r + 14)) ∧ ln s (r + 12) = 901 ∧ ln s (r + 13) = 901 ∧ ln s (r + 14) = 901
theorem add9 {s : List Sh} {m : Mem} {r K N : Nat} {T : Nat → Int} (h : RTK s m r) (hT : TKA m r K T N) (hK : K < 901) {k a : Int} {p : Nat} (ek : k = kdT T N (tpos T N K)) (ep : p = tpos T N K) (ea : a = amT T N (tpos T N K)) : ∃ m', n_X6_add s m (r + 11) (q32 k) (q32 p) (q32 a) = some ((), m') ∧ TKA m' r (K + 1) T N ∧ m'.2 = m.2 ∧ ∀ b j, (b ≠ r + 11 ∨ j ≠ 0) → b ≠ r + 12 → b ≠ r + 13 → b ≠ r + 14 → m'.1 b j = m.1 b j := by
  obtain ⟨r53, ⟨h1, h2, h3⟩, l1, l2, l3⟩ := h
  obtain ⟨t1, t2⟩ := hT
  refine ⟨wI (wI (wI (wI m (r + 12) K (q32 k)) (r + 13) K (q32 p)) (r + 14) K (q32 a)) (r + 11) 0 (q32 (K + 1)), ?_, ⟨?_, fun i hi => ?_⟩, rfl, fun b j e1 e2 e3 e4 => ?_⟩
  · unfold n_X6_add nb_X6_add_0
    simp (disch := omega) only [Option.bind_some, bindv, bindv0, bind2_s, bind3_s, ↓reduceIte, Bool.false_eq_true, rZM_0, rZM_1, rZP_0, rZP_1, ptZ_0, ptZ_1, c32i, c64i, ncI, Int.natCast_add, Int.natCast_mul, q32_neg, q64_neg, q32_add, q32_sub, q32_mul, q64_add, q64_sub, q64_mul, q32_64i, q64_32, q32_lt_t, q32_lt_f, q32_le_t, q32_le_f, q32_eq_t, q32_eq_f, q64_lt_t, q64_lt_f, q64_le_t, q64_le_f, q64_eq_t, q64_eq_f, rdI_i, rdL_i, rdR_i, rdN_i, stI_i, stL_i, stR_i, wI_s, wI_n, wL_s, wL_n, wI_2, wI_3, wL_1, wL_3, wR_1, wR_2, Int.toNat_natCast, tnO, tn_add, tn_sub, tn_mul, Nat.add_sub_cancel, Nat.add_zero, Nat.zero_add, lnO, win_t, win_f, h1, h2, h3, l1, t1]
  · rw [wI_s, Int.natCast_add]; rfl
  · by_cases c : i = K
    · subst c
      rw [← ek, ← ea, ← ep]
      refine ⟨?_, ?_, ?_⟩
      · simp (disch := omega) only [Option.bind_some, bindv, bindv0, bind2_s, bind3_s, ↓reduceIte, Bool.false_eq_true, rZM_0, rZM_1, rZP_0, rZP_1, ptZ_0, ptZ_1, c32i, c64i, ncI, Int.natCast_add, Int.natCast_mul, q32_neg, q64_neg, q32_add, q32_sub, q32_mul, q64_add, q64_sub, q64_mul, q32_64i, q64_32, q32_lt_t, q32_lt_f, q32_le_t, q32_le_f, q32_eq_t, q32_eq_f, q64_lt_t, q64_lt_f, q64_le_t, q64_le_f, q64_eq_t, q64_eq_f, rdI_i, rdL_i, rdR_i, rdN_i, stI_i, stL_i, stR_i, wI_s, wI_n, wL_s, wL_n, wI_2, wI_3, wL_1, wL_3, wR_1, wR_2, Int.toNat_natCast, tnO, tn_add, tn_sub, tn_mul, Nat.add_sub_cancel, Nat.add_zero, Nat.zero_add, lnO, win_t, win_f]
      · simp (disch := omega) only [Option.bind_some, bindv, bindv0, bind2_s, bind3_s, ↓reduceIte, Bool.false_eq_true, rZM_0, rZM_1, rZP_0, rZP_1, ptZ_0, ptZ_1, c32i, c64i, ncI, Int.natCast_add, Int.natCast_mul, q32_neg, q64_neg, q32_add, q32_sub, q32_mul, q64_add, q64_sub, q64_mul, q32_64i, q64_32, q32_lt_t, q32_lt_f, q32_le_t, q32_le_f, q32_eq_t, q32_eq_f, q64_lt_t, q64_lt_f, q64_le_t, q64_le_f, q64_eq_t, q64_eq_f, rdI_i, rdL_i, rdR_i, rdN_i, stI_i, stL_i, stR_i, wI_s, wI_n, wL_s, wL_n, wI_2, wI_3, wL_1, wL_3, wR_1, wR_2, Int.toNat_natCast, tnO, tn_add, tn_sub, tn_mul, Nat.add_sub_cancel, Nat.add_zero, Nat.zero_add, lnO, win_t, win_f]
      · simp (disch := omega) only [Option.bind_some, bindv, bindv0, bind2_s, bind3_s, ↓reduceIte, Bool.false_eq_true, rZM_0, rZM_1, rZP_0, rZP_1, ptZ_0, ptZ_1, c32i, c64i, ncI, Int.natCast_add, Int.natCast_mul, q32_neg, q64_neg, q32_add, q32_sub, q32_mul, q64_add, q64_sub, q64_mul, q32_64i, q64_32, q32_lt_t, q32_lt_f, q32_le_t, q32_le_f, q32_eq_t, q32_eq_f, q64_lt_t, q64_lt_f, q64_le_t, q64_le_f, q64_eq_t, q64_eq_f, rdI_i, rdL_i, rdR_i, rdN_i, stI_i, stL_i, stR_i, wI_s, wI_n, wL_s, wL_n, wI_2, wI_3, wL_1, wL_3, wR_1, wR_2, Int.toNat_natCast, tnO, tn_add, tn_sub, tn_mul, Nat.add_sub_cancel, Nat.add_zero, Nat.zero_add, lnO, win_t, win_f]
    · obtain ⟨z1, z2, z3⟩ := t2 i (by omega)
      refine ⟨?_, ?_, ?_⟩
      · simp (disch := omega) only [Option.bind_some, bindv, bindv0, bind2_s, bind3_s, ↓reduceIte, Bool.false_eq_true, rZM_0, rZM_1, rZP_0, rZP_1, ptZ_0, ptZ_1, c32i, c64i, ncI, Int.natCast_add, Int.natCast_mul, q32_neg, q64_neg, q32_add, q32_sub, q32_mul, q64_add, q64_sub, q64_mul, q32_64i, q64_32, q32_lt_t, q32_lt_f, q32_le_t, q32_le_f, q32_eq_t, q32_eq_f, q64_lt_t, q64_lt_f, q64_le_t, q64_le_f, q64_eq_t, q64_eq_f, rdI_i, rdL_i, rdR_i, rdN_i, stI_i, stL_i, stR_i, wI_s, wI_n, wL_s, wL_n, wI_2, wI_3, wL_1, wL_3, wR_1, wR_2, Int.toNat_natCast, tnO, tn_add, tn_sub, tn_mul, Nat.add_sub_cancel, Nat.add_zero, Nat.zero_add, lnO, win_t, win_f, z1]
      · simp (disch := omega) only [Option.bind_some, bindv, bindv0, bind2_s, bind3_s, ↓reduceIte, Bool.false_eq_true, rZM_0, rZM_1, rZP_0, rZP_1, ptZ_0, ptZ_1, c32i, c64i, ncI, Int.natCast_add, Int.natCast_mul, q32_neg, q64_neg, q32_add, q32_sub, q32_mul, q64_add, q64_sub, q64_mul, q32_64i, q64_32, q32_lt_t, q32_lt_f, q32_le_t, q32_le_f, q32_eq_t, q32_eq_f, q64_lt_t, q64_lt_f, q64_le_t, q64_le_f, q64_eq_t, q64_eq_f, rdI_i, rdL_i, rdR_i, rdN_i, stI_i, stL_i, stR_i, wI_s, wI_n, wL_s, wL_n, wI_2, wI_3, wL_1, wL_3, wR_1, wR_2, Int.toNat_natCast, tnO, tn_add, tn_sub, tn_mul, Nat.add_sub_cancel, Nat.add_zero, Nat.zero_add, lnO, win_t, win_f, z2]
      · simp (disch := omega) only [Option.bind_some, bindv, bindv0, bind2_s, bind3_s, ↓reduceIte, Bool.false_eq_true, rZM_0, rZM_1, rZP_0, rZP_1, ptZ_0, ptZ_1, c32i, c64i, ncI, Int.natCast_add, Int.natCast_mul, q32_neg, q64_neg, q32_add, q32_sub, q32_mul, q64_add, q64_sub, q64_mul, q32_64i, q64_32, q32_lt_t, q32_lt_f, q32_le_t, q32_le_f, q32_eq_t, q32_eq_f, q64_lt_t, q64_lt_f, q64_le_t, q64_le_f, q64_eq_t, q64_eq_f, rdI_i, rdL_i, rdR_i, rdN_i, stI_i, stL_i, stR_i, wI_s, wI_n, wL_s, wL_n, wI_2, wI_3, wL_1, wL_3, wR_1, wR_2, Int.toNat_natCast, tnO, tn_add, tn_sub, tn_mul, Nat.add_sub_cancel, Nat.add_zero, Nat.zero_add, lnO, win_t, win_f, z3]
  · simp (disch := omega) only [Option.bind_some, bindv, bindv0, bind2_s, bind3_s, ↓reduceIte, Bool.false_eq_true, rZM_0, rZM_1, rZP_0, rZP_1, ptZ_0, ptZ_1, c32i, c64i, ncI, Int.natCast_add, Int.natCast_mul, q32_neg, q64_neg, q32_add, q32_sub, q32_mul, q64_add, q64_sub, q64_mul, q32_64i, q64_32, q32_lt_t, q32_lt_f, q32_le_t, q32_le_f, q32_eq_t, q32_eq_f, q64_lt_t, q64_lt_f, q64_le_t, q64_le_f, q64_eq_t, q64_eq_f, rdI_i, rdL_i, rdR_i, rdN_i, stI_i, stL_i, stR_i, wI_s, wI_n, wL_s, wL_n, wI_2, wI_3, wL_1, wL_3, wR_1, wR_2, Int.toNat_natCast, tnO, tn_add, tn_sub, tn_mul, Nat.add_sub_cancel, Nat.add_zero, Nat.zero_add, lnO, win_t, win_f]
theorem wkT_b (T : Nat → Int) (p n : Nat) : 3 ≤ wkT T p n ∧ wkT T p n ≤ 11 := by
  unfold wkT
  repeat' split
  all_goals omega
theorem kdT_in {T : Nat → Int} {N p : Nat} (h : p < N) : kdT T N p ≠ 1 := by
  have := wkT_b T p (endT T N p - p)
  unfold kdT
  rw [if_neg (by omega)]
  split
  · split <;> omega
  · split
    · omega
    · split
      · next c => have : isSg (T p) := c; omega
      · omega
theorem kdT_end {T : Nat → Int} {N p : Nat} (h : N ≤ p) : kdT T N p = 1 := by unfold kdT; rw [if_pos h]
theorem kdT_b {T : Nat → Int} {N p : Nat} : 0 ≤ kdT T N p ∧ kdT T N p ≤ 59 := by
  have := wkT_b T p (endT T N p - p)
  unfold kdT
  split
  · omega
  · split
    · split <;> omega
    · split
      · omega
      · split
        · next c => have : isSg (T p) := c; omega
        · omega
theorem scanL9 {F : Nat} (hF : 20000 ≤ F) {s : List Sh} {r N : Nat} {T : Nat → Int} : ∀ n i fuel, N + 1 - i ≤ n → n < fuel → ∀ m : Mem, RTK s m r → TXC s m (r + 11) N T → TKA m r i T N → i ≤ tpos T N i → tpos T N i ≤ N → ∃ K m', nl_X6_scanAll_29 F s fuel m (r + 11) (q32 (tpos T N i : Nat)) (q32 (i : Nat)) = some ((), m') ∧ TKA m' r K T N ∧ i < K ∧ K ≤ N + 1 ∧ (kdT T N (tpos T N (K - 1)) = 0 ∨ kdT T N (tpos T N (K - 1)) = 1) ∧ (∀ j, i ≤ j → j + 1 < K → kdT T N (tpos T N j) ≠ 0 ∧ kdT T N (tpos T N j) ≠ 1 ∧ tpos T N j < N) ∧ m'.2 = m.2 ∧ ∀ b j, (b ≠ r + 11 ∨ j ≠ 0) → b ≠ r + 12 → b ≠ r + 13 → b ≠ r + 14 → m'.1 b j = m.1 b j := by
  intro n
  induction n with
  | zero => intro i fuel hn hfu m hk hx ht h1 h2; omega
  | succ n ih =>
    intro i fuel hn hfu m hk hx ht h1 h2
    obtain ⟨fuel, rfl⟩ : ∃ f, fuel = f + 1 := ⟨fuel - 1, by omega⟩
    have hN := hx.2.2.1
    have x5 := hx.2.1
    show ∃ K m', nb_X6_scanAll_29 F s (nl_X6_scanAll_29 F s fuel) m (r + 11) _ _ = _ ∧ _
    by_cases ce : N ≤ tpos T N i
    · have ep : tpos T N i = N := by omega
      obtain ⟨m1, a1, a2, a3, a4⟩ := add9 hk ht (by omega) (k := 1) (a := 0) (p := N) (kdT_end ce).symm ep.symm (by unfold amT; rw [kdT_end ce, if_neg (by decide)])
      refine ⟨i + 1, m1, ?_, a2, by omega, by omega, Or.inr (by rw [Nat.add_sub_cancel]; exact kdT_end ce), fun j p1 p2 => by omega, a3, a4⟩
      have a1' : n_X6_add s m (r + 11) (q32 1) (q32 N) (q32 0) = some ((), m1) := a1
      unfold nb_X6_scanAll_29 nb_X6_scanAll_105
      rw [ep]
      by_cases ci : N ≤ i
      · simp (disch := omega) only [Option.bind_some, bindv, bindv0, bind2_s, bind3_s, ↓reduceIte, Bool.false_eq_true, rZM_0, rZM_1, rZP_0, rZP_1, ptZ_0, ptZ_1, c32i, c64i, ncI, Int.natCast_add, Int.natCast_mul, q32_neg, q64_neg, q32_add, q32_sub, q32_mul, q64_add, q64_sub, q64_mul, q32_64i, q64_32, q32_lt_t, q32_lt_f, q32_le_t, q32_le_f, q32_eq_t, q32_eq_f, q64_lt_t, q64_lt_f, q64_le_t, q64_le_f, q64_eq_t, q64_eq_f, rdI_i, rdL_i, rdR_i, rdN_i, stI_i, stL_i, stR_i, wI_s, wI_n, wL_s, wL_n, wI_2, wI_3, wL_1, wL_3, wR_1, wR_2, Int.toNat_natCast, tnO, tn_add, tn_sub, tn_mul, Nat.add_sub_cancel, Nat.add_zero, Nat.zero_add, lnO, win_t, win_f, x5, a1']
      · simp (disch := omega) only [Option.bind_some, bindv, bindv0, bind2_s, bind3_s, ↓reduceIte, Bool.false_eq_true, rZM_0, rZM_1, rZP_0, rZP_1, ptZ_0, ptZ_1, c32i, c64i, ncI, Int.natCast_add, Int.natCast_mul, q32_neg, q64_neg, q32_add, q32_sub, q32_mul, q64_add, q64_sub, q64_mul, q32_64i, q64_32, q32_lt_t, q32_lt_f, q32_le_t, q32_le_f, q32_eq_t, q32_eq_f, q64_lt_t, q64_lt_f, q64_le_t, q64_le_f, q64_eq_t, q64_eq_f, rdI_i, rdL_i, rdR_i, rdN_i, stI_i, stL_i, stR_i, wI_s, wI_n, wL_s, wL_n, wI_2, wI_3, wL_1, wL_3, wR_1, wR_2, Int.toNat_natCast, tnO, tn_add, tn_sub, tn_mul, Nat.add_sub_cancel, Nat.add_zero, Nat.zero_add, lnO, win_t, win_f, x5, a1']
    · have hp : tpos T N i < N := by omega
      have eb := endT_b (T := T) hp
      have kb := kdT_b (T := T) (N := N) (p := tpos T N i)
      have en := en9 hF hx hp
      have kd := kd9 hF hx hp
      have am := am9 hF hx hp
      obtain ⟨m1, a1, a2, a3, a4⟩ := add9 hk ht (by omega) (k := kdT T N (tpos T N i)) (a := amT T N (tpos T N i)) (p := tpos T N i) rfl rfl rfl
      have hk1 : RTK s m1 r := by unfold RTK at hk ⊢; rw [a3]; exact hk
      have r53 := hk.1
      have hx1 : TXC s m1 (r + 11) N T := by
        obtain ⟨x1, x2, x3, x4, x6⟩ := hx
        exact ⟨by rw [a3]; exact x1, by rw [a4 _ _ (by omega) (by omega) (by omega) (by omega)]; exact x2, x3, x4, fun k hk' => by rw [a4 _ _ (by omega) (by omega) (by omega) (by omega)]; exact x6 k hk'⟩
      have pre : nb_X6_scanAll_29 F s (nl_X6_scanAll_29 F s fuel) m (r + 11) (q32 (tpos T N i : Nat)) (q32 (i : Nat)) = nb_X6_scanAll_83 F s (nl_X6_scanAll_29 F s fuel) m (r + 11) (q32 (i : Nat)) (q32 (endT T N (tpos T N i) : Nat)) (q32 (kdT T N (tpos T N i))) (r + 11) (q32 (kdT T N (tpos T N i))) (q32 (tpos T N i : Nat)) (q32 (amT T N (tpos T N i))) := by
        unfold nb_X6_scanAll_29 amT
        by_cases c2 : kdT T N (tpos T N i) = 2
        · rw [if_pos c2]
          rw [c2] at kd ⊢
          generalize AMT T (endT T N (tpos T N i) - tpos T N i) (tpos T N i) 0 = v at *
          generalize endT T N (tpos T N i) = e at *
          generalize tpos T N i = p at *
          simp (disch := omega) only [Option.bind_some, bindv, bindv0, bind2_s, bind3_s, ↓reduceIte, Bool.false_eq_true, rZM_0, rZM_1, rZP_0, rZP_1, ptZ_0, ptZ_1, c32i, c64i, ncI, Int.natCast_add, Int.natCast_mul, q32_neg, q64_neg, q32_add, q32_sub, q32_mul, q64_add, q64_sub, q64_mul, q32_64i, q64_32, q32_lt_t, q32_lt_f, q32_le_t, q32_le_f, q32_eq_t, q32_eq_f, q64_lt_t, q64_lt_f, q64_le_t, q64_le_f, q64_eq_t, q64_eq_f, rdI_i, rdL_i, rdR_i, rdN_i, stI_i, stL_i, stR_i, wI_s, wI_n, wL_s, wL_n, wI_2, wI_3, wL_1, wL_3, wR_1, wR_2, Int.toNat_natCast, tnO, tn_add, tn_sub, tn_mul, Nat.add_sub_cancel, Nat.add_zero, Nat.zero_add, lnO, win_t, win_f, x5, en, kd, am]
        · rw [if_neg c2]
          generalize kdT T N (tpos T N i) = k at *
          generalize endT T N (tpos T N i) = e at *
          generalize tpos T N i = p at *
          simp (disch := omega) only [Option.bind_some, bindv, bindv0, bind2_s, bind3_s, ↓reduceIte, Bool.false_eq_true, rZM_0, rZM_1, rZP_0, rZP_1, ptZ_0, ptZ_1, c32i, c64i, ncI, Int.natCast_add, Int.natCast_mul, q32_neg, q64_neg, q32_add, q32_sub, q32_mul, q64_add, q64_sub, q64_mul, q32_64i, q64_32, q32_lt_t, q32_lt_f, q32_le_t, q32_le_f, q32_eq_t, q32_eq_f, q64_lt_t, q64_lt_f, q64_le_t, q64_le_f, q64_eq_t, q64_eq_f, rdI_i, rdL_i, rdR_i, rdN_i, stI_i, stL_i, stR_i, wI_s, wI_n, wL_s, wL_n, wI_2, wI_3, wL_1, wL_3, wR_1, wR_2, Int.toNat_natCast, tnO, tn_add, tn_sub, tn_mul, Nat.add_sub_cancel, Nat.add_zero, Nat.zero_add, lnO, win_t, win_f, x5, en, kd]
      rw [pre]
      unfold nb_X6_scanAll_83
      rw [a1, bind2_s]
      by_cases c0 : kdT T N (tpos T N i) = 0
      · rw [c0, if_pos (show q32 0 = (0 : Int32) from rfl)]
        exact ⟨i + 1, m1, rfl, a2, by omega, by omega, Or.inl (by rw [Nat.add_sub_cancel]; exact c0), fun j p1 p2 => by omega, a3, a4⟩
      · have bl := bl9 hF hx1 eb.2
        have sb := skp_b (T := T) eb.2
        obtain ⟨K, m2, i1, i2, i3, i4, i5, i6, i7, i8⟩ := ih (i + 1) fuel (by omega) (by omega) m1 hk1 hx1 a2 (by show i + 1 ≤ skp T N (endT T N (tpos T N i)); omega) (by show skp T N (endT T N (tpos T N i)) ≤ N; omega)
        refine ⟨K, m2, ?_, i2, by omega, i4, i5, fun j p1 p2 => ?_, by rw [i7, a3], fun b j e1 e2 e3 e4 => by rw [i8 b j e1 e2 e3 e4, a4 b j e1 e2 e3 e4]⟩
        · rw [if_neg (by rw [show (0 : Int32) = q32 0 from rfl, q32_eq_f (by omega)]; exact fun h => h), bl, Option.bind_some, bindv, bindv0, ← i1, Int.natCast_add]
          simp (disch := omega) only [Option.bind_some, bindv, bindv0, bind2_s, bind3_s, ↓reduceIte, Bool.false_eq_true, rZM_0, rZM_1, rZP_0, rZP_1, ptZ_0, ptZ_1, c32i, c64i, ncI, Int.natCast_add, Int.natCast_mul, q32_neg, q64_neg, q32_add, q32_sub, q32_mul, q64_add, q64_sub, q64_mul, q32_64i, q64_32, q32_lt_t, q32_lt_f, q32_le_t, q32_le_f, q32_eq_t, q32_eq_f, q64_lt_t, q64_lt_f, q64_le_t, q64_le_f, q64_eq_t, q64_eq_f, rdI_i, rdL_i, rdR_i, rdN_i, stI_i, stL_i, stR_i, wI_s, wI_n, wL_s, wL_n, wI_2, wI_3, wL_1, wL_3, wR_1, wR_2, Int.toNat_natCast, tnO, tn_add, tn_sub, tn_mul, Nat.add_sub_cancel, Nat.add_zero, Nat.zero_add, lnO, win_t, win_f]
          first | done | rfl
        · by_cases cj : j = i
          · rw [cj]; exact ⟨c0, kdT_in hp, hp⟩
          · exact i6 j (by omega) p2
theorem scan9 {F : Nat} (hF : 20000 ≤ F) {s : List Sh} {r N : Nat} {T : Nat → Int} {m : Mem} (hk : RTK s m r) (l1 : ln s 1 = 900) (hN : N ≤ 900) (hT : ∀ k, k < N → m.1 1 k = q32 (T k) ∧ 0 ≤ T k ∧ T k < 256) : ∃ K m', n_X6_scanAll F s m (r + 11) 1 (q32 (N : Nat)) = some ((), m') ∧ TKA m' r K T N ∧ 1 ≤ K ∧ K ≤ N + 1 ∧ (kdT T N (tpos T N (K - 1)) = 0 ∨ kdT T N (tpos T N (K - 1)) = 1) ∧ (∀ j, j + 1 < K → kdT T N (tpos T N j) ≠ 0 ∧ kdT T N (tpos T N j) ≠ 1 ∧ tpos T N j < N) ∧ (∀ a k, (a ≠ r + 11 ∨ k ≠ 4) → m'.2.2 a k = m.2.2 a k) ∧ m'.2.1 = m.2.1 ∧ ∀ b j, (b ≠ r + 11 ∨ (j ≠ 0 ∧ j ≠ 5)) → b ≠ r + 12 → b ≠ r + 13 → b ≠ r + 14 → m'.1 b j = m.1 b j := by
  have r53 := hk.1
  have jm : jmin (q32 (N : Nat)) (Int32.ofNat 900) = q32 N := by
    have := jmin_q (a := N) (b := 900) (by omega) (by omega)
    rw [show (Int32.ofNat 900) = q32 ((900 : Nat) : Int) from rfl, this]
    first | (rw [Nat.min_eq_left hN]) | (rw [if_pos hN]) | (congr 1; omega)
  have hk3 : RTK s (wI (wI (wR m (r + 11) 4 (some 1)) (r + 11) 5 (q32 N)) (r + 11) 0 (q32 0)) r := by
    obtain ⟨a1, ⟨a2, a3, a4⟩, a5⟩ := hk
    refine ⟨a1, ⟨?_, ?_, ?_⟩, a5⟩
    · show (wR m (r + 11) 4 (some 1)).2.2 (r + 11) 1 = _; rw [wR_3, if_neg (by omega)]; exact a2
    · show (wR m (r + 11) 4 (some 1)).2.2 (r + 11) 2 = _; rw [wR_3, if_neg (by omega)]; exact a3
    · show (wR m (r + 11) 4 (some 1)).2.2 (r + 11) 3 = _; rw [wR_3, if_neg (by omega)]; exact a4
  have hx3 : TXC s (wI (wI (wR m (r + 11) 4 (some 1)) (r + 11) 5 (q32 N)) (r + 11) 0 (q32 0)) (r + 11) N T := by
    refine ⟨?_, ?_, hN, l1, fun k hk' => ?_⟩
    · show (wR m (r + 11) 4 (some 1)).2.2 (r + 11) 4 = _; rw [wR_3, if_pos ⟨rfl, rfl⟩]
    · rw [wI_n (by omega), wI_s]
    · rw [wI_n (by omega), wI_n (by omega)]; exact hT k hk'
  have bl := bl9 hF hx3 (p := 0) (by omega)
  have sb := skp_b (T := T) (N := N) (p := 0) (by omega)
  obtain ⟨K, m', i1, i2, i3, i4, i5, i6, i7, i8⟩ := scanL9 hF (N + 1) 0 F (by omega) (by omega) _ hk3 hx3 ⟨wI_s .., fun i hi => absurd hi (Nat.not_lt_zero _)⟩ (Nat.zero_le _) sb.2
  refine ⟨K, m', ?_, i2, by omega, i4, i5, fun j hj => i6 j (by omega) hj, fun a k hk' => ?_, by rw [i7]; rfl, fun b j e1 e2 e3 e4 => ?_⟩
  · have bl' : n_X6_behindBlanks F s (wI (wI (wR m (r + 11) 4 (some 1)) (r + 11) 5 (q32 N)) (r + 11) 0 (q32 0)) (r + 11) (q32 0) = some (q32 (skp T N 0 : Nat)) := bl
    have i1' : nl_X6_scanAll_29 F s F (wI (wI (wR m (r + 11) 4 (some 1)) (r + 11) 5 (q32 N)) (r + 11) 0 (q32 0)) (r + 11) (q32 (skp T N 0 : Nat)) (q32 0) = some ((), m') := i1
    unfold n_X6_scanAll nb_X6_scanAll_0
    rw [bindv, bindv0, bindv, bindv0, bindv, bindv0, l1, jm, show (0 : Int32) = q32 0 from rfl, bl', Option.bind_some]
    exact i1'
  · rw [i7]
    show (wR m (r + 11) 4 (some 1)).2.2 a k = _
    rw [wR_3, if_neg (by omega)]
  · rw [i8 b j (by omega) e2 e3 e4, wI_n (by omega), wI_n (by omega)]
    rfl
