/-! the reference's house, whole -/
theorem plaL10 {F : Nat} {s : List Sh} {a : Nat} (hl : 999 ≤ ln s a ∧ ln s a < 5000) : ∀ n j fuel, j + n = 999 → n < fuel → ∀ m : Mem, ∃ m', nl_X10_plain_2 F s fuel m a (q32 (j : Nat)) = some ((), m') ∧ m'.2 = m.2 ∧ (∀ b k, b ≠ a ∨ 999 ≤ k → m'.1 b k = m.1 b k) ∧ (∀ k, k < 999 → m'.1 a k = if k = 1 then q32 4 else if k = 8 then q32 1 else if j ≤ k then q32 0 else m.1 a k) := by
  intro n
  induction n with
  | zero =>
    intro j fuel hj hf m
    obtain ⟨fuel, rfl⟩ : ∃ f, fuel = f + 1 := ⟨fuel - 1, by omega⟩
    refine ⟨wI (wI m a 1 (q32 4)) a 8 (q32 1), ?_, rfl, fun b k h => by rw [wI_n (by omega), wI_n (by omega)], fun k hk => ?_⟩
    · show nb_X10_plain_2 F s (nl_X10_plain_2 F s fuel) m a _ = _
      unfold nb_X10_plain_2
      rw [if_pos (by rw [show (999 : Int32) = q32 999 from rfl, q32_le_t (by omega)]; trivial), stI_c 1 (by omega) (by omega), Option.bind_some, stI_c 8 (by omega) (by omega), Option.bind_some]
      rfl
    · by_cases c1 : k = 1
      · rw [if_pos c1, c1, wI_n (by omega), wI_s]
      rw [if_neg c1]
      by_cases c8 : k = 8
      · rw [if_pos c8, c8, wI_s]
      rw [if_neg c8, if_neg (by omega), wI_n (by omega), wI_n (by omega)]
  | succ n ih =>
    intro j fuel hj hf m
    obtain ⟨fuel, rfl⟩ : ∃ f, fuel = f + 1 := ⟨fuel - 1, by omega⟩
    obtain ⟨m', a1, a2, a3, a4⟩ := ih (j + 1) fuel (by omega) (by omega) (wI m a j (q32 0))
    refine ⟨m', ?_, by rw [a2]; rfl, fun b k h => by rw [a3 b k h, wI_n (by omega)], fun k hk => ?_⟩
    · show nb_X10_plain_2 F s (nl_X10_plain_2 F s fuel) m a _ = _
      unfold nb_X10_plain_2
      rw [if_neg (by rw [show (999 : Int32) = q32 999 from rfl, q32_le_f (by omega)]; exact fun h => h), stI_q (by omega) (by omega), Option.bind_some, bindv, bindv0, show q32 (j : Int) + 1 = q32 ((j + 1 : Nat) : Int) by rw [show (1 : Int32) = q32 1 from rfl, q32_add, Int.natCast_add]; rfl]
      exact a1
    · rw [a4 k hk]
      by_cases c1 : k = 1
      · rw [if_pos c1, if_pos c1]
      rw [if_neg c1, if_neg c1]
      by_cases c8 : k = 8
      · rw [if_pos c8, if_pos c8]
      rw [if_neg c8, if_neg c8]
      by_cases cj : k = j
      · rw [if_neg (by omega), if_pos (by omega), cj, wI_s]
      · by_cases cl : j + 1 ≤ k
        · rw [if_pos cl, if_pos (by omega)]
        · rw [if_neg cl, if_neg (by omega), wI_n (by omega)]
theorem copL10 {F : Nat} {s : List Sh} (hp : ∃ t, s = sB ++ t) : ∀ n j fuel, j + n = 999 → n < fuel → ∀ m : Mem, RF m → ∃ m', nl_X10_house_149 F s fuel m 23 (q32 (j : Nat)) = some (m'.1 24 0, m') ∧ m'.2 = m.2 ∧ (∀ b k, b ≠ 24 ∨ 999 ≤ k → m'.1 b k = m.1 b k) ∧ (∀ k, k < 999 → m'.1 24 k = if j ≤ k then m.1 27 k else m.1 24 k) := by
  have l24 := ln24 hp
  have l27 := ln27 hp
  intro n
  induction n with
  | zero =>
    intro j fuel hj hf m hr
    obtain ⟨fuel, rfl⟩ : ∃ f, fuel = f + 1 := ⟨fuel - 1, by omega⟩
    refine ⟨m, ?_, rfl, fun b k h => rfl, fun k hk => by rw [if_neg (by omega)]⟩
    show nb_X10_house_149 F s (nl_X10_house_149 F s fuel) m 23 _ = _
    unfold nb_X10_house_149
    rw [if_pos (by rw [show (999 : Int32) = q32 999 from rfl, q32_le_t (by omega)]; trivial), rf23_1 hr, Option.bind_some, rdI_c 0 (by omega) (by omega), Option.bind_some]
  | succ n ih =>
    intro j fuel hj hf m hr
    obtain ⟨fuel, rfl⟩ : ∃ f, fuel = f + 1 := ⟨fuel - 1, by omega⟩
    obtain ⟨m', a1, a2, a3, a4⟩ := ih (j + 1) fuel (by omega) (by omega) (wI m 24 j (m.1 27 j)) (hr.same rfl)
    refine ⟨m', ?_, by rw [a2]; rfl, fun b k h => by rw [a3 b k h, wI_n (by omega)], fun k hk => ?_⟩
    · show nb_X10_house_149 F s (nl_X10_house_149 F s fuel) m 23 _ = _
      unfold nb_X10_house_149
      rw [if_neg (by rw [show (999 : Int32) = q32 999 from rfl, q32_le_f (by omega)]; exact fun h => h), rf23_1 hr, Option.bind_some, rf23_4 hr, Option.bind_some, rdI_q (by omega) (by omega), Option.bind_some, stI_q (by omega) (by omega), Option.bind_some, bindv, bindv0, show q32 (j : Int) + 1 = q32 ((j + 1 : Nat) : Int) by rw [show (1 : Int32) = q32 1 from rfl, q32_add, Int.natCast_add]; rfl]
      exact a1
    · rw [a4 k hk]
      by_cases cl : j + 1 ≤ k
      · rw [if_pos cl, if_pos (by omega), wI_n (by omega)]
      · rw [if_neg cl]
        by_cases cj : k = j
        · rw [if_pos (by omega), cj, wI_s]
        · rw [if_neg (by omega), wI_n (by omega)]
/-- what a told house writes in the reference -/
def KH10 (m m' : Mem) : Prop := (∀ a k, a ≠ 23 → (a ≠ 24 ∨ 999 ≤ k) → a ≠ 27 → m'.1 a k = m.1 a k) ∧ (∀ a k, a ≠ 23 → m'.2.1 a k = m.2.1 a k) ∧ m'.2.2 = m.2.2 ∧ m'.1 23 5 = q32 0
theorem hNew_t : HBT hNew := ⟨rfl, rfl, fun b hb => absurd hb (Nat.not_lt_zero _), fun x hx => absurd hx List.not_mem_nil, fun b hb => absurd hb (Nat.not_lt_zero _)⟩
theorem house10 {F : Nat} (hF : 20000 ≤ F) {s : List Sh} (hp : ∃ t, s = sB ++ t) {m : Mem} (hr : RF m) {T : Nat → Int} {N K g tpd : Nat} (hg : 901 ≤ g) (hK : TKE T N K) (hK1 : 1 ≤ K) (h5 : m.1 23 5 = q32 (tpd : Nat)) (hN : N ≤ tpd) (ht : tpd ≤ 900) (hT : ∀ k, k < N → m.1 26 k = q32 (T k)) : match RDA (kdF T N) (amF T N) g K 0 hNew with
  | .inl (k, j) => j < K ∧ 1 ≤ k ∧ k ≤ 4 ∧ ∃ m', n_X10_house F s m 23 (q32 (N : Nat)) = some (q32 (-30 - (k : Nat)), m') ∧ KH10 m m' ∧ m'.1 23 13 = q32 (k : Nat) ∧ m'.1 23 14 = q32 (tpos T N j : Nat) ∧ ∀ k, m'.1 24 k = m.1 24 k
  | .inr (j, h') => j < K ∧ HBT h' ∧ ∃ m' m3, n_X10_house F s m 23 (q32 (N : Nat)) = some (q32 (h'.1.2.2 : Nat), m') ∧ KH10 m m' ∧ m'.1 23 13 = q32 0 ∧ m'.1 23 14 = q32 (-1) ∧ H10 m3 h' ∧ ∀ k, k < 999 → m'.1 24 k = m3.1 27 k := by
  have l27 := ln27 hp
  have hTb := hK.1
  have ham : ∀ i, kdF T N i = 2 → 0 ≤ amF T N i ∧ amF T N i ≤ 999 := fun i hi => by
    have hi' : kdT T N (tpos T N i) = 2 := hi
    have : tpos T N i < N := by
      apply Classical.byContradiction
      intro hn
      rw [kdT_end (by omega)] at hi'
      omega
    exact amT_b hTb this hi'
  generalize hA : wI (wI (wI (wI (wI (wI m 23 0 (q32 0)) 23 8 (q32 (N : Nat))) 23 5 (q32 0)) 23 7 (q32 0)) 23 11 (q32 0)) 23 18 (q32 0) = mA
  have A2 : mA.2 = m.2 := by rw [← hA]; rfl
  have Ao : ∀ a k, a ≠ 23 → mA.1 a k = m.1 a k := fun a k h => by rw [← hA, wI_n (by omega), wI_n (by omega), wI_n (by omega), wI_n (by omega), wI_n (by omega), wI_n (by omega)]
  have A8 : mA.1 23 8 = q32 (N : Nat) := by rw [← hA]; simp (disch := omega) only [Option.bind_some, bindv, bindv0, bind2_s, bind3_s, ↓reduceIte, Bool.false_eq_true, rZM_0, rZM_1, rZP_0, rZP_1, ptZ_0, ptZ_1, c32i, c64i, ncI, Int.natCast_add, Int.natCast_mul, q32_neg, q64_neg, q32_add, q32_sub, q32_mul, q64_add, q64_sub, q64_mul, q32_64i, q64_32, q32_lt_t, q32_lt_f, q32_le_t, q32_le_f, q32_eq_t, q32_eq_f, q64_lt_t, q64_lt_f, q64_le_t, q64_le_f, q64_eq_t, q64_eq_f, rdI_i, rdL_i, rdR_i, rdN_i, stI_i, stL_i, stR_i, wI_s, wI_n, wL_s, wL_n, wI_2, wI_3, wL_1, wL_3, wR_1, wR_2, Int.toNat_natCast, tnO, tn_add, tn_sub, tn_mul, Nat.add_sub_cancel, Nat.add_zero, Nat.zero_add, lnO, win_t, win_f]
  have A5 : mA.1 23 5 = q32 0 := by rw [← hA]; simp (disch := omega) only [Option.bind_some, bindv, bindv0, bind2_s, bind3_s, ↓reduceIte, Bool.false_eq_true, rZM_0, rZM_1, rZP_0, rZP_1, ptZ_0, ptZ_1, c32i, c64i, ncI, Int.natCast_add, Int.natCast_mul, q32_neg, q64_neg, q32_add, q32_sub, q32_mul, q64_add, q64_sub, q64_mul, q32_64i, q64_32, q32_lt_t, q32_lt_f, q32_le_t, q32_le_f, q32_eq_t, q32_eq_f, q64_lt_t, q64_lt_f, q64_le_t, q64_le_f, q64_eq_t, q64_eq_f, rdI_i, rdL_i, rdR_i, rdN_i, stI_i, stL_i, stR_i, wI_s, wI_n, wL_s, wL_n, wI_2, wI_3, wL_1, wL_3, wR_1, wR_2, Int.toNat_natCast, tnO, tn_add, tn_sub, tn_mul, Nat.add_sub_cancel, Nat.add_zero, Nat.zero_add, lnO, win_t, win_f]
  have A7 : mA.1 23 7 = q32 0 := by rw [← hA]; simp (disch := omega) only [Option.bind_some, bindv, bindv0, bind2_s, bind3_s, ↓reduceIte, Bool.false_eq_true, rZM_0, rZM_1, rZP_0, rZP_1, ptZ_0, ptZ_1, c32i, c64i, ncI, Int.natCast_add, Int.natCast_mul, q32_neg, q64_neg, q32_add, q32_sub, q32_mul, q64_add, q64_sub, q64_mul, q32_64i, q64_32, q32_lt_t, q32_lt_f, q32_le_t, q32_le_f, q32_eq_t, q32_eq_f, q64_lt_t, q64_lt_f, q64_le_t, q64_le_f, q64_eq_t, q64_eq_f, rdI_i, rdL_i, rdR_i, rdN_i, stI_i, stL_i, stR_i, wI_s, wI_n, wL_s, wL_n, wI_2, wI_3, wL_1, wL_3, wR_1, wR_2, Int.toNat_natCast, tnO, tn_add, tn_sub, tn_mul, Nat.add_sub_cancel, Nat.add_zero, Nat.zero_add, lnO, win_t, win_f]
  have A11 : mA.1 23 11 = q32 0 := by rw [← hA]; simp (disch := omega) only [Option.bind_some, bindv, bindv0, bind2_s, bind3_s, ↓reduceIte, Bool.false_eq_true, rZM_0, rZM_1, rZP_0, rZP_1, ptZ_0, ptZ_1, c32i, c64i, ncI, Int.natCast_add, Int.natCast_mul, q32_neg, q64_neg, q32_add, q32_sub, q32_mul, q64_add, q64_sub, q64_mul, q32_64i, q64_32, q32_lt_t, q32_lt_f, q32_le_t, q32_le_f, q32_eq_t, q32_eq_f, q64_lt_t, q64_lt_f, q64_le_t, q64_le_f, q64_eq_t, q64_eq_f, rdI_i, rdL_i, rdR_i, rdN_i, stI_i, stL_i, stR_i, wI_s, wI_n, wL_s, wL_n, wI_2, wI_3, wL_1, wL_3, wR_1, wR_2, Int.toNat_natCast, tnO, tn_add, tn_sub, tn_mul, Nat.add_sub_cancel, Nat.add_zero, Nat.zero_add, lnO, win_t, win_f]
  have A18 : mA.1 23 18 = q32 0 := by rw [← hA]; simp (disch := omega) only [Option.bind_some, bindv, bindv0, bind2_s, bind3_s, ↓reduceIte, Bool.false_eq_true, rZM_0, rZM_1, rZP_0, rZP_1, ptZ_0, ptZ_1, c32i, c64i, ncI, Int.natCast_add, Int.natCast_mul, q32_neg, q64_neg, q32_add, q32_sub, q32_mul, q64_add, q64_sub, q64_mul, q32_64i, q64_32, q32_lt_t, q32_lt_f, q32_le_t, q32_le_f, q32_eq_t, q32_eq_f, q64_lt_t, q64_lt_f, q64_le_t, q64_le_f, q64_eq_t, q64_eq_f, rdI_i, rdL_i, rdR_i, rdN_i, stI_i, stL_i, stR_i, wI_s, wI_n, wL_s, wL_n, wI_2, wI_3, wL_1, wL_3, wR_1, wR_2, Int.toNat_natCast, tnO, tn_add, tn_sub, tn_mul, Nat.add_sub_cancel, Nat.add_zero, Nat.zero_add, lnO, win_t, win_f]
  have hrA : RF mA := hr.same (by rw [A2])
  obtain ⟨mB, p1, p2, p3, p4⟩ := plaL10 (F := F) (s := s) (a := 27) (by omega) 999 0 F (by omega) (by omega) mA
  have Bo : ∀ a k, a ≠ 27 → mB.1 a k = mA.1 a k := fun a k h => p3 a k (Or.inl h)
  have hrB : RF mB := hrA.same (by rw [p2])
  have tx : TXR s mB N T := ⟨rf23_3 hrB, by rw [Bo _ _ (by omega)]; exact A8, by omega, ln26 hp, fun k hk => by rw [Bo _ _ (by omega), Ao _ _ (by omega)]; exact ⟨hT k hk, hTb k hk⟩⟩
  obtain ⟨mC, c1, c2, c3⟩ := next10 hF tx (e := 0) (by rw [Bo _ _ (by omega)]; exact A7) (by omega)
  have hrC : RF mC := hrB.same (by rw [c2.2])
  have cnC : CN10 s mC T N K 0 := ⟨tx.x c2, c2.n11 (by rw [Bo _ _ (by omega)]; exact A11), c3, hK1⟩
  have Z : ∀ k, k < 999 → mC.1 27 k = if k = 1 then q32 4 else if k = 8 then q32 1 else q32 0 := fun k hk => by
    rw [c2.1 _ _ (by omega), p4 k hk]
    by_cases e1 : k = 1
    · rw [if_pos e1, if_pos e1]
    rw [if_neg e1, if_neg e1]
    by_cases e8 : k = 8
    · rw [if_pos e8, if_pos e8]
    rw [if_neg e8, if_neg e8, if_pos (by omega)]
  have hhC : H10 mC hNew := by
    refine ⟨⟨?_, ?_, ?_, ?_, ?_, ?_, ?_, ?_, ?_⟩, fun k hk => absurd hk (Nat.not_lt_zero _), fun k hk => absurd hk (Nat.not_lt_zero _), fun k hk => absurd hk (Nat.not_lt_zero _), ⟨?_, fun k hk => absurd hk (Nat.not_lt_zero _)⟩, ?_, ?_⟩
    · rw [Z 0 (by omega)]; rfl
    · rw [Z 1 (by omega)]; rfl
    · rw [Z 2 (by omega)]; rfl
    · rw [Z 3 (by omega)]; rfl
    · rw [Z 4 (by omega)]; rfl
    · rw [Z 5 (by omega)]; rfl
    · rw [Z 6 (by omega)]; rfl
    · rw [Z 7 (by omega)]; rfl
    · rw [Z 8 (by omega)]; rfl
    · rw [Z 98 (by omega)]; rfl
    · rw [c2.1 _ _ (by omega), Bo _ _ (by omega), A18, if_neg (fun h => h.elim (fun h => nomatch h) (fun h => h.elim (fun h => absurd h (Nat.lt_irrefl 0)) (fun h => absurd h (Nat.lt_irrefl 0))))]
    · rw [Z 73 (by omega)]; rfl
  have al := all10 hF hp (g := g) (by have := hK.2.1; omega) hK ham K 0 F hNew (by omega) (by have := hK.2.1; omega) (by omega) (by decide) hNew_p hNew_t (by decide) mC hrC cnC hhC
  have pre : n_X10_house F s m 23 (q32 (N : Nat)) = nl_X10_house_58 F s F mC 23 := by
    unfold n_X10_house nb_X10_house_0
    have w5 : (wI m 23 0 (0 : Int32)).1 23 5 = q32 (tpd : Nat) := by rw [wI_n (by omega)]; exact h5
    have p1' : n_X10_plain F s mA 27 = some ((), mB) := p1
    rw [bindv, bindv0, w5, q32_64 (by unfold B31; omega), q32_64 (by unfold B31; omega), show (0 : Int64) = q64 0 from rfl, win (by unfold B63; omega) (by unfold B63; omega) (by unfold B63; omega), Option.bind_some, if_pos (show (0 : Int) ≤ ((N : Nat) : Int) ∧ ((N : Nat) : Int) ≤ ((tpd : Nat) : Int) by omega), if_neg (show ¬ (1 : Int32) = 0 by decide), bindv, bindv0, bindv, bindv0, bindv, bindv0, bindv, bindv0]
    show ((ptZ (wI (wI (wI (wI (wI m 23 0 (q32 0)) 23 8 (q32 (N : Nat))) 23 5 (q32 0)) 23 7 (q32 0)) 23 11 (q32 0)) 23 18 (q32 0)).bind _) = _
    rw [show ptZ (wI (wI (wI (wI (wI m 23 0 (q32 0)) 23 8 (q32 (N : Nat))) 23 5 (q32 0)) 23 7 (q32 0)) 23 11 (q32 0)) 23 18 (q32 0) = some mA from by rw [← hA]; rfl, Option.bind_some, rf23_4 hrA, Option.bind_some, p1', bind2_s, c1, bind2_s]
  have kh : ∀ m1 m2 : Mem, KL10 mC m1 → m2.2 = m1.2 → (∀ a k, a ≠ 23 → (a ≠ 24 ∨ 999 ≤ k) → m2.1 a k = m1.1 a k) → m2.1 23 5 = m1.1 23 5 → KH10 m m2 := fun m1 m2 e1 e2 e3 e4 => by
    refine ⟨fun a k q1 q2 q3 => ?_, fun a k q1 => ?_, ?_, ?_⟩
    · rw [e3 a k q1 q2, e1.1 a k (Or.inl q1) q3, c2.1 a k (Or.inl q1), Bo a k q3, Ao a k q1]
    · rw [e2, e1.2.1 a k (Or.inl q1), c2.2, p2, A2]
    · rw [e2, e1.2.2, c2.2, p2, A2]
    · rw [e4, e1.1 _ _ (by omega) (by omega), c2.1 _ _ (by omega), Bo _ _ (by omega), A5]
  cases hR : RDA (kdF T N) (amF T N) g K 0 hNew with
  | inl p =>
    obtain ⟨k, j⟩ := p
    rw [hR] at al
    obtain ⟨w0, m1, w1, w2, w3⟩ := al
    have k1 := w3.2.1
    have k4 := w3.2.2.1
    have w11 := w3.1
    have w12 := w3.2.2.2
    have nz : ¬ q32 (k : Int) = (0 : Int32) := by rw [show (0 : Int32) = q32 0 from rfl, q32_eq_f (by omega)]; exact fun h => h
    refine ⟨w0, k1, k4, wI (wI m1 23 13 (q32 (k : Nat))) 23 14 (q32 (tpos T N j : Nat)), ?_, kh m1 _ w2 rfl (fun a k' q1 q2 => by rw [wI_n (by omega), wI_n (by omega)]) (by rw [wI_n (by omega), wI_n (by omega)]), by rw [wI_n (by omega), wI_s], wI_s .., fun k' => ?_⟩
    · rw [pre, w1]
      unfold nb_X10_house_105
      rw [bindv, bindv0, w11, wI_n (by omega), w11, if_neg nz, wI_n (by omega), w12]
      unfold nb_X10_house_129
      rw [bindv, bindv0, wI_n (by omega), wI_n (by omega), w11, if_neg nz]
      simp only [c32i, q32_neg, q32_sub]
    · rw [wI_n (by omega), wI_n (by omega), w2.1 _ _ (by omega) (by omega), c2.1 _ _ (by omega), Bo _ _ (by omega), Ao _ _ (by omega)]
  | inr p =>
    obtain ⟨j, h'⟩ := p
    rw [hR] at al
    obtain ⟨w0, wt, m1, w1, w2, w3, w4⟩ := al
    have hr1 : RF m1 := hrC.same (by rw [w2.2.2])
    obtain ⟨m2, e1, e2, e3, e4⟩ := copL10 (F := F) hp 999 0 F (by omega) (by omega) (wI (wI m1 23 13 (q32 0)) 23 14 (q32 (-1))) (hr1.same rfl)
    have v4 : ∀ k, k < 999 → m2.1 24 k = m1.1 27 k := fun k hk => by rw [e4 k hk, if_pos (by omega), wI_n (by omega), wI_n (by omega)]
    refine ⟨w0, wt, m2, m1, ?_, kh m1 m2 w2 (by rw [e2]; rfl) (fun a k' q1 q2 => by rw [e3 a k' q2, wI_n (by omega), wI_n (by omega)]) (by rw [e3 _ _ (by omega), wI_n (by omega), wI_n (by omega)]), by rw [e3 _ _ (by omega), wI_n (by omega), wI_s], by rw [e3 _ _ (by omega), wI_s], w4, v4⟩
    rw [pre, w1]
    unfold nb_X10_house_105
    rw [bindv, bindv0, w3, wI_n (by omega), w3, if_pos (show q32 0 = (0 : Int32) from rfl)]
    unfold nb_X10_house_129
    have e1' : nl_X10_house_149 F s F (wI (wI m1 23 13 (q32 0)) 23 14 (-1 : Int32)) 23 (0 : Int32) = some (m2.1 24 0, m2) := by
      rw [show (-1 : Int32) = q32 (-1) by simp only [c32i, q32_neg]]
      exact e1
    rw [bindv, bindv0, wI_n (by omega), wI_n (by omega), w3, if_pos (show q32 0 = (0 : Int32) from rfl), e1', v4 0 (by omega), w4.1.1]
