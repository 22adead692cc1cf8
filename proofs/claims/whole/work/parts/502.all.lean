def hNew : HSS := ((4, 0, 0), (0, 1), false, (0, fun _ => 0, fun _ => 0, fun _ _ => 0, fun _ => 0), (0, fun _ => 0, fun _ => 0), (0, fun _ => 0, []))
theorem hNew_p : HPP hNew := ⟨⟨by decide, by decide⟩, by decide, ⟨by decide, by decide, by decide, by decide, by decide, by decide⟩, ⟨by decide, by decide, by decide, fun k hk => absurd hk (Nat.not_lt_zero _), ⟨fun k hk => absurd hk (Nat.not_lt_zero _), fun k hk => absurd hk (Nat.not_lt_zero _), fun i j h1 h2 => absurd h2 (Nat.not_lt_zero _)⟩⟩, ⟨by decide, fun k hk => absurd hk (Nat.not_lt_zero _)⟩, by decide, fun _ => rfl⟩
/-- what a whole text's reading leaves -/
def KRD (r z : Nat) (m m' : Mem) : Prop := (∀ a k, a ≠ r → ¬ (r + 11 ≤ a ∧ a ≤ r + 15) → ¬ (z ≤ a ∧ a < z + 10) → m'.1 a k = m.1 a k) ∧ (∀ a k, a ≠ r + 16 → m'.2.1 a k = m.2.1 a k) ∧ ∀ a k, (a ≠ r + 11 ∨ k ≠ 4) → m'.2.2 a k = m.2.2 a k
theorem read9 {F : Nat} (hF : 20000 ≤ F) {s : List Sh} {m : Mem} {r z N g : Nat} {T : Nat → Int} (hg : 901 ≤ g) (hk : RTK s m r) (hrf : m.2.2 r 0 = some z ∧ m.2.2 r 3 = some (r + 11) ∧ m.2.2 r 11 = some (r + 15) ∧ m.2.2 r 13 = some (r + 16)) (l15 : ln s (r + 15) = 64) (hb : HB s m z) (sep : ∀ i, i < 10 → z + i ≠ r ∧ ∀ j, 11 ≤ j → j < 17 → z + i ≠ r + j) (l1 : ln s 1 = 900) (hN : N ≤ 900) (hT : ∀ k, k < N → m.1 1 k = q32 (T k) ∧ 0 ≤ T k ∧ T k < 256) : ∃ K m', 1 ≤ K ∧ TKE T N K ∧ (∀ j, j < K → tpos T N j ≤ N) ∧ n_X3_readAll F s m r 1 (q32 (N : Nat)) = some ((), m') ∧ KRD r z m m' ∧ match RDA (kdF T N) (amF T N) g K 0 hNew with
  | .inl (k, j) => j < K ∧ FLT m' r k (tpos T N j)
  | .inr (j, h') => j < K ∧ h'.1.2.2 ≤ j ∧ (hCd h').length ≤ j ∧ HPP h' ∧ m'.1 r 1 = q32 0 ∧ m'.1 r 2 = q32 (-1) ∧ HCL s m' r z h' := by
  have r53 := hk.1
  have hz := hb.1
  have zr : z ≠ r := (sep 0 (by omega)).1
  have z11 : z ≠ r + 11 := (sep 0 (by omega)).2 11 (by omega) (by omega)
  have z12 : z ≠ r + 12 := (sep 0 (by omega)).2 12 (by omega) (by omega)
  have z13 : z ≠ r + 13 := (sep 0 (by omega)).2 13 (by omega) (by omega)
  have z14 : z ≠ r + 14 := (sep 0 (by omega)).2 14 (by omega) (by omega)
  -- the reader and the house begin anew
  generalize hA : wI (wI (wI (wI m r 1 (q32 0)) r 2 (q32 (-1))) r 9 (q32 0)) r 10 (q32 0) = mA
  generalize hU : wI (wI (wI (wI (wI (wI (wI (wI (wI mA z 0 (q32 4)) z 1 (q32 0)) z 2 (q32 0)) z 3 (q32 0)) z 4 (q32 0)) z 5 (q32 1)) z 6 (q32 0)) z 9 (q32 0)) z 15 (q32 0) = mU
  have un : n_X0_untell s mA z = some ((), mU) := by
    rw [← hU]
    rfl
  have rA : mA.2 = m.2 := by rw [← hA]; rfl
  have rU : mU.2 = m.2 := by rw [← hU]; exact rA
  have iU : ∀ a k, a ≠ r → a ≠ z → mU.1 a k = m.1 a k := fun a k h1 h2 => by
    rw [← hU, wI_n (by omega), wI_n (by omega), wI_n (by omega), wI_n (by omega), wI_n (by omega), wI_n (by omega), wI_n (by omega), wI_n (by omega), wI_n (by omega), ← hA, wI_n (by omega), wI_n (by omega), wI_n (by omega), wI_n (by omega)]
  have iR : ∀ k, mU.1 r k = mA.1 r k := fun k => by
    rw [← hU, wI_n (by omega), wI_n (by omega), wI_n (by omega), wI_n (by omega), wI_n (by omega), wI_n (by omega), wI_n (by omega), wI_n (by omega), wI_n (by omega)]
  have hkU : RTK s mU r := by unfold RTK at hk ⊢; rw [rU]; exact hk
  obtain ⟨K, m1, a1, a2, a3, a4, a5, a6, a7, a8, a9⟩ := scan9 hF (r := r) (N := N) (T := T) hkU l1 hN (fun k hk' => by rw [iU 1 k (by omega) (by omega)]; exact hT k hk')
  have hTb : ∀ k, k < N → 0 ≤ T k ∧ T k < 256 := fun k hk' => (hT k hk').2
  have tle : ∀ j, j < K → tpos T N j ≤ N := fun j hj => by
    cases j with
    | zero => exact (skp_b (T := T) (N := N) (p := 0) (by omega)).2
    | succ j =>
      have := a6 j hj
      exact (skp_b (T := T) (endT_b (T := T) this.2.2).2).2
  have ref1 : ∀ a k, (a ≠ r + 11 ∨ k ≠ 4) → m1.2.2 a k = m.2.2 a k := fun a k h => by rw [a7 a k h, rU]
  have hx1 : RCX s m1 r z K T N := by
    refine ⟨?_, ?_, l15, ?_, sep, a2, a3, by omega, hN, a5, fun j hj => a6 j hj, tle⟩
    · obtain ⟨b1, ⟨b2, b3, b4⟩, b5⟩ := hk
      exact ⟨b1, ⟨by rw [ref1 _ _ (by omega)]; exact b2, by rw [ref1 _ _ (by omega)]; exact b3, by rw [ref1 _ _ (by omega)]; exact b4⟩, b5⟩
    · rw [ref1 _ _ (by omega), ref1 _ _ (by omega), ref1 _ _ (by omega), ref1 _ _ (by omega)]; exact hrf
    · exact hb.at (funext fun k => ref1 z k (Or.inl z11))
  obtain ⟨m2, b1, b2, b3, b4, b5, b6⟩ := look9 hx1 (i := 0) (by omega)
  have hx2 := hx1.k b2
  -- a house that nothing was told of
  have zz : ∀ k, m2.1 z k = mU.1 z k := fun k => by rw [b5 z k zr, a9 z k (Or.inl z11) z12 z13 z14]
  have rr : ∀ k, k = 1 ∨ k = 2 ∨ k = 9 ∨ k = 10 → m2.1 r k = mA.1 r k := fun k hk' => by rw [b4 k (by omega), a9 r k (by omega) (by omega) (by omega) (by omega), iR]
  have hh : HCL s m2 r z hNew := by
    obtain ⟨-, -, ⟨-, -, q10, q11, q12, q13, q14, q16, q17⟩, -, -, l3, l4, l5, l6, l7, l8, l9⟩ := hx2.2.2.2.1
    refine ⟨⟨?_, ?_, ?_, ?_⟩, ⟨?_, ?_⟩, ?_, ⟨?_, ⟨q10, q11, q12, q14⟩, ⟨l3, l4, l5, l7⟩, fun k hk' => absurd hk' (Nat.not_lt_zero _), fun k hk' => absurd hk' (Nat.not_lt_zero _)⟩, ⟨?_, ⟨q16, q17⟩, ⟨l8, l9⟩, fun k hk' => absurd hk' (Nat.not_lt_zero _)⟩, ?_, fun b _ h0 => absurd h0 (Nat.not_lt_zero _), ?_, fun k hk' => absurd hk' (Nat.not_lt_zero _)⟩
    · rw [zz, ← hU]; simp (disch := omega) only [Option.bind_some, bindv, bindv0, bind2_s, bind3_s, ↓reduceIte, Bool.false_eq_true, rZM_0, rZM_1, rZP_0, rZP_1, ptZ_0, ptZ_1, c32i, c64i, ncI, Int.natCast_add, Int.natCast_mul, q32_neg, q64_neg, q32_add, q32_sub, q32_mul, q64_add, q64_sub, q64_mul, q32_64i, q64_32, q32_lt_t, q32_lt_f, q32_le_t, q32_le_f, q32_eq_t, q32_eq_f, q64_lt_t, q64_lt_f, q64_le_t, q64_le_f, q64_eq_t, q64_eq_f, rdI_i, rdL_i, rdR_i, rdN_i, stI_i, stL_i, stR_i, wI_s, wI_n, wL_s, wL_n, wI_2, wI_3, wL_1, wL_3, wR_1, wR_2, Int.toNat_natCast, tnO, tn_add, tn_sub, tn_mul, Nat.add_sub_cancel, Nat.add_zero, Nat.zero_add, lnO, win_t, win_f]; rfl
    · rw [zz, ← hU]; simp (disch := omega) only [Option.bind_some, bindv, bindv0, bind2_s, bind3_s, ↓reduceIte, Bool.false_eq_true, rZM_0, rZM_1, rZP_0, rZP_1, ptZ_0, ptZ_1, c32i, c64i, ncI, Int.natCast_add, Int.natCast_mul, q32_neg, q64_neg, q32_add, q32_sub, q32_mul, q64_add, q64_sub, q64_mul, q32_64i, q64_32, q32_lt_t, q32_lt_f, q32_le_t, q32_le_f, q32_eq_t, q32_eq_f, q64_lt_t, q64_lt_f, q64_le_t, q64_le_f, q64_eq_t, q64_eq_f, rdI_i, rdL_i, rdR_i, rdN_i, stI_i, stL_i, stR_i, wI_s, wI_n, wL_s, wL_n, wI_2, wI_3, wL_1, wL_3, wR_1, wR_2, Int.toNat_natCast, tnO, tn_add, tn_sub, tn_mul, Nat.add_sub_cancel, Nat.add_zero, Nat.zero_add, lnO, win_t, win_f]; rfl
    · rw [zz, ← hU]; simp (disch := omega) only [Option.bind_some, bindv, bindv0, bind2_s, bind3_s, ↓reduceIte, Bool.false_eq_true, rZM_0, rZM_1, rZP_0, rZP_1, ptZ_0, ptZ_1, c32i, c64i, ncI, Int.natCast_add, Int.natCast_mul, q32_neg, q64_neg, q32_add, q32_sub, q32_mul, q64_add, q64_sub, q64_mul, q32_64i, q64_32, q32_lt_t, q32_lt_f, q32_le_t, q32_le_f, q32_eq_t, q32_eq_f, q64_lt_t, q64_lt_f, q64_le_t, q64_le_f, q64_eq_t, q64_eq_f, rdI_i, rdL_i, rdR_i, rdN_i, stI_i, stL_i, stR_i, wI_s, wI_n, wL_s, wL_n, wI_2, wI_3, wL_1, wL_3, wR_1, wR_2, Int.toNat_natCast, tnO, tn_add, tn_sub, tn_mul, Nat.add_sub_cancel, Nat.add_zero, Nat.zero_add, lnO, win_t, win_f]; rfl
    · rw [zz, ← hU]; simp (disch := omega) only [Option.bind_some, bindv, bindv0, bind2_s, bind3_s, ↓reduceIte, Bool.false_eq_true, rZM_0, rZM_1, rZP_0, rZP_1, ptZ_0, ptZ_1, c32i, c64i, ncI, Int.natCast_add, Int.natCast_mul, q32_neg, q64_neg, q32_add, q32_sub, q32_mul, q64_add, q64_sub, q64_mul, q32_64i, q64_32, q32_lt_t, q32_lt_f, q32_le_t, q32_le_f, q32_eq_t, q32_eq_f, q64_lt_t, q64_lt_f, q64_le_t, q64_le_f, q64_eq_t, q64_eq_f, rdI_i, rdL_i, rdR_i, rdN_i, stI_i, stL_i, stR_i, wI_s, wI_n, wL_s, wL_n, wI_2, wI_3, wL_1, wL_3, wR_1, wR_2, Int.toNat_natCast, tnO, tn_add, tn_sub, tn_mul, Nat.add_sub_cancel, Nat.add_zero, Nat.zero_add, lnO, win_t, win_f]
    · rw [zz, ← hU]; simp (disch := omega) only [Option.bind_some, bindv, bindv0, bind2_s, bind3_s, ↓reduceIte, Bool.false_eq_true, rZM_0, rZM_1, rZP_0, rZP_1, ptZ_0, ptZ_1, c32i, c64i, ncI, Int.natCast_add, Int.natCast_mul, q32_neg, q64_neg, q32_add, q32_sub, q32_mul, q64_add, q64_sub, q64_mul, q32_64i, q64_32, q32_lt_t, q32_lt_f, q32_le_t, q32_le_f, q32_eq_t, q32_eq_f, q64_lt_t, q64_lt_f, q64_le_t, q64_le_f, q64_eq_t, q64_eq_f, rdI_i, rdL_i, rdR_i, rdN_i, stI_i, stL_i, stR_i, wI_s, wI_n, wL_s, wL_n, wI_2, wI_3, wL_1, wL_3, wR_1, wR_2, Int.toNat_natCast, tnO, tn_add, tn_sub, tn_mul, Nat.add_sub_cancel, Nat.add_zero, Nat.zero_add, lnO, win_t, win_f]; rfl
    · rw [zz, ← hU]; simp (disch := omega) only [Option.bind_some, bindv, bindv0, bind2_s, bind3_s, ↓reduceIte, Bool.false_eq_true, rZM_0, rZM_1, rZP_0, rZP_1, ptZ_0, ptZ_1, c32i, c64i, ncI, Int.natCast_add, Int.natCast_mul, q32_neg, q64_neg, q32_add, q32_sub, q32_mul, q64_add, q64_sub, q64_mul, q32_64i, q64_32, q32_lt_t, q32_lt_f, q32_le_t, q32_le_f, q32_eq_t, q32_eq_f, q64_lt_t, q64_lt_f, q64_le_t, q64_le_f, q64_eq_t, q64_eq_f, rdI_i, rdL_i, rdR_i, rdN_i, stI_i, stL_i, stR_i, wI_s, wI_n, wL_s, wL_n, wI_2, wI_3, wL_1, wL_3, wR_1, wR_2, Int.toNat_natCast, tnO, tn_add, tn_sub, tn_mul, Nat.add_sub_cancel, Nat.add_zero, Nat.zero_add, lnO, win_t, win_f]; rfl
    · rw [rr 9 (by omega), ← hA]; simp (disch := omega) only [Option.bind_some, bindv, bindv0, bind2_s, bind3_s, ↓reduceIte, Bool.false_eq_true, rZM_0, rZM_1, rZP_0, rZP_1, ptZ_0, ptZ_1, c32i, c64i, ncI, Int.natCast_add, Int.natCast_mul, q32_neg, q64_neg, q32_add, q32_sub, q32_mul, q64_add, q64_sub, q64_mul, q32_64i, q64_32, q32_lt_t, q32_lt_f, q32_le_t, q32_le_f, q32_eq_t, q32_eq_f, q64_lt_t, q64_lt_f, q64_le_t, q64_le_f, q64_eq_t, q64_eq_f, rdI_i, rdL_i, rdR_i, rdN_i, stI_i, stL_i, stR_i, wI_s, wI_n, wL_s, wL_n, wI_2, wI_3, wL_1, wL_3, wR_1, wR_2, Int.toNat_natCast, tnO, tn_add, tn_sub, tn_mul, Nat.add_sub_cancel, Nat.add_zero, Nat.zero_add, lnO, win_t, win_f]; rfl
    · rw [zz, ← hU]; simp (disch := omega) only [Option.bind_some, bindv, bindv0, bind2_s, bind3_s, ↓reduceIte, Bool.false_eq_true, rZM_0, rZM_1, rZP_0, rZP_1, ptZ_0, ptZ_1, c32i, c64i, ncI, Int.natCast_add, Int.natCast_mul, q32_neg, q64_neg, q32_add, q32_sub, q32_mul, q64_add, q64_sub, q64_mul, q32_64i, q64_32, q32_lt_t, q32_lt_f, q32_le_t, q32_le_f, q32_eq_t, q32_eq_f, q64_lt_t, q64_lt_f, q64_le_t, q64_le_f, q64_eq_t, q64_eq_f, rdI_i, rdL_i, rdR_i, rdN_i, stI_i, stL_i, stR_i, wI_s, wI_n, wL_s, wL_n, wI_2, wI_3, wL_1, wL_3, wR_1, wR_2, Int.toNat_natCast, tnO, tn_add, tn_sub, tn_mul, Nat.add_sub_cancel, Nat.add_zero, Nat.zero_add, lnO, win_t, win_f]; rfl
    · rw [zz, ← hU]; simp (disch := omega) only [Option.bind_some, bindv, bindv0, bind2_s, bind3_s, ↓reduceIte, Bool.false_eq_true, rZM_0, rZM_1, rZP_0, rZP_1, ptZ_0, ptZ_1, c32i, c64i, ncI, Int.natCast_add, Int.natCast_mul, q32_neg, q64_neg, q32_add, q32_sub, q32_mul, q64_add, q64_sub, q64_mul, q32_64i, q64_32, q32_lt_t, q32_lt_f, q32_le_t, q32_le_f, q32_eq_t, q32_eq_f, q64_lt_t, q64_lt_f, q64_le_t, q64_le_f, q64_eq_t, q64_eq_f, rdI_i, rdL_i, rdR_i, rdN_i, stI_i, stL_i, stR_i, wI_s, wI_n, wL_s, wL_n, wI_2, wI_3, wL_1, wL_3, wR_1, wR_2, Int.toNat_natCast, tnO, tn_add, tn_sub, tn_mul, Nat.add_sub_cancel, Nat.add_zero, Nat.zero_add, lnO, win_t, win_f]; rfl
    · rw [zz, ← hU]; simp (disch := omega) only [Option.bind_some, bindv, bindv0, bind2_s, bind3_s, ↓reduceIte, Bool.false_eq_true, rZM_0, rZM_1, rZP_0, rZP_1, ptZ_0, ptZ_1, c32i, c64i, ncI, Int.natCast_add, Int.natCast_mul, q32_neg, q64_neg, q32_add, q32_sub, q32_mul, q64_add, q64_sub, q64_mul, q32_64i, q64_32, q32_lt_t, q32_lt_f, q32_le_t, q32_le_f, q32_eq_t, q32_eq_f, q64_lt_t, q64_lt_f, q64_le_t, q64_le_f, q64_eq_t, q64_eq_f, rdI_i, rdL_i, rdR_i, rdN_i, stI_i, stL_i, stR_i, wI_s, wI_n, wL_s, wL_n, wI_2, wI_3, wL_1, wL_3, wR_1, wR_2, Int.toNat_natCast, tnO, tn_add, tn_sub, tn_mul, Nat.add_sub_cancel, Nat.add_zero, Nat.zero_add, lnO, win_t, win_f]; rfl
    · rw [rr 10 (by omega), ← hA]; simp (disch := omega) only [Option.bind_some, bindv, bindv0, bind2_s, bind3_s, ↓reduceIte, Bool.false_eq_true, rZM_0, rZM_1, rZP_0, rZP_1, ptZ_0, ptZ_1, c32i, c64i, ncI, Int.natCast_add, Int.natCast_mul, q32_neg, q64_neg, q32_add, q32_sub, q32_mul, q64_add, q64_sub, q64_mul, q32_64i, q64_32, q32_lt_t, q32_lt_f, q32_le_t, q32_le_f, q32_eq_t, q32_eq_f, q64_lt_t, q64_lt_f, q64_le_t, q64_le_f, q64_eq_t, q64_eq_f, rdI_i, rdL_i, rdR_i, rdN_i, stI_i, stL_i, stR_i, wI_s, wI_n, wL_s, wL_n, wI_2, wI_3, wL_1, wL_3, wR_1, wR_2, Int.toNat_natCast, tnO, tn_add, tn_sub, tn_mul, Nat.add_sub_cancel, Nat.add_zero, Nat.zero_add, lnO, win_t, win_f]; rfl
  have al := all9 hF (g := g) (by omega) hTb K 0 F 0 hNew (by omega) (by omega) (by omega) (by omega) (by decide) hNew_p (by decide) m2 hx2 b3 hh
  have pre : ∀ m3, nl_X3_readAll_43 F s F m2 r (q32 ((0 : Nat) : Int)) = some ((), m3) → n_X3_readAll F s m r 1 (q32 (N : Nat)) = some ((), m3) := fun m3 h3 => by
    have hA' : mA.2.2 r 0 = some z := by rw [rA]; exact hrf.1
    have hU' : mU.2.2 r 3 = some (r + 11) := by rw [rU]; exact hrf.2.1
    have b1' : n_X3_lookAt s m1 r (0 : Int32) = some ((), m2) := b1
    have h3' : nl_X3_readAll_43 F s F m2 r (0 : Int32) = some ((), m3) := h3
    have en : (-1 : Int32) = q32 (-1) := by simp only [c32i, q32_neg]
    unfold n_X3_readAll nb_X3_readAll_0
    rw [bindv, bindv0, bindv, bindv0, en, show (0 : Int32) = q32 0 from rfl, show ptZ (wI (wI m r 1 (q32 0)) r 2 (q32 (-1))) r 9 (q32 0) = some (wI (wI (wI m r 1 (q32 0)) r 2 (q32 (-1))) r 9 (q32 0)) from rfl, Option.bind_some, bindv, bindv0, hA, hA', Option.bind_some, un, bind2_s, hU', Option.bind_some, a1, bind2_s, show q32 0 = (0 : Int32) from rfl, b1', bind2_s]
    exact h3'
  have krd : ∀ m3, KPR r z m2 m3 → KRD r z m m3 := fun m3 e => ⟨fun a k p1 p2 p3 => by rw [e.1 a k p1 (by omega) p3, b5 a k p1, a9 a k (by omega) (by omega) (by omega) (by omega), iU a k p1 (by omega)], fun a k p1 => by rw [e.2.1 a k p1, b6, a8, rU], fun a k p1 => by rw [e.2.2, b6]; exact ref1 a k p1⟩
  have tke : TKE T N K := ⟨hTb, by omega, a5, fun j hj => (a6 j hj).2.2⟩
  cases hR : RDA (kdF T N) (amF T N) g K 0 hNew with
  | inl p =>
    obtain ⟨k, j⟩ := p
    rw [hR] at al
    obtain ⟨w0, m3, w1, w2, w3⟩ := al
    refine ⟨K, m3, a3, tke, tle, pre m3 w1, krd m3 w2, ?_⟩
    rw [hR]
    exact ⟨w0, w3⟩
  | inr p =>
    obtain ⟨j, h'⟩ := p
    rw [hR] at al
    obtain ⟨w0, wl, wc, wp, m3, w1, w2, w3, w4, w5⟩ := al
    refine ⟨K, m3, a3, tke, tle, pre m3 w1, krd m3 w2, ?_⟩
    rw [hR]
    refine ⟨w0, wl, wc, wp, ?_, ?_, w3⟩
    · rw [w4, rr 1 (by omega), ← hA]; simp (disch := omega) only [Option.bind_some, bindv, bindv0, bind2_s, bind3_s, ↓reduceIte, Bool.false_eq_true, rZM_0, rZM_1, rZP_0, rZP_1, ptZ_0, ptZ_1, c32i, c64i, ncI, Int.natCast_add, Int.natCast_mul, q32_neg, q64_neg, q32_add, q32_sub, q32_mul, q64_add, q64_sub, q64_mul, q32_64i, q64_32, q32_lt_t, q32_lt_f, q32_le_t, q32_le_f, q32_eq_t, q32_eq_f, q64_lt_t, q64_lt_f, q64_le_t, q64_le_f, q64_eq_t, q64_eq_f, rdI_i, rdL_i, rdR_i, rdN_i, stI_i, stL_i, stR_i, wI_s, wI_n, wL_s, wL_n, wI_2, wI_3, wL_1, wL_3, wR_1, wR_2, Int.toNat_natCast, tnO, tn_add, tn_sub, tn_mul, Nat.add_sub_cancel, Nat.add_zero, Nat.zero_add, lnO, win_t, win_f]
    · rw [w5, rr 2 (by omega), ← hA]; simp (disch := omega) only [Option.bind_some, bindv, bindv0, bind2_s, bind3_s, ↓reduceIte, Bool.false_eq_true, rZM_0, rZM_1, rZP_0, rZP_1, ptZ_0, ptZ_1, c32i, c64i, ncI, Int.natCast_add, Int.natCast_mul, q32_neg, q64_neg, q32_add, q32_sub, q32_mul, q64_add, q64_sub, q64_mul, q32_64i, q64_32, q32_lt_t, q32_lt_f, q32_le_t, q32_le_f, q32_eq_t, q32_eq_f, q64_lt_t, q64_lt_f, q64_le_t, q64_le_f, q64_eq_t, q64_eq_f, rdI_i, rdL_i, rdR_i, rdN_i, stI_i, stL_i, stR_i, wI_s, wI_n, wL_s, wL_n, wI_2, wI_3, wL_1, wL_3, wR_1, wR_2, Int.toNat_natCast, tnO, tn_add, tn_sub, tn_mul, Nat.add_sub_cancel, Nat.add_zero, Nat.zero_add, lnO, win_t, win_f]
