def MG (m : Mem) (L : List FR) (C D : Nat → Int) : Prop := m.1 23 29 = q32 L.length ∧ (∀ i, i < L.length → m.1 31 i = q32 (gt L i).1 ∧ m.1 32 i = q32 (gt L i).2 ∧ m.1 33 i = q32 (C i) ∧ m.1 34 i = q32 (D i)) ∧ TAB (m.1 35) L
theorem MG.k {m m' : Mem} {L : List FR} {C D : Nat → Int} (h : MG m L C D) (e : ∀ a k, (a = 23 ∧ k = 29) ∨ (31 ≤ a ∧ a ≤ 35) → m'.1 a k = m.1 a k) : MG m' L C D := by
  obtain ⟨h1, h2, h3⟩ := h
  refine ⟨by rw [e _ _ (by omega)]; exact h1, fun i hi => ?_, ?_⟩
  · rw [e _ _ (by omega), e _ _ (by omega), e _ _ (by omega), e _ _ (by omega)]
    exact h2 i hi
  · rw [show m'.1 35 = m.1 35 from funext fun k => e 35 k (by omega)]; exact h3
theorem metL {F : Nat} {s : List Sh} {m : Mem} (hp : ∃ t, s = sB ++ t) (hr : RF m) {tp : Int} {L : List FR} {C D : Nat → Int} (hM : MG m L C D) (hn : L.length < 8192) (hf : FLS tp L) {x : FR} (hx : FLR tp x.1 x.2) {e : Nat} (he : m.1 35 (pr x e) = q32 (-1)) (hm : ∀ k, k < e → m.1 35 (pr x k) ≠ q32 (-1)) : ∀ k d fuel, d + k = e → k < fuel → ∃ r : Int, nl_X10_metAt_7 F s m fuel 23 (q64 x.1) (q64 x.2) (q32 (pr x d)) = some (q32 r) ∧ ((r = -1 ∧ ∀ k, d ≤ k → k < e → ∀ j, j < L.length → m.1 35 (pr x k) = q32 (j : Nat) → gt L j ≠ x) ∨ ∃ j : Nat, r = j ∧ j < L.length ∧ gt L j = x) := by
  have r24 := rf23_24 hr
  have r25 := rf23_25 hr
  have r28 := rf23_28 hr
  have l31 := ln31 hp
  have l32 := ln32 hp
  have l35 := ln35 hp
  have xb := hx.b
  obtain ⟨h1, h2, t1, t2, t3⟩ := hM
  intro k
  induction k with
  | zero =>
    intro d fuel hd hfu
    obtain ⟨fuel, rfl⟩ : ∃ f, fuel = f + 1 := ⟨fuel - 1, by omega⟩
    have hd' : d = e := by omega
    subst hd'
    have pl := pr_lt x d
    refine ⟨-1, ?_, Or.inl ⟨rfl, fun k _ _ => by omega⟩⟩
    show nb_X10_metAt_7 F s (nl_X10_metAt_7 F s m fuel) m 23 _ _ _ = _
    unfold nb_X10_metAt_7
    simp (disch := omega) only [Option.bind_some, bindv, bindv0, bind2_s, bind3_s, ↓reduceIte, Bool.false_eq_true, rZM_0, rZM_1, rZP_0, rZP_1, ptZ_0, ptZ_1, c32i, c64i, ncI, Int.natCast_add, Int.natCast_mul, q32_neg, q64_neg, q32_add, q32_sub, q32_mul, q64_add, q64_sub, q64_mul, q32_64i, q64_32, q32_lt_t, q32_lt_f, q32_le_t, q32_le_f, q32_eq_t, q32_eq_f, q64_lt_t, q64_lt_f, q64_le_t, q64_le_f, q64_eq_t, q64_eq_f, rdI_i, rdL_i, rdR_i, rdN_i, stI_i, stL_i, stR_i, wI_s, wI_n, wL_s, wL_n, wI_2, wI_3, wL_1, wL_3, wR_1, wR_2, Int.toNat_natCast, tnO, tn_add, tn_sub, tn_mul, Nat.add_sub_cancel, Nat.add_zero, Nat.zero_add, lnO, win_t, win_f, r28, he]
  | succ k ih =>
    intro d fuel hd hfu
    obtain ⟨fuel, rfl⟩ : ∃ f, fuel = f + 1 := ⟨fuel - 1, by omega⟩
    have pl := pr_lt x d
    obtain ⟨r, i1, i2⟩ := ih (d + 1) fuel (by omega) (by omega)
    rcases t1 (pr x d) pl with hz | ⟨j, j1, j2⟩
    · exact absurd hz (hm d (by omega))
    obtain ⟨e1, e2, -⟩ := h2 j j1
    have yb := (hf.at (i := j) (by omega)).b
    have nx : nb_X10_metAt_62 F s (nl_X10_metAt_7 F s m fuel) m 23 (q64 x.1) (q64 x.2) (q32 (pr x d)) = some (q32 r) := by
      rw [← i1, pr_s]
      unfold nb_X10_metAt_62 nb_X10_metAt_78
      by_cases c : pr x d = 16383
      · rw [if_pos c, c]
        simp (disch := omega) only [Option.bind_some, bindv, bindv0, bind2_s, bind3_s, ↓reduceIte, Bool.false_eq_true, rZM_0, rZM_1, rZP_0, rZP_1, ptZ_0, ptZ_1, c32i, c64i, ncI, Int.natCast_add, Int.natCast_mul, q32_neg, q64_neg, q32_add, q32_sub, q32_mul, q64_add, q64_sub, q64_mul, q32_64i, q64_32, q32_lt_t, q32_lt_f, q32_le_t, q32_le_f, q32_eq_t, q32_eq_f, q64_lt_t, q64_lt_f, q64_le_t, q64_le_f, q64_eq_t, q64_eq_f, rdI_i, rdL_i, rdR_i, rdN_i, stI_i, stL_i, stR_i, wI_s, wI_n, wL_s, wL_n, wI_2, wI_3, wL_1, wL_3, wR_1, wR_2, Int.toNat_natCast, tnO, tn_add, tn_sub, tn_mul, Nat.add_sub_cancel, Nat.add_zero, Nat.zero_add, lnO, win_t, win_f]
        first | done | rfl
      · rw [if_neg c]
        simp (disch := omega) only [Option.bind_some, bindv, bindv0, bind2_s, bind3_s, ↓reduceIte, Bool.false_eq_true, rZM_0, rZM_1, rZP_0, rZP_1, ptZ_0, ptZ_1, c32i, c64i, ncI, Int.natCast_add, Int.natCast_mul, q32_neg, q64_neg, q32_add, q32_sub, q32_mul, q64_add, q64_sub, q64_mul, q32_64i, q64_32, q32_lt_t, q32_lt_f, q32_le_t, q32_le_f, q32_eq_t, q32_eq_f, q64_lt_t, q64_lt_f, q64_le_t, q64_le_f, q64_eq_t, q64_eq_f, rdI_i, rdL_i, rdR_i, rdN_i, stI_i, stL_i, stR_i, wI_s, wI_n, wL_s, wL_n, wI_2, wI_3, wL_1, wL_3, wR_1, wR_2, Int.toNat_natCast, tnO, tn_add, tn_sub, tn_mul, Nat.add_sub_cancel, Nat.add_zero, Nat.zero_add, lnO, win_t, win_f]
        first | done | rfl
    by_cases c3 : gt L j = x
    · refine ⟨j, ?_, Or.inr ⟨j, rfl, j1, c3⟩⟩
      rw [c3] at e1 e2
      show nb_X10_metAt_7 F s (nl_X10_metAt_7 F s m fuel) m 23 _ _ _ = _
      unfold nb_X10_metAt_7
      simp (disch := omega) only [Option.bind_some, bindv, bindv0, bind2_s, bind3_s, ↓reduceIte, Bool.false_eq_true, rZM_0, rZM_1, rZP_0, rZP_1, ptZ_0, ptZ_1, c32i, c64i, ncI, Int.natCast_add, Int.natCast_mul, q32_neg, q64_neg, q32_add, q32_sub, q32_mul, q64_add, q64_sub, q64_mul, q32_64i, q64_32, q32_lt_t, q32_lt_f, q32_le_t, q32_le_f, q32_eq_t, q32_eq_f, q64_lt_t, q64_lt_f, q64_le_t, q64_le_f, q64_eq_t, q64_eq_f, rdI_i, rdL_i, rdR_i, rdN_i, stI_i, stL_i, stR_i, wI_s, wI_n, wL_s, wL_n, wI_2, wI_3, wL_1, wL_3, wR_1, wR_2, Int.toNat_natCast, tnO, tn_add, tn_sub, tn_mul, Nat.add_sub_cancel, Nat.add_zero, Nat.zero_add, lnO, win_t, win_f, r28, r24, r25, j2, e1, e2]
    · refine ⟨r, ?_, ?_⟩
      · show nb_X10_metAt_7 F s (nl_X10_metAt_7 F s m fuel) m 23 _ _ _ = _
        unfold nb_X10_metAt_7
        by_cases c4 : (gt L j).1 = x.1
        · have c5 : (gt L j).2 ≠ x.2 := fun h => c3 (Prod.ext c4 h)
          rw [c4] at e1
          simp (disch := omega) only [Option.bind_some, bindv, bindv0, bind2_s, bind3_s, ↓reduceIte, Bool.false_eq_true, rZM_0, rZM_1, rZP_0, rZP_1, ptZ_0, ptZ_1, c32i, c64i, ncI, Int.natCast_add, Int.natCast_mul, q32_neg, q64_neg, q32_add, q32_sub, q32_mul, q64_add, q64_sub, q64_mul, q32_64i, q64_32, q32_lt_t, q32_lt_f, q32_le_t, q32_le_f, q32_eq_t, q32_eq_f, q64_lt_t, q64_lt_f, q64_le_t, q64_le_f, q64_eq_t, q64_eq_f, rdI_i, rdL_i, rdR_i, rdN_i, stI_i, stL_i, stR_i, wI_s, wI_n, wL_s, wL_n, wI_2, wI_3, wL_1, wL_3, wR_1, wR_2, Int.toNat_natCast, tnO, tn_add, tn_sub, tn_mul, Nat.add_sub_cancel, Nat.add_zero, Nat.zero_add, lnO, win_t, win_f, r28, r24, r25, j2, e1, e2, nx]
        · simp (disch := omega) only [Option.bind_some, bindv, bindv0, bind2_s, bind3_s, ↓reduceIte, Bool.false_eq_true, rZM_0, rZM_1, rZP_0, rZP_1, ptZ_0, ptZ_1, c32i, c64i, ncI, Int.natCast_add, Int.natCast_mul, q32_neg, q64_neg, q32_add, q32_sub, q32_mul, q64_add, q64_sub, q64_mul, q32_64i, q64_32, q32_lt_t, q32_lt_f, q32_le_t, q32_le_f, q32_eq_t, q32_eq_f, q64_lt_t, q64_lt_f, q64_le_t, q64_le_f, q64_eq_t, q64_eq_f, rdI_i, rdL_i, rdR_i, rdN_i, stI_i, stL_i, stR_i, wI_s, wI_n, wL_s, wL_n, wI_2, wI_3, wL_1, wL_3, wR_1, wR_2, Int.toNat_natCast, tnO, tn_add, tn_sub, tn_mul, Nat.add_sub_cancel, Nat.add_zero, Nat.zero_add, lnO, win_t, win_f, r28, r24, r25, j2, e1, e2, nx]
      · rcases i2 with ⟨i2, i3⟩ | i2
        · refine Or.inl ⟨i2, fun k p1 p2 i p3 p4 => ?_⟩
          by_cases ck : k = d
          · subst ck
            rw [j2] at p4
            have : j = i := by
              by_cases cj : (j : Int) = i
              · omega
              · rw [q32_eq_f (by omega)] at p4; exact p4.elim
            rw [← this]; exact c3
          · exact i3 k (by omega) p2 i p3 p4
        · exact Or.inr i2
theorem met10 {F : Nat} (hF : 20000 ≤ F) {s : List Sh} {m : Mem} (hp : ∃ t, s = sB ++ t) (hr : RF m) {tp : Int} {L : List FR} {C D : Nat → Int} (hM : MG m L C D) (hn : L.length < 8192) (hf : FLS tp L) {x : FR} (hx : FLR tp x.1 x.2) : ∃ r : Int, n_X10_metAt F s m 23 (q64 x.1) (q64 x.2) = some (q32 r) ∧ ((r = -1 ∧ ¬ x ∈ L) ∨ ∃ j : Nat, r = j ∧ j < L.length ∧ gt L j = x) := by
  obtain ⟨e, e1, e2, e3⟩ := hM.2.2.free (by omega) x
  obtain ⟨r, i1, i2⟩ := metL (F := F) hp hr hM hn hf hx e2 e3 e 0 F (by omega) (by omega)
  refine ⟨r, ?_, ?_⟩
  · unfold n_X10_metAt nb_X10_metAt_0
    rw [sp_at hx, Option.bind_some, ← pr_0]
    exact i1
  · rcases i2 with ⟨i2, i3⟩ | i2
    · refine Or.inl ⟨i2, fun hx' => ?_⟩
      obtain ⟨j, j1, j2⟩ := mem_gt hx'
      obtain ⟨d, d1, d2, d3⟩ := hM.2.2.2.1 j j1
      rw [j2] at d2 d3
      have hde : d < e := by
        refine Nat.lt_of_not_le fun h => ?_
        by_cases c : d = e
        · subst c
          rw [e2] at d2
          rw [q32_eq_f (by omega)] at d2
          exact d2
        · exact d3 e (by omega) e2
      exact i3 d (by omega) hde j j1 d2 j2
    · exact Or.inr i2
