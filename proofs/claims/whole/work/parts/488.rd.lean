abbrev kdF (T : Nat → Int) (N : Nat) : Nat → Int := fun i => kdT T N (tpos T N i)
abbrev amF (T : Nat → Int) (N : Nat) : Nat → Int := fun i => amT T N (tpos T N i)
/-- fields of the reader that reading numbers leaves -/
def KRF (r : Nat) (m m' : Mem) : Prop := (∀ k, (k < 4 ∨ 8 < k) → m'.1 r k = m.1 r k) ∧ ∀ a k, a ≠ r → m'.1 a k = m.1 a k
theorem KRF.rf {r : Nat} (m : Mem) : KRF r m m := ⟨fun _ _ => rfl, fun _ _ _ => rfl⟩
theorem KRF.tr {r : Nat} {m m1 m2 : Mem} (h : KRF r m m1) (h2 : KRF r m1 m2) : KRF r m m2 := ⟨fun k p => (h2.1 k p).trans (h.1 k p), fun a k p => (h2.2 a k p).trans (h.2 a k p)⟩
theorem RCX.nx {s : List Sh} {m : Mem} {r z K N : Nat} {T : Nat → Int} (h : RCX s m r z K T N) {i : Nat} (hi : i < K) (h0 : kdF T N i ≠ 0) (h1 : kdF T N i ≠ 1) : i + 1 < K := by
  rcases Nat.lt_or_ge (i + 1) K with h' | h'
  · exact h'
  · have : i = K - 1 := by omega
    have hh := h.2.2.2.2.2.2.2.2.2.1
    rw [this] at h0 h1
    exact (hh.elim h0 h1).elim
theorem numW9 {s : List Sh} {m : Mem} {r z K N : Nat} {T : Nat → Int} (hT : ∀ k, k < N → 0 ≤ T k ∧ T k < 256) (h : RCX s m r z K T N) {i : Nat} (hi : i < K) (hc : CUR m r T N i) {lo hh : Int} (hlo : 0 ≤ lo ∧ lo ≤ 999) (hhi : 0 ≤ hh ∧ hh ≤ 999) : match numW (kdF T N) (amF T N) i lo hh with
  | .inl (k, j) => j < K ∧ ∃ m', n_X3_numberWithin s m r (q32 lo) (q32 hh) = some (q32 0, m') ∧ KPR r z m m' ∧ FLT m' r k (tpos T N j)
  | .inr (j, v) => j < K ∧ 0 ≤ v ∧ v ≤ 999 ∧ lo ≤ v ∧ v ≤ hh ∧ ∃ m', n_X3_numberWithin s m r (q32 lo) (q32 hh) = some (q32 1, m') ∧ KPR r z m m' ∧ KRF r m m' ∧ m'.2 = m.2 ∧ CUR m' r T N j ∧ m'.1 r 8 = q32 v := by
  have h5 := hc.2.1
  have h7 := hc.2.2.2
  unfold numW
  by_cases c2 : kdF T N i = 2
  · rw [if_pos c2]
    have hi1 := h.nx hi (by omega) (by omega)
    have hp := (h.2.2.2.2.2.2.2.2.2.2.1 i hi1).2.2
    have ab := amT_b hT hp c2
    have c2' : kdT T N (tpos T N i) = 2 := c2
    rw [c2'] at h5
    by_cases cr : amF T N i < lo ∨ hh < amF T N i
    · rw [if_pos cr]
      obtain ⟨m', a1, a2, a3⟩ := fail9 (s := s) (z := z) hc 3
      have a1' : n_X3_failed s m r (q32 3) = some (q32 0, m') := a1
      refine ⟨hi, m', ?_, a2, a3⟩
      unfold n_X3_numberWithin nb_X3_numberWithin_0 nb_X3_numberWithin_29
      dsimp only [amF] at cr
      generalize amT T N (tpos T N i) = v at *
      by_cases cl : v < lo
      · simp (disch := omega) only [Option.bind_some, bindv, bindv0, bind2_s, bind3_s, ↓reduceIte, Bool.false_eq_true, rZM_0, rZM_1, rZP_0, rZP_1, ptZ_0, ptZ_1, c32i, c64i, ncI, Int.natCast_add, Int.natCast_mul, q32_neg, q64_neg, q32_add, q32_sub, q32_mul, q64_add, q64_sub, q64_mul, q32_64i, q64_32, q32_lt_t, q32_lt_f, q32_le_t, q32_le_f, q32_eq_t, q32_eq_f, q64_lt_t, q64_lt_f, q64_le_t, q64_le_f, q64_eq_t, q64_eq_f, rdI_i, rdL_i, rdR_i, rdN_i, stI_i, stL_i, stR_i, wI_s, wI_n, wL_s, wL_n, wI_2, wI_3, wL_1, wL_3, wR_1, wR_2, Int.toNat_natCast, tnO, tn_add, tn_sub, tn_mul, Nat.add_sub_cancel, Nat.add_zero, Nat.zero_add, lnO, win_t, win_f, h5, h7, a1']
      · simp (disch := omega) only [Option.bind_some, bindv, bindv0, bind2_s, bind3_s, ↓reduceIte, Bool.false_eq_true, rZM_0, rZM_1, rZP_0, rZP_1, ptZ_0, ptZ_1, c32i, c64i, ncI, Int.natCast_add, Int.natCast_mul, q32_neg, q64_neg, q32_add, q32_sub, q32_mul, q64_add, q64_sub, q64_mul, q32_64i, q64_32, q32_lt_t, q32_lt_f, q32_le_t, q32_le_f, q32_eq_t, q32_eq_f, q64_lt_t, q64_lt_f, q64_le_t, q64_le_f, q64_eq_t, q64_eq_f, rdI_i, rdL_i, rdR_i, rdN_i, stI_i, stL_i, stR_i, wI_s, wI_n, wL_s, wL_n, wI_2, wI_3, wL_1, wL_3, wR_1, wR_2, Int.toNat_natCast, tnO, tn_add, tn_sub, tn_mul, Nat.add_sub_cancel, Nat.add_zero, Nat.zero_add, lnO, win_t, win_f, h5, h7, a1']
    · rw [if_neg cr]
      have k1 : KPR r z m (wI m r 8 (q32 (amT T N (tpos T N i)))) := ⟨fun a j p1 p2 p3 => by rw [wI_n (by omega)], fun _ _ _ => rfl, rfl⟩
      have hc1 : CUR (wI m r 8 (q32 (amT T N (tpos T N i)))) r T N i := ⟨by rw [wI_n (by omega)]; exact hc.1, by rw [wI_n (by omega)]; exact hc.2.1, by rw [wI_n (by omega)]; exact hc.2.2.1, by rw [wI_n (by omega)]; exact hc.2.2.2⟩
      obtain ⟨m', b1, b2, b3, b4, b5, b6⟩ := nxt9 (h.k k1) hc1 hi1
      have ab' : 0 ≤ amF T N i ∧ amF T N i ≤ 999 := ab
      refine ⟨hi1, ab'.1, ab'.2, by omega, by omega, m', ?_, k1.tr b2, ⟨fun k hk => by rw [b4 k (by omega), wI_n (by omega)], fun a k ha => by rw [b5 a k ha, wI_n (by omega)]⟩, by rw [b6]; rfl, b3, by rw [b4 8 (by omega), wI_s]⟩
      unfold n_X3_numberWithin nb_X3_numberWithin_0
      dsimp only [amF] at cr ab'
      generalize amT T N (tpos T N i) = v at *
      simp (disch := omega) only [Option.bind_some, bindv, bindv0, bind2_s, bind3_s, ↓reduceIte, Bool.false_eq_true, rZM_0, rZM_1, rZP_0, rZP_1, ptZ_0, ptZ_1, c32i, c64i, ncI, Int.natCast_add, Int.natCast_mul, q32_neg, q64_neg, q32_add, q32_sub, q32_mul, q64_add, q64_sub, q64_mul, q32_64i, q64_32, q32_lt_t, q32_lt_f, q32_le_t, q32_le_f, q32_eq_t, q32_eq_f, q64_lt_t, q64_lt_f, q64_le_t, q64_le_f, q64_eq_t, q64_eq_f, rdI_i, rdL_i, rdR_i, rdN_i, stI_i, stL_i, stR_i, wI_s, wI_n, wL_s, wL_n, wI_2, wI_3, wL_1, wL_3, wR_1, wR_2, Int.toNat_natCast, tnO, tn_add, tn_sub, tn_mul, Nat.add_sub_cancel, Nat.add_zero, Nat.zero_add, lnO, win_t, win_f, h5, h7, b1]
  · rw [if_neg c2]
    obtain ⟨m', a1, a2, a3⟩ := cant9 (s := s) (z := z) hc
    refine ⟨hi, m', ?_, a2, a3⟩
    have kb := kdT_b (T := T) (N := N) (p := tpos T N i)
    unfold n_X3_numberWithin nb_X3_numberWithin_0
    dsimp only [kdF] at c2
    generalize kdT T N (tpos T N i) = k at *
    simp (disch := omega) only [Option.bind_some, bindv, bindv0, bind2_s, bind3_s, ↓reduceIte, Bool.false_eq_true, rZM_0, rZM_1, rZP_0, rZP_1, ptZ_0, ptZ_1, c32i, c64i, ncI, Int.natCast_add, Int.natCast_mul, q32_neg, q64_neg, q32_add, q32_sub, q32_mul, q64_add, q64_sub, q64_mul, q32_64i, q64_32, q32_lt_t, q32_lt_f, q32_le_t, q32_le_f, q32_eq_t, q32_eq_f, q64_lt_t, q64_lt_f, q64_le_t, q64_le_f, q64_eq_t, q64_eq_f, rdI_i, rdL_i, rdR_i, rdN_i, stI_i, stL_i, stR_i, wI_s, wI_n, wL_s, wL_n, wI_2, wI_3, wL_1, wL_3, wR_1, wR_2, Int.toNat_natCast, tnO, tn_add, tn_sub, tn_mul, Nat.add_sub_cancel, Nat.add_zero, Nat.zero_add, lnO, win_t, win_f, h5, a1]
def frcT (kd am : Nat → Int) (i : Nat) (ex : Int) (tp : Nat) : (Nat × Nat) ⊕ (Nat × FR) := match numW kd am i 0 999 with
  | .inl e => .inl e
  | .inr (j, u) => match (if kd j = 47 then numW kd am (j + 1) 1 99 else .inr (j, 1) : (Nat × Nat) ⊕ (Nat × Int)) with
    | .inl e => .inl e
    | .inr (k, l) => if kd k = ex then (if (nrm u l).1 ≤ tp * (nrm u l).2 then .inr (k, nrm u l) else .inl (3, k)) else .inl (csF kd k, k)
theorem nrm_sm {u l : Int} (hu : 0 ≤ u ∧ u ≤ 999) (hl : 1 ≤ l ∧ l ≤ 99) : 0 ≤ (nrm u l).1 ∧ (nrm u l).1 ≤ 999 ∧ 1 ≤ (nrm u l).2 ∧ (nrm u l).2 ≤ 99 ∧ Int.gcd (nrm u l).1 (nrm u l).2 = 1 := by
  obtain ⟨n1, n2, n3, n4, n5⟩ := nrm_ok (p := u) (q := l) (by omega)
  have h0 : 0 ≤ (nrm u l).1 := by
    rcases Int.lt_or_le (nrm u l).1 0 with h | h
    · have h1 := Int.mul_neg_of_neg_of_pos h (show 0 < l by omega)
      have h2 := Int.mul_nonneg hu.1 (show 0 ≤ (nrm u l).2 by omega)
      omega
    · exact h
  exact ⟨h0, by omega, n2, by omega, n1⟩
/-- what a fraction's reading leaves -/
theorem frac9 {F : Nat} (hF : 20000 ≤ F) {s : List Sh} {m : Mem} {r z K N : Nat} {T : Nat → Int} (hT : ∀ k, k < N → 0 ≤ T k ∧ T k < 256) (h : RCX s m r z K T N) {i : Nat} (hi : i < K) (hc : CUR m r T N i) {ex : Int} (hex : 2 ≤ ex ∧ ex ≤ 59) {tp : Nat} (htp : 1 ≤ tp ∧ tp ≤ 9) (h0 : m.1 z 0 = q32 tp) : match frcT (kdF T N) (amF T N) i ex tp with
  | .inl (k, j) => j < K ∧ ∃ m', n_X3_fractionThen F s m r (q32 ex) = some (q32 0, m') ∧ KPR r z m m' ∧ FLT m' r k (tpos T N j)
  | .inr (j, f) => j < K ∧ kdF T N j = ex ∧ FLR tp f.1 f.2 ∧ f.1 ≤ 999 ∧ f.2 ≤ 99 ∧ ∃ m', n_X3_fractionThen F s m r (q32 ex) = some (q32 1, m') ∧ KPR r z m m' ∧ KRF r m m' ∧ CUR m' r T N j ∧ m'.2.1 (r + 16) 0 = q64 f.1 ∧ m'.2.1 (r + 16) 1 = q64 f.2 := by
  have zr : z ≠ r := by have := h.sep.2; omega
  have zr16 : z ≠ r + 16 := by have := h.sep.1 16 (by omega) (by omega); omega
  have n1 := numW9 hT h hi hc (lo := 0) (hh := 999) (by omega) (by omega)
  unfold frcT
  cases e1 : numW (kdF T N) (amF T N) i 0 999 with
  | inl p =>
    obtain ⟨k, j⟩ := p
    rw [e1] at n1
    obtain ⟨a0, m1, a1, a2, a3⟩ := n1
    refine ⟨a0, m1, ?_, a2, a3⟩
    unfold n_X3_fractionThen nb_X3_fractionThen_0
    simp (disch := omega) only [Option.bind_some, bindv, bindv0, bind2_s, bind3_s, ↓reduceIte, Bool.false_eq_true, rZM_0, rZM_1, rZP_0, rZP_1, ptZ_0, ptZ_1, c32i, c64i, ncI, Int.natCast_add, Int.natCast_mul, q32_neg, q64_neg, q32_add, q32_sub, q32_mul, q64_add, q64_sub, q64_mul, q32_64i, q64_32, q32_lt_t, q32_lt_f, q32_le_t, q32_le_f, q32_eq_t, q32_eq_f, q64_lt_t, q64_lt_f, q64_le_t, q64_le_f, q64_eq_t, q64_eq_f, rdI_i, rdL_i, rdR_i, rdN_i, stI_i, stL_i, stR_i, wI_s, wI_n, wL_s, wL_n, wI_2, wI_3, wL_1, wL_3, wR_1, wR_2, Int.toNat_natCast, tnO, tn_add, tn_sub, tn_mul, Nat.add_sub_cancel, Nat.add_zero, Nat.zero_add, lnO, win_t, win_f, a1]
  | inr p =>
    obtain ⟨j, u⟩ := p
    rw [e1] at n1
    obtain ⟨a0, au, av, -, -, m1, a1, a2, a3, a4, a5, a6⟩ := n1
    have h1 := h.k a2
    -- behind the lower part
    have tail : ∀ (m2 : Mem) (k : Nat) (l : Int), KPR r z m m2 → KRF r m m2 → CUR m2 r T N k → k < K → 1 ≤ l ∧ l ≤ 99 → match (if kdF T N k = ex then (if (nrm u l).1 ≤ tp * (nrm u l).2 then .inr (k, nrm u l) else .inl (3, k)) else .inl (csF (kdF T N) k, k) : (Nat × Nat) ⊕ (Nat × FR)) with
      | .inl (kk, jj) => jj < K ∧ ∃ m', nb_X3_fractionThen_50 F s m2 r (q32 ex) (q32 u) (q32 l) = some (q32 0, m') ∧ KPR r z m m' ∧ FLT m' r kk (tpos T N jj)
      | .inr (jj, f) => jj < K ∧ kdF T N jj = ex ∧ FLR tp f.1 f.2 ∧ f.1 ≤ 999 ∧ f.2 ≤ 99 ∧ ∃ m', nb_X3_fractionThen_50 F s m2 r (q32 ex) (q32 u) (q32 l) = some (q32 1, m') ∧ KPR r z m m' ∧ KRF r m m' ∧ CUR m' r T N jj ∧ m'.2.1 (r + 16) 0 = q64 f.1 ∧ m'.2.1 (r + 16) 1 = q64 f.2 := fun m2 k l p1 p2 p3 p4 p5 => by
      have h2 := h.k p1
      have h5 := p3.2.1
      have kb := kdT_b (T := T) (N := N) (p := tpos T N k)
      by_cases ce : kdF T N k = ex
      · rw [if_pos ce]
        have ce' : kdT T N (tpos T N k) = ex := ce
        rw [ce'] at h5
        have ns := nrm_sm ⟨au, av⟩ p5
        obtain ⟨h20, -, -, h213⟩ := h2.2.1
        have pu := put9 (F := F) (by omega) (s := s) (m := m2) (r := r + 16) (p := u) (q := l) (by omega) (by omega) (by omega)
        have z0 : (PT m2 (r + 16) (nrm u l)).1 z 0 = q32 tp := by
          show m2.1 z 0 = _
          rw [p2.2 z 0 zr]; exact h0
        have if9 := isF9 (s := s) (m := PT m2 (r + 16) (nrm u l)) (n := z) (tp := tp) z0 (by omega) (u := (nrm u l).1) (l := (nrm u l).2) (by omega) (by omega)
        have kpt : KPR r z m2 (PT m2 (r + 16) (nrm u l)) := ⟨fun _ _ _ _ _ => rfl, fun a k ha => by unfold PT; rw [wL_n (by omega), wL_n (by omega)], rfl⟩
        have cpt : CUR (PT m2 (r + 16) (nrm u l)) r T N k := p3
        by_cases cf : (nrm u l).1 ≤ tp * (nrm u l).2
        · rw [if_pos cf]
          have hb : isF tp (nrm u l) = true := decide_eq_true ⟨ns.1, ns.2.2.1, by omega, by omega, cf⟩
          have if9' : n_X0_isFloor s (PT m2 (r + 16) (nrm u l)) z (q64 (nrm u l).1) (q64 (nrm u l).2) = some 1 := by
            rw [if9, show isF (tp : Int) ((nrm u l).1, (nrm u l).2) = isF tp (nrm u l) from rfl, hb]; rfl
          refine ⟨p4, ce, ⟨ns.1, by omega, ns.2.2.1, by omega, cf, ns.2.2.2.2⟩, ns.2.1, ns.2.2.2.1, PT m2 (r + 16) (nrm u l), ?_, p1.tr kpt, p2, cpt, PT_0 _ _ _, PT_l _ _ _⟩
          unfold nb_X3_fractionThen_50
          rw [h5, if_pos rfl, h213, Option.bind_some, q32_64i (by omega), q32_64i (by omega), pu, bind2_s, PT_3, h20, h213, Option.bind_some, Option.bind_some, Option.bind_some, PT_0, PT_l, if9', Option.bind_some]
          rfl
        · rw [if_neg cf]
          have hb : isF tp (nrm u l) = false := decide_eq_false (fun hh => cf hh.2.2.2.2)
          have if9' : n_X0_isFloor s (PT m2 (r + 16) (nrm u l)) z (q64 (nrm u l).1) (q64 (nrm u l).2) = some 0 := by
            rw [if9, show isF (tp : Int) ((nrm u l).1, (nrm u l).2) = isF tp (nrm u l) from rfl, hb]; rfl
          obtain ⟨m', b1, b2, b3⟩ := fail9 (s := s) (z := z) cpt 3
          have b1' : n_X3_failed s (PT m2 (r + 16) (nrm u l)) r (3 : Int32) = some (q32 0, m') := b1
          refine ⟨p4, m', ?_, (p1.tr kpt).tr b2, b3⟩
          unfold nb_X3_fractionThen_50
          rw [h5, if_pos rfl, h213, Option.bind_some, q32_64i (by omega), q32_64i (by omega), pu, bind2_s, PT_3, h20, h213, Option.bind_some, Option.bind_some, Option.bind_some, PT_0, PT_l, if9', Option.bind_some, if_pos rfl, b1', bind2_s, if_pos (show q32 0 = (0 : Int32) from rfl)]
          rfl
      · rw [if_neg ce]
        obtain ⟨m', b1, b2, b3⟩ := cant9 (s := s) (z := z) p3
        refine ⟨p4, m', ?_, p1.tr b2, b3⟩
        dsimp only [kdF] at ce
        generalize kdT T N (tpos T N k) = kk at *
        unfold nb_X3_fractionThen_50
        simp (disch := omega) only [Option.bind_some, bindv, bindv0, bind2_s, bind3_s, ↓reduceIte, Bool.false_eq_true, rZM_0, rZM_1, rZP_0, rZP_1, ptZ_0, ptZ_1, c32i, c64i, ncI, Int.natCast_add, Int.natCast_mul, q32_neg, q64_neg, q32_add, q32_sub, q32_mul, q64_add, q64_sub, q64_mul, q32_64i, q64_32, q32_lt_t, q32_lt_f, q32_le_t, q32_le_f, q32_eq_t, q32_eq_f, q64_lt_t, q64_lt_f, q64_le_t, q64_le_f, q64_eq_t, q64_eq_f, rdI_i, rdL_i, rdR_i, rdN_i, stI_i, stL_i, stR_i, wI_s, wI_n, wL_s, wL_n, wI_2, wI_3, wL_1, wL_3, wR_1, wR_2, Int.toNat_natCast, tnO, tn_add, tn_sub, tn_mul, Nat.add_sub_cancel, Nat.add_zero, Nat.zero_add, lnO, win_t, win_f, h5, b1]
    dsimp only
    by_cases c47 : kdF T N j = 47
    · rw [if_pos c47]
      have j1 := h.nx a0 (by omega) (by omega)
      have c47' : kdT T N (tpos T N j) = 47 := c47
      have k5 := a5.2.1
      rw [c47'] at k5
      obtain ⟨m2, b1, b2, b3, b4, b5, b6⟩ := nxt9 h1 a5 j1
      have n2 := numW9 hT (h1.k b2) j1 b3 (lo := 1) (hh := 99) (by omega) (by omega)
      cases e2 : numW (kdF T N) (amF T N) (j + 1) 1 99 with
      | inl p =>
        obtain ⟨k, jj⟩ := p
        rw [e2] at n2
        obtain ⟨d0, m3, d1, d2, d3⟩ := n2
        refine ⟨d0, m3, ?_, (a2.tr b2).tr d2, d3⟩
        unfold n_X3_fractionThen nb_X3_fractionThen_0
        simp (disch := omega) only [Option.bind_some, bindv, bindv0, bind2_s, bind3_s, ↓reduceIte, Bool.false_eq_true, rZM_0, rZM_1, rZP_0, rZP_1, ptZ_0, ptZ_1, c32i, c64i, ncI, Int.natCast_add, Int.natCast_mul, q32_neg, q64_neg, q32_add, q32_sub, q32_mul, q64_add, q64_sub, q64_mul, q32_64i, q64_32, q32_lt_t, q32_lt_f, q32_le_t, q32_le_f, q32_eq_t, q32_eq_f, q64_lt_t, q64_lt_f, q64_le_t, q64_le_f, q64_eq_t, q64_eq_f, rdI_i, rdL_i, rdR_i, rdN_i, stI_i, stL_i, stR_i, wI_s, wI_n, wL_s, wL_n, wI_2, wI_3, wL_1, wL_3, wR_1, wR_2, Int.toNat_natCast, tnO, tn_add, tn_sub, tn_mul, Nat.add_sub_cancel, Nat.add_zero, Nat.zero_add, lnO, win_t, win_f, a1, k5, b1, d1]
      | inr p =>
        obtain ⟨k, l⟩ := p
        rw [e2] at n2
        obtain ⟨d0, -, -, dl, dh, m3, d1, d2, d3, d4, d5, d6⟩ := n2
        have tl := tail m3 k l ((a2.tr b2).tr d2) (a3.tr (KRF.tr ⟨fun k hk => b4 k (by omega), b5⟩ d3)) d5 d0 ⟨dl, dh⟩
        have eq : n_X3_fractionThen F s m r (q32 ex) = nb_X3_fractionThen_50 F s m3 r (q32 ex) (q32 u) (q32 l) := by
          unfold n_X3_fractionThen nb_X3_fractionThen_0
          simp (disch := omega) only [Option.bind_some, bindv, bindv0, bind2_s, bind3_s, ↓reduceIte, Bool.false_eq_true, rZM_0, rZM_1, rZP_0, rZP_1, ptZ_0, ptZ_1, c32i, c64i, ncI, Int.natCast_add, Int.natCast_mul, q32_neg, q64_neg, q32_add, q32_sub, q32_mul, q64_add, q64_sub, q64_mul, q32_64i, q64_32, q32_lt_t, q32_lt_f, q32_le_t, q32_le_f, q32_eq_t, q32_eq_f, q64_lt_t, q64_lt_f, q64_le_t, q64_le_f, q64_eq_t, q64_eq_f, rdI_i, rdL_i, rdR_i, rdN_i, stI_i, stL_i, stR_i, wI_s, wI_n, wL_s, wL_n, wI_2, wI_3, wL_1, wL_3, wR_1, wR_2, Int.toNat_natCast, tnO, tn_add, tn_sub, tn_mul, Nat.add_sub_cancel, Nat.add_zero, Nat.zero_add, lnO, win_t, win_f, a1, k5, b1, d1, a6, d6]
        rw [eq]
        exact tl
    · rw [if_neg c47]
      have tl := tail m1 j 1 a2 a3 a5 a0 (by omega)
      have k5 := a5.2.1
      have kb := kdT_b (T := T) (N := N) (p := tpos T N j)
      have eq : n_X3_fractionThen F s m r (q32 ex) = nb_X3_fractionThen_50 F s m1 r (q32 ex) (q32 u) (q32 1) := by
        dsimp only [kdF] at c47
        unfold n_X3_fractionThen nb_X3_fractionThen_0
        generalize kdT T N (tpos T N j) = kk at *
        simp (disch := omega) only [Option.bind_some, bindv, bindv0, bind2_s, bind3_s, ↓reduceIte, Bool.false_eq_true, rZM_0, rZM_1, rZP_0, rZP_1, ptZ_0, ptZ_1, c32i, c64i, ncI, Int.natCast_add, Int.natCast_mul, q32_neg, q64_neg, q32_add, q32_sub, q32_mul, q64_add, q64_sub, q64_mul, q32_64i, q64_32, q32_lt_t, q32_lt_f, q32_le_t, q32_le_f, q32_eq_t, q32_eq_f, q64_lt_t, q64_lt_f, q64_le_t, q64_le_f, q64_eq_t, q64_eq_f, rdI_i, rdL_i, rdR_i, rdN_i, stI_i, stL_i, stR_i, wI_s, wI_n, wL_s, wL_n, wI_2, wI_3, wL_1, wL_3, wR_1, wR_2, Int.toNat_natCast, tnO, tn_add, tn_sub, tn_mul, Nat.add_sub_cancel, Nat.add_zero, Nat.zero_add, lnO, win_t, win_f, a1, k5, a6]
      rw [eq]
      exact tl
