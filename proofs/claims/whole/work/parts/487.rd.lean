/-! reading lines: the class -/
def KPR (r z : Nat) (m m' : Mem) : Prop := (∀ a k, a ≠ r → a ≠ r + 15 → ¬ (z ≤ a ∧ a < z + 10) → m'.1 a k = m.1 a k) ∧ (∀ a k, a ≠ r + 16 → m'.2.1 a k = m.2.1 a k) ∧ m'.2.2 = m.2.2
theorem KPR.rf {r z : Nat} (m : Mem) : KPR r z m m := ⟨fun _ _ _ _ _ => rfl, fun _ _ _ => rfl, rfl⟩
theorem KPR.tr {r z : Nat} {m m1 m2 : Mem} (h : KPR r z m m1) (h2 : KPR r z m1 m2) : KPR r z m m2 := ⟨fun a k p q t => (h2.1 a k p q t).trans (h.1 a k p q t), fun a k p => (h2.2.1 a k p).trans (h.2.1 a k p), h2.2.2.trans h.2.2⟩
/-- a reader at r that reads into the house at z; K tokens of the text T stand -/
def RCX (s : List Sh) (m : Mem) (r z K : Nat) (T : Nat → Int) (N : Nat) : Prop := RTK s m r ∧ (m.2.2 r 0 = some z ∧ m.2.2 r 3 = some (r + 11) ∧ m.2.2 r 11 = some (r + 15) ∧ m.2.2 r 13 = some (r + 16)) ∧ ln s (r + 15) = 64 ∧ HB s m z ∧ (∀ i, i < 10 → z + i ≠ r ∧ ∀ j, 11 ≤ j → j < 17 → z + i ≠ r + j) ∧ TKA m r K T N ∧ 1 ≤ K ∧ K ≤ 901 ∧ N ≤ 900 ∧ (kdT T N (tpos T N (K - 1)) = 0 ∨ kdT T N (tpos T N (K - 1)) = 1) ∧ (∀ j, j + 1 < K → kdT T N (tpos T N j) ≠ 0 ∧ kdT T N (tpos T N j) ≠ 1 ∧ tpos T N j < N) ∧ ∀ j, j < K → tpos T N j ≤ N
theorem RCX.sep {s : List Sh} {m : Mem} {r z K N : Nat} {T : Nat → Int} (h : RCX s m r z K T N) : (∀ j, 11 ≤ j → j < 17 → ¬ (z ≤ r + j ∧ r + j < z + 10)) ∧ ¬ (z ≤ r ∧ r < z + 10) := by
  have hs := h.2.2.2.2.1
  refine ⟨fun j h1 h2 hc => ?_, fun hc => ?_⟩
  · have := (hs (r + j - z) (by omega)).2 j h1 h2
    omega
  · have := (hs (r - z) (by omega)).1
    omega
theorem RCX.k {s : List Sh} {m m' : Mem} {r z K N : Nat} {T : Nat → Int} (h : RCX s m r z K T N) (e : KPR r z m m') : RCX s m' r z K T N := by
  have sp := h.sep.1
  obtain ⟨h1, h2, h3, h4, h5, h6, h7⟩ := h
  refine ⟨?_, by rw [e.2.2]; exact h2, h3, ?_, h5, ?_, h7⟩
  · unfold RTK at h1 ⊢; rw [e.2.2]; exact h1
  · unfold HB at h4 ⊢; rw [e.2.2]; exact h4
  · have r53 := h1.1
    obtain ⟨t1, t2⟩ := h6
    refine ⟨by rw [e.1 _ _ (by omega) (by omega) (sp 11 (by omega) (by omega))]; exact t1, fun i hi => ?_⟩
    rw [e.1 _ _ (by omega) (by omega) (sp 12 (by omega) (by omega)), e.1 _ _ (by omega) (by omega) (sp 13 (by omega) (by omega)), e.1 _ _ (by omega) (by omega) (sp 14 (by omega) (by omega))]
    exact t2 i hi
/-- the token that is looked at -/
def CUR (m : Mem) (r : Nat) (T : Nat → Int) (N i : Nat) : Prop := m.1 r 4 = q32 (i : Nat) ∧ m.1 r 5 = q32 (kdT T N (tpos T N i)) ∧ m.1 r 6 = q32 (tpos T N i : Nat) ∧ m.1 r 7 = q32 (amT T N (tpos T N i))
def FLT (m : Mem) (r : Nat) (k p : Nat) : Prop := m.1 r 1 = q32 (k : Nat) ∧ m.1 r 2 = q32 (p : Nat)
theorem look9 {s : List Sh} {m : Mem} {r z K N : Nat} {T : Nat → Int} (h : RCX s m r z K T N) {i : Nat} (hi : i < K) : ∃ m', n_X3_lookAt s m r (q32 (i : Nat)) = some ((), m') ∧ KPR r z m m' ∧ CUR m' r T N i ∧ (∀ k, (k < 4 ∨ 7 < k) → m'.1 r k = m.1 r k) ∧ (∀ a k, a ≠ r → m'.1 a k = m.1 a k) ∧ m'.2 = m.2 := by
  obtain ⟨⟨r53, ⟨t1, t2, t3⟩, l1, l2, l3⟩, ⟨h1, h2, h3, h4⟩, l15, hb, hs, ⟨k1, k2⟩, K1, K2, hN, -⟩ := h
  obtain ⟨z1, z2, z3⟩ := k2 i hi
  have le : ¬ (q32 (K : Int) ≤ q32 (i : Int)) := of_eq_false (q32_le_f (by omega))
  refine ⟨wI (wI (wI (wI m r 4 (q32 (i : Nat))) r 5 (q32 (kdT T N (tpos T N i)))) r 6 (q32 (tpos T N i : Nat))) r 7 (q32 (amT T N (tpos T N i))), ?_, ⟨fun a k p1 p2 p3 => ?_, fun _ _ _ => rfl, rfl⟩, ⟨?_, ?_, ?_, wI_s ..⟩, fun k hk => ?_, fun a k ha => ?_, rfl⟩
  · unfold n_X3_lookAt nb_X3_lookAt_0 nb_X3_lookAt_25
    rw [h2, Option.bind_some, k1, if_neg le, bindv, bindv0]
    simp (disch := omega) only [Option.bind_some, bindv, bindv0, bind2_s, bind3_s, ↓reduceIte, Bool.false_eq_true, rZM_0, rZM_1, rZP_0, rZP_1, ptZ_0, ptZ_1, c32i, c64i, ncI, Int.natCast_add, Int.natCast_mul, q32_neg, q64_neg, q32_add, q32_sub, q32_mul, q64_add, q64_sub, q64_mul, q32_64i, q64_32, q32_lt_t, q32_lt_f, q32_le_t, q32_le_f, q32_eq_t, q32_eq_f, q64_lt_t, q64_lt_f, q64_le_t, q64_le_f, q64_eq_t, q64_eq_f, rdI_i, rdL_i, rdR_i, rdN_i, stI_i, stL_i, stR_i, wI_s, wI_n, wL_s, wL_n, wI_2, wI_3, wL_1, wL_3, wR_1, wR_2, Int.toNat_natCast, tnO, tn_add, tn_sub, tn_mul, Nat.add_sub_cancel, Nat.add_zero, Nat.zero_add, lnO, win_t, win_f, h2, t1, t2, t3, z1, z2, z3]
  · rw [wI_n (by omega), wI_n (by omega), wI_n (by omega), wI_n (by omega)]
  · rw [wI_n (by omega), wI_n (by omega), wI_n (by omega), wI_s]
  · rw [wI_n (by omega), wI_n (by omega), wI_s]
  · rw [wI_n (by omega), wI_s]
  · rw [wI_n (by omega), wI_n (by omega), wI_n (by omega), wI_n (by omega)]
  · rw [wI_n (by omega), wI_n (by omega), wI_n (by omega), wI_n (by omega)]
theorem nxt9 {s : List Sh} {m : Mem} {r z K N : Nat} {T : Nat → Int} (h : RCX s m r z K T N) {i : Nat} (hc : CUR m r T N i) (hi : i + 1 < K) : ∃ m', n_X3_next s m r = some ((), m') ∧ KPR r z m m' ∧ CUR m' r T N (i + 1) ∧ (∀ k, (k < 4 ∨ 7 < k) → m'.1 r k = m.1 r k) ∧ (∀ a k, a ≠ r → m'.1 a k = m.1 a k) ∧ m'.2 = m.2 := by
  obtain ⟨m', a1, a2⟩ := look9 h hi
  refine ⟨m', ?_, a2⟩
  unfold n_X3_next nb_X3_next_0
  rw [hc.1, show q32 (i : Int) + 1 = q32 ((i + 1 : Nat) : Int) by rw [show (1 : Int32) = q32 1 from rfl, q32_add, Int.natCast_add]; rfl, a1, bind2_s]
theorem fail9 {s : List Sh} {m : Mem} {r z N : Nat} {T : Nat → Int} {i : Nat} (hc : CUR m r T N i) (k : Nat) : ∃ m', n_X3_failed s m r (q32 (k : Nat)) = some (q32 0, m') ∧ KPR r z m m' ∧ FLT m' r k (tpos T N i) := by
  have h6 := hc.2.2.1
  refine ⟨wI (wI m r 1 (q32 (k : Nat))) r 2 (q32 (tpos T N i : Nat)), ?_, ⟨fun a j p1 p2 p3 => by rw [wI_n (by omega), wI_n (by omega)], fun _ _ _ => rfl, rfl⟩, by rw [wI_n (by omega), wI_s], wI_s ..⟩
  unfold n_X3_failed nb_X3_failed_0
  simp (disch := omega) only [Option.bind_some, bindv, bindv0, bind2_s, bind3_s, ↓reduceIte, Bool.false_eq_true, rZM_0, rZM_1, rZP_0, rZP_1, ptZ_0, ptZ_1, c32i, c64i, ncI, Int.natCast_add, Int.natCast_mul, q32_neg, q64_neg, q32_add, q32_sub, q32_mul, q64_add, q64_sub, q64_mul, q32_64i, q64_32, q32_lt_t, q32_lt_f, q32_le_t, q32_le_f, q32_eq_t, q32_eq_f, q64_lt_t, q64_lt_f, q64_le_t, q64_le_f, q64_eq_t, q64_eq_f, rdI_i, rdL_i, rdR_i, rdN_i, stI_i, stL_i, stR_i, wI_s, wI_n, wL_s, wL_n, wI_2, wI_3, wL_1, wL_3, wR_1, wR_2, Int.toNat_natCast, tnO, tn_add, tn_sub, tn_mul, Nat.add_sub_cancel, Nat.add_zero, Nat.zero_add, lnO, win_t, win_f, h6]
theorem cant9 {s : List Sh} {m : Mem} {r z N : Nat} {T : Nat → Int} {i : Nat} (hc : CUR m r T N i) : ∃ m', n_X3_cantStand s m r = some (q32 0, m') ∧ KPR r z m m' ∧ FLT m' r (csF (fun i => kdT T N (tpos T N i)) i) (tpos T N i) := by
  have h5 := hc.2.1
  have kb := kdT_b (T := T) (N := N) (p := tpos T N i)
  unfold csF
  dsimp only
  by_cases c : kdT T N (tpos T N i) = 0
  · obtain ⟨m', a1, a2, a3⟩ := fail9 (s := s) (z := z) hc 1
    rw [if_pos c]
    refine ⟨m', ?_, a2, a3⟩
    have a1' : n_X3_failed s m r (q32 1) = some (q32 0, m') := a1
    rw [c] at h5
    unfold n_X3_cantStand nb_X3_cantStand_0 nb_X3_cantStand_13
    simp (disch := omega) only [Option.bind_some, bindv, bindv0, bind2_s, bind3_s, ↓reduceIte, Bool.false_eq_true, rZM_0, rZM_1, rZP_0, rZP_1, ptZ_0, ptZ_1, c32i, c64i, ncI, Int.natCast_add, Int.natCast_mul, q32_neg, q64_neg, q32_add, q32_sub, q32_mul, q64_add, q64_sub, q64_mul, q32_64i, q64_32, q32_lt_t, q32_lt_f, q32_le_t, q32_le_f, q32_eq_t, q32_eq_f, q64_lt_t, q64_lt_f, q64_le_t, q64_le_f, q64_eq_t, q64_eq_f, rdI_i, rdL_i, rdR_i, rdN_i, stI_i, stL_i, stR_i, wI_s, wI_n, wL_s, wL_n, wI_2, wI_3, wL_1, wL_3, wR_1, wR_2, Int.toNat_natCast, tnO, tn_add, tn_sub, tn_mul, Nat.add_sub_cancel, Nat.add_zero, Nat.zero_add, lnO, win_t, win_f, h5, a1']
  · obtain ⟨m', a1, a2, a3⟩ := fail9 (s := s) (z := z) hc 2
    rw [if_neg c]
    refine ⟨m', ?_, a2, a3⟩
    have a1' : n_X3_failed s m r (q32 2) = some (q32 0, m') := a1
    generalize kdT T N (tpos T N i) = k at *
    unfold n_X3_cantStand nb_X3_cantStand_0 nb_X3_cantStand_13
    simp (disch := omega) only [Option.bind_some, bindv, bindv0, bind2_s, bind3_s, ↓reduceIte, Bool.false_eq_true, rZM_0, rZM_1, rZP_0, rZP_1, ptZ_0, ptZ_1, c32i, c64i, ncI, Int.natCast_add, Int.natCast_mul, q32_neg, q64_neg, q32_add, q32_sub, q32_mul, q64_add, q64_sub, q64_mul, q32_64i, q64_32, q32_lt_t, q32_lt_f, q32_le_t, q32_le_f, q32_eq_t, q32_eq_f, q64_lt_t, q64_lt_f, q64_le_t, q64_le_f, q64_eq_t, q64_eq_f, rdI_i, rdL_i, rdR_i, rdN_i, stI_i, stL_i, stR_i, wI_s, wI_n, wL_s, wL_n, wI_2, wI_3, wL_1, wL_3, wR_1, wR_2, Int.toNat_natCast, tnO, tn_add, tn_sub, tn_mul, Nat.add_sub_cancel, Nat.add_zero, Nat.zero_add, lnO, win_t, win_f, h5, a1']
def numW (kd am : Nat → Int) (i : Nat) (lo hi : Int) : (Nat × Nat) ⊕ (Nat × Int) := if kd i = 2 then (if am i < lo ∨ hi < am i then .inl (3, i) else .inr (i + 1, am i)) else .inl (csF kd i, i)
theorem amT_b {T : Nat → Int} {N p : Nat} (hT : ∀ k, k < N → 0 ≤ T k ∧ T k < 256) (hp : p < N) (h : kdT T N p = 2) : 0 ≤ amT T N p ∧ amT T N p ≤ 999 := by
  have cd : isDg (T p) := by
    by_cases c : isDg (T p)
    · exact c
    · exfalso
      have wb := wkT_b T p (endT T N p - p)
      unfold kdT at h
      rw [if_neg (by omega), if_neg c] at h
      split at h
      · omega
      · split at h
        · next cs => have : isSg (T p) := cs; omega
        · omega
  have ee : endT T N p = RUN dgB T (N - p) p := by unfold endT; rw [if_pos cd]
  have c3 : endT T N p - p ≤ 3 := by
    unfold kdT at h
    rw [if_neg (by omega), if_pos cd] at h
    by_cases c : 3 < endT T N p - p
    · rw [if_pos c] at h; omega
    · omega
  have dall : ∀ j, p ≤ j → j < endT T N p → 48 ≤ T j ∧ T j ≤ 57 := fun j h1 h2 => by
    rw [ee] at h2
    exact of_decide_eq_true (RUN_all (P := dgB) (T := T) (N - p) p j h1 h2)
  have eb := endT_b (T := T) hp
  unfold amT
  rw [if_pos h]
  have d0 := dall p (by omega) (by omega)
  have : endT T N p - p = 1 ∨ endT T N p - p = 2 ∨ endT T N p - p = 3 := by omega
  rcases this with e | e | e
  · rw [e]
    show 0 ≤ 0 * 10 + T p - 48 ∧ 0 * 10 + T p - 48 ≤ 999
    omega
  · have d1 := dall (p + 1) (by omega) (by omega)
    rw [e]
    show 0 ≤ (0 * 10 + T p - 48) * 10 + T (p + 1) - 48 ∧ (0 * 10 + T p - 48) * 10 + T (p + 1) - 48 ≤ 999
    omega
  · have d1 := dall (p + 1) (by omega) (by omega)
    have d2 := dall (p + 1 + 1) (by omega) (by omega)
    rw [e]
    show 0 ≤ ((0 * 10 + T p - 48) * 10 + T (p + 1) - 48) * 10 + T (p + 1 + 1) - 48 ∧ ((0 * 10 + T p - 48) * 10 + T (p + 1) - 48) * 10 + T (p + 1 + 1) - 48 ≤ 999
    omega
