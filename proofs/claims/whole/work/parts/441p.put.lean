theorem meetL {F : Nat} {s : List Sh} {m : Mem} (hp : ∃ t, s = sB ++ t) (hr : RF m) {L : List FR} {C D : Nat → Int} (hM : MG m L C D) (hn : L.length < 8192) {x : FR} (xb : 0 ≤ x.1 ∧ x.1 ≤ 1000000 ∧ 1 ≤ x.2 ∧ x.2 ≤ 1000000) {c f : Int} {e : Nat} (he : m.1 35 (pr x e) = q32 (-1)) (hm : ∀ k, k < e → m.1 35 (pr x k) ≠ q32 (-1)) : ∀ k d fuel, d + k = e → k < fuel → nl_X10_meets_7 F s fuel m 23 (q64 x.1) (q64 x.2) (q32 c) (q32 f) (q32 (pr x d)) = some ((), wI (wI (wI (wI (wI (wI m 35 (pr x e) (q32 L.length)) 31 L.length (q32 x.1)) 32 L.length (q32 x.2)) 33 L.length (q32 c)) 34 L.length (q32 f)) 23 29 (q32 (L.length + 1))) := by
  have r24 := rf23_24 hr
  have r25 := rf23_25 hr
  have r26 := rf23_26 hr
  have r27 := rf23_27 hr
  have r28 := rf23_28 hr
  have l31 := ln31 hp
  have l32 := ln32 hp
  have l33 := ln33 hp
  have l34 := ln34 hp
  have l35 := ln35 hp
  obtain ⟨h1, h2, t1, t2, t3⟩ := hM
  intro k
  induction k with
  | zero =>
    intro d fuel hd hfu
    obtain ⟨fuel, rfl⟩ : ∃ f, fuel = f + 1 := ⟨fuel - 1, by omega⟩
    have hd' : d = e := by omega
    subst hd'
    have pl := pr_lt x d
    show nb_X10_meets_7 F s (nl_X10_meets_7 F s fuel) m 23 _ _ _ _ _ = _
    unfold nb_X10_meets_7
    simp (disch := omega) only [Option.bind_some, bindv, bindv0, bind2_s, bind3_s, ↓reduceIte, Bool.false_eq_true, rZM_0, rZM_1, rZP_0, rZP_1, ptZ_0, ptZ_1, c32i, c64i, ncI, Int.natCast_add, Int.natCast_mul, q32_neg, q64_neg, q32_add, q32_sub, q32_mul, q64_add, q64_sub, q64_mul, q32_64i, q64_32, q32_lt_t, q32_lt_f, q32_le_t, q32_le_f, q32_eq_t, q32_eq_f, q64_lt_t, q64_lt_f, q64_le_t, q64_le_f, q64_eq_t, q64_eq_f, rdI_i, rdL_i, rdR_i, rdN_i, stI_i, stL_i, stR_i, wI_s, wI_n, wL_s, wL_n, wI_2, wI_3, wL_1, wL_3, wR_1, wR_2, Int.toNat_natCast, tnO, tn_add, tn_sub, tn_mul, Nat.add_sub_cancel, Nat.add_zero, Nat.zero_add, lnO, win_t, win_f, r28, r24, r25, r26, r27, he, h1]
  | succ k ih =>
    intro d fuel hd hfu
    obtain ⟨fuel, rfl⟩ : ∃ f, fuel = f + 1 := ⟨fuel - 1, by omega⟩
    have pl := pr_lt x d
    have ih := ih (d + 1) fuel (by omega) (by omega)
    rcases t1 (pr x d) pl with hz | ⟨j, j1, j2⟩
    · exact absurd hz (hm d (by omega))
    show nb_X10_meets_7 F s (nl_X10_meets_7 F s fuel) m 23 _ _ _ _ _ = _
    rw [← ih, pr_s]
    unfold nb_X10_meets_7 nb_X10_meets_34
    by_cases c : pr x d = 16383
    · rw [if_pos c]
      rw [c] at j2 ⊢
      simp (disch := omega) only [Option.bind_some, bindv, bindv0, bind2_s, bind3_s, ↓reduceIte, Bool.false_eq_true, rZM_0, rZM_1, rZP_0, rZP_1, ptZ_0, ptZ_1, c32i, c64i, ncI, Int.natCast_add, Int.natCast_mul, q32_neg, q64_neg, q32_add, q32_sub, q32_mul, q64_add, q64_sub, q64_mul, q32_64i, q64_32, q32_lt_t, q32_lt_f, q32_le_t, q32_le_f, q32_eq_t, q32_eq_f, q64_lt_t, q64_lt_f, q64_le_t, q64_le_f, q64_eq_t, q64_eq_f, rdI_i, rdL_i, rdR_i, rdN_i, stI_i, stL_i, stR_i, wI_s, wI_n, wL_s, wL_n, wI_2, wI_3, wL_1, wL_3, wR_1, wR_2, Int.toNat_natCast, tnO, tn_add, tn_sub, tn_mul, Nat.add_sub_cancel, Nat.add_zero, Nat.zero_add, lnO, win_t, win_f, r28, j2]
      first | done | rfl
    · rw [if_neg c]
      simp (disch := omega) only [Option.bind_some, bindv, bindv0, bind2_s, bind3_s, ↓reduceIte, Bool.false_eq_true, rZM_0, rZM_1, rZP_0, rZP_1, ptZ_0, ptZ_1, c32i, c64i, ncI, Int.natCast_add, Int.natCast_mul, q32_neg, q64_neg, q32_add, q32_sub, q32_mul, q64_add, q64_sub, q64_mul, q32_64i, q64_32, q32_lt_t, q32_lt_f, q32_le_t, q32_le_f, q32_eq_t, q32_eq_f, q64_lt_t, q64_lt_f, q64_le_t, q64_le_f, q64_eq_t, q64_eq_f, rdI_i, rdL_i, rdR_i, rdN_i, stI_i, stL_i, stR_i, wI_s, wI_n, wL_s, wL_n, wI_2, wI_3, wL_1, wL_3, wR_1, wR_2, Int.toNat_natCast, tnO, tn_add, tn_sub, tn_mul, Nat.add_sub_cancel, Nat.add_zero, Nat.zero_add, lnO, win_t, win_f, r28, j2]
      first | done | rfl
theorem meet10 {F : Nat} (hF : 20000 ≤ F) {s : List Sh} {m : Mem} (hp : ∃ t, s = sB ++ t) (hr : RF m) {tp : Int} {L : List FR} {C D : Nat → Int} (hM : MG m L C D) (hn : L.length < 8192) {x : FR} (hx : FLR tp x.1 x.2) (c f : Int) : ∃ m', n_X10_meets F s m 23 (q64 x.1) (q64 x.2) (q32 c) (q32 f) = some ((), m') ∧ MG m' (L ++ [x]) (fun i => if i = L.length then c else C i) (fun i => if i = L.length then f else D i) ∧ m'.2 = m.2 ∧ ∀ a k, (a ≠ 23 ∨ k ≠ 29) → (a < 31 ∨ 35 < a) → m'.1 a k = m.1 a k := by
  obtain ⟨e, e1, e2, e3⟩ := hM.2.2.free (by omega) x
  have i1 := meetL (F := F) hp hr hM hn hx.b (c := c) (f := f) e2 e3 e 0 F (by omega) (by omega)
  obtain ⟨h1, h2, ht⟩ := hM
  have hlen : (L ++ [x]).length = L.length + 1 := by rw [List.length_append]; rfl
  refine ⟨wI (wI (wI (wI (wI (wI m 35 (pr x e) (q32 L.length)) 31 L.length (q32 x.1)) 32 L.length (q32 x.2)) 33 L.length (q32 c)) 34 L.length (q32 f)) 23 29 (q32 (L.length + 1)), ?_, ⟨?_, fun i hi => ?_, ?_⟩, rfl, fun a k p1 p2 => ?_⟩
  · unfold n_X10_meets nb_X10_meets_0
    rw [sp_at hx, Option.bind_some, ← pr_0]
    exact i1
  · rw [hlen, wI_s, Int.natCast_add]; rfl
  · rw [hlen] at hi
    by_cases ci : i = L.length
    · subst ci
      dsimp only
      rw [gt_e, if_pos rfl, if_pos rfl]
      refine ⟨?_, ?_, ?_, ?_⟩
      · simp (disch := omega) only [Option.bind_some, bindv, bindv0, bind2_s, bind3_s, ↓reduceIte, Bool.false_eq_true, rZM_0, rZM_1, rZP_0, rZP_1, ptZ_0, ptZ_1, c32i, c64i, ncI, Int.natCast_add, Int.natCast_mul, q32_neg, q64_neg, q32_add, q32_sub, q32_mul, q64_add, q64_sub, q64_mul, q32_64i, q64_32, q32_lt_t, q32_lt_f, q32_le_t, q32_le_f, q32_eq_t, q32_eq_f, q64_lt_t, q64_lt_f, q64_le_t, q64_le_f, q64_eq_t, q64_eq_f, rdI_i, rdL_i, rdR_i, rdN_i, stI_i, stL_i, stR_i, wI_s, wI_n, wL_s, wL_n, wI_2, wI_3, wL_1, wL_3, wR_1, wR_2, Int.toNat_natCast, tnO, tn_add, tn_sub, tn_mul, Nat.add_sub_cancel, Nat.add_zero, Nat.zero_add, lnO, win_t, win_f]
      · simp (disch := omega) only [Option.bind_some, bindv, bindv0, bind2_s, bind3_s, ↓reduceIte, Bool.false_eq_true, rZM_0, rZM_1, rZP_0, rZP_1, ptZ_0, ptZ_1, c32i, c64i, ncI, Int.natCast_add, Int.natCast_mul, q32_neg, q64_neg, q32_add, q32_sub, q32_mul, q64_add, q64_sub, q64_mul, q32_64i, q64_32, q32_lt_t, q32_lt_f, q32_le_t, q32_le_f, q32_eq_t, q32_eq_f, q64_lt_t, q64_lt_f, q64_le_t, q64_le_f, q64_eq_t, q64_eq_f, rdI_i, rdL_i, rdR_i, rdN_i, stI_i, stL_i, stR_i, wI_s, wI_n, wL_s, wL_n, wI_2, wI_3, wL_1, wL_3, wR_1, wR_2, Int.toNat_natCast, tnO, tn_add, tn_sub, tn_mul, Nat.add_sub_cancel, Nat.add_zero, Nat.zero_add, lnO, win_t, win_f]
      · simp (disch := omega) only [Option.bind_some, bindv, bindv0, bind2_s, bind3_s, ↓reduceIte, Bool.false_eq_true, rZM_0, rZM_1, rZP_0, rZP_1, ptZ_0, ptZ_1, c32i, c64i, ncI, Int.natCast_add, Int.natCast_mul, q32_neg, q64_neg, q32_add, q32_sub, q32_mul, q64_add, q64_sub, q64_mul, q32_64i, q64_32, q32_lt_t, q32_lt_f, q32_le_t, q32_le_f, q32_eq_t, q32_eq_f, q64_lt_t, q64_lt_f, q64_le_t, q64_le_f, q64_eq_t, q64_eq_f, rdI_i, rdL_i, rdR_i, rdN_i, stI_i, stL_i, stR_i, wI_s, wI_n, wL_s, wL_n, wI_2, wI_3, wL_1, wL_3, wR_1, wR_2, Int.toNat_natCast, tnO, tn_add, tn_sub, tn_mul, Nat.add_sub_cancel, Nat.add_zero, Nat.zero_add, lnO, win_t, win_f]
      · simp (disch := omega) only [Option.bind_some, bindv, bindv0, bind2_s, bind3_s, ↓reduceIte, Bool.false_eq_true, rZM_0, rZM_1, rZP_0, rZP_1, ptZ_0, ptZ_1, c32i, c64i, ncI, Int.natCast_add, Int.natCast_mul, q32_neg, q64_neg, q32_add, q32_sub, q32_mul, q64_add, q64_sub, q64_mul, q32_64i, q64_32, q32_lt_t, q32_lt_f, q32_le_t, q32_le_f, q32_eq_t, q32_eq_f, q64_lt_t, q64_lt_f, q64_le_t, q64_le_f, q64_eq_t, q64_eq_f, rdI_i, rdL_i, rdR_i, rdN_i, stI_i, stL_i, stR_i, wI_s, wI_n, wL_s, wL_n, wI_2, wI_3, wL_1, wL_3, wR_1, wR_2, Int.toNat_natCast, tnO, tn_add, tn_sub, tn_mul, Nat.add_sub_cancel, Nat.add_zero, Nat.zero_add, lnO, win_t, win_f]
    · have hi' : i < L.length := by omega
      obtain ⟨e1, e2, e3, e4⟩ := h2 i hi'
      dsimp only
      rw [gt_l hi', if_neg ci, if_neg ci]
      refine ⟨?_, ?_, ?_, ?_⟩
      · simp (disch := omega) only [Option.bind_some, bindv, bindv0, bind2_s, bind3_s, ↓reduceIte, Bool.false_eq_true, rZM_0, rZM_1, rZP_0, rZP_1, ptZ_0, ptZ_1, c32i, c64i, ncI, Int.natCast_add, Int.natCast_mul, q32_neg, q64_neg, q32_add, q32_sub, q32_mul, q64_add, q64_sub, q64_mul, q32_64i, q64_32, q32_lt_t, q32_lt_f, q32_le_t, q32_le_f, q32_eq_t, q32_eq_f, q64_lt_t, q64_lt_f, q64_le_t, q64_le_f, q64_eq_t, q64_eq_f, rdI_i, rdL_i, rdR_i, rdN_i, stI_i, stL_i, stR_i, wI_s, wI_n, wL_s, wL_n, wI_2, wI_3, wL_1, wL_3, wR_1, wR_2, Int.toNat_natCast, tnO, tn_add, tn_sub, tn_mul, Nat.add_sub_cancel, Nat.add_zero, Nat.zero_add, lnO, win_t, win_f, e1]
      · simp (disch := omega) only [Option.bind_some, bindv, bindv0, bind2_s, bind3_s, ↓reduceIte, Bool.false_eq_true, rZM_0, rZM_1, rZP_0, rZP_1, ptZ_0, ptZ_1, c32i, c64i, ncI, Int.natCast_add, Int.natCast_mul, q32_neg, q64_neg, q32_add, q32_sub, q32_mul, q64_add, q64_sub, q64_mul, q32_64i, q64_32, q32_lt_t, q32_lt_f, q32_le_t, q32_le_f, q32_eq_t, q32_eq_f, q64_lt_t, q64_lt_f, q64_le_t, q64_le_f, q64_eq_t, q64_eq_f, rdI_i, rdL_i, rdR_i, rdN_i, stI_i, stL_i, stR_i, wI_s, wI_n, wL_s, wL_n, wI_2, wI_3, wL_1, wL_3, wR_1, wR_2, Int.toNat_natCast, tnO, tn_add, tn_sub, tn_mul, Nat.add_sub_cancel, Nat.add_zero, Nat.zero_add, lnO, win_t, win_f, e2]
      · simp (disch := omega) only [Option.bind_some, bindv, bindv0, bind2_s, bind3_s, ↓reduceIte, Bool.false_eq_true, rZM_0, rZM_1, rZP_0, rZP_1, ptZ_0, ptZ_1, c32i, c64i, ncI, Int.natCast_add, Int.natCast_mul, q32_neg, q64_neg, q32_add, q32_sub, q32_mul, q64_add, q64_sub, q64_mul, q32_64i, q64_32, q32_lt_t, q32_lt_f, q32_le_t, q32_le_f, q32_eq_t, q32_eq_f, q64_lt_t, q64_lt_f, q64_le_t, q64_le_f, q64_eq_t, q64_eq_f, rdI_i, rdL_i, rdR_i, rdN_i, stI_i, stL_i, stR_i, wI_s, wI_n, wL_s, wL_n, wI_2, wI_3, wL_1, wL_3, wR_1, wR_2, Int.toNat_natCast, tnO, tn_add, tn_sub, tn_mul, Nat.add_sub_cancel, Nat.add_zero, Nat.zero_add, lnO, win_t, win_f, e3]
      · simp (disch := omega) only [Option.bind_some, bindv, bindv0, bind2_s, bind3_s, ↓reduceIte, Bool.false_eq_true, rZM_0, rZM_1, rZP_0, rZP_1, ptZ_0, ptZ_1, c32i, c64i, ncI, Int.natCast_add, Int.natCast_mul, q32_neg, q64_neg, q32_add, q32_sub, q32_mul, q64_add, q64_sub, q64_mul, q32_64i, q64_32, q32_lt_t, q32_lt_f, q32_le_t, q32_le_f, q32_eq_t, q32_eq_f, q64_lt_t, q64_lt_f, q64_le_t, q64_le_f, q64_eq_t, q64_eq_f, rdI_i, rdL_i, rdR_i, rdN_i, stI_i, stL_i, stR_i, wI_s, wI_n, wL_s, wL_n, wI_2, wI_3, wL_1, wL_3, wR_1, wR_2, Int.toNat_natCast, tnO, tn_add, tn_sub, tn_mul, Nat.add_sub_cancel, Nat.add_zero, Nat.zero_add, lnO, win_t, win_f, e4]
  · refine ht.put (by omega) e1 e2 e3 ?_ (fun i hi => ?_)
    · simp (disch := omega) only [Option.bind_some, bindv, bindv0, bind2_s, bind3_s, ↓reduceIte, Bool.false_eq_true, rZM_0, rZM_1, rZP_0, rZP_1, ptZ_0, ptZ_1, c32i, c64i, ncI, Int.natCast_add, Int.natCast_mul, q32_neg, q64_neg, q32_add, q32_sub, q32_mul, q64_add, q64_sub, q64_mul, q32_64i, q64_32, q32_lt_t, q32_lt_f, q32_le_t, q32_le_f, q32_eq_t, q32_eq_f, q64_lt_t, q64_lt_f, q64_le_t, q64_le_f, q64_eq_t, q64_eq_f, rdI_i, rdL_i, rdR_i, rdN_i, stI_i, stL_i, stR_i, wI_s, wI_n, wL_s, wL_n, wI_2, wI_3, wL_1, wL_3, wR_1, wR_2, Int.toNat_natCast, tnO, tn_add, tn_sub, tn_mul, Nat.add_sub_cancel, Nat.add_zero, Nat.zero_add, lnO, win_t, win_f]
    · simp (disch := omega) only [Option.bind_some, bindv, bindv0, bind2_s, bind3_s, ↓reduceIte, Bool.false_eq_true, rZM_0, rZM_1, rZP_0, rZP_1, ptZ_0, ptZ_1, c32i, c64i, ncI, Int.natCast_add, Int.natCast_mul, q32_neg, q64_neg, q32_add, q32_sub, q32_mul, q64_add, q64_sub, q64_mul, q32_64i, q64_32, q32_lt_t, q32_lt_f, q32_le_t, q32_le_f, q32_eq_t, q32_eq_f, q64_lt_t, q64_lt_f, q64_le_t, q64_le_f, q64_eq_t, q64_eq_f, rdI_i, rdL_i, rdR_i, rdN_i, stI_i, stL_i, stR_i, wI_s, wI_n, wL_s, wL_n, wI_2, wI_3, wL_1, wL_3, wR_1, wR_2, Int.toNat_natCast, tnO, tn_add, tn_sub, tn_mul, Nat.add_sub_cancel, Nat.add_zero, Nat.zero_add, lnO, win_t, win_f]
  · simp (disch := omega) only [Option.bind_some, bindv, bindv0, bind2_s, bind3_s, ↓reduceIte, Bool.false_eq_true, rZM_0, rZM_1, rZP_0, rZP_1, ptZ_0, ptZ_1, c32i, c64i, ncI, Int.natCast_add, Int.natCast_mul, q32_neg, q64_neg, q32_add, q32_sub, q32_mul, q64_add, q64_sub, q64_mul, q32_64i, q64_32, q32_lt_t, q32_lt_f, q32_le_t, q32_le_f, q32_eq_t, q32_eq_f, q64_lt_t, q64_lt_f, q64_le_t, q64_le_f, q64_eq_t, q64_eq_f, rdI_i, rdL_i, rdR_i, rdN_i, stI_i, stL_i, stR_i, wI_s, wI_n, wL_s, wL_n, wI_2, wI_3, wL_1, wL_3, wR_1, wR_2, Int.toNat_natCast, tnO, tn_add, tn_sub, tn_mul, Nat.add_sub_cancel, Nat.add_zero, Nat.zero_add, lnO, win_t, win_f]
theorem forgL {F : Nat} {s : List Sh} (hp : ∃ t, s = sB ++ t) : ∀ k i fuel, i + k = 16384 → k < fuel → ∀ m : Mem, RF m → (∀ j, j < i → m.1 35 j = q32 (-1)) → ∃ m', nl_X10_forgets_2 F s fuel m 23 (q32 (i : Nat)) = some ((), m') ∧ (∀ j, j < 16384 → m'.1 35 j = q32 (-1)) ∧ m'.1 23 29 = q32 0 ∧ m'.2 = m.2 ∧ ∀ a k, a ≠ 35 → (a ≠ 23 ∨ k ≠ 29) → m'.1 a k = m.1 a k := by
  have l35 := ln35 hp
  intro k
  induction k with
  | zero =>
    intro i fuel hi hfu m hr h
    obtain ⟨fuel, rfl⟩ : ∃ f, fuel = f + 1 := ⟨fuel - 1, by omega⟩
    refine ⟨wI m 23 29 (q32 0), ?_, fun j hj => ?_, wI_s .., rfl, fun a k p1 p2 => ?_⟩
    · show nb_X10_forgets_2 F s (nl_X10_forgets_2 F s fuel) m 23 _ = _
      unfold nb_X10_forgets_2
      simp (disch := omega) only [Option.bind_some, bindv, bindv0, bind2_s, bind3_s, ↓reduceIte, Bool.false_eq_true, rZM_0, rZM_1, rZP_0, rZP_1, ptZ_0, ptZ_1, c32i, c64i, ncI, Int.natCast_add, Int.natCast_mul, q32_neg, q64_neg, q32_add, q32_sub, q32_mul, q64_add, q64_sub, q64_mul, q32_64i, q64_32, q32_lt_t, q32_lt_f, q32_le_t, q32_le_f, q32_eq_t, q32_eq_f, q64_lt_t, q64_lt_f, q64_le_t, q64_le_f, q64_eq_t, q64_eq_f, rdI_i, rdL_i, rdR_i, rdN_i, stI_i, stL_i, stR_i, wI_s, wI_n, wL_s, wL_n, wI_2, wI_3, wL_1, wL_3, wR_1, wR_2, Int.toNat_natCast, tnO, tn_add, tn_sub, tn_mul, Nat.add_sub_cancel, Nat.add_zero, Nat.zero_add, lnO, win_t, win_f]
    · rw [wI_n (by omega)]; exact h j (by omega)
    · rw [wI_n (by omega)]
  | succ k ih =>
    intro i fuel hi hfu m hr h
    obtain ⟨fuel, rfl⟩ : ∃ f, fuel = f + 1 := ⟨fuel - 1, by omega⟩
    have r28 := rf23_28 hr
    obtain ⟨m', i1, i2, i3, i4, i5⟩ := ih (i + 1) fuel (by omega) (by omega) (wI m 35 i (q32 (-1))) (hr.same rfl) (fun j hj => by
      by_cases c : j = i
      · rw [c, wI_s]
      · rw [wI_n (by omega)]; exact h j (by omega))
    refine ⟨m', ?_, i2, i3, i4, fun a k p1 p2 => by rw [i5 a k p1 p2, wI_n (by omega)]⟩
    rw [← i1, Int.natCast_add]
    show nb_X10_forgets_2 F s (nl_X10_forgets_2 F s fuel) m 23 _ = _
    unfold nb_X10_forgets_2
    simp (disch := omega) only [Option.bind_some, bindv, bindv0, bind2_s, bind3_s, ↓reduceIte, Bool.false_eq_true, rZM_0, rZM_1, rZP_0, rZP_1, ptZ_0, ptZ_1, c32i, c64i, ncI, Int.natCast_add, Int.natCast_mul, q32_neg, q64_neg, q32_add, q32_sub, q32_mul, q64_add, q64_sub, q64_mul, q32_64i, q64_32, q32_lt_t, q32_lt_f, q32_le_t, q32_le_f, q32_eq_t, q32_eq_f, q64_lt_t, q64_lt_f, q64_le_t, q64_le_f, q64_eq_t, q64_eq_f, rdI_i, rdL_i, rdR_i, rdN_i, stI_i, stL_i, stR_i, wI_s, wI_n, wL_s, wL_n, wI_2, wI_3, wL_1, wL_3, wR_1, wR_2, Int.toNat_natCast, tnO, tn_add, tn_sub, tn_mul, Nat.add_sub_cancel, Nat.add_zero, Nat.zero_add, lnO, win_t, win_f, r28]
    first | done | rfl
theorem forg10 {F : Nat} (hF : 20000 ≤ F) {s : List Sh} {m : Mem} (hp : ∃ t, s = sB ++ t) (hr : RF m) (C D : Nat → Int) : ∃ m', n_X10_forgets F s m 23 = some ((), m') ∧ MG m' [] C D ∧ m'.2 = m.2 ∧ ∀ a k, a ≠ 35 → (a ≠ 23 ∨ k ≠ 29) → m'.1 a k = m.1 a k := by
  obtain ⟨m', i1, i2, i3, i4, i5⟩ := forgL (F := F) hp 16384 0 F (by omega) (by omega) m hr (fun j hj => by omega)
  refine ⟨m', i1, ⟨i3, fun i hi => absurd hi (Nat.not_lt_zero _), fun i hi => Or.inl (i2 i hi), fun j hj => absurd hj (Nat.not_lt_zero _), ?_⟩, i4, i5⟩
  rw [emp_all 16384 i2]
  rfl
