/-! floors that were come to: the class's chains -/
def gt (L : List FR) (i : Nat) : FR := L.getD i (0, 1)
theorem gt_l {L R : List FR} {i : Nat} (h : i < L.length) : gt (L ++ R) i = gt L i := by
  unfold gt; rw [List.getD_eq_getElem?_getD, List.getD_eq_getElem?_getD, List.getElem?_append_left h]
theorem gt_r {L R : List FR} {i : Nat} : gt (L ++ R) (L.length + i) = gt R i := by
  unfold gt; rw [List.getD_eq_getElem?_getD, List.getD_eq_getElem?_getD, List.getElem?_append_right (by omega), Nat.add_sub_cancel_left]
theorem gt_e {L : List FR} {x : FR} : gt (L ++ [x]) L.length = x := by
  have := gt_r (L := L) (R := [x]) (i := 0)
  rw [Nat.add_zero] at this
  exact this
theorem gt_mem {L : List FR} {i : Nat} (h : i < L.length) : gt L i ∈ L := by
  unfold gt; rw [List.getD_eq_getElem?_getD, List.getElem?_eq_getElem h]; exact List.getElem_mem h
theorem mem_gt {L : List FR} {x : FR} (h : x ∈ L) : ∃ i, i < L.length ∧ gt L i = x := by
  obtain ⟨i, hi, e⟩ := List.mem_iff_getElem.mp h
  exact ⟨i, hi, by unfold gt; rw [List.getD_eq_getElem?_getD, List.getElem?_eq_getElem hi]; exact e⟩
theorem and_b (a : Int32) : 0 ≤ (a &&& 8191).toInt ∧ (a &&& 8191).toInt < 8192 := by
  have h : (a &&& 8191).toBitVec.toNat ≤ 8191 := by
    rw [Int32.toBitVec_and, BitVec.toNat_and]
    exact Nat.and_le_right
  have e : (a &&& 8191).toInt = ((a &&& 8191).toBitVec.toNat : Int) := by
    show (a &&& 8191).toBitVec.toInt = _
    exact BitVec.toInt_eq_toNat_of_lt (by omega)
  omega
def HDv (x : FR) : Int32 := ((q32 x.1 * 31 + q32 x.2 * 1000003) ^^^ ushr (q32 x.1 * 31 + q32 x.2 * 1000003) 15) &&& 8191
def HD (x : FR) : Nat := (HDv x).toInt.toNat
theorem hd_at (x : FR) : m_X1_headOf (q32 x.1) (q32 x.2) = some (q32 (HD x)) := by
  have h := and_b ((q32 x.1 * 31 + q32 x.2 * 1000003) ^^^ ushr (q32 x.1 * 31 + q32 x.2 * 1000003) 15)
  show some (HDv x) = some (q32 (HD x))
  unfold HD
  rw [Int.toNat_of_nonneg (show 0 ≤ (HDv x).toInt from h.1)]
  exact congrArg some (Int32.ofInt_toInt (HDv x)).symm
theorem hd_lt (x : FR) : HD x < 8192 := by
  have h := and_b ((q32 x.1 * 31 + q32 x.2 * 1000003) ^^^ ushr (q32 x.1 * 31 + q32 x.2 * 1000003) 15)
  have : (HDv x).toInt < 8192 := h.2
  unfold HD
  omega
def prv (E : Nat → FR) (h : Nat) : Nat → Int
  | 0 => -1
  | n + 1 => if HD (E n) = h then (n : Int) else prv E h n
theorem prv_c {E E' : Nat → FR} {h : Nat} : ∀ k, (∀ i, i < k → E i = E' i) → prv E h k = prv E' h k := by
  intro k
  induction k with
  | zero => intro _; rfl
  | succ k ih =>
    intro e
    unfold prv
    rw [e k (by omega), ih (fun i hi => e i (by omega))]
theorem prv_b {E : Nat → FR} {h : Nat} : ∀ k, -1 ≤ prv E h k ∧ prv E h k < k := by
  intro k
  induction k with
  | zero => exact ⟨by show (-1 : Int) ≤ -1; omega, by show (-1 : Int) < 0; omega⟩
  | succ k ih =>
    unfold prv
    split <;> omega
def FLS (tp : Int) (L : List FR) : Prop := ∀ x ∈ L, FLR tp x.1 x.2
theorem FLS.at {tp : Int} {L : List FR} (h : FLS tp L) {i : Nat} (hi : i < L.length) : FLR tp (gt L i).1 (gt L i).2 := h _ (gt_mem hi)
theorem FLS.ap {tp : Int} {L R : List FR} (h : FLS tp L) (h2 : FLS tp R) : FLS tp (L ++ R) := fun x hx => by
  rcases List.mem_append.mp hx with h' | h'
  · exact h x h'
  · exact h2 x h'
theorem FLS.one {tp : Int} {x : FR} (h : FLR tp x.1 x.2) : FLS tp [x] := fun y hy => by rw [List.mem_singleton.mp hy]; exact h
theorem FLR.b {tp : Int} {x : FR} (h : FLR tp x.1 x.2) : 0 ≤ x.1 ∧ x.1 ≤ 1000000 ∧ 1 ≤ x.2 ∧ x.2 ≤ 1000000 := by unfold FLR at h; omega
def LG (m : Mem) (q : Nat) (L : List FR) (C : Nat → Int) : Prop := L.length ≤ 9331 ∧ m.1 (q + 1) 4 = q32 L.length ∧ (∀ i, i < L.length → m.1 (q + 2) i = q32 (gt L i).1 ∧ m.1 (q + 3) i = q32 (gt L i).2 ∧ m.1 (q + 4) i = q32 (C i) ∧ m.1 (q + 5) i = q32 (prv (gt L) (HD (gt L i)) i)) ∧ ∀ h, h < 8192 → m.1 (q + 6) h = q32 (prv (gt L) h L.length)
theorem LG.k {m m' : Mem} {q : Nat} {L : List FR} {C : Nat → Int} (h : LG m q L C) (e : ∀ a k, q < a → a < q + 7 → m'.1 a k = m.1 a k) : LG m' q L C := by
  obtain ⟨h1, h2, h3, h4⟩ := h
  refine ⟨h1, by rw [e _ _ (by omega) (by omega)]; exact h2, fun i hi => ?_, fun j hj => by rw [e _ _ (by omega) (by omega)]; exact h4 j hj⟩
  rw [e _ _ (by omega) (by omega), e _ _ (by omega) (by omega), e _ _ (by omega) (by omega), e _ _ (by omega) (by omega)]
  exact h3 i hi
theorem findL {F : Nat} {s : List Sh} {m : Mem} {q : Nat} {tp : Int} {L : List FR} {C : Nat → Int} (hq : QB s m q) (hL : LG m q L C) (hf : FLS tp L) {x : FR} (hx : FLR tp x.1 x.2) {b e : Nat} (hb : b ≤ 9331) (he : e ≤ L.length) : ∀ k, k ≤ L.length → ∀ c fuel, c + k ≤ 9331 → k < fuel → ∃ r : Int, nl_X1_find_15 F s m fuel (q + 1) (q32 x.1) (q32 x.2) (q32 b) (q32 e) (q32 (prv (gt L) (HD x) k)) (q32 (c : Nat)) = some (q32 r) ∧ ((r = -1 ∧ ∀ i, b ≤ i → i < e → i < k → gt L i ≠ x) ∨ ∃ j : Nat, r = j ∧ b ≤ j ∧ j < e ∧ gt L j = x) := by
  obtain ⟨q1, q2, q3, q4, q5, q6, q7, q8, q9, q10, q11, q12, q13, l2, l3, l4, l5, l6, l7, l8, l9⟩ := hq
  obtain ⟨h1, h2, h3, h4⟩ := hL
  have xb := hx.b
  intro k
  induction k with
  | zero =>
    intro hk c fuel hc hfu
    obtain ⟨fuel, rfl⟩ : ∃ f, fuel = f + 1 := ⟨fuel - 1, by omega⟩
    refine ⟨-1, ?_, Or.inl ⟨rfl, fun i _ _ h => by omega⟩⟩
    show nb_X1_find_15 F s (nl_X1_find_15 F s m fuel) m (q + 1) _ _ _ _ (q32 (-1)) _ = _
    unfold nb_X1_find_15
    by_cases c9 : 9331 ≤ c
    · simp (disch := omega) only [Option.bind_some, bindv, bindv0, bind2_s, bind3_s, ↓reduceIte, Bool.false_eq_true, rZM_0, rZM_1, rZP_0, rZP_1, ptZ_0, ptZ_1, c32i, c64i, ncI, Int.natCast_add, Int.natCast_mul, q32_neg, q64_neg, q32_add, q32_sub, q32_mul, q64_add, q64_sub, q64_mul, q32_64i, q64_32, q32_lt_t, q32_lt_f, q32_le_t, q32_le_f, q32_eq_t, q32_eq_f, q64_lt_t, q64_lt_f, q64_le_t, q64_le_f, q64_eq_t, q64_eq_f, rdI_i, rdL_i, rdR_i, rdN_i, stI_i, stL_i, stR_i, wI_s, wI_n, wL_s, wL_n, wI_2, wI_3, wL_1, wL_3, wR_1, wR_2, Int.toNat_natCast, tnO, tn_add, tn_sub, tn_mul, Nat.add_sub_cancel, Nat.add_zero, Nat.zero_add, lnO, win_t, win_f]
    · simp (disch := omega) only [Option.bind_some, bindv, bindv0, bind2_s, bind3_s, ↓reduceIte, Bool.false_eq_true, rZM_0, rZM_1, rZP_0, rZP_1, ptZ_0, ptZ_1, c32i, c64i, ncI, Int.natCast_add, Int.natCast_mul, q32_neg, q64_neg, q32_add, q32_sub, q32_mul, q64_add, q64_sub, q64_mul, q32_64i, q64_32, q32_lt_t, q32_lt_f, q32_le_t, q32_le_f, q32_eq_t, q32_eq_f, q64_lt_t, q64_lt_f, q64_le_t, q64_le_f, q64_eq_t, q64_eq_f, rdI_i, rdL_i, rdR_i, rdN_i, stI_i, stL_i, stR_i, wI_s, wI_n, wL_s, wL_n, wI_2, wI_3, wL_1, wL_3, wR_1, wR_2, Int.toNat_natCast, tnO, tn_add, tn_sub, tn_mul, Nat.add_sub_cancel, Nat.add_zero, Nat.zero_add, lnO, win_t, win_f]
  | succ k ih =>
    intro hk c fuel hc hfu
    unfold prv
    by_cases hh : HD (gt L k) = HD x
    · rw [if_pos hh]
      obtain ⟨fuel, rfl⟩ : ∃ f, fuel = f + 1 := ⟨fuel - 1, by omega⟩
      obtain ⟨e1, e2, e3, e4⟩ := h3 k (by omega)
      rw [hh] at e4
      obtain ⟨r, i1, i2⟩ := ih (by omega) (c + 1) fuel (by omega) (by omega)
      rw [Int.natCast_add] at i1
      have yb := (hf.at (i := k) (by omega)).b
      have pb := prv_b (E := gt L) (h := HD x) k
      by_cases c1 : k < b
      · refine ⟨-1, ?_, Or.inl ⟨rfl, fun i _ _ h => by omega⟩⟩
        show nb_X1_find_15 F s (nl_X1_find_15 F s m fuel) m (q + 1) _ _ _ _ _ _ = _
        unfold nb_X1_find_15
        simp (disch := omega) only [Option.bind_some, bindv, bindv0, bind2_s, bind3_s, ↓reduceIte, Bool.false_eq_true, rZM_0, rZM_1, rZP_0, rZP_1, ptZ_0, ptZ_1, c32i, c64i, ncI, Int.natCast_add, Int.natCast_mul, q32_neg, q64_neg, q32_add, q32_sub, q32_mul, q64_add, q64_sub, q64_mul, q32_64i, q64_32, q32_lt_t, q32_lt_f, q32_le_t, q32_le_f, q32_eq_t, q32_eq_f, q64_lt_t, q64_lt_f, q64_le_t, q64_le_f, q64_eq_t, q64_eq_f, rdI_i, rdL_i, rdR_i, rdN_i, stI_i, stL_i, stR_i, wI_s, wI_n, wL_s, wL_n, wI_2, wI_3, wL_1, wL_3, wR_1, wR_2, Int.toNat_natCast, tnO, tn_add, tn_sub, tn_mul, Nat.add_sub_cancel, Nat.add_zero, Nat.zero_add, lnO, win_t, win_f]
      · by_cases c2 : e ≤ k
        · refine ⟨r, ?_, ?_⟩
          · show nb_X1_find_15 F s (nl_X1_find_15 F s m fuel) m (q + 1) _ _ _ _ _ _ = _
            rw [← i1]
            unfold nb_X1_find_15 nb_X1_find_66
            simp (disch := omega) only [Option.bind_some, bindv, bindv0, bind2_s, bind3_s, ↓reduceIte, Bool.false_eq_true, rZM_0, rZM_1, rZP_0, rZP_1, ptZ_0, ptZ_1, c32i, c64i, ncI, Int.natCast_add, Int.natCast_mul, q32_neg, q64_neg, q32_add, q32_sub, q32_mul, q64_add, q64_sub, q64_mul, q32_64i, q64_32, q32_lt_t, q32_lt_f, q32_le_t, q32_le_f, q32_eq_t, q32_eq_f, q64_lt_t, q64_lt_f, q64_le_t, q64_le_f, q64_eq_t, q64_eq_f, rdI_i, rdL_i, rdR_i, rdN_i, stI_i, stL_i, stR_i, wI_s, wI_n, wL_s, wL_n, wI_2, wI_3, wL_1, wL_3, wR_1, wR_2, Int.toNat_natCast, tnO, tn_add, tn_sub, tn_mul, Nat.add_sub_cancel, Nat.add_zero, Nat.zero_add, lnO, win_t, win_f, q11, e4]
            first | done | rfl
          · rcases i2 with ⟨i2, i3⟩ | i2
            · exact Or.inl ⟨i2, fun i p1 p2 p3 => i3 i p1 p2 (by omega)⟩
            · exact Or.inr i2
        · by_cases c3 : gt L k = x
          · refine ⟨k, ?_, Or.inr ⟨k, rfl, by omega, by omega, c3⟩⟩
            show nb_X1_find_15 F s (nl_X1_find_15 F s m fuel) m (q + 1) _ _ _ _ _ _ = _
            rw [c3] at e1 e2
            unfold nb_X1_find_15
            simp (disch := omega) only [Option.bind_some, bindv, bindv0, bind2_s, bind3_s, ↓reduceIte, Bool.false_eq_true, rZM_0, rZM_1, rZP_0, rZP_1, ptZ_0, ptZ_1, c32i, c64i, ncI, Int.natCast_add, Int.natCast_mul, q32_neg, q64_neg, q32_add, q32_sub, q32_mul, q64_add, q64_sub, q64_mul, q32_64i, q64_32, q32_lt_t, q32_lt_f, q32_le_t, q32_le_f, q32_eq_t, q32_eq_f, q64_lt_t, q64_lt_f, q64_le_t, q64_le_f, q64_eq_t, q64_eq_f, rdI_i, rdL_i, rdR_i, rdN_i, stI_i, stL_i, stR_i, wI_s, wI_n, wL_s, wL_n, wI_2, wI_3, wL_1, wL_3, wR_1, wR_2, Int.toNat_natCast, tnO, tn_add, tn_sub, tn_mul, Nat.add_sub_cancel, Nat.add_zero, Nat.zero_add, lnO, win_t, win_f, q8, q9, e1, e2]
          · refine ⟨r, ?_, ?_⟩
            · show nb_X1_find_15 F s (nl_X1_find_15 F s m fuel) m (q + 1) _ _ _ _ _ _ = _
              rw [← i1]
              unfold nb_X1_find_15 nb_X1_find_66
              by_cases c4 : (gt L k).1 = x.1
              · have c5 : (gt L k).2 ≠ x.2 := fun h => c3 (Prod.ext c4 h)
                rw [c4] at e1
                simp (disch := omega) only [Option.bind_some, bindv, bindv0, bind2_s, bind3_s, ↓reduceIte, Bool.false_eq_true, rZM_0, rZM_1, rZP_0, rZP_1, ptZ_0, ptZ_1, c32i, c64i, ncI, Int.natCast_add, Int.natCast_mul, q32_neg, q64_neg, q32_add, q32_sub, q32_mul, q64_add, q64_sub, q64_mul, q32_64i, q64_32, q32_lt_t, q32_lt_f, q32_le_t, q32_le_f, q32_eq_t, q32_eq_f, q64_lt_t, q64_lt_f, q64_le_t, q64_le_f, q64_eq_t, q64_eq_f, rdI_i, rdL_i, rdR_i, rdN_i, stI_i, stL_i, stR_i, wI_s, wI_n, wL_s, wL_n, wI_2, wI_3, wL_1, wL_3, wR_1, wR_2, Int.toNat_natCast, tnO, tn_add, tn_sub, tn_mul, Nat.add_sub_cancel, Nat.add_zero, Nat.zero_add, lnO, win_t, win_f, q8, q9, q11, e1, e2, e4]
                first | done | rfl
              · simp (disch := omega) only [Option.bind_some, bindv, bindv0, bind2_s, bind3_s, ↓reduceIte, Bool.false_eq_true, rZM_0, rZM_1, rZP_0, rZP_1, ptZ_0, ptZ_1, c32i, c64i, ncI, Int.natCast_add, Int.natCast_mul, q32_neg, q64_neg, q32_add, q32_sub, q32_mul, q64_add, q64_sub, q64_mul, q32_64i, q64_32, q32_lt_t, q32_lt_f, q32_le_t, q32_le_f, q32_eq_t, q32_eq_f, q64_lt_t, q64_lt_f, q64_le_t, q64_le_f, q64_eq_t, q64_eq_f, rdI_i, rdL_i, rdR_i, rdN_i, stI_i, stL_i, stR_i, wI_s, wI_n, wL_s, wL_n, wI_2, wI_3, wL_1, wL_3, wR_1, wR_2, Int.toNat_natCast, tnO, tn_add, tn_sub, tn_mul, Nat.add_sub_cancel, Nat.add_zero, Nat.zero_add, lnO, win_t, win_f, q8, q9, q11, e1, e2, e4]
                first | done | rfl
            · rcases i2 with ⟨i2, i3⟩ | i2
              · refine Or.inl ⟨i2, fun i p1 p2 p3 => ?_⟩
                by_cases ci : i = k
                · rw [ci]; exact c3
                · exact i3 i p1 p2 (by omega)
              · exact Or.inr i2
    · rw [if_neg hh]
      obtain ⟨r, i1, i2⟩ := ih (by omega) c fuel (by omega) (by omega)
      refine ⟨r, i1, ?_⟩
      rcases i2 with ⟨i2, i3⟩ | i2
      · refine Or.inl ⟨i2, fun i p1 p2 p3 => ?_⟩
        by_cases ci : i = k
        · rw [ci]; intro h; exact hh (by rw [h])
        · exact i3 i p1 p2 (by omega)
      · exact Or.inr i2
theorem find9 {F : Nat} (hF : 20000 ≤ F) {s : List Sh} {m : Mem} {q : Nat} {tp : Int} {L : List FR} {C : Nat → Int} (hq : QB s m q) (hL : LG m q L C) (hf : FLS tp L) {x : FR} (hx : FLR tp x.1 x.2) {b e : Nat} (hb : b ≤ 9331) (he : e ≤ L.length) : ∃ r : Int, n_X1_find F s m (q + 1) (q32 x.1) (q32 x.2) (q32 b) (q32 e) = some (q32 r) ∧ ((r = -1 ∧ ∀ i, b ≤ i → i < e → gt L i ≠ x) ∨ ∃ j : Nat, r = j ∧ b ≤ j ∧ j < e ∧ gt L j = x) := by
  have hl := hL.1
  obtain ⟨r, i1, i2⟩ := findL (F := F) hq hL hf hx hb he L.length (Nat.le_refl _) 0 F (by omega) (by omega)
  refine ⟨r, ?_, ?_⟩
  · obtain ⟨q1, q2, q3, q4, q5, q6, q7, q8, q9, q10, q11, q12, q13, l2, l3, l4, l5, l6, l7, l8, l9⟩ := hq
    have hh := hL.2.2.2 (HD x) (hd_lt x)
    have hl := hd_lt x
    have hd := hd_at x
    unfold n_X1_find nb_X1_find_0
    simp (disch := omega) only [Option.bind_some, bindv, bindv0, bind2_s, bind3_s, ↓reduceIte, Bool.false_eq_true, rZM_0, rZM_1, rZP_0, rZP_1, ptZ_0, ptZ_1, c32i, c64i, ncI, Int.natCast_add, Int.natCast_mul, q32_neg, q64_neg, q32_add, q32_sub, q32_mul, q64_add, q64_sub, q64_mul, q32_64i, q64_32, q32_lt_t, q32_lt_f, q32_le_t, q32_le_f, q32_eq_t, q32_eq_f, q64_lt_t, q64_lt_f, q64_le_t, q64_le_f, q64_eq_t, q64_eq_f, rdI_i, rdL_i, rdR_i, rdN_i, stI_i, stL_i, stR_i, wI_s, wI_n, wL_s, wL_n, wI_2, wI_3, wL_1, wL_3, wR_1, wR_2, Int.toNat_natCast, tnO, tn_add, tn_sub, tn_mul, Nat.add_sub_cancel, Nat.add_zero, Nat.zero_add, lnO, win_t, win_f, q12, hd, hh]
    exact i1
  · rcases i2 with ⟨i2, i3⟩ | i2
    · exact Or.inl ⟨i2, fun i p1 p2 => i3 i p1 p2 (by omega)⟩
    · exact Or.inr i2
