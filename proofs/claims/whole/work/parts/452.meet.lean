theorem rfindM {F : Nat} (hF : 20000 ≤ F) {s : List Sh} {m : Mem} {q : Nat} {tp : Int} {Z P Q : List FR} {C : Nat → Int} (hq : QB s m q) (hL : LG m q (Z ++ P ++ Q) C) (hf : FLS tp (Z ++ P ++ Q)) {y : FR} (hy : FLR tp y.1 y.2) : (y ∈ P → ∃ r : Int, 0 ≤ r ∧ r ≤ 9331 ∧ n_X1_find F s m (q + 1) (q32 y.1) (q32 y.2) (q32 Z.length) (q32 (Z ++ P).length) = some (q32 r)) ∧ (¬ y ∈ P → n_X1_find F s m (q + 1) (q32 y.1) (q32 y.2) (q32 Z.length) (q32 (Z ++ P).length) = some (q32 (-1))) := by
  have h1 := hL.1
  have hl1 : (Z ++ P).length = Z.length + P.length := List.length_append
  have hl2 : (Z ++ P ++ Q).length = (Z ++ P).length + Q.length := List.length_append
  obtain ⟨r, i1, i2⟩ := find9 hF hq hL hf hy (b := Z.length) (e := (Z ++ P).length) (by omega) (by omega)
  have gi : ∀ i, i < P.length → gt (Z ++ P ++ Q) (Z.length + i) = gt P i := fun i hi => by rw [gt_l (by omega), gt_r]
  refine ⟨fun hm => ?_, fun hm => ?_⟩
  · obtain ⟨i, j1, j2⟩ := mem_gt hm
    rcases i2 with ⟨-, i3⟩ | ⟨j, rfl, p1, p2, p3⟩
    · exact absurd (by rw [gi i j1]; exact j2) (i3 (Z.length + i) (by omega) (by omega))
    · exact ⟨j, by omega, by omega, i1⟩
  · rcases i2 with ⟨rfl, -⟩ | ⟨j, rfl, p1, p2, p3⟩
    · exact i1
    · refine absurd ?_ hm
      have := gi (j - Z.length) (by omega)
      rw [show Z.length + (j - Z.length) = j by omega, p3] at this
      rw [this]
      exact gt_mem (by omega)
theorem LCX_b (P Q : List FR) : ∀ (n i : Nat) (b : Int), -1 ≤ b → b < i → -1 ≤ LCX P Q n i b ∧ LCX P Q n i b < i + n := by
  intro n
  induction n with
  | zero => intro i b h1 h2; exact ⟨h1, by show b < _; omega⟩
  | succ n ih =>
    intro i b h1 h2
    unfold LCX
    split
    · have := ih (i + 1) i (by omega) (by omega); omega
    · have := ih (i + 1) b h1 (by omega); omega
theorem lcL9 {F : Nat} (hF : 20000 ≤ F) {s : List Sh} {m : Mem} {q : Nat} {tp : Int} {Z P Q : List FR} {C : Nat → Int} (hq : QB s m q) (hL : LG m q (Z ++ P ++ Q) C) (hf : FLS tp (Z ++ P ++ Q)) : ∀ (n i fuel : Nat) (b : Int), i + n = Q.length → n < fuel → -1 ≤ b → b < i → nl_X5_leastCommon_6 F s m fuel q (q32 Z.length) (q32 (Z ++ P).length) (q32 (Z ++ P ++ Q).length) (q32 (shf (Z ++ P).length b)) (q32 ((Z ++ P).length + (i : Nat))) = some (q32 (shf (Z ++ P).length (LCX P Q n i b))) := by
  have h1 := hL.1
  have hl2 : (Z ++ P ++ Q).length = (Z ++ P).length + Q.length := List.length_append
  obtain ⟨-, -, -, q4, -, -, -, q8, q9, -, -, -, -, l2, l3, -⟩ := id hq
  intro n
  induction n with
  | zero =>
    intro i fuel b hi hfu hb1 hb2
    obtain ⟨fuel, rfl⟩ : ∃ f, fuel = f + 1 := ⟨fuel - 1, by omega⟩
    show nb_X5_leastCommon_6 F s (nl_X5_leastCommon_6 F s m fuel) m q _ _ _ _ _ = _
    unfold nb_X5_leastCommon_6 LCX
    simp (disch := omega) only [Option.bind_some, bindv, bindv0, bind2_s, bind3_s, ↓reduceIte, Bool.false_eq_true, rZM_0, rZM_1, rZP_0, rZP_1, ptZ_0, ptZ_1, c32i, c64i, ncI, Int.natCast_add, Int.natCast_mul, q32_neg, q64_neg, q32_add, q32_sub, q32_mul, q64_add, q64_sub, q64_mul, q32_64i, q64_32, q32_lt_t, q32_lt_f, q32_le_t, q32_le_f, q32_eq_t, q32_eq_f, q64_lt_t, q64_lt_f, q64_le_t, q64_le_f, q64_eq_t, q64_eq_f, rdI_i, rdL_i, rdR_i, rdN_i, stI_i, stL_i, stR_i, wI_s, wI_n, wL_s, wL_n, wI_2, wI_3, wL_1, wL_3, wR_1, wR_2, Int.toNat_natCast, tnO, tn_add, tn_sub, tn_mul, Nat.add_sub_cancel, Nat.add_zero, Nat.zero_add, lnO, win_t, win_f]
  | succ n ih =>
    intro i fuel b hi hfu hb1 hb2
    obtain ⟨fuel, rfl⟩ : ∃ f, fuel = f + 1 := ⟨fuel - 1, by omega⟩
    have hy := hf.at (i := (Z ++ P).length + i) (by omega)
    obtain ⟨u1, u2, -⟩ := hL.2.2.1 ((Z ++ P).length + i) (by omega)
    rw [gt_r] at hy u1 u2
    have yb := hy.b
    obtain ⟨f1, f2⟩ := rfindM hF hq hL hf hy
    have ei : shf (Z ++ P).length (i : Int) = ((Z ++ P).length : Int) + i := by unfold shf; rw [if_neg (by omega)]
    have en : (((Z ++ P).length : Int) + (i : Int)).toNat = (Z ++ P).length + i := by omega
    have e1 : ((Z ++ P).length : Int) + (i : Int) + 1 = (Z ++ P).length + ((i + 1 : Nat) : Int) := by omega
    have n32 : nb_X5_leastCommon_32 F s (nl_X5_leastCommon_6 F s m fuel) m q (q32 Z.length) (q32 (Z ++ P).length) (q32 (Z ++ P ++ Q).length) (q32 (shf (Z ++ P).length b)) (q32 ((Z ++ P).length + (i : Nat))) = nl_X5_leastCommon_6 F s m fuel q (q32 Z.length) (q32 (Z ++ P).length) (q32 (Z ++ P ++ Q).length) (q32 (shf (Z ++ P).length (if gt Q i ∈ P then (i : Int) else b))) (q32 ((Z ++ P).length + ((i + 1 : Nat) : Int))) := by
      unfold nb_X5_leastCommon_32 nb_X5_leastCommon_69
      by_cases cP : gt Q i ∈ P
      · obtain ⟨r, r1, r2, r3⟩ := f1 cP
        rw [if_pos cP, ei, ← e1]
        simp (disch := omega) only [Option.bind_some, bindv, bindv0, bind2_s, bind3_s, ↓reduceIte, Bool.false_eq_true, rZM_0, rZM_1, rZP_0, rZP_1, ptZ_0, ptZ_1, c32i, c64i, ncI, Int.natCast_add, Int.natCast_mul, q32_neg, q64_neg, q32_add, q32_sub, q32_mul, q64_add, q64_sub, q64_mul, q32_64i, q64_32, q32_lt_t, q32_lt_f, q32_le_t, q32_le_f, q32_eq_t, q32_eq_f, q64_lt_t, q64_lt_f, q64_le_t, q64_le_f, q64_eq_t, q64_eq_f, rdI_i, rdL_i, rdR_i, rdN_i, stI_i, stL_i, stR_i, wI_s, wI_n, wL_s, wL_n, wI_2, wI_3, wL_1, wL_3, wR_1, wR_2, Int.toNat_natCast, q4, q8, q9, en, u1, u2, r3]
      · have r3 := f2 cP
        rw [if_neg cP, ← e1]
        simp (disch := omega) only [Option.bind_some, bindv, bindv0, bind2_s, bind3_s, ↓reduceIte, Bool.false_eq_true, rZM_0, rZM_1, rZP_0, rZP_1, ptZ_0, ptZ_1, c32i, c64i, ncI, Int.natCast_add, Int.natCast_mul, q32_neg, q64_neg, q32_add, q32_sub, q32_mul, q64_add, q64_sub, q64_mul, q32_64i, q64_32, q32_lt_t, q32_lt_f, q32_le_t, q32_le_f, q32_eq_t, q32_eq_f, q64_lt_t, q64_lt_f, q64_le_t, q64_le_f, q64_eq_t, q64_eq_f, rdI_i, rdL_i, rdR_i, rdN_i, stI_i, stL_i, stR_i, wI_s, wI_n, wL_s, wL_n, wI_2, wI_3, wL_1, wL_3, wR_1, wR_2, Int.toNat_natCast, q4, q8, q9, en, u1, u2, r3]
    have n69 : nb_X5_leastCommon_69 F s (nl_X5_leastCommon_6 F s m fuel) m q (q32 Z.length) (q32 (Z ++ P).length) (q32 (Z ++ P ++ Q).length) (q32 (shf (Z ++ P).length b)) (q32 ((Z ++ P).length + (i : Nat))) = nl_X5_leastCommon_6 F s m fuel q (q32 Z.length) (q32 (Z ++ P).length) (q32 (Z ++ P ++ Q).length) (q32 (shf (Z ++ P).length b)) (q32 ((Z ++ P).length + ((i + 1 : Nat) : Int))) := by
      unfold nb_X5_leastCommon_69
      rw [← e1]
      simp (disch := omega) only [Option.bind_some, bindv, bindv0, bind2_s, bind3_s, ↓reduceIte, Bool.false_eq_true, rZM_0, rZM_1, rZP_0, rZP_1, ptZ_0, ptZ_1, c32i, c64i, ncI, Int.natCast_add, Int.natCast_mul, q32_neg, q64_neg, q32_add, q32_sub, q32_mul, q64_add, q64_sub, q64_mul, q32_64i, q64_32, q32_lt_t, q32_lt_f, q32_le_t, q32_le_f, q32_eq_t, q32_eq_f, q64_lt_t, q64_lt_f, q64_le_t, q64_le_f, q64_eq_t, q64_eq_f, rdI_i, rdL_i, rdR_i, rdN_i, stI_i, stL_i, stR_i, wI_s, wI_n, wL_s, wL_n, wI_2, wI_3, wL_1, wL_3, wR_1, wR_2, Int.toNat_natCast]
    show nb_X5_leastCommon_6 F s (nl_X5_leastCommon_6 F s m fuel) m q _ _ _ _ _ = _
    unfold nb_X5_leastCommon_6 LCX
    by_cases c : b = -1
    · have iht := ih (i + 1) fuel (if gt Q i ∈ P then (i : Int) else b) (by omega) (by omega) (by split <;> omega) (by split <;> omega)
      have ee : (if (b = -1 ∨ fbl (gt Q i) (gt Q b.toNat)) ∧ gt Q i ∈ P then (i : Int) else b) = (if gt Q i ∈ P then (i : Int) else b) := by
        by_cases cP : gt Q i ∈ P
        · rw [if_pos ⟨Or.inl c, cP⟩, if_pos cP]
        · rw [if_neg (fun h => cP h.2), if_neg cP]
      rw [ee, ← iht, ← n32]
      have cs : shf (Z ++ P).length b = -1 := by rw [c]; exact if_pos rfl
      rw [cs]
      simp (disch := omega) only [Option.bind_some, bindv, bindv0, bind2_s, bind3_s, ↓reduceIte, Bool.false_eq_true, rZM_0, rZM_1, rZP_0, rZP_1, ptZ_0, ptZ_1, c32i, c64i, ncI, Int.natCast_add, Int.natCast_mul, q32_neg, q64_neg, q32_add, q32_sub, q32_mul, q64_add, q64_sub, q64_mul, q32_64i, q64_32, q32_lt_t, q32_lt_f, q32_le_t, q32_le_f, q32_eq_t, q32_eq_f, q64_lt_t, q64_lt_f, q64_le_t, q64_le_f, q64_eq_t, q64_eq_f, rdI_i, rdL_i, rdR_i, rdN_i, stI_i, stL_i, stR_i, wI_s, wI_n, wL_s, wL_n, wI_2, wI_3, wL_1, wL_3, wR_1, wR_2, Int.toNat_natCast, tnO, tn_add, tn_sub, tn_mul, Nat.add_sub_cancel, Nat.add_zero, Nat.zero_add, lnO, win_t, win_f]
    · obtain ⟨k, rfl⟩ := Int.eq_ofNat_of_zero_le (show 0 ≤ b by omega)
      have ek : shf (Z ++ P).length (k : Int) = ((Z ++ P).length : Int) + k := by unfold shf; rw [if_neg (by omega)]
      have bl := below9 hq hL hf (i := (Z ++ P).length + i) (j := (Z ++ P).length + k) (by omega) (by omega)
      rw [gt_r, gt_r, Int.natCast_add, Int.natCast_add] at bl
      rw [Int.toNat_natCast]
      by_cases c2 : fbl (gt Q i) (gt Q k)
      · have iht := ih (i + 1) fuel (if gt Q i ∈ P then (i : Int) else k) (by omega) (by omega) (by split <;> omega) (by split <;> omega)
        have ee : (if ((k : Int) = -1 ∨ fbl (gt Q i) (gt Q k)) ∧ gt Q i ∈ P then (i : Int) else k) = (if gt Q i ∈ P then (i : Int) else k) := by
          by_cases cP : gt Q i ∈ P
          · rw [if_pos ⟨Or.inr c2, cP⟩, if_pos cP]
          · rw [if_neg (fun h => cP h.2), if_neg cP]
        rw [ee, ← iht, ← n32]
        rw [if_pos (show _ < _ from c2)] at bl
        rw [ek]
        simp (disch := omega) only [Option.bind_some, bindv, bindv0, bind2_s, bind3_s, ↓reduceIte, Bool.false_eq_true, rZM_0, rZM_1, rZP_0, rZP_1, ptZ_0, ptZ_1, c32i, c64i, ncI, Int.natCast_add, Int.natCast_mul, q32_neg, q64_neg, q32_add, q32_sub, q32_mul, q64_add, q64_sub, q64_mul, q32_64i, q64_32, q32_lt_t, q32_lt_f, q32_le_t, q32_le_f, q32_eq_t, q32_eq_f, q64_lt_t, q64_lt_f, q64_le_t, q64_le_f, q64_eq_t, q64_eq_f, rdI_i, rdL_i, rdR_i, rdN_i, stI_i, stL_i, stR_i, wI_s, wI_n, wL_s, wL_n, wI_2, wI_3, wL_1, wL_3, wR_1, wR_2, Int.toNat_natCast, tnO, tn_add, tn_sub, tn_mul, Nat.add_sub_cancel, Nat.add_zero, Nat.zero_add, lnO, win_t, win_f, q4, bl]
      · have iht := ih (i + 1) fuel k (by omega) (by omega) (by omega) (by omega)
        rw [if_neg (show ¬ (((k : Int) = -1 ∨ fbl (gt Q i) (gt Q k)) ∧ gt Q i ∈ P) from fun h => h.1.elim c c2), ← iht, ← n69]
        rw [if_neg (show ¬ (_ < _) from c2)] at bl
        rw [ek]
        simp (disch := omega) only [Option.bind_some, bindv, bindv0, bind2_s, bind3_s, ↓reduceIte, Bool.false_eq_true, rZM_0, rZM_1, rZP_0, rZP_1, ptZ_0, ptZ_1, c32i, c64i, ncI, Int.natCast_add, Int.natCast_mul, q32_neg, q64_neg, q32_add, q32_sub, q32_mul, q64_add, q64_sub, q64_mul, q32_64i, q64_32, q32_lt_t, q32_lt_f, q32_le_t, q32_le_f, q32_eq_t, q32_eq_f, q64_lt_t, q64_lt_f, q64_le_t, q64_le_f, q64_eq_t, q64_eq_f, rdI_i, rdL_i, rdR_i, rdN_i, stI_i, stL_i, stR_i, wI_s, wI_n, wL_s, wL_n, wI_2, wI_3, wL_1, wL_3, wR_1, wR_2, Int.toNat_natCast, tnO, tn_add, tn_sub, tn_mul, Nat.add_sub_cancel, Nat.add_zero, Nat.zero_add, lnO, win_t, win_f, q4, bl]
theorem lc9 {F : Nat} (hF : 20000 ≤ F) {s : List Sh} {m : Mem} {q : Nat} {tp : Int} {Z P Q : List FR} {C : Nat → Int} (hq : QB s m q) (hL : LG m q (Z ++ P ++ Q) C) (hf : FLS tp (Z ++ P ++ Q)) : n_X5_leastCommon F s m q (q32 Z.length) (q32 (Z ++ P).length) (q32 (Z ++ P ++ Q).length) = some (q32 (shf (Z ++ P).length (LCX P Q Q.length 0 (-1)))) := by
  have h1 := hL.1
  have hl2 : (Z ++ P ++ Q).length = (Z ++ P).length + Q.length := List.length_append
  have := lcL9 hF hq hL hf Q.length 0 F (-1) (by omega) (by omega) (by omega) (by omega)
  rw [← this, show shf (Z ++ P).length (-1) = -1 from if_pos rfl]
  unfold n_X5_leastCommon nb_X5_leastCommon_0
  rw [show (-1 : Int32) = q32 (-1) by simp only [c32i, q32_neg], show ((Z ++ P).length : Int) + ((0 : Nat) : Int) = (Z ++ P).length by omega]
theorem stay9 {F : Nat} {s : List Sh} {ow : Nat → Nat} {nw q : Nat} {al : Nat → Int32} {bc : Nat} {Y : List FR} {en : Nat} (hen : en ≤ Y.length) : ∀ (Q : List FR) fuel i, i + Q.length = en → Q.length < fuel → (∀ j, j < Q.length → gt Y (i + j) = gt Q j) → ∀ (m : Mem) (R : List FR) (C : Nat → Int), RC s m ow nw q al bc → LG m q (Y ++ R) C → Y.length + R.length + Q.length ≤ 9331 → ∃ m' C', nl_X5_stay_2 F s fuel m q (q32 en) (q32 (i : Nat)) = some ((), m') ∧ KCQ q m m' ∧ LG m' q (Y ++ (R ++ Q)) C' := by
  intro Q
  induction Q with
  | nil =>
    intro fuel i hi hfu hQ m R C hc hL hlen
    obtain ⟨fuel, rfl⟩ : ∃ f, fuel = f + 1 := ⟨fuel - 1, by omega⟩
    have hi' : i = en := hi
    refine ⟨m, C, ?_, KCQ.rf m, by rw [List.append_nil]; exact hL⟩
    show nb_X5_stay_2 F s (nl_X5_stay_2 F s fuel) m q _ _ = _
    unfold nb_X5_stay_2
    simp (disch := omega) only [Option.bind_some, bindv, bindv0, bind2_s, bind3_s, ↓reduceIte, Bool.false_eq_true, rZM_0, rZM_1, rZP_0, rZP_1, ptZ_0, ptZ_1, c32i, c64i, ncI, Int.natCast_add, Int.natCast_mul, q32_neg, q64_neg, q32_add, q32_sub, q32_mul, q64_add, q64_sub, q64_mul, q32_64i, q64_32, q32_lt_t, q32_lt_f, q32_le_t, q32_le_f, q32_eq_t, q32_eq_f, q64_lt_t, q64_lt_f, q64_le_t, q64_le_f, q64_eq_t, q64_eq_f, rdI_i, rdL_i, rdR_i, rdN_i, stI_i, stL_i, stR_i, wI_s, wI_n, wL_s, wL_n, wI_2, wI_3, wL_1, wL_3, wR_1, wR_2, Int.toNat_natCast, tnO, tn_add, tn_sub, tn_mul, Nat.add_sub_cancel, Nat.add_zero, Nat.zero_add, lnO, win_t, win_f]
  | cons x Q ih =>
    intro fuel i hi hfu hQ m R C hc hL hlen
    rw [List.length_cons] at hi hfu hlen
    obtain ⟨fuel, rfl⟩ : ∃ f, fuel = f + 1 := ⟨fuel - 1, by omega⟩
    have hl : (Y ++ R).length = Y.length + R.length := List.length_append
    obtain ⟨-, -, -, q4, -, -, -, q8, q9, -, -, -, -, l2, l3, -⟩ := hc.qb
    have hx : gt Y i = x := by
      have := hQ 0 (by rw [List.length_cons]; omega)
      rw [Nat.add_zero] at this
      exact this
    obtain ⟨u1, u2, -⟩ := hL.2.2.1 i (by omega)
    rw [gt_l (by omega), hx] at u1 u2
    obtain ⟨m1, p1, p2, p3, p4⟩ := putQ9 hc.qb hL x (by omega) (-1)
    rw [List.append_assoc] at p2
    have k1 : KCQ q m m1 := ⟨fun a k _ hk => p4 a k (by omega), fun a k _ _ _ => by rw [p3], by rw [p3]⟩
    obtain ⟨m2, C2, i1, i2, i3⟩ := ih fuel (i + 1) (by omega) (by omega) (fun j hj => by
      have := hQ (j + 1) (by rw [List.length_cons]; omega)
      rw [show i + 1 + j = i + (j + 1) by omega]
      exact this) m1 (R ++ [x]) _ (hc.k k1) p2 (by rw [List.length_append, List.length_singleton]; omega)
    rw [List.append_assoc] at i3
    rw [Int.natCast_add] at i1
    refine ⟨m2, C2, ?_, k1.tr i2, i3⟩
    rw [← i1]
    show nb_X5_stay_2 F s (nl_X5_stay_2 F s fuel) m q _ _ = _
    unfold nb_X5_stay_2
    simp (disch := omega) only [Option.bind_some, bindv, bindv0, bind2_s, bind3_s, ↓reduceIte, Bool.false_eq_true, rZM_0, rZM_1, rZP_0, rZP_1, ptZ_0, ptZ_1, c32i, c64i, ncI, Int.natCast_add, Int.natCast_mul, q32_neg, q64_neg, q32_add, q32_sub, q32_mul, q64_add, q64_sub, q64_mul, q32_64i, q64_32, q32_lt_t, q32_lt_f, q32_le_t, q32_le_f, q32_eq_t, q32_eq_f, q64_lt_t, q64_lt_f, q64_le_t, q64_le_f, q64_eq_t, q64_eq_f, rdI_i, rdL_i, rdR_i, rdN_i, stI_i, stL_i, stR_i, wI_s, wI_n, wL_s, wL_n, wI_2, wI_3, wL_1, wL_3, wR_1, wR_2, Int.toNat_natCast, tnO, tn_add, tn_sub, tn_mul, Nat.add_sub_cancel, Nat.add_zero, Nat.zero_add, lnO, win_t, win_f, q4, q8, q9, u1, u2, p1]
    first | done | rfl
def MZ : Nat → Nat
  | 0 => 3
  | k + 1 => MZ k + 6 ^ (k + 1) + 7 ^ (k + 1)
theorem MZ_le : ∀ k, k ≤ 4 → MZ k ≤ 4357 := by decide
def mtv (o : Option (Nat × FR)) : Int := match o with
  | some p => (p.1 : Int)
  | none => -1
