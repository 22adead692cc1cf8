theorem dm6 {i : Nat} {b : Int} (hi : i ≤ 20000) (hb : 0 ≤ b ∧ b < 6) : remI (q32 ((i : Int) * 6 + b)) (q32 6) = q32 b ∧ q32 ((i : Int) * 6 + b) / q32 6 = q32 i := by
  obtain ⟨k, rfl⟩ := Int.eq_ofNat_of_zero_le hb.1
  rw [show (i : Int) * 6 + (k : Int) = ((i * 6 + k : Nat) : Int) by omega, show q32 6 = q32 ((6 : Nat) : Int) from rfl]
  refine ⟨?_, ?_⟩
  · rw [rem_n (by omega) (by omega), show (i * 6 + k) % 6 = k by omega]
  · rw [q32_div (by unfold B31; omega) (by decide) (by decide) (Or.inl (by decide)), tdn, show (i * 6 + k) / 6 = i by omega]
theorem trL9 {F : Nat} {s : List Sh} {q : Nat} {S : BST} (hk2 : S.1.length ≤ 9331) (hk4 : ∀ j, 0 < j → j < S.1.length → 0 ≤ S.2.1 j ∧ S.2.1 j < j ∧ 0 ≤ S.2.2 j ∧ S.2.2 j < 6) {v : Nat} (hv : v = q + 8 ∨ v = q + 9) (lv : ln s v = 8) : ∀ d fuel i b, d + 1 < fuel → i < S.1.length → DP S.2.1 d i → (0 ≤ b ∧ b < 6) → d ≤ 7 → ∀ m : Mem, QB s m q → LG m q S.1 (CM S) → ∃ m', nl_X5_traceRow_8 F s fuel m q v (q32 ((i : Int) * 6 + b)) (q32 (d : Nat)) = some ((), m') ∧ (∀ k, k ≤ d → m'.1 v k = q32 (RW S.2.1 S.2.2 d i b k)) ∧ (∀ k, d < k → m'.1 v k = m.1 v k) ∧ (∀ a k, a ≠ v → m'.1 a k = m.1 a k) ∧ m'.2 = m.2 := by
  intro d
  induction d with
  | zero =>
    intro fuel i b hfu hi hd hb hd7 m hq hL
    obtain ⟨fuel, rfl⟩ : ∃ f, fuel = f + 2 := ⟨fuel - 2, by omega⟩
    obtain ⟨q1, q2, q3, q4, q5, q6, q7, q8, q9, q10, q11, q12, q13, l2, l3, l4, l5, l6, l7, l8, l9⟩ := hq
    have hi0 : i = 0 := hd
    subst hi0
    obtain ⟨-, -, u3, -⟩ := hL.2.2.1 0 hi
    have u3' : m.1 (q + 4) 0 = q32 (-1) := u3
    have sz := hL.2.1
    obtain ⟨d1, d2⟩ := dm6 (i := 0) (by omega) hb
    have e0 : ((0 : Nat) : Int) * 6 + b = b := by omega
    rw [e0] at d1 d2 ⊢
    have d2' : q32 b / q32 6 = q32 0 := d2
    refine ⟨wI m v 0 (q32 b), ?_, fun k hk => ?_, fun k hk => by rw [wI_n (by omega)], fun a k ha => by rw [wI_n (by omega)], rfl⟩
    · show nb_X5_traceRow_8 F s (nl_X5_traceRow_8 F s (fuel + 1)) m q v (q32 b) (q32 0) = _
      have nx : nl_X5_traceRow_8 F s (fuel + 1) (wI m v 0 (q32 b)) q v (q32 (-1)) (q32 (-1)) = some ((), wI m v 0 (q32 b)) := by
        show nb_X5_traceRow_8 F s (nl_X5_traceRow_8 F s fuel) _ q v _ _ = _
        unfold nb_X5_traceRow_8
        simp (disch := omega) only [Option.bind_some, bindv, bindv0, bind2_s, bind3_s, ↓reduceIte, Bool.false_eq_true, rZM_0, rZM_1, rZP_0, rZP_1, ptZ_0, ptZ_1, c32i, c64i, ncI, Int.natCast_add, Int.natCast_mul, q32_neg, q64_neg, q32_add, q32_sub, q32_mul, q64_add, q64_sub, q64_mul, q32_64i, q64_32, q32_lt_t, q32_lt_f, q32_le_t, q32_le_f, q32_eq_t, q32_eq_f, q64_lt_t, q64_lt_f, q64_le_t, q64_le_f, q64_eq_t, q64_eq_f, rdI_i, rdL_i, rdR_i, rdN_i, stI_i, stL_i, stR_i, wI_s, wI_n, wL_s, wL_n, wI_2, wI_3, wL_1, wL_3, wR_1, wR_2, Int.toNat_natCast, tnO, tn_add, tn_sub, tn_mul, Nat.add_sub_cancel, Nat.add_zero, Nat.zero_add, lnO, win_t, win_f]
      unfold nb_X5_traceRow_8 nb_X5_traceRow_67
      simp (disch := omega) only [Option.bind_some, bindv, bindv0, bind2_s, bind3_s, ↓reduceIte, Bool.false_eq_true, rZM_0, rZM_1, rZP_0, rZP_1, ptZ_0, ptZ_1, c32i, c64i, ncI, Int.natCast_add, Int.natCast_mul, q32_neg, q64_neg, q32_add, q32_sub, q32_mul, q64_add, q64_sub, q64_mul, q32_64i, q64_32, q32_lt_t, q32_lt_f, q32_le_t, q32_le_f, q32_eq_t, q32_eq_f, q64_lt_t, q64_lt_f, q64_le_t, q64_le_f, q64_eq_t, q64_eq_f, rdI_i, rdL_i, rdR_i, rdN_i, stI_i, stL_i, stR_i, wI_s, wI_n, wL_s, wL_n, wI_2, wI_3, wL_1, wL_3, wR_1, wR_2, Int.toNat_natCast, tnO, tn_add, tn_sub, tn_mul, Nat.add_sub_cancel, Nat.add_zero, Nat.zero_add, lnO, win_t, win_f, d1, d2', lv, q4, q10, sz, u3', nx]
      first | done | exact nx
    · have : k = 0 := by omega
      subst this
      rw [wI_s]
      unfold RW
      rw [if_pos rfl]
  | succ d ih =>
    intro fuel i b hfu hi hd hb hd7 m hq hL
    obtain ⟨fuel, rfl⟩ : ∃ f, fuel = f + 1 := ⟨fuel - 1, by omega⟩
    have hq' := hq
    obtain ⟨q1, q2, q3, q4, q5, q6, q7, q8, q9, q10, q11, q12, q13, l2, l3, l4, l5, l6, l7, l8, l9⟩ := hq
    obtain ⟨hi0, hd'⟩ := hd
    obtain ⟨k1, k2, k3, k4⟩ := hk4 i hi0 hi
    obtain ⟨p, hpp⟩ := Int.eq_ofNat_of_zero_le k1
    rw [hpp, Int.toNat_natCast] at hd'
    obtain ⟨-, -, u3, -⟩ := hL.2.2.1 i hi
    have u3' : m.1 (q + 4) i = q32 ((p : Int) * 6 + S.2.2 i) := by
      rw [u3]
      unfold CM
      rw [if_neg (by omega), hpp]
    have sz := hL.2.1
    obtain ⟨d1, d2⟩ := dm6 (i := i) (by omega) hb
    obtain ⟨m', i1, i2, i3, i4, i5⟩ := ih fuel p (S.2.2 i) (by omega) (by omega) hd' ⟨k3, k4⟩ (by omega) (wI m v (d + 1) (q32 b)) (hq'.k (fun _ _ _ => rfl)) (hL.k (fun a k h1 h2 => by rw [wI_n (by omega)]))
    refine ⟨m', ?_, fun k hk => ?_, fun k hk => by rw [i3 k (by omega), wI_n (by omega)], fun a k ha => by rw [i4 a k ha, wI_n (by omega)], i5⟩
    · rw [← i1]
      show nb_X5_traceRow_8 F s (nl_X5_traceRow_8 F s fuel) m q v _ _ = _
      have hdd : ((d + 1 : Nat) : Int) = (d : Int) + 1 := by omega
      unfold nb_X5_traceRow_8 nb_X5_traceRow_67
      rw [hdd]
      simp (disch := omega) only [Option.bind_some, bindv, bindv0, bind2_s, bind3_s, ↓reduceIte, Bool.false_eq_true, rZM_0, rZM_1, rZP_0, rZP_1, ptZ_0, ptZ_1, c32i, c64i, ncI, Int.natCast_add, Int.natCast_mul, q32_neg, q64_neg, q32_add, q32_sub, q32_mul, q64_add, q64_sub, q64_mul, q32_64i, q64_32, q32_lt_t, q32_lt_f, q32_le_t, q32_le_f, q32_eq_t, q32_eq_f, q64_lt_t, q64_lt_f, q64_le_t, q64_le_f, q64_eq_t, q64_eq_f, rdI_i, rdL_i, rdR_i, rdN_i, stI_i, stL_i, stR_i, wI_s, wI_n, wL_s, wL_n, wI_2, wI_3, wL_1, wL_3, wR_1, wR_2, Int.toNat_natCast, tnO, tn_add, tn_sub, tn_mul, Nat.add_sub_cancel, Nat.add_zero, Nat.zero_add, lnO, win_t, win_f, d1, d2, lv, q4, q10, sz, u3']
      rw [show (d : Int) + 1 + -1 = d by omega]
    · unfold RW
      by_cases ck : k = d + 1
      · rw [if_pos ck, ck, i3 (d + 1) (by omega), wI_s]
      · rw [if_neg ck, i2 k (by omega)]
        show q32 (RW S.2.1 S.2.2 d p (S.2.2 i) k) = q32 (if k = d then S.2.2 i else RX S.2.1 S.2.2 d (S.2.1 i).toNat k)
        rw [hpp, Int.toNat_natCast]
        rfl
theorem fwsL9 {F : Nat} (hF : 20000 ≤ F) {s : List Sh} {ow : Nat → Nat} {nw q : Nat} {al : Nat → Int32} {bc : Nat} {t : FR} (htf : FLR (A al 1) t.1 t.2) : ∀ k d fuel bg, d + k = 8 → k < fuel → ∀ (m : Mem) (S : BST), RC s m ow nw q al bc → LG m q S.1 (CM S) → BOK (A al 1) S → bg ≤ S.1.length → LV bg S.1.length d S → ∃ m', nl_X5_seekFewest_29 F s fuel m q (q32 t.1) (q32 t.2) (q32 (bg : Nat)) (q32 ((d : Nat) + 1)) = some (q32 (BFL al t bc k d bg S).1, m') ∧ KCQ q m m' ∧ (BFL al t bc k d bg S).1 ≤ 8 ∧ -1000 ≤ (BFL al t bc k d bg S).1 ∧ ∀ k' : Nat, (k' : Int) < (BFL al t bc k d bg S).1 → m'.1 (q + 8) k' = q32 ((BFL al t bc k d bg S).2 k') := by
  intro k
  induction k with
  | zero =>
    intro d fuel bg hd hfu m S hc hL hk hbg hv
    obtain ⟨fuel, rfl⟩ : ∃ f, fuel = f + 1 := ⟨fuel - 1, by omega⟩
    refine ⟨m, ?_, KCQ.rf m, by show (-1 : Int) ≤ 8; decide, by show (-1000 : Int) ≤ -1; decide, fun k' h => by exact absurd h (by show ¬ (k' : Int) < -1; omega)⟩
    show nb_X5_seekFewest_29 F s (nl_X5_seekFewest_29 F s fuel) m q _ _ _ _ = _
    unfold nb_X5_seekFewest_29 BFL
    simp (disch := omega) only [Option.bind_some, bindv, bindv0, bind2_s, bind3_s, ↓reduceIte, Bool.false_eq_true, rZM_0, rZM_1, rZP_0, rZP_1, ptZ_0, ptZ_1, c32i, c64i, ncI, Int.natCast_add, Int.natCast_mul, q32_neg, q64_neg, q32_add, q32_sub, q32_mul, q64_add, q64_sub, q64_mul, q32_64i, q64_32, q32_lt_t, q32_lt_f, q32_le_t, q32_le_f, q32_eq_t, q32_eq_f, q64_lt_t, q64_lt_f, q64_le_t, q64_le_f, q64_eq_t, q64_eq_f, rdI_i, rdL_i, rdR_i, rdN_i, stI_i, stL_i, stR_i, wI_s, wI_n, wL_s, wL_n, wI_2, wI_3, wL_1, wL_3, wR_1, wR_2, Int.toNat_natCast, tnO, tn_add, tn_sub, tn_mul, Nat.add_sub_cancel, Nat.add_zero, Nat.zero_add, lnO, win_t, win_f]
  | succ k ih =>
    intro d fuel bg hd hfu m S hc hL hk hbg hv
    obtain ⟨fuel, rfl⟩ : ∃ f, fuel = f + 1 := ⟨fuel - 1, by omega⟩
    have h7 := hc.2.2.2.2.2
    have hk2 := hk.2.1
    obtain ⟨m1, j1, j2, j3, j4, j5⟩ := stO9 hF htf (en := S.1.length) (by omega) (S.1.length - bg) F bg (by omega) (by omega) m S hc hL hk (Nat.le_refl _)
    have lv := LV.fo hc.wa (t := t) h7 (S.1.length - bg) bg S (by omega) (Nat.le_refl _) hv hk (Nat.le_refl _)
    have ll := BFO_len al t bc (S.1.length - bg) bg S
    have c1 := hc.k j3
    have q0 := hc.qb.2.2.2.1
    have q0' := c1.qb.2.2.2.1
    have q1' := c1.qb.2.2.2.2.1
    have l8 := c1.qb.2.2.2.2.2.2.2.2.2.2.2.2.2.2.2.2.2.2.2.1
    have sz := hL.2.1
    have sz' := j4.2.1
    have jk := j5.2.1
    show ∃ m', nb_X5_seekFewest_29 F s (nl_X5_seekFewest_29 F s fuel) m q _ _ _ _ = _ ∧ _
    cases hb : (BFO al t bc (S.1.length - bg) bg S).1 with
    | some p =>
      obtain ⟨i, b⟩ := p
      have hB : BFL al t bc (k + 1) d bg S = ((d : Int) + 1, RW (BFO al t bc (S.1.length - bg) bg S).2.2.1 (BFO al t bc (S.1.length - bg) bg S).2.2.2 d i b) := by
        show (match (BFO al t bc (S.1.length - bg) bg S).1 with | some (i, b) => _ | none => _) = _
        rw [hb]
      rw [hB]
      obtain ⟨z1, z2, z3, z4, z5⟩ := j1 i b hb
      have z1' : n_X5_stepTowards F s m q (q32 t.1) (q32 t.2) (q32 bg) (q32 S.1.length) = some (q32 1, m1) := z1
      obtain ⟨m2, t1, t2, t3, t4, t5⟩ := trL9 (F := F) (s := s) (q := q) (by omega) j5.2.2.2 (v := q + 8) (Or.inl rfl) l8 d F i b (by omega) (by omega) (lv.1 i z4 z5) (by omega) (by omega) m1 c1.qb j4
      have t1' : n_X5_traceRow F s m1 q (q32 ((i : Int) * 6 + b)) (q32 ((d : Int) + 1)) (q + 8) = some ((), m2) := by
        unfold n_X5_traceRow nb_X5_traceRow_0
        rw [← t1]
        simp (disch := omega) only [Option.bind_some, bindv, bindv0, bind2_s, bind3_s, ↓reduceIte, Bool.false_eq_true, rZM_0, rZM_1, rZP_0, rZP_1, ptZ_0, ptZ_1, c32i, c64i, ncI, Int.natCast_add, Int.natCast_mul, q32_neg, q64_neg, q32_add, q32_sub, q32_mul, q64_add, q64_sub, q64_mul, q32_64i, q64_32, q32_lt_t, q32_lt_f, q32_le_t, q32_le_f, q32_eq_t, q32_eq_f, q64_lt_t, q64_lt_f, q64_le_t, q64_le_f, q64_eq_t, q64_eq_f, rdI_i, rdL_i, rdR_i, rdN_i, stI_i, stL_i, stR_i, wI_s, wI_n, wL_s, wL_n, wI_2, wI_3, wL_1, wL_3, wR_1, wR_2, Int.toNat_natCast, tnO, tn_add, tn_sub, tn_mul, Nat.add_sub_cancel, Nat.add_zero, Nat.zero_add, lnO, win_t, win_f]
        rw [show (d : Int) + 1 - 1 = d by omega]
      refine ⟨m2, ?_, j3.tr ⟨fun a k p1 p2 => t4 a k (by omega), fun a k _ _ _ => by rw [t5], by rw [t5]⟩, by show (d : Int) + 1 ≤ 8; omega, by show -1000 ≤ (d : Int) + 1; omega, fun k' hk' => ?_⟩
      · unfold nb_X5_seekFewest_29
        simp (disch := omega) only [Option.bind_some, bindv, bindv0, bind2_s, bind3_s, ↓reduceIte, Bool.false_eq_true, rZM_0, rZM_1, rZP_0, rZP_1, ptZ_0, ptZ_1, c32i, c64i, ncI, Int.natCast_add, Int.natCast_mul, q32_neg, q64_neg, q32_add, q32_sub, q32_mul, q64_add, q64_sub, q64_mul, q32_64i, q64_32, q32_lt_t, q32_lt_f, q32_le_t, q32_le_f, q32_eq_t, q32_eq_f, q64_lt_t, q64_lt_f, q64_le_t, q64_le_f, q64_eq_t, q64_eq_f, rdI_i, rdL_i, rdR_i, rdN_i, stI_i, stL_i, stR_i, wI_s, wI_n, wL_s, wL_n, wI_2, wI_3, wL_1, wL_3, wR_1, wR_2, Int.toNat_natCast, tnO, tn_add, tn_sub, tn_mul, Nat.add_sub_cancel, Nat.add_zero, Nat.zero_add, lnO, win_t, win_f, q0, sz, z1', q1', z2, t1']
      · have hk'' : (k' : Int) < (d : Int) + 1 := hk'
        exact t2 k' (by omega)
    | none =>
      have z1' : n_X5_stepTowards F s m q (q32 t.1) (q32 t.2) (q32 bg) (q32 S.1.length) = some (q32 0, m1) := j2 hb
      have hB : BFL al t bc (k + 1) d bg S = if 2000 < (BFO al t bc (S.1.length - bg) bg S).2.1.length then (-1000, fun _ => 0) else if (BFO al t bc (S.1.length - bg) bg S).2.1.length = S.1.length then (-1, fun _ => 0) else BFL al t bc k (d + 1) S.1.length (BFO al t bc (S.1.length - bg) bg S).2 := by
        show (match (BFO al t bc (S.1.length - bg) bg S).1 with | some (i, b) => _ | none => _) = _
        rw [hb]
      rw [hB]
      generalize (BFO al t bc (S.1.length - bg) bg S).2 = S' at *
      by_cases c2 : 2000 < S'.1.length
      · rw [if_pos c2]
        refine ⟨m1, ?_, j3, by decide, by decide, fun k' h => absurd h (by show ¬ (k' : Int) < -1000; omega)⟩
        unfold nb_X5_seekFewest_29
        simp (disch := omega) only [Option.bind_some, bindv, bindv0, bind2_s, bind3_s, ↓reduceIte, Bool.false_eq_true, rZM_0, rZM_1, rZP_0, rZP_1, ptZ_0, ptZ_1, c32i, c64i, ncI, Int.natCast_add, Int.natCast_mul, q32_neg, q64_neg, q32_add, q32_sub, q32_mul, q64_add, q64_sub, q64_mul, q32_64i, q64_32, q32_lt_t, q32_lt_f, q32_le_t, q32_le_f, q32_eq_t, q32_eq_f, q64_lt_t, q64_lt_f, q64_le_t, q64_le_f, q64_eq_t, q64_eq_f, rdI_i, rdL_i, rdR_i, rdN_i, stI_i, stL_i, stR_i, wI_s, wI_n, wL_s, wL_n, wI_2, wI_3, wL_1, wL_3, wR_1, wR_2, Int.toNat_natCast, tnO, tn_add, tn_sub, tn_mul, Nat.add_sub_cancel, Nat.add_zero, Nat.zero_add, lnO, win_t, win_f, q0, sz, z1', q0', sz']
      · rw [if_neg c2]
        by_cases c3 : S'.1.length = S.1.length
        · rw [if_pos c3]
          refine ⟨m1, ?_, j3, by decide, by decide, fun k' h => absurd h (by show ¬ (k' : Int) < -1; omega)⟩
          rw [c3] at sz'
          unfold nb_X5_seekFewest_29
          simp (disch := omega) only [Option.bind_some, bindv, bindv0, bind2_s, bind3_s, ↓reduceIte, Bool.false_eq_true, rZM_0, rZM_1, rZP_0, rZP_1, ptZ_0, ptZ_1, c32i, c64i, ncI, Int.natCast_add, Int.natCast_mul, q32_neg, q64_neg, q32_add, q32_sub, q32_mul, q64_add, q64_sub, q64_mul, q32_64i, q64_32, q32_lt_t, q32_lt_f, q32_le_t, q32_le_f, q32_eq_t, q32_eq_f, q64_lt_t, q64_lt_f, q64_le_t, q64_le_f, q64_eq_t, q64_eq_f, rdI_i, rdL_i, rdR_i, rdN_i, stI_i, stL_i, stR_i, wI_s, wI_n, wL_s, wL_n, wI_2, wI_3, wL_1, wL_3, wR_1, wR_2, Int.toNat_natCast, tnO, tn_add, tn_sub, tn_mul, Nat.add_sub_cancel, Nat.add_zero, Nat.zero_add, lnO, win_t, win_f, q0, sz, z1', q0', sz']
        · rw [if_neg c3]
          obtain ⟨m2, i1, i2, i3, i4, i5⟩ := ih (d + 1) fuel S.1.length (by omega) (by omega) m1 S' c1 j4 j5 ll ⟨fun j p1 p2 => lv.2 j p1 p2, fun j p1 p2 => absurd p2 (by omega)⟩
          refine ⟨m2, ?_, j3.tr i2, i3, i4, i5⟩
          rw [← i1]
          unfold nb_X5_seekFewest_29
          simp (disch := omega) only [Option.bind_some, bindv, bindv0, bind2_s, bind3_s, ↓reduceIte, Bool.false_eq_true, rZM_0, rZM_1, rZP_0, rZP_1, ptZ_0, ptZ_1, c32i, c64i, ncI, Int.natCast_add, Int.natCast_mul, q32_neg, q64_neg, q32_add, q32_sub, q32_mul, q64_add, q64_sub, q64_mul, q32_64i, q64_32, q32_lt_t, q32_lt_f, q32_le_t, q32_le_f, q32_eq_t, q32_eq_f, q64_lt_t, q64_lt_f, q64_le_t, q64_le_f, q64_eq_t, q64_eq_f, rdI_i, rdL_i, rdR_i, rdN_i, stI_i, stL_i, stR_i, wI_s, wI_n, wL_s, wL_n, wI_2, wI_3, wL_1, wL_3, wR_1, wR_2, Int.toNat_natCast, tnO, tn_add, tn_sub, tn_mul, Nat.add_sub_cancel, Nat.add_zero, Nat.zero_add, lnO, win_t, win_f, q0, sz, z1', q0', sz']
          first | done | rfl
theorem fws9 {F : Nat} (hF : 20000 ≤ F) {s : List Sh} {ow : Nat → Nat} {nw q : Nat} {al : Nat → Int32} {bc : Nat} {x t : FR} (hx : FLR (A al 1) x.1 x.2) (htf : FLR (A al 1) t.1 t.2) {m : Mem} (hc : RC s m ow nw q al bc) (hL : LG m q [x] (fun _ => -1)) (hxu : m.1 nw 4 = q32 x.1) (hxl : m.1 nw 5 = q32 x.2) : ∃ m', n_X5_seekFewest F s m q (q32 t.1) (q32 t.2) = some (q32 (if x = t then 0 else (BFL al t bc 8 0 0 ([x], fun _ => -1, fun _ => -1)).1), m') ∧ KCQ q m m' ∧ (BFL al t bc 8 0 0 ([x], fun _ => -1, fun _ => -1)).1 ≤ 8 ∧ -1000 ≤ (BFL al t bc 8 0 0 ([x], fun _ => -1, fun _ => -1)).1 ∧ (x ≠ t → ∀ k' : Nat, (k' : Int) < (BFL al t bc 8 0 0 ([x], fun _ => -1, fun _ => -1)).1 → m'.1 (q + 8) k' = q32 ((BFL al t bc 8 0 0 ([x], fun _ => -1, fun _ => -1)).2 k')) := by
  have h5 := hc.2.2.1
  have xb := hx.b
  have tb := htf.b
  have lg : LG m q [x] (CM ([x], fun _ => -1, fun _ => -1)) := hL.c (fun i hi => by
    have hi' : i = 0 := by have : [x].length = 1 := rfl; omega
    subst hi'
    rfl)
  obtain ⟨m1, i1, i2, i3, i4, i5⟩ := fwsL9 hF htf 8 0 F 0 (by omega) (by omega) m ([x], fun _ => -1, fun _ => -1) hc lg ⟨by show 1 ≤ 1; omega, by show 1 ≤ 2001; omega, FLS.one hx, fun j h0 hj => absurd (show j < 1 from hj) (by omega)⟩ (by omega) ⟨fun j p1 p2 => by
    have : j < 1 := p2
    show j = 0
    omega, fun j p1 p2 => absurd p2 (by omega)⟩
  have i1' : nl_X5_seekFewest_29 F s F m q (q32 t.1) (q32 t.2) (q32 0) (q32 1) = some (q32 (BFL al t bc 8 0 0 ([x], fun _ => -1, fun _ => -1)).1, m1) := i1
  by_cases c : x = t
  · rw [if_pos c]
    rw [c] at hxu hxl
    refine ⟨m, ?_, KCQ.rf m, i3, i4, fun h => absurd c h⟩
    unfold n_X5_seekFewest nb_X5_seekFewest_0
    simp (disch := omega) only [Option.bind_some, bindv, bindv0, bind2_s, bind3_s, ↓reduceIte, Bool.false_eq_true, rZM_0, rZM_1, rZP_0, rZP_1, ptZ_0, ptZ_1, c32i, c64i, ncI, Int.natCast_add, Int.natCast_mul, q32_neg, q64_neg, q32_add, q32_sub, q32_mul, q64_add, q64_sub, q64_mul, q32_64i, q64_32, q32_lt_t, q32_lt_f, q32_le_t, q32_le_f, q32_eq_t, q32_eq_f, q64_lt_t, q64_lt_f, q64_le_t, q64_le_f, q64_eq_t, q64_eq_f, rdI_i, rdL_i, rdR_i, rdN_i, stI_i, stL_i, stR_i, wI_s, wI_n, wL_s, wL_n, wI_2, wI_3, wL_1, wL_3, wR_1, wR_2, Int.toNat_natCast, tnO, tn_add, tn_sub, tn_mul, Nat.add_sub_cancel, Nat.add_zero, Nat.zero_add, lnO, win_t, win_f, h5, hxu, hxl]
  · rw [if_neg c]
    refine ⟨m1, ?_, i2, i3, i4, fun _ => i5⟩
    unfold n_X5_seekFewest nb_X5_seekFewest_0 nb_X5_seekFewest_24
    by_cases c1 : x.1 = t.1
    · have c2 : x.2 ≠ t.2 := fun h => c (Prod.ext c1 h)
      rw [c1] at hxu
      simp (disch := omega) only [Option.bind_some, bindv, bindv0, bind2_s, bind3_s, ↓reduceIte, Bool.false_eq_true, rZM_0, rZM_1, rZP_0, rZP_1, ptZ_0, ptZ_1, c32i, c64i, ncI, Int.natCast_add, Int.natCast_mul, q32_neg, q64_neg, q32_add, q32_sub, q32_mul, q64_add, q64_sub, q64_mul, q32_64i, q64_32, q32_lt_t, q32_lt_f, q32_le_t, q32_le_f, q32_eq_t, q32_eq_f, q64_lt_t, q64_lt_f, q64_le_t, q64_le_f, q64_eq_t, q64_eq_f, rdI_i, rdL_i, rdR_i, rdN_i, stI_i, stL_i, stR_i, wI_s, wI_n, wL_s, wL_n, wI_2, wI_3, wL_1, wL_3, wR_1, wR_2, Int.toNat_natCast, tnO, tn_add, tn_sub, tn_mul, Nat.add_sub_cancel, Nat.add_zero, Nat.zero_add, lnO, win_t, win_f, h5, hxu, hxl, i1']
    · simp (disch := omega) only [Option.bind_some, bindv, bindv0, bind2_s, bind3_s, ↓reduceIte, Bool.false_eq_true, rZM_0, rZM_1, rZP_0, rZP_1, ptZ_0, ptZ_1, c32i, c64i, ncI, Int.natCast_add, Int.natCast_mul, q32_neg, q64_neg, q32_add, q32_sub, q32_mul, q64_add, q64_sub, q64_mul, q32_64i, q64_32, q32_lt_t, q32_lt_f, q32_le_t, q32_le_f, q32_eq_t, q32_eq_f, q64_lt_t, q64_lt_f, q64_le_t, q64_le_f, q64_eq_t, q64_eq_f, rdI_i, rdL_i, rdR_i, rdN_i, stI_i, stL_i, stR_i, wI_s, wI_n, wL_s, wL_n, wI_2, wI_3, wL_1, wL_3, wR_1, wR_2, Int.toNat_natCast, tnO, tn_add, tn_sub, tn_mul, Nat.add_sub_cancel, Nat.add_zero, Nat.zero_add, lnO, win_t, win_f, h5, hxu, hxl, i1']
