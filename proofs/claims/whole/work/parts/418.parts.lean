/-! PURE: parts of one -/
/-- the next part, what is left then -/
def PN (x : FR) : Int := (x.2 + x.1 - 1).tdiv x.1
def PX (x : FR) : FR := nrm (x.1 * PN x - x.2) (x.2 * PN x)
def PRT : Nat → FR → Option (List Int)
  | 0, _ => some []
  | f + 1, x => if x.1 = 0 then some [] else if 1000000000 < PN x then none else if 1000000000 < (PX x).2 then none else (PRT f (PX x)).map (fun l => PN x :: l)
/-- a part that is still to be parted, below 1 by B -/
def PQ (x : FR) : Prop := 0 ≤ x.1 ∧ 1 ≤ x.2 ∧ x.2 ≤ 1000000000 ∧ x.1 ≤ x.2 ∧ (x.1 ≠ 0 → x.1 < x.2)
theorem PN_b {x : FR} (h : PQ x) (h0 : x.1 ≠ 0) : 2 ≤ PN x ∧ PN x ≤ 2000000000 ∧ x.2 ≤ x.1 * PN x ∧ x.1 * PN x < x.2 + x.1 := by
  obtain ⟨h1, h2, h3, h4, h5⟩ := h
  have h5 := h5 h0
  have e : PN x = (x.2 + x.1 - 1) / x.1 := by unfold PN; exact Int.tdiv_eq_ediv_of_nonneg (by omega)
  have d1 := Int.mul_ediv_add_emod (x.2 + x.1 - 1) x.1
  have d2 := Int.emod_nonneg (x.2 + x.1 - 1) h0
  have d3 := Int.emod_lt_of_pos (x.2 + x.1 - 1) (show 0 < x.1 by omega)
  rw [← e] at d1
  generalize PN x = n at *
  have k1 : x.2 ≤ x.1 * n := by omega
  have k2 : x.1 * n < x.2 + x.1 := by omega
  have k3 : 2 ≤ n := by
    apply Classical.byContradiction
    intro hn
    have : x.1 * n ≤ x.1 * 1 := Int.mul_le_mul_of_nonneg_left (by omega) (by omega)
    omega
  refine ⟨k3, ?_, k1, k2⟩
  apply Classical.byContradiction
  intro hn
  have : 1 * 2000000001 ≤ x.1 * n := Int.mul_le_mul (by omega) (by omega) (by omega) (by omega)
  omega
theorem PX_b {x : FR} (h : PQ x) (h0 : x.1 ≠ 0) : x.2 * PN x ≠ 0 ∧ (x.1 * PN x - x.2).natAbs < 9223372036854775808 ∧ (x.2 * PN x).natAbs < 9223372036854775808 ∧ 0 ≤ (PX x).1 ∧ (PX x).1 < (PX x).2 ∧ (PX x).1 < x.1 ∧ 1 ≤ (PX x).2 ∧ ∀ B : Int, 1 ≤ B → x.1 * B < x.2 → (PX x).1 * (2 * B) < (PX x).2 := by
  obtain ⟨n1, n2, n3, n4⟩ := PN_b h h0
  obtain ⟨h1, h2, h3, h4, h5⟩ := h
  have h5 := h5 h0
  have kq : 0 < x.2 * PN x := Int.mul_pos (by omega) (by omega)
  have kq2 := mulB (show x.2.natAbs ≤ 1000000000 by omega) (show (PN x).natAbs ≤ 2000000000 by omega)
  have kp2 := mulB (show x.1.natAbs ≤ 1000000000 by omega) (show (PN x).natAbs ≤ 2000000000 by omega)
  obtain ⟨g1, g2, g3, g4, g5⟩ := nrm_ok (p := x.1 * PN x - x.2) (q := x.2 * PN x) (by omega)
  have e : PX x = nrm (x.1 * PN x - x.2) (x.2 * PN x) := rfl
  rw [← e] at g1 g2 g3 g4 g5
  generalize PX x = g at *
  generalize PN x = n at *
  have lt : ∀ B : Int, 0 ≤ B → (x.1 * n - x.2) * B < x.2 * n → g.1 * B < g.2 := fun B hB hh => by
    have q1 : (x.1 * n - x.2) * B * g.2 < x.2 * n * g.2 := Int.mul_lt_mul_of_pos_right hh (by omega)
    have q2 : g.1 * B * (x.2 * n) < g.2 * (x.2 * n) := by
      have q3 : (x.1 * n - x.2) * B * g.2 = g.1 * B * (x.2 * n) := by
        calc (x.1 * n - x.2) * B * g.2 = ((x.1 * n - x.2) * g.2) * B := by grind
          _ = (g.1 * (x.2 * n)) * B := by rw [g3]
          _ = g.1 * B * (x.2 * n) := by grind
      have q4 : x.2 * n * g.2 = g.2 * (x.2 * n) := Int.mul_comm _ _
      omega
    exact Int.lt_of_mul_lt_mul_right q2 (by omega)
  have g0 : 0 ≤ g.1 := by
    apply Classical.byContradiction
    intro hn
    have q1 : g.1 * (x.2 * n) < 0 := Int.mul_neg_of_neg_of_pos (by omega) kq
    have q2 : 0 ≤ (x.1 * n - x.2) * g.2 := Int.mul_nonneg (by omega) (by omega)
    omega
  have xn : x.2 * 2 ≤ x.2 * n := Int.mul_le_mul_of_nonneg_left (by omega) (by omega)
  have one := lt 1 (by omega) (by rw [Int.mul_one]; omega)
  refine ⟨by omega, by omega, by omega, g0, by omega, by omega, g2, fun B hB hx => ?_⟩
  refine lt (2 * B) (by omega) ?_
  have k1 : (x.1 * n - x.2) * (2 * B) ≤ x.1 * (2 * B) := Int.mul_le_mul_of_nonneg_right (by omega) (by omega)
  have k2 : x.1 * (2 * B) = 2 * (x.1 * B) := by grind
  omega
theorem PX_q {x : FR} (h : PQ x) (h0 : x.1 ≠ 0) (hb : (PX x).2 ≤ 1000000000) : PQ (PX x) := by
  obtain ⟨-, -, -, a1, a2, a3, a4, -⟩ := PX_b h h0
  exact ⟨a1, a4, hb, by omega, fun _ => a2⟩
theorem pow30 {i : Nat} (h : i ≤ 30) (h2 : (2 : Int) ^ i < 1000000001) : i < 30 := by
  apply Classical.byContradiction
  intro hn
  obtain rfl : i = 30 := by omega
  exact absurd h2 (by decide)
theorem PN_p {x : FR} (h : PQ x) (h0 : x.1 ≠ 0) {i : Nat} (hi : i ≤ 30) (hx : x.1 * (2 : Int) ^ i < x.2) (hn : PN x ≤ 1000000000) : i < 30 ∧ (PX x).1 * (2 : Int) ^ (i + 1) < (PX x).2 := by
  obtain ⟨n1, n2, n3, n4⟩ := PN_b h h0
  have h1 := h.1
  have lt : (2 : Int) ^ i < PN x := by
    apply Classical.byContradiction
    intro hc
    have : x.1 * PN x ≤ x.1 * (2 : Int) ^ i := Int.mul_le_mul_of_nonneg_left (by omega) h1
    omega
  have pos : (0 : Int) < (2 : Int) ^ i := Int.pow_pos (by omega)
  obtain ⟨-, -, -, -, -, -, -, a8⟩ := PX_b h h0
  refine ⟨pow30 hi (by omega), ?_⟩
  have := a8 ((2 : Int) ^ i) (by omega) hx
  rwa [Int.pow_succ, Int.mul_comm ((2 : Int) ^ i) 2]
def PRA (o : Option (List Int)) (i : Nat) : Int := match o with
  | none => -4
  | some l => (i + l.length : Nat)
theorem PRA_c (o : Option (List Int)) (i : Nat) (n : Int) : PRA (o.map (fun l => n :: l)) i = PRA o (i + 1) := by
  cases o with
  | none => rfl
  | some l =>
    show ((i + (n :: l).length : Nat) : Int) = ((i + 1 + l.length : Nat) : Int)
    rw [List.length_cons]
    omega
theorem PRT_z {f : Nat} {x : FR} (h : x.1 = 0) : PRT f x = some [] := by
  cases f with
  | zero => rfl
  | succ f => unfold PRT; rw [if_pos h]
theorem partsL9 {F : Nat} (hF : 1000 ≤ F) {s : List Sh} (hp : ∃ t, s = sB ++ t) : ∀ (f fuel : Nat) (m : Mem) (x : FR) (i : Nat), RF m → PQ x → x.1 < f → x.1 * (2 : Int) ^ i < x.2 → i ≤ 30 → 31 < fuel + i → m.2.1 20 0 = q64 x.1 → m.2.1 20 1 = q64 x.2 → ∃ m', nl_X9_layParts_41 F s fuel m 0 (q32 i) (q32 i) = some (q32 (PRA (PRT f x) i), m') ∧ m'.1 = m.1 ∧ m'.2.2 = m.2.2 ∧ (∀ a k, a ≠ 20 ∧ (a ≠ 21 ∨ k < i) → m'.2.1 a k = m.2.1 a k) ∧ ∀ l, PRT f x = some l → l.length + i ≤ 31 ∧ ∀ k, k < l.length → m'.2.1 21 (i + k) = q64 (l.getD k 0) ∧ 0 ≤ l.getD k 0 ∧ l.getD k 0 ≤ 1000000000 := by
  have l21 := ln21 hp
  intro f
  induction f with
  | zero => intro fuel m x i hr hq hf; have := hq.1; omega
  | succ f ih =>
    intro fuel m x i hr hq hf hx hi hfu c0 c1
    obtain ⟨fuel, rfl⟩ : ∃ f, fuel = f + 1 := ⟨fuel - 1, by omega⟩
    have r14 := rf0_14 hr
    have r13 := rf0_13 hr
    have hq' := hq
    obtain ⟨h1, h2, h3, h4, h5⟩ := hq'
    show ∃ m', nb_X9_layParts_41 F s (nl_X9_layParts_41 F s fuel) m 0 (q32 i) (q32 i) = _ ∧ _
    by_cases z : x.1 = 0
    · rw [PRT_z z]
      refine ⟨m, ?_, rfl, rfl, fun _ _ _ => rfl, fun l hl => ?_⟩
      · unfold nb_X9_layParts_41 PRA
        simp (disch := omega) only [Option.bind_some, bindv, bindv0, bind2_s, bind3_s, ↓reduceIte, Bool.false_eq_true, rZM_0, rZM_1, rZP_0, rZP_1, ptZ_0, ptZ_1, c32i, c64i, ncI, Int.natCast_add, Int.natCast_mul, q32_neg, q64_neg, q32_add, q32_sub, q32_mul, q64_add, q64_sub, q64_mul, q32_64i, q64_32, q32_lt_t, q32_lt_f, q32_le_t, q32_le_f, q32_eq_t, q32_eq_f, q64_lt_t, q64_lt_f, q64_le_t, q64_le_f, q64_eq_t, q64_eq_f, rdI_i, rdL_i, rdR_i, rdN_i, stI_i, stL_i, stR_i, wI_s, wI_n, wL_s, wL_n, wI_2, wI_3, wL_1, wL_3, wR_1, wR_2, Int.toNat_natCast, tnO, tn_add, tn_sub, tn_mul, Nat.add_sub_cancel, Nat.add_zero, Nat.zero_add, lnO, win_t, win_f, r14, r13, l21, c0, z, List.length_nil]
      · injection hl with hl; subst hl
        exact ⟨by simp; omega, fun k hk => by simp at hk⟩
    · obtain ⟨n1, n2, n3, n4⟩ := PN_b hq z
      obtain ⟨a1, a2, a3, a4, a5, a6, a7, -⟩ := PX_b hq z
      have dv : q64 (x.2 + x.1 - 1) / q64 x.1 = q64 (PN x) := q64_div_n (by omega)
      unfold nb_X9_layParts_41 PRT
      rw [if_neg z]
      by_cases c2 : 1000000000 < PN x
      · rw [if_pos c2]
        refine ⟨m, ?_, rfl, rfl, fun _ _ _ => rfl, fun l hl => by cases hl⟩
        simp (disch := omega) only [Option.bind_some, bindv, bindv0, bind2_s, bind3_s, ↓reduceIte, Bool.false_eq_true, rZM_0, rZM_1, rZP_0, rZP_1, ptZ_0, ptZ_1, c32i, c64i, ncI, Int.natCast_add, Int.natCast_mul, q32_neg, q64_neg, q32_add, q32_sub, q32_mul, q64_add, q64_sub, q64_mul, q32_64i, q64_32, q32_lt_t, q32_lt_f, q32_le_t, q32_le_f, q32_eq_t, q32_eq_f, q64_lt_t, q64_lt_f, q64_le_t, q64_le_f, q64_eq_t, q64_eq_f, rdI_i, rdL_i, rdR_i, rdN_i, stI_i, stL_i, stR_i, wI_s, wI_n, wL_s, wL_n, wI_2, wI_3, wL_1, wL_3, wR_1, wR_2, Int.toNat_natCast, tnO, tn_add, tn_sub, tn_mul, Nat.add_sub_cancel, Nat.add_zero, Nat.zero_add, lnO, win_t, win_f, r14, r13, l21, c0, c1, dv]
        rfl
      · rw [if_neg c2]
        obtain ⟨i30, hx'⟩ := PN_p hq z hi hx (by omega)
        have pu := put9 (F := F) (s := s) (m := wL m 21 i (q64 (PN x))) (r := 20) (by omega) (p := x.1 * PN x - x.2) (q := x.2 * PN x) a1 a2 a3
        rw [show nrm (x.1 * PN x - x.2) (x.2 * PN x) = PX x from rfl] at pu
        by_cases c3 : 1000000000 < (PX x).2
        · rw [if_pos c3]
          have hb : (PX x).2.natAbs < 9223372036854775808 := by
            have := (nrm_ok (p := x.1 * PN x - x.2) (q := x.2 * PN x) a1).2.2.2.1
            have e : (nrm (x.1 * PN x - x.2) (x.2 * PN x)).2 = (PX x).2 := rfl
            omega
          refine ⟨PT (wL m 21 i (q64 (PN x))) 20 (PX x), ?_, rfl, rfl, fun a k h => ?_, fun l hl => by cases hl⟩
          · simp (disch := omega) only [Option.bind_some, bindv, bindv0, bind2_s, bind3_s, ↓reduceIte, Bool.false_eq_true, rZM_0, rZM_1, rZP_0, rZP_1, ptZ_0, ptZ_1, c32i, c64i, ncI, Int.natCast_add, Int.natCast_mul, q32_neg, q64_neg, q32_add, q32_sub, q32_mul, q64_add, q64_sub, q64_mul, q32_64i, q64_32, q32_lt_t, q32_lt_f, q32_le_t, q32_le_f, q32_eq_t, q32_eq_f, q64_lt_t, q64_lt_f, q64_le_t, q64_le_f, q64_eq_t, q64_eq_f, rdI_i, rdL_i, rdR_i, rdN_i, stI_i, stL_i, stR_i, wI_s, wI_n, wL_s, wL_n, wI_2, wI_3, wL_1, wL_3, wR_1, wR_2, Int.toNat_natCast, tnO, tn_add, tn_sub, tn_mul, Nat.add_sub_cancel, Nat.add_zero, Nat.zero_add, lnO, win_t, win_f, r14, r13, l21, c0, c1, dv, pu, PT_3, PT_l]
            rfl
          · rw [PT_n (by omega), wL_n (by omega)]
        · rw [if_neg c3]
          obtain ⟨m', q1, q2, q3, q4, q5⟩ := ih fuel (PT (wL m 21 i (q64 (PN x))) 20 (PX x)) (PX x) (i + 1) (hr.same rfl) (PX_q hq z (by omega)) (by omega) hx' (by omega) (by omega) (PT_0 _ _ _) (PT_l _ _ _)
          refine ⟨m', ?_, q2, q3, fun a k h => ?_, fun l hl => ?_⟩
          · rw [PRA_c]
            rw [Int.natCast_add] at q1
            simp (disch := omega) only [Option.bind_some, bindv, bindv0, bind2_s, bind3_s, ↓reduceIte, Bool.false_eq_true, rZM_0, rZM_1, rZP_0, rZP_1, ptZ_0, ptZ_1, c32i, c64i, ncI, Int.natCast_add, Int.natCast_mul, q32_neg, q64_neg, q32_add, q32_sub, q32_mul, q64_add, q64_sub, q64_mul, q32_64i, q64_32, q32_lt_t, q32_lt_f, q32_le_t, q32_le_f, q32_eq_t, q32_eq_f, q64_lt_t, q64_lt_f, q64_le_t, q64_le_f, q64_eq_t, q64_eq_f, rdI_i, rdL_i, rdR_i, rdN_i, stI_i, stL_i, stR_i, wI_s, wI_n, wL_s, wL_n, wI_2, wI_3, wL_1, wL_3, wR_1, wR_2, Int.toNat_natCast, tnO, tn_add, tn_sub, tn_mul, Nat.add_sub_cancel, Nat.add_zero, Nat.zero_add, lnO, win_t, win_f, r14, r13, l21, c0, c1, dv, pu, PT_3, PT_l]
            exact q1
          · rw [q4 a k (by omega), PT_n (by omega), wL_n (by omega)]
          · cases hr2 : PRT f (PX x) with
            | none => rw [hr2] at hl; cases hl
            | some l' =>
              rw [hr2] at hl
              injection hl with hl
              subst hl
              obtain ⟨w1, w2⟩ := q5 l' hr2
              refine ⟨by rw [List.length_cons]; omega, fun k hk => ?_⟩
              cases k with
              | zero =>
                refine ⟨?_, by show 0 ≤ PN x; omega, by show PN x ≤ _; omega⟩
                rw [q4 21 (i + 0) (by omega), PT_n (by omega)]
                simp (disch := omega) only [Option.bind_some, bindv, bindv0, bind2_s, bind3_s, ↓reduceIte, Bool.false_eq_true, rZM_0, rZM_1, rZP_0, rZP_1, ptZ_0, ptZ_1, c32i, c64i, ncI, Int.natCast_add, Int.natCast_mul, q32_neg, q64_neg, q32_add, q32_sub, q32_mul, q64_add, q64_sub, q64_mul, q32_64i, q64_32, q32_lt_t, q32_lt_f, q32_le_t, q32_le_f, q32_eq_t, q32_eq_f, q64_lt_t, q64_lt_f, q64_le_t, q64_le_f, q64_eq_t, q64_eq_f, rdI_i, rdL_i, rdR_i, rdN_i, stI_i, stL_i, stR_i, wI_s, wI_n, wL_s, wL_n, wI_2, wI_3, wL_1, wL_3, wR_1, wR_2, Int.toNat_natCast, tnO, tn_add, tn_sub, tn_mul, Nat.add_sub_cancel, Nat.add_zero, Nat.zero_add, lnO, win_t, win_f]
                rfl
              | succ k =>
                have := w2 k (by rw [List.length_cons] at hk; omega)
                rw [show i + 1 + k = i + (k + 1) by omega] at this
                exact this
theorem partsL10 {F : Nat} {s : List Sh} (hp : ∃ t, s = sB ++ t) : ∀ (f fuel : Nat) (m : Mem) (x : FR) (i : Nat), RF m → PQ x → x.1 < f → x.1 * (2 : Int) ^ i < x.2 → i ≤ 30 → 31 < fuel + i → ∃ m', nl_X10_laysParts_11 F s fuel m 23 (q64 x.1) (q64 x.2) (q32 i) = some (q32 (PRA (PRT f x) i), m') ∧ m'.2.2 = m.2.2 ∧ (∀ a k, a ≠ 43 ∨ k < i → m'.1 a k = m.1 a k) ∧ (∀ a k, a ≠ 23 → m'.2.1 a k = m.2.1 a k) ∧ ∀ l, PRT f x = some l → ∀ k, k < l.length → m'.1 43 (i + k) = q32 (l.getD k 0) := by
  have l43 := ln43 hp
  intro f
  induction f with
  | zero => intro fuel m x i hr hq hf; have := hq.1; omega
  | succ f ih =>
    intro fuel m x i hr hq hf hx hi hfu
    obtain ⟨fuel, rfl⟩ : ∃ f, fuel = f + 1 := ⟨fuel - 1, by omega⟩
    have r42 := rf23_42 hr
    have hq' := hq
    obtain ⟨h1, h2, h3, h4, h5⟩ := hq'
    show ∃ m', nb_X10_laysParts_11 F s (nl_X10_laysParts_11 F s fuel) m 23 (q64 x.1) (q64 x.2) (q32 i) = _ ∧ _
    by_cases z : x.1 = 0
    · rw [PRT_z z]
      refine ⟨m, ?_, rfl, fun _ _ _ => rfl, fun _ _ _ => rfl, fun l hl => ?_⟩
      · unfold nb_X10_laysParts_11 PRA
        simp (disch := omega) only [Option.bind_some, bindv, bindv0, bind2_s, bind3_s, ↓reduceIte, Bool.false_eq_true, rZM_0, rZM_1, rZP_0, rZP_1, ptZ_0, ptZ_1, c32i, c64i, ncI, Int.natCast_add, Int.natCast_mul, q32_neg, q64_neg, q32_add, q32_sub, q32_mul, q64_add, q64_sub, q64_mul, q32_64i, q64_32, q32_lt_t, q32_lt_f, q32_le_t, q32_le_f, q32_eq_t, q32_eq_f, q64_lt_t, q64_lt_f, q64_le_t, q64_le_f, q64_eq_t, q64_eq_f, rdI_i, rdL_i, rdR_i, rdN_i, stI_i, stL_i, stR_i, wI_s, wI_n, wL_s, wL_n, wI_2, wI_3, wL_1, wL_3, wR_1, wR_2, Int.toNat_natCast, tnO, tn_add, tn_sub, tn_mul, Nat.add_sub_cancel, Nat.add_zero, Nat.zero_add, lnO, win_t, win_f, z, List.length_nil]
      · injection hl with hl; subst hl
        exact fun k hk => by simp at hk
    · obtain ⟨n1, n2, n3, n4⟩ := PN_b hq z
      obtain ⟨a1, a2, a3, a4, a5, a6, a7, -⟩ := PX_b hq z
      have dv : q64 (x.2 + x.1 - 1) / q64 x.1 = q64 (PN x) := q64_div_n (by omega)
      unfold nb_X10_laysParts_11 PRT
      rw [if_neg z]
      by_cases c2 : 1000000000 < PN x
      · rw [if_pos c2]
        refine ⟨m, ?_, rfl, fun _ _ _ => rfl, fun _ _ _ => rfl, fun l hl => by cases hl⟩
        simp (disch := omega) only [Option.bind_some, bindv, bindv0, bind2_s, bind3_s, ↓reduceIte, Bool.false_eq_true, rZM_0, rZM_1, rZP_0, rZP_1, ptZ_0, ptZ_1, c32i, c64i, ncI, Int.natCast_add, Int.natCast_mul, q32_neg, q64_neg, q32_add, q32_sub, q32_mul, q64_add, q64_sub, q64_mul, q32_64i, q64_32, q32_lt_t, q32_lt_f, q32_le_t, q32_le_f, q32_eq_t, q32_eq_f, q64_lt_t, q64_lt_f, q64_le_t, q64_le_f, q64_eq_t, q64_eq_f, rdI_i, rdL_i, rdR_i, rdN_i, stI_i, stL_i, stR_i, wI_s, wI_n, wL_s, wL_n, wI_2, wI_3, wL_1, wL_3, wR_1, wR_2, Int.toNat_natCast, tnO, tn_add, tn_sub, tn_mul, Nat.add_sub_cancel, Nat.add_zero, Nat.zero_add, lnO, win_t, win_f, dv]
        rfl
      · rw [if_neg c2]
        obtain ⟨i30, hx'⟩ := PN_p hq z hi hx (by omega)
        have la := lays10e (s := s) (m := wI m 43 i (q32 (PN x))) (p := x.1 * PN x - x.2) (q := x.2 * PN x) a1 a2 a3
        rw [show nrm (x.1 * PN x - x.2) (x.2 * PN x) = PX x from rfl] at la
        by_cases c3 : 1000000000 < (PX x).2
        · rw [if_pos c3]
          have hb : (PX x).2.natAbs < 9223372036854775808 := by
            have := (nrm_ok (p := x.1 * PN x - x.2) (q := x.2 * PN x) a1).2.2.2.1
            have e : (nrm (x.1 * PN x - x.2) (x.2 * PN x)).2 = (PX x).2 := rfl
            omega
          refine ⟨PS (wI m 43 i (q32 (PN x))) (PX x), ?_, rfl, fun a k h => ?_, fun a k h => ?_, fun l hl => by cases hl⟩
          · simp (disch := omega) only [Option.bind_some, bindv, bindv0, bind2_s, bind3_s, ↓reduceIte, Bool.false_eq_true, rZM_0, rZM_1, rZP_0, rZP_1, ptZ_0, ptZ_1, c32i, c64i, ncI, Int.natCast_add, Int.natCast_mul, q32_neg, q64_neg, q32_add, q32_sub, q32_mul, q64_add, q64_sub, q64_mul, q32_64i, q64_32, q32_lt_t, q32_lt_f, q32_le_t, q32_le_f, q32_eq_t, q32_eq_f, q64_lt_t, q64_lt_f, q64_le_t, q64_le_f, q64_eq_t, q64_eq_f, rdI_i, rdL_i, rdR_i, rdN_i, stI_i, stL_i, stR_i, wI_s, wI_n, wL_s, wL_n, wI_2, wI_3, wL_1, wL_3, wR_1, wR_2, Int.toNat_natCast, tnO, tn_add, tn_sub, tn_mul, Nat.add_sub_cancel, Nat.add_zero, Nat.zero_add, lnO, win_t, win_f, dv, r42, la, PS_l]
            rfl
          · rw [PS_1, wI_n (by omega)]
          · rw [PS_n (by omega), wI_2]
        · rw [if_neg c3]
          obtain ⟨m', q1, q2, q3, q4, q5⟩ := ih fuel (PS (wI m 43 i (q32 (PN x))) (PX x)) (PX x) (i + 1) (hr.same rfl) (PX_q hq z (by omega)) (by omega) hx' (by omega) (by omega)
          refine ⟨m', ?_, q2, fun a k h => ?_, fun a k h => ?_, fun l hl => ?_⟩
          · rw [PRA_c]
            rw [Int.natCast_add] at q1
            simp (disch := omega) only [Option.bind_some, bindv, bindv0, bind2_s, bind3_s, ↓reduceIte, Bool.false_eq_true, rZM_0, rZM_1, rZP_0, rZP_1, ptZ_0, ptZ_1, c32i, c64i, ncI, Int.natCast_add, Int.natCast_mul, q32_neg, q64_neg, q32_add, q32_sub, q32_mul, q64_add, q64_sub, q64_mul, q32_64i, q64_32, q32_lt_t, q32_lt_f, q32_le_t, q32_le_f, q32_eq_t, q32_eq_f, q64_lt_t, q64_lt_f, q64_le_t, q64_le_f, q64_eq_t, q64_eq_f, rdI_i, rdL_i, rdR_i, rdN_i, stI_i, stL_i, stR_i, wI_s, wI_n, wL_s, wL_n, wI_2, wI_3, wL_1, wL_3, wR_1, wR_2, Int.toNat_natCast, tnO, tn_add, tn_sub, tn_mul, Nat.add_sub_cancel, Nat.add_zero, Nat.zero_add, lnO, win_t, win_f, dv, r42, la, PS_0, PS_l]
            exact q1
          · rw [q3 a k (by omega), PS_1, wI_n (by omega)]
          · rw [q4 a k h, PS_n (by omega), wI_2]
          · cases hr2 : PRT f (PX x) with
            | none => rw [hr2] at hl; cases hl
            | some l' =>
              rw [hr2] at hl
              injection hl with hl
              subst hl
              intro k hk
              cases k with
              | zero =>
                rw [q3 43 (i + 0) (by omega), PS_1]
                simp (disch := omega) only [Option.bind_some, bindv, bindv0, bind2_s, bind3_s, ↓reduceIte, Bool.false_eq_true, rZM_0, rZM_1, rZP_0, rZP_1, ptZ_0, ptZ_1, c32i, c64i, ncI, Int.natCast_add, Int.natCast_mul, q32_neg, q64_neg, q32_add, q32_sub, q32_mul, q64_add, q64_sub, q64_mul, q32_64i, q64_32, q32_lt_t, q32_lt_f, q32_le_t, q32_le_f, q32_eq_t, q32_eq_f, q64_lt_t, q64_lt_f, q64_le_t, q64_le_f, q64_eq_t, q64_eq_f, rdI_i, rdL_i, rdR_i, rdN_i, stI_i, stL_i, stR_i, wI_s, wI_n, wL_s, wL_n, wI_2, wI_3, wL_1, wL_3, wR_1, wR_2, Int.toNat_natCast, tnO, tn_add, tn_sub, tn_mul, Nat.add_sub_cancel, Nat.add_zero, Nat.zero_add, lnO, win_t, win_f]
                rfl
              | succ k =>
                have := q5 l' hr2 k (by rw [List.length_cons] at hk; omega)
                rw [show i + 1 + k = i + (k + 1) by omega] at this
                exact this
theorem opk_parts {F : Nat} (hF : 1000 ≤ F) {s : List Sh} {m : Mem} (h : INV s m) (w1 w2 w3 : Int32) : OPK s m (n_X9_parts F s m 0 w1 w2 w3) (fun m1 => n_X10_parts F s m1 23 w1 w2 w3) := by
  have h0 := h
  obtain ⟨hg, ow, nw, hst⟩ := h
  have hl := hst.1
  have hp := hl.hp
  have hr := hl.rf
  have hn := hl.hn
  have rn := hl.nw
  have r1 := rf23_1 hr
  have l24 := ln24 hp
  obtain ⟨u, hu, rfl⟩ := q32_of w1
  obtain ⟨l, hll, rfl⟩ := q32_of w2
  obtain ⟨k, hk, rfl⟩ := q32_of w3
  have r12 := rf0_12 hr
  have r13 := rf0_13 hr
  have r14 := rf0_14 hr
  have l21 := ln21 hp
  have l43 := ln43 hp
  have fin : ∀ r m1 m2, n_X9_parts F s m 0 (q32 u) (q32 l) (q32 k) = some (r, m1) → n_X10_parts F s m1 23 (q32 u) (q32 l) (q32 k) = some (r, m2) → SC m m2 → OPK s m (n_X9_parts F s m 0 (q32 u) (q32 l) (q32 k)) (fun m1 => n_X10_parts F s m1 23 (q32 u) (q32 l) (q32 k)) := fun r m1 m2 e1 e2 sc =>
    opk_fin h0 e1 e2 (un_X10_parts (un_X9_parts hg (okB hp).1 e1).2 (okB hp).2 e2).2 sc
  rcases asks_cases (F := F) (by omega) hst hu hll with ⟨m1, k1, k2, k3⟩ | ⟨f, k1, k2, k3⟩
  · obtain ⟨m2, k4, k5⟩ := k3 (wI m1 23 0 (q32 0)) (hr.same k2.r) (by simp (disch := omega) only [Option.bind_some, bindv, bindv0, bind2_s, bind3_s, ↓reduceIte, Bool.false_eq_true, rZM_0, rZM_1, rZP_0, rZP_1, ptZ_0, ptZ_1, c32i, c64i, ncI, Int.natCast_add, Int.natCast_mul, q32_neg, q64_neg, q32_add, q32_sub, q32_mul, q64_add, q64_sub, q64_mul, q32_64i, q64_32, q32_lt_t, q32_lt_f, q32_le_t, q32_le_f, q32_eq_t, q32_eq_f, q64_lt_t, q64_lt_f, q64_le_t, q64_le_f, q64_eq_t, q64_eq_f, rdI_i, rdL_i, rdR_i, rdN_i, stI_i, stL_i, stR_i, wI_s, wI_n, wL_s, wL_n, wI_2, wI_3, wL_1, wL_3, wR_1, wR_2, Int.toNat_natCast, tnO, tn_add, tn_sub, tn_mul, Nat.add_sub_cancel, Nat.add_zero, Nat.zero_add, lnO, win_t, win_f]; exact k2.i _ _ (by omega))
    refine fin (q32 (-3)) m1 m2 ?_ ?_ (k2.tr ((SC.k0 m1).tr k5))
    · unfold n_X9_parts nb_X9_parts_0
      simp (disch := omega) only [Option.bind_some, bindv, bindv0, bind2_s, bind3_s, ↓reduceIte, Bool.false_eq_true, rZM_0, rZM_1, rZP_0, rZP_1, ptZ_0, ptZ_1, c32i, c64i, ncI, Int.natCast_add, Int.natCast_mul, q32_neg, q64_neg, q32_add, q32_sub, q32_mul, q64_add, q64_sub, q64_mul, q32_64i, q64_32, q32_lt_t, q32_lt_f, q32_le_t, q32_le_f, q32_eq_t, q32_eq_f, q64_lt_t, q64_lt_f, q64_le_t, q64_le_f, q64_eq_t, q64_eq_f, rdI_i, rdL_i, rdR_i, rdN_i, stI_i, stL_i, stR_i, wI_s, wI_n, wL_s, wL_n, wI_2, wI_3, wL_1, wL_3, wR_1, wR_2, Int.toNat_natCast, tnO, tn_add, tn_sub, tn_mul, Nat.add_sub_cancel, Nat.add_zero, Nat.zero_add, lnO, win_t, win_f, k1]
    · unfold n_X10_parts nb_X10_parts_0
      simp (disch := omega) only [Option.bind_some, bindv, bindv0, bind2_s, bind3_s, ↓reduceIte, Bool.false_eq_true, rZM_0, rZM_1, rZP_0, rZP_1, ptZ_0, ptZ_1, c32i, c64i, ncI, Int.natCast_add, Int.natCast_mul, q32_neg, q64_neg, q32_add, q32_sub, q32_mul, q64_add, q64_sub, q64_mul, q32_64i, q64_32, q32_lt_t, q32_lt_f, q32_le_t, q32_le_f, q32_eq_t, q32_eq_f, q64_lt_t, q64_lt_f, q64_le_t, q64_le_f, q64_eq_t, q64_eq_f, rdI_i, rdL_i, rdR_i, rdN_i, stI_i, stL_i, stR_i, wI_s, wI_n, wL_s, wL_n, wI_2, wI_3, wL_1, wL_3, wR_1, wR_2, Int.toNat_natCast, tnO, tn_add, tn_sub, tn_mul, Nat.add_sub_cancel, Nat.add_zero, Nat.zero_add, lnO, win_t, win_f, k4]
  · have kf := k1
    unfold FLR at kf
    have k2' : n_X9_asksFloor F s m 0 (q32 u) (q32 l) = some (q32 1, PT m 19 f) := k2
    have em : f.1 - f.1.tdiv f.2 * f.2 = f.1.tmod f.2 := by rw [Int.tmod_def, Int.mul_comm]
    have tm1 : 0 ≤ f.1.tmod f.2 := Int.tmod_nonneg _ kf.1
    have tm2 : f.1.tmod f.2 < f.2 := Int.tmod_lt_of_pos _ (by omega)
    have tdb := td_b (p := f.1) (q := f.2) (B := 1000000) kf.1 (by omega) (by
      have : (1000000 : Int) * 1 ≤ 1000000 * f.2 := Int.mul_le_mul_of_nonneg_left (by omega) (by omega)
      omega)
    have gc : Int.gcd (f.1.tmod f.2) f.2 = 1 := by rw [Int.gcd_comm, gcd_step]; exact kf.2.2.2.2.2
    have pu := put9 (F := F) (s := s) (m := PT m 19 f) (r := 20) (by omega) (p := f.1.tmod f.2) (q := f.2) (by omega) (by omega) (by omega)
    rw [nrm_low (by omega) gc] at pu
    have hq : PQ (f.1.tmod f.2, f.2) := ⟨tm1, by first | omega | (dsimp only; omega), by first | omega | (dsimp only; omega), by first | omega | (dsimp only; omega), fun _ => tm2⟩
    have wh : n_X2_whole s (PT m 19 f) 19 = some (q64 (f.1.tdiv f.2)) := by
      unfold n_X2_whole nb_X2_whole_0
      rw [PT_0, PT_l]
      simp (disch := omega) only [Option.bind_some, bindv, bindv0, bind2_s, bind3_s, ↓reduceIte, Bool.false_eq_true, rZM_0, rZM_1, rZP_0, rZP_1, ptZ_0, ptZ_1, c32i, c64i, ncI, Int.natCast_add, Int.natCast_mul, q32_neg, q64_neg, q32_add, q32_sub, q32_mul, q64_add, q64_sub, q64_mul, q32_64i, q64_32, q32_lt_t, q32_lt_f, q32_le_t, q32_le_f, q32_eq_t, q32_eq_f, q64_lt_t, q64_lt_f, q64_le_t, q64_le_f, q64_eq_t, q64_eq_f, rdI_i, rdL_i, rdR_i, rdN_i, stI_i, stL_i, stR_i, wI_s, wI_n, wL_s, wL_n, wI_2, wI_3, wL_1, wL_3, wR_1, wR_2, Int.toNat_natCast, tnO, tn_add, tn_sub, tn_mul, Nat.add_sub_cancel, Nat.add_zero, Nat.zero_add, lnO, win_t, win_f, q64_div_n]
    obtain ⟨m1, p1, p2, p3, p4, p5⟩ := partsL9 (m := PT (PT m 19 f) 20 (f.1.tmod f.2, f.2)) hF hp 2000000 F _ 0 (hr.same rfl) hq (by first | omega | (dsimp only; omega)) (by simp; exact tm2) (by omega) (by omega) (PT_0 _ _ _) (PT_l _ _ _)
    have hr1 : RF m1 := hr.same p3
    have k4 := k3 (wI m1 23 0 (q32 0)) (hr1.same rfl) (by simp (disch := omega) only [Option.bind_some, bindv, bindv0, bind2_s, bind3_s, ↓reduceIte, Bool.false_eq_true, rZM_0, rZM_1, rZP_0, rZP_1, ptZ_0, ptZ_1, c32i, c64i, ncI, Int.natCast_add, Int.natCast_mul, q32_neg, q64_neg, q32_add, q32_sub, q32_mul, q64_add, q64_sub, q64_mul, q32_64i, q64_32, q32_lt_t, q32_lt_f, q32_le_t, q32_le_f, q32_eq_t, q32_eq_f, q64_lt_t, q64_lt_f, q64_le_t, q64_le_f, q64_eq_t, q64_eq_f, rdI_i, rdL_i, rdR_i, rdN_i, stI_i, stL_i, stR_i, wI_s, wI_n, wL_s, wL_n, wI_2, wI_3, wL_1, wL_3, wR_1, wR_2, Int.toNat_natCast, tnO, tn_add, tn_sub, tn_mul, Nat.add_sub_cancel, Nat.add_zero, Nat.zero_add, lnO, win_t, win_f]; rw [p2]; rfl)
    obtain ⟨m2, q1, q2, q3, q4, q5⟩ := partsL10 (F := F) (m := PS (wI m1 23 0 (q32 0)) f) hp 2000000 F (f.1.tmod f.2, f.2) 0 (hr1.same rfl) hq (by first | omega | (dsimp only; omega)) (by simp; exact tm2) (by omega) (by omega)
    generalize hP : PRT 2000000 (f.1.tmod f.2, f.2) = o at *
    have r14' : m1.2.2 0 14 = some 21 := by rw [p3]; exact r14
    have r42' : m2.2.2 23 42 = some 43 := by rw [q2]; exact rf23_42 hr1
    have c0 : (PT m 19 f).2.1 19 0 = q64 f.1 := PT_0 _ _ _
    have c1 : (PT m 19 f).2.1 19 1 = q64 f.2 := PT_l _ _ _
    have lp : n_X9_layParts F s (PT m 19 f) 0 = some (q32 (PRA o 0), m1) := by
      unfold n_X9_layParts nb_X9_layParts_0
      simp (disch := omega) only [Option.bind_some, bindv, bindv0, bind2_s, bind3_s, ↓reduceIte, Bool.false_eq_true, rZM_0, rZM_1, rZP_0, rZP_1, ptZ_0, ptZ_1, c32i, c64i, ncI, Int.natCast_add, Int.natCast_mul, q32_neg, q64_neg, q32_add, q32_sub, q32_mul, q64_add, q64_sub, q64_mul, q32_64i, q64_32, q32_lt_t, q32_lt_f, q32_le_t, q32_le_f, q32_eq_t, q32_eq_f, q64_lt_t, q64_lt_f, q64_le_t, q64_le_f, q64_eq_t, q64_eq_f, rdI_i, rdL_i, rdR_i, rdN_i, stI_i, stL_i, stR_i, wI_s, wI_n, wL_s, wL_n, wI_2, wI_3, wL_1, wL_3, wR_1, wR_2, Int.toNat_natCast, tnO, tn_add, tn_sub, tn_mul, Nat.add_sub_cancel, Nat.add_zero, Nat.zero_add, lnO, win_t, win_f, PT_3, r12, r13, wh, c0, c1, em, pu]
      exact p1
    have la : n_X10_laysParts F s (PS (wI m1 23 0 (q32 0)) f) 23 (q64 f.1) (q64 f.2) = some (q32 (PRA o 0), m2) := by
      unfold n_X10_laysParts nb_X10_laysParts_0
      simp (disch := omega) only [Option.bind_some, bindv, bindv0, bind2_s, bind3_s, ↓reduceIte, Bool.false_eq_true, rZM_0, rZM_1, rZP_0, rZP_1, ptZ_0, ptZ_1, c32i, c64i, ncI, Int.natCast_add, Int.natCast_mul, q32_neg, q64_neg, q32_add, q32_sub, q32_mul, q64_add, q64_sub, q64_mul, q32_64i, q64_32, q32_lt_t, q32_lt_f, q32_le_t, q32_le_f, q32_eq_t, q32_eq_f, q64_lt_t, q64_lt_f, q64_le_t, q64_le_f, q64_eq_t, q64_eq_f, rdI_i, rdL_i, rdR_i, rdN_i, stI_i, stL_i, stR_i, wI_s, wI_n, wL_s, wL_n, wI_2, wI_3, wL_1, wL_3, wR_1, wR_2, Int.toNat_natCast, tnO, tn_add, tn_sub, tn_mul, Nat.add_sub_cancel, Nat.add_zero, Nat.zero_add, lnO, win_t, win_f, q64_rem_n]
      exact q1
    have sc : SC m m2 := by
      refine SC.of (fun a k => ?_) (fun a k => ?_) (by rw [q2]; exact p3)
      · by_cases c : a = 43 ∨ (a = 23 ∧ k = 0)
        · omega
        · rw [q3 a k (by omega), PS_1, wI_n (by omega), p2]; simp [PT_1]
      · by_cases c : a = 23 ∨ a = 19 ∨ a = 20 ∨ a = 21
        · omega
        · rw [q4 a k (by omega), PS_n (by omega), wI_2, p4 a k (by omega), PT_n (by omega), PT_n (by omega)]; simp
    cases o with
    | none =>
      refine fin (q32 (-4)) m1 m2 ?_ ?_ sc
      · unfold n_X9_parts nb_X9_parts_0
        unfold PRA at lp
        simp (disch := omega) only [Option.bind_some, bindv, bindv0, bind2_s, bind3_s, ↓reduceIte, Bool.false_eq_true, rZM_0, rZM_1, rZP_0, rZP_1, ptZ_0, ptZ_1, c32i, c64i, ncI, Int.natCast_add, Int.natCast_mul, q32_neg, q64_neg, q32_add, q32_sub, q32_mul, q64_add, q64_sub, q64_mul, q32_64i, q64_32, q32_lt_t, q32_lt_f, q32_le_t, q32_le_f, q32_eq_t, q32_eq_f, q64_lt_t, q64_lt_f, q64_le_t, q64_le_f, q64_eq_t, q64_eq_f, rdI_i, rdL_i, rdR_i, rdN_i, stI_i, stL_i, stR_i, wI_s, wI_n, wL_s, wL_n, wI_2, wI_3, wL_1, wL_3, wR_1, wR_2, Int.toNat_natCast, tnO, tn_add, tn_sub, tn_mul, Nat.add_sub_cancel, Nat.add_zero, Nat.zero_add, lnO, win_t, win_f, k2', lp]
      · unfold n_X10_parts nb_X10_parts_0
        unfold PRA at la
        simp (disch := omega) only [Option.bind_some, bindv, bindv0, bind2_s, bind3_s, ↓reduceIte, Bool.false_eq_true, rZM_0, rZM_1, rZP_0, rZP_1, ptZ_0, ptZ_1, c32i, c64i, ncI, Int.natCast_add, Int.natCast_mul, q32_neg, q64_neg, q32_add, q32_sub, q32_mul, q64_add, q64_sub, q64_mul, q32_64i, q64_32, q32_lt_t, q32_lt_f, q32_le_t, q32_le_f, q32_eq_t, q32_eq_f, q64_lt_t, q64_lt_f, q64_le_t, q64_le_f, q64_eq_t, q64_eq_f, rdI_i, rdL_i, rdR_i, rdN_i, stI_i, stL_i, stR_i, wI_s, wI_n, wL_s, wL_n, wI_2, wI_3, wL_1, wL_3, wR_1, wR_2, Int.toNat_natCast, tnO, tn_add, tn_sub, tn_mul, Nat.add_sub_cancel, Nat.add_zero, Nat.zero_add, lnO, win_t, win_f, k4, PS_0, PS_l, la]
    | some ps =>
      obtain ⟨w1, w2⟩ := p5 ps rfl
      have w3 := q5 ps rfl
      have ep : PRA (some ps) 0 = (ps.length : Int) := by unfold PRA; simp
      rw [ep] at lp la
      by_cases d1 : k = -1
      · refine fin (q32 (ps.length : Int)) m1 m2 ?_ ?_ sc
        · unfold n_X9_parts nb_X9_parts_0
          simp (disch := omega) only [Option.bind_some, bindv, bindv0, bind2_s, bind3_s, ↓reduceIte, Bool.false_eq_true, rZM_0, rZM_1, rZP_0, rZP_1, ptZ_0, ptZ_1, c32i, c64i, ncI, Int.natCast_add, Int.natCast_mul, q32_neg, q64_neg, q32_add, q32_sub, q32_mul, q64_add, q64_sub, q64_mul, q32_64i, q64_32, q32_lt_t, q32_lt_f, q32_le_t, q32_le_f, q32_eq_t, q32_eq_f, q64_lt_t, q64_lt_f, q64_le_t, q64_le_f, q64_eq_t, q64_eq_f, rdI_i, rdL_i, rdR_i, rdN_i, stI_i, stL_i, stR_i, wI_s, wI_n, wL_s, wL_n, wI_2, wI_3, wL_1, wL_3, wR_1, wR_2, Int.toNat_natCast, tnO, tn_add, tn_sub, tn_mul, Nat.add_sub_cancel, Nat.add_zero, Nat.zero_add, lnO, win_t, win_f, k2', lp]
        · unfold n_X10_parts nb_X10_parts_0
          simp (disch := omega) only [Option.bind_some, bindv, bindv0, bind2_s, bind3_s, ↓reduceIte, Bool.false_eq_true, rZM_0, rZM_1, rZP_0, rZP_1, ptZ_0, ptZ_1, c32i, c64i, ncI, Int.natCast_add, Int.natCast_mul, q32_neg, q64_neg, q32_add, q32_sub, q32_mul, q64_add, q64_sub, q64_mul, q32_64i, q64_32, q32_lt_t, q32_lt_f, q32_le_t, q32_le_f, q32_eq_t, q32_eq_f, q64_lt_t, q64_lt_f, q64_le_t, q64_le_f, q64_eq_t, q64_eq_f, rdI_i, rdL_i, rdR_i, rdN_i, stI_i, stL_i, stR_i, wI_s, wI_n, wL_s, wL_n, wI_2, wI_3, wL_1, wL_3, wR_1, wR_2, Int.toNat_natCast, tnO, tn_add, tn_sub, tn_mul, Nat.add_sub_cancel, Nat.add_zero, Nat.zero_add, lnO, win_t, win_f, k4, PS_0, PS_l, la]
      · by_cases d2 : 0 ≤ k ∧ k < ps.length
        · obtain ⟨j, rfl⟩ := Int.eq_ofNat_of_zero_le d2.1
          obtain ⟨v9, v2, v3⟩ := w2 j (by omega)
          have v10 := w3 j (by omega)
          rw [Nat.zero_add] at v9 v10
          refine fin (q32 (ps.getD j 0)) m1 m2 ?_ ?_ sc
          · unfold n_X9_parts nb_X9_parts_0
            simp (disch := omega) only [Option.bind_some, bindv, bindv0, bind2_s, bind3_s, ↓reduceIte, Bool.false_eq_true, rZM_0, rZM_1, rZP_0, rZP_1, ptZ_0, ptZ_1, c32i, c64i, ncI, Int.natCast_add, Int.natCast_mul, q32_neg, q64_neg, q32_add, q32_sub, q32_mul, q64_add, q64_sub, q64_mul, q32_64i, q64_32, q32_lt_t, q32_lt_f, q32_le_t, q32_le_f, q32_eq_t, q32_eq_f, q64_lt_t, q64_lt_f, q64_le_t, q64_le_f, q64_eq_t, q64_eq_f, rdI_i, rdL_i, rdR_i, rdN_i, stI_i, stL_i, stR_i, wI_s, wI_n, wL_s, wL_n, wI_2, wI_3, wL_1, wL_3, wR_1, wR_2, Int.toNat_natCast, tnO, tn_add, tn_sub, tn_mul, Nat.add_sub_cancel, Nat.add_zero, Nat.zero_add, lnO, win_t, win_f, k2', lp, r14', v9]
          · unfold n_X10_parts nb_X10_parts_0
            simp (disch := omega) only [Option.bind_some, bindv, bindv0, bind2_s, bind3_s, ↓reduceIte, Bool.false_eq_true, rZM_0, rZM_1, rZP_0, rZP_1, ptZ_0, ptZ_1, c32i, c64i, ncI, Int.natCast_add, Int.natCast_mul, q32_neg, q64_neg, q32_add, q32_sub, q32_mul, q64_add, q64_sub, q64_mul, q32_64i, q64_32, q32_lt_t, q32_lt_f, q32_le_t, q32_le_f, q32_eq_t, q32_eq_f, q64_lt_t, q64_lt_f, q64_le_t, q64_le_f, q64_eq_t, q64_eq_f, rdI_i, rdL_i, rdR_i, rdN_i, stI_i, stL_i, stR_i, wI_s, wI_n, wL_s, wL_n, wI_2, wI_3, wL_1, wL_3, wR_1, wR_2, Int.toNat_natCast, tnO, tn_add, tn_sub, tn_mul, Nat.add_sub_cancel, Nat.add_zero, Nat.zero_add, lnO, win_t, win_f, k4, PS_0, PS_l, la, r42', v10]
        · refine fin (q32 (-1)) m1 m2 ?_ ?_ sc
          · unfold n_X9_parts nb_X9_parts_0
            by_cases c3 : k < 0
            · simp (disch := omega) only [Option.bind_some, bindv, bindv0, bind2_s, bind3_s, ↓reduceIte, Bool.false_eq_true, rZM_0, rZM_1, rZP_0, rZP_1, ptZ_0, ptZ_1, c32i, c64i, ncI, Int.natCast_add, Int.natCast_mul, q32_neg, q64_neg, q32_add, q32_sub, q32_mul, q64_add, q64_sub, q64_mul, q32_64i, q64_32, q32_lt_t, q32_lt_f, q32_le_t, q32_le_f, q32_eq_t, q32_eq_f, q64_lt_t, q64_lt_f, q64_le_t, q64_le_f, q64_eq_t, q64_eq_f, rdI_i, rdL_i, rdR_i, rdN_i, stI_i, stL_i, stR_i, wI_s, wI_n, wL_s, wL_n, wI_2, wI_3, wL_1, wL_3, wR_1, wR_2, Int.toNat_natCast, tnO, tn_add, tn_sub, tn_mul, Nat.add_sub_cancel, Nat.add_zero, Nat.zero_add, lnO, win_t, win_f, k2', lp]
            · simp (disch := omega) only [Option.bind_some, bindv, bindv0, bind2_s, bind3_s, ↓reduceIte, Bool.false_eq_true, rZM_0, rZM_1, rZP_0, rZP_1, ptZ_0, ptZ_1, c32i, c64i, ncI, Int.natCast_add, Int.natCast_mul, q32_neg, q64_neg, q32_add, q32_sub, q32_mul, q64_add, q64_sub, q64_mul, q32_64i, q64_32, q32_lt_t, q32_lt_f, q32_le_t, q32_le_f, q32_eq_t, q32_eq_f, q64_lt_t, q64_lt_f, q64_le_t, q64_le_f, q64_eq_t, q64_eq_f, rdI_i, rdL_i, rdR_i, rdN_i, stI_i, stL_i, stR_i, wI_s, wI_n, wL_s, wL_n, wI_2, wI_3, wL_1, wL_3, wR_1, wR_2, Int.toNat_natCast, tnO, tn_add, tn_sub, tn_mul, Nat.add_sub_cancel, Nat.add_zero, Nat.zero_add, lnO, win_t, win_f, k2', lp]
          · unfold n_X10_parts nb_X10_parts_0
            simp (disch := omega) only [Option.bind_some, bindv, bindv0, bind2_s, bind3_s, ↓reduceIte, Bool.false_eq_true, rZM_0, rZM_1, rZP_0, rZP_1, ptZ_0, ptZ_1, c32i, c64i, ncI, Int.natCast_add, Int.natCast_mul, q32_neg, q64_neg, q32_add, q32_sub, q32_mul, q64_add, q64_sub, q64_mul, q32_64i, q64_32, q32_lt_t, q32_lt_f, q32_le_t, q32_le_f, q32_eq_t, q32_eq_f, q64_lt_t, q64_lt_f, q64_le_t, q64_le_f, q64_eq_t, q64_eq_f, rdI_i, rdL_i, rdR_i, rdN_i, stI_i, stL_i, stR_i, wI_s, wI_n, wL_s, wL_n, wI_2, wI_3, wL_1, wL_3, wR_1, wR_2, Int.toNat_natCast, tnO, tn_add, tn_sub, tn_mul, Nat.add_sub_cancel, Nat.add_zero, Nat.zero_add, lnO, win_t, win_f, k4, PS_0, PS_l, la]
