/-! twins by the reference -/
theorem rowsL10 {F : Nat} {s : List Sh} (hp : ∃ t, s = sB ++ t) {m : Mem} (hr : RF m) {bc : Nat} (hb2 : m.1 24 2 = q32 bc) (hbc : bc ≤ 6) {n : Nat} (hn : n ≤ 5) : ∀ j k fuel, k + j = n → j < fuel → nl_X10_rowsOf_4 F s m fuel 23 (q32 n) (q32 (bc ^ k : Nat)) (q32 (k : Nat)) = some (q32 (bc ^ n : Nat)) := by
  have l24 := ln24 hp
  have r1 := rf23_1 hr
  intro j
  induction j with
  | zero =>
    intro k fuel hk hfu
    obtain ⟨fuel, rfl⟩ : ∃ f, fuel = f + 1 := ⟨fuel - 1, by omega⟩
    have hk' : k = n := by omega
    subst hk'
    show nb_X10_rowsOf_4 F s (nl_X10_rowsOf_4 F s m fuel) m 23 _ _ _ = _
    unfold nb_X10_rowsOf_4
    generalize bc ^ k = g
    simp (disch := omega) only [Option.bind_some, bindv, bindv0, bind2_s, bind3_s, ↓reduceIte, Bool.false_eq_true, rZM_0, rZM_1, rZP_0, rZP_1, ptZ_0, ptZ_1, c32i, c64i, ncI, Int.natCast_add, Int.natCast_mul, q32_neg, q64_neg, q32_add, q32_sub, q32_mul, q64_add, q64_sub, q64_mul, q32_64i, q64_32, q32_lt_t, q32_lt_f, q32_le_t, q32_le_f, q32_eq_t, q32_eq_f, q64_lt_t, q64_lt_f, q64_le_t, q64_le_f, q64_eq_t, q64_eq_f, rdI_i, rdL_i, rdR_i, rdN_i, stI_i, stL_i, stR_i, wI_s, wI_n, wL_s, wL_n, wI_2, wI_3, wL_1, wL_3, wR_1, wR_2, Int.toNat_natCast, tnO, tn_add, tn_sub, tn_mul, Nat.add_sub_cancel, Nat.add_zero, Nat.zero_add, lnO, win_t, win_f]
  | succ j ih =>
    intro k fuel hk hfu
    obtain ⟨fuel, rfl⟩ : ∃ f, fuel = f + 1 := ⟨fuel - 1, by omega⟩
    have ih := ih (k + 1) fuel (by omega) (by omega)
    rw [Nat.pow_succ, Int.natCast_mul, Int.natCast_add] at ih
    rw [← ih]
    show nb_X10_rowsOf_4 F s (nl_X10_rowsOf_4 F s m fuel) m 23 _ _ _ = _
    unfold nb_X10_rowsOf_4
    generalize bc ^ k = g
    simp (disch := omega) only [Option.bind_some, bindv, bindv0, bind2_s, bind3_s, ↓reduceIte, Bool.false_eq_true, rZM_0, rZM_1, rZP_0, rZP_1, ptZ_0, ptZ_1, c32i, c64i, ncI, Int.natCast_add, Int.natCast_mul, q32_neg, q64_neg, q32_add, q32_sub, q32_mul, q64_add, q64_sub, q64_mul, q32_64i, q64_32, q32_lt_t, q32_lt_f, q32_le_t, q32_le_f, q32_eq_t, q32_eq_f, q64_lt_t, q64_lt_f, q64_le_t, q64_le_f, q64_eq_t, q64_eq_f, rdI_i, rdL_i, rdR_i, rdN_i, stI_i, stL_i, stR_i, wI_s, wI_n, wL_s, wL_n, wI_2, wI_3, wL_1, wL_3, wR_1, wR_2, Int.toNat_natCast, tnO, tn_add, tn_sub, tn_mul, Nat.add_sub_cancel, Nat.add_zero, Nat.zero_add, lnO, win_t, win_f, r1, hb2]
    first | done | rfl
theorem rows10 {F : Nat} (hF : 20000 ≤ F) {s : List Sh} (hp : ∃ t, s = sB ++ t) {m : Mem} (hr : RF m) {bc : Nat} (hb2 : m.1 24 2 = q32 bc) (hbc : bc ≤ 6) {n : Nat} (hn : n ≤ 5) : n_X10_rowsOf F s m 23 (q32 n) = some (q32 (bc ^ n : Nat)) := rowsL10 hp hr hb2 hbc hn n 0 F (by omega) (by omega)
theorem digL10 {F : Nat} {s : List Sh} (hp : ∃ t, s = sB ++ t) {m : Mem} (hr : RF m) {bc : Nat} (hb2 : m.1 24 2 = q32 bc) (hbc : 1 ≤ bc ∧ bc ≤ 6) {k : Nat} (hk : k ≤ 5) : ∀ j v fuel c, k + j = v → v ≤ 5 → j < fuel → c ≤ 10000 → nl_X10_digit_8 F s m fuel 23 (q32 k) (q32 (c : Nat)) (q32 (v : Nat)) = some (q32 (c / bc ^ j % bc : Nat)) := by
  have l24 := ln24 hp
  have r1 := rf23_1 hr
  intro j
  induction j with
  | zero =>
    intro v fuel c hv h5 hfu hc
    obtain ⟨fuel, rfl⟩ : ∃ f, fuel = f + 1 := ⟨fuel - 1, by omega⟩
    have rm := rem_n (a := c) (b := bc) (by omega) (by omega)
    rw [Nat.pow_zero, Nat.div_one]
    show nb_X10_digit_8 F s (nl_X10_digit_8 F s m fuel) m 23 _ _ _ = _
    unfold nb_X10_digit_8
    simp (disch := omega) only [Option.bind_some, bindv, bindv0, bind2_s, bind3_s, ↓reduceIte, Bool.false_eq_true, rZM_0, rZM_1, rZP_0, rZP_1, ptZ_0, ptZ_1, c32i, c64i, ncI, Int.natCast_add, Int.natCast_mul, q32_neg, q64_neg, q32_add, q32_sub, q32_mul, q64_add, q64_sub, q64_mul, q32_64i, q64_32, q32_lt_t, q32_lt_f, q32_le_t, q32_le_f, q32_eq_t, q32_eq_f, q64_lt_t, q64_lt_f, q64_le_t, q64_le_f, q64_eq_t, q64_eq_f, rdI_i, rdL_i, rdR_i, rdN_i, stI_i, stL_i, stR_i, wI_s, wI_n, wL_s, wL_n, wI_2, wI_3, wL_1, wL_3, wR_1, wR_2, Int.toNat_natCast, tnO, tn_add, tn_sub, tn_mul, Nat.add_sub_cancel, Nat.add_zero, Nat.zero_add, lnO, win_t, win_f, r1, hb2, rm]
  | succ j ih =>
    intro v fuel c hv h5 hfu hc
    obtain ⟨fuel, rfl⟩ : ∃ f, fuel = f + 1 := ⟨fuel - 1, by omega⟩
    have hcb : c / bc ≤ c := Nat.div_le_self _ _
    have ih := ih (v - 1) fuel (c / bc) (by omega) (by omega) (by omega) (by omega)
    have dv : q32 (c : Int) / q32 (bc : Int) = q32 ((c / bc : Nat) : Int) := by
      rw [q32_div (by unfold B31; omega) (by unfold B31; omega) (by omega) (Or.inl (by omega)), tdn]
    rw [Nat.pow_succ, Nat.mul_comm, ← Nat.div_div_eq_div_mul, ← ih]
    show nb_X10_digit_8 F s (nl_X10_digit_8 F s m fuel) m 23 _ _ _ = _
    unfold nb_X10_digit_8
    simp (disch := omega) only [Option.bind_some, bindv, bindv0, bind2_s, bind3_s, ↓reduceIte, Bool.false_eq_true, rZM_0, rZM_1, rZP_0, rZP_1, ptZ_0, ptZ_1, c32i, c64i, ncI, Int.natCast_add, Int.natCast_mul, q32_neg, q64_neg, q32_add, q32_sub, q32_mul, q64_add, q64_sub, q64_mul, q32_64i, q64_32, q32_lt_t, q32_lt_f, q32_le_t, q32_le_f, q32_eq_t, q32_eq_f, q64_lt_t, q64_lt_f, q64_le_t, q64_le_f, q64_eq_t, q64_eq_f, rdI_i, rdL_i, rdR_i, rdN_i, stI_i, stL_i, stR_i, wI_s, wI_n, wL_s, wL_n, wI_2, wI_3, wL_1, wL_3, wR_1, wR_2, Int.toNat_natCast, tnO, tn_add, tn_sub, tn_mul, Nat.add_sub_cancel, Nat.add_zero, Nat.zero_add, lnO, win_t, win_f, r1, hb2, dv]
    rw [show (v : Int) + -1 = ((v - 1 : Nat) : Int) by omega]
theorem dig10 {F : Nat} (hF : 20000 ≤ F) {s : List Sh} (hp : ∃ t, s = sB ++ t) {m : Mem} (hr : RF m) {bc : Nat} (hb2 : m.1 24 2 = q32 bc) (hbc : 1 ≤ bc ∧ bc ≤ 6) {n k c : Nat} (hn : n ≤ 5) (hk : k < n) (hc : c ≤ 10000) : n_X10_digit F s m 23 (q32 c) (q32 n) (q32 k) = some (q32 (c / bc ^ (n - 1 - k) % bc : Nat)) := by
  rw [← digL10 (F := F) hp hr hb2 hbc (k := k) (by omega) (n - 1 - k) (n - 1) F c (by omega) (by omega) (by omega) hc]
  unfold n_X10_digit nb_X10_digit_0
  simp (disch := omega) only [Option.bind_some, bindv, bindv0, bind2_s, bind3_s, ↓reduceIte, Bool.false_eq_true, rZM_0, rZM_1, rZP_0, rZP_1, ptZ_0, ptZ_1, c32i, c64i, ncI, Int.natCast_add, Int.natCast_mul, q32_neg, q64_neg, q32_add, q32_sub, q32_mul, q64_add, q64_sub, q64_mul, q32_64i, q64_32, q32_lt_t, q32_lt_f, q32_le_t, q32_le_f, q32_eq_t, q32_eq_f, q64_lt_t, q64_lt_f, q64_le_t, q64_le_f, q64_eq_t, q64_eq_f, rdI_i, rdL_i, rdR_i, rdN_i, stI_i, stL_i, stR_i, wI_s, wI_n, wL_s, wL_n, wI_2, wI_3, wL_1, wL_3, wR_1, wR_2, Int.toNat_natCast, tnO, tn_add, tn_sub, tn_mul, Nat.add_sub_cancel, Nat.add_zero, Nat.zero_add, lnO, win_t, win_f]
  rw [show (n : Int) - 1 = ((n - 1 : Nat) : Int) by omega]
theorem WK_none {al : Nat → Int32} {bc : Nat} {x : FR} {c : Nat} : ∀ j k, WK al bc x k (c / bc ^ j) = none → WK al bc x (k + j) c = none := by
  intro j
  induction j with
  | zero => intro k h; rw [Nat.pow_zero, Nat.div_one] at h; exact h
  | succ j ih =>
    intro k h
    rw [show k + (j + 1) = (k + 1) + j by omega]
    refine ih (k + 1) ?_
    show (match WK al bc x k (c / bc ^ j / bc) with | none => none | some y => _) = none
    rw [Nat.div_div_eq_div_mul, ← Nat.pow_succ, h]
theorem WK_flr {al : Nat → Int32} (hw : WA al) {bc : Nat} {x : FR} (hx : FLR (A al 1) x.1 x.2) : ∀ n c y, WK al bc x n c = some y → FLR (A al 1) y.1 y.2 := by
  intro n
  induction n with
  | zero => intro c y h; cases h; exact hx
  | succ n ih =>
    intro c y h
    have h' : (match WK al bc x n (c / bc) with | none => none | some y => if (LE al ((c % bc : Nat) : Int) y).1 = 0 then some (LE al ((c % bc : Nat) : Int) y).2 else none) = some y := h
    cases hk : WK al bc x n (c / bc) with
    | none => rw [hk] at h'; cases h'
    | some z =>
      rw [hk] at h'
      dsimp only at h'
      by_cases c0 : (LE al ((c % bc : Nat) : Int) z).1 = 0
      · rw [if_pos c0] at h'
        cases h'
        exact LE_flr hw (ih _ _ hk).ok c0
      · rw [if_neg c0] at h'
        cases h'
theorem ldrL10 {F : Nat} (hF : 20000 ≤ F) {s : List Sh} (hp : ∃ t, s = sB ++ t) {al : Nat → Int32} (hw : WA al) {bc : Nat} (h2 : al 2 = q32 bc) (hbc : 1 ≤ bc ∧ bc ≤ 6) {x : FR} {n c : Nat} (hx : FLR (A al 1) x.1 x.2) (hn : n ≤ 5) (hc : c ≤ 10000) : ∀ j k fuel, k + j = n → j < fuel → ∀ (m : Mem) (y : FR), RD m al → WK al bc x k (c / bc ^ j) = some y → (k = 0 ∨ (m.2.1 23 15 = q64 y.1 ∧ m.2.1 23 16 = q64 y.2)) → ∃ m', KG m m' ∧ (∀ L C D, MG m L C D → MG m' L C D) ∧ ((WK al bc x n c = none ∧ nl_X10_leadsRow_22 F s fuel m 23 (q32 c) (q32 n) (q64 y.1) (q64 y.2) (q32 (k : Nat)) = some (q32 0, m')) ∨ ∃ z, WK al bc x n c = some z ∧ nl_X10_leadsRow_22 F s fuel m 23 (q32 c) (q32 n) (q64 y.1) (q64 y.2) (q32 (k : Nat)) = some (q32 1, m') ∧ (n = 0 ∨ (m'.2.1 23 15 = q64 z.1 ∧ m'.2.1 23 16 = q64 z.2))) := by
  intro j
  induction j with
  | zero =>
    intro k fuel hk hfu m y hr hW h15
    obtain ⟨fuel, rfl⟩ : ∃ f, fuel = f + 1 := ⟨fuel - 1, by omega⟩
    have hk' : k = n := by omega
    subst hk'
    rw [Nat.pow_zero, Nat.div_one] at hW
    refine ⟨m, KG.rf m, fun _ _ _ h => h, Or.inr ⟨y, hW, ?_, h15⟩⟩
    show nb_X10_leadsRow_22 F s (nl_X10_leadsRow_22 F s fuel) m 23 _ _ _ _ _ = _
    unfold nb_X10_leadsRow_22
    simp (disch := omega) only [Option.bind_some, bindv, bindv0, bind2_s, bind3_s, ↓reduceIte, Bool.false_eq_true, rZM_0, rZM_1, rZP_0, rZP_1, ptZ_0, ptZ_1, c32i, c64i, ncI, Int.natCast_add, Int.natCast_mul, q32_neg, q64_neg, q32_add, q32_sub, q32_mul, q64_add, q64_sub, q64_mul, q32_64i, q64_32, q32_lt_t, q32_lt_f, q32_le_t, q32_le_f, q32_eq_t, q32_eq_f, q64_lt_t, q64_lt_f, q64_le_t, q64_le_f, q64_eq_t, q64_eq_f, rdI_i, rdL_i, rdR_i, rdN_i, stI_i, stL_i, stR_i, wI_s, wI_n, wL_s, wL_n, wI_2, wI_3, wL_1, wL_3, wR_1, wR_2, Int.toNat_natCast, tnO, tn_add, tn_sub, tn_mul, Nat.add_sub_cancel, Nat.add_zero, Nat.zero_add, lnO, win_t, win_f]
  | succ j ih =>
    intro k fuel hk hfu m y hr hW h15
    obtain ⟨fuel, rfl⟩ : ∃ f, fuel = f + 1 := ⟨fuel - 1, by omega⟩
    have hb2 : m.1 24 2 = q32 bc := by rw [hr.2 2 (by omega)]; exact h2
    have dg := dig10 hF hp hr.1 hb2 hbc hn (k := k) (by omega) hc
    rw [show n - 1 - k = j by omega] at dg
    have hyf := WK_flr hw hx _ _ _ hW
    have yb := hyf.b
    have hlt : c / bc ^ j % bc < bc := Nat.mod_lt _ (by omega)
    obtain ⟨m1, e1, e2, e3, e4, e5⟩ := glead hF hp hw hr hyf (b := ((c / bc ^ j % bc : Nat) : Int)) (by omega)
    have le := LE_b al ((c / bc ^ j % bc : Nat) : Int) y
    have hW1 : WK al bc x (k + 1) (c / bc ^ j) = if (LE al ((c / bc ^ j % bc : Nat) : Int) y).1 = 0 then some (LE al ((c / bc ^ j % bc : Nat) : Int) y).2 else none := by
      show (match WK al bc x k (c / bc ^ j / bc) with | none => none | some y => _) = _
      rw [Nat.div_div_eq_div_mul, ← Nat.pow_succ, hW]
    by_cases c0 : (LE al ((c / bc ^ j % bc : Nat) : Int) y).1 = 0
    · rw [if_pos c0] at hW1
      rw [c0] at e1
      obtain ⟨a0, a1, -⟩ := e5 c0
      obtain ⟨m2, i1, i2, i3⟩ := ih (k + 1) fuel (by omega) (by omega) m1 _ e3 hW1 (Or.inr ⟨a0, a1⟩)
      have eq : nl_X10_leadsRow_22 F s (fuel + 1) m 23 (q32 c) (q32 n) (q64 y.1) (q64 y.2) (q32 (k : Nat)) = nl_X10_leadsRow_22 F s fuel m1 23 (q32 c) (q32 n) (q64 (LE al ((c / bc ^ j % bc : Nat) : Int) y).2.1) (q64 (LE al ((c / bc ^ j % bc : Nat) : Int) y).2.2) (q32 ((k + 1 : Nat) : Int)) := by
        rw [Int.natCast_add, show ((1 : Nat) : Int) = 1 from rfl]
        show nb_X10_leadsRow_22 F s (nl_X10_leadsRow_22 F s fuel) m 23 _ _ _ _ _ = _
        unfold nb_X10_leadsRow_22
        generalize c / bc ^ j % bc = g at *
        simp (disch := omega) only [Option.bind_some, bindv, bindv0, bind2_s, bind3_s, ↓reduceIte, Bool.false_eq_true, rZM_0, rZM_1, rZP_0, rZP_1, ptZ_0, ptZ_1, c32i, c64i, ncI, Int.natCast_add, Int.natCast_mul, q32_neg, q64_neg, q32_add, q32_sub, q32_mul, q64_add, q64_sub, q64_mul, q32_64i, q64_32, q32_lt_t, q32_lt_f, q32_le_t, q32_le_f, q32_eq_t, q32_eq_f, q64_lt_t, q64_lt_f, q64_le_t, q64_le_f, q64_eq_t, q64_eq_f, rdI_i, rdL_i, rdR_i, rdN_i, stI_i, stL_i, stR_i, wI_s, wI_n, wL_s, wL_n, wI_2, wI_3, wL_1, wL_3, wR_1, wR_2, Int.toNat_natCast, tnO, tn_add, tn_sub, tn_mul, Nat.add_sub_cancel, Nat.add_zero, Nat.zero_add, lnO, win_t, win_f, dg, e1, a0, a1]
      rw [eq]
      exact ⟨m2, e2.tr i1, fun L C D h => i2 _ _ _ (e4 _ _ _ h), i3⟩
    · rw [if_neg c0] at hW1
      have hN := WK_none (al := al) (bc := bc) (x := x) (c := c) j (k + 1) hW1
      rw [show k + 1 + j = n by omega] at hN
      refine ⟨m1, e2, e4, Or.inl ⟨hN, ?_⟩⟩
      show nb_X10_leadsRow_22 F s (nl_X10_leadsRow_22 F s fuel) m 23 _ _ _ _ _ = _
      unfold nb_X10_leadsRow_22
      generalize c / bc ^ j % bc = g at *
      simp (disch := omega) only [Option.bind_some, bindv, bindv0, bind2_s, bind3_s, ↓reduceIte, Bool.false_eq_true, rZM_0, rZM_1, rZP_0, rZP_1, ptZ_0, ptZ_1, c32i, c64i, ncI, Int.natCast_add, Int.natCast_mul, q32_neg, q64_neg, q32_add, q32_sub, q32_mul, q64_add, q64_sub, q64_mul, q32_64i, q64_32, q32_lt_t, q32_lt_f, q32_le_t, q32_le_f, q32_eq_t, q32_eq_f, q64_lt_t, q64_lt_f, q64_le_t, q64_le_f, q64_eq_t, q64_eq_f, rdI_i, rdL_i, rdR_i, rdN_i, stI_i, stL_i, stR_i, wI_s, wI_n, wL_s, wL_n, wI_2, wI_3, wL_1, wL_3, wR_1, wR_2, Int.toNat_natCast, tnO, tn_add, tn_sub, tn_mul, Nat.add_sub_cancel, Nat.add_zero, Nat.zero_add, lnO, win_t, win_f, dg, e1]
theorem ldr10 {F : Nat} (hF : 20000 ≤ F) {s : List Sh} (hp : ∃ t, s = sB ++ t) {al : Nat → Int32} (hw : WA al) {bc : Nat} (h2 : al 2 = q32 bc) (hbc : 1 ≤ bc ∧ bc ≤ 6) {n c : Nat} (hn : 1 ≤ n ∧ n ≤ 5) (hc : c ≤ 10000) {m : Mem} (hr : RD m al) : ∃ m', KG m m' ∧ (∀ L C D, MG m L C D → MG m' L C D) ∧ ((WK al bc (A al 7, A al 8) n c = none ∧ n_X10_leadsRow F s m 23 (q32 c) (q32 n) = some (q32 0, m')) ∨ ∃ z, WK al bc (A al 7, A al 8) n c = some z ∧ n_X10_leadsRow F s m 23 (q32 c) (q32 n) = some (q32 1, m') ∧ m'.2.1 23 15 = q64 z.1 ∧ m'.2.1 23 16 = q64 z.2) := by
  obtain ⟨tp, t1, t2, t3, t4, t5, t6, t7, -⟩ := hw.at
  have hx : FLR (A al 1) (A al 7, A al 8).1 (A al 7, A al 8).2 := by rw [t4]; exact t5
  have xb : 0 ≤ A al 7 ∧ A al 7 ≤ 1000000 ∧ 1 ≤ A al 8 ∧ A al 8 ≤ 1000000 := hx.b
  have l24 := ln24 hp
  have r1 := rf23_1 hr.1
  have h7 : m.1 24 7 = q32 (A al 7) := by rw [hr.2 7 (by omega)]; exact t6
  have h8 : m.1 24 8 = q32 (A al 8) := by rw [hr.2 8 (by omega)]; exact t7
  have pre : n_X10_leadsRow F s m 23 (q32 c) (q32 n) = nl_X10_leadsRow_22 F s F m 23 (q32 c) (q32 n) (q64 (A al 7)) (q64 (A al 8)) (q32 ((0 : Nat) : Int)) := by
    unfold n_X10_leadsRow nb_X10_leadsRow_0
    simp (disch := omega) only [Option.bind_some, bindv, bindv0, bind2_s, bind3_s, ↓reduceIte, Bool.false_eq_true, rZM_0, rZM_1, rZP_0, rZP_1, ptZ_0, ptZ_1, c32i, c64i, ncI, Int.natCast_add, Int.natCast_mul, q32_neg, q64_neg, q32_add, q32_sub, q32_mul, q64_add, q64_sub, q64_mul, q32_64i, q64_32, q32_lt_t, q32_lt_f, q32_le_t, q32_le_f, q32_eq_t, q32_eq_f, q64_lt_t, q64_lt_f, q64_le_t, q64_le_f, q64_eq_t, q64_eq_f, rdI_i, rdL_i, rdR_i, rdN_i, stI_i, stL_i, stR_i, wI_s, wI_n, wL_s, wL_n, wI_2, wI_3, wL_1, wL_3, wR_1, wR_2, Int.toNat_natCast, tnO, tn_add, tn_sub, tn_mul, Nat.add_sub_cancel, Nat.add_zero, Nat.zero_add, lnO, win_t, win_f, r1, h7, h8]
    first | done | rfl
  rw [pre]
  obtain ⟨m', i1, i2, i3⟩ := ldrL10 hF hp hw h2 hbc hx hn.2 hc n 0 F (by omega) (by omega) m _ hr rfl (Or.inl rfl)
  refine ⟨m', i1, i2, ?_⟩
  rcases i3 with ⟨a, b⟩ | ⟨z, a, b, d⟩
  · exact Or.inl ⟨a, b⟩
  · rcases d with d | d
    · omega
    · exact Or.inr ⟨z, a, b, d.1, d.2⟩
