/-! tokens of a text -/
abbrev isBk (c : Int) : Prop := c = 32 ∨ c = 10
abbrev isDg (c : Int) : Prop := 48 ≤ c ∧ c ≤ 57
abbrev isLt (c : Int) : Prop := 97 ≤ c ∧ c ≤ 122
abbrev isSg (c : Int) : Prop := (40 ≤ c ∧ c ≤ 43) ∨ c = 45 ∨ c = 47 ∨ c = 58 ∨ c = 59
def RUN (P : Int → Bool) (T : Nat → Int) : Nat → Nat → Nat
  | 0, p => p
  | n + 1, p => if P (T p) = true then RUN P T n (p + 1) else p
theorem RUN_le {P : Int → Bool} {T : Nat → Int} : ∀ n p, p ≤ RUN P T n p ∧ RUN P T n p ≤ p + n := by
  intro n
  induction n with
  | zero => intro p; exact ⟨Nat.le_refl _, Nat.le_refl _⟩
  | succ n ih =>
    intro p
    have := ih (p + 1)
    unfold RUN
    split <;> omega
theorem RUN_all {P : Int → Bool} {T : Nat → Int} : ∀ n p j, p ≤ j → j < RUN P T n p → P (T j) = true := by
  intro n
  induction n with
  | zero => intro p j h1 h2; have : j < p := h2; omega
  | succ n ih =>
    intro p j h1 h2
    unfold RUN at h2
    by_cases c : P (T p) = true
    · rw [if_pos c] at h2
      by_cases e : j = p
      · rw [e]; exact c
      · exact ih (p + 1) j (by omega) h2
    · rw [if_neg c] at h2; omega
def bkB (c : Int) : Bool := decide (isBk c)
def dgB (c : Int) : Bool := decide (isDg c)
def ltB (c : Int) : Bool := decide (isLt c)
theorem bkB_t {c : Int} (h : isBk c) : bkB c = true := decide_eq_true h
theorem dgB_t {c : Int} (h : isDg c) : dgB c = true := decide_eq_true h
theorem ltB_t {c : Int} (h : isLt c) : ltB c = true := decide_eq_true h
theorem bkB_f {c : Int} (h : ¬ isBk c) : ¬ bkB c = true := fun e => h (of_decide_eq_true e)
theorem dgB_f {c : Int} (h : ¬ isDg c) : ¬ dgB c = true := fun e => h (of_decide_eq_true e)
theorem ltB_f {c : Int} (h : ¬ isLt c) : ¬ ltB c = true := fun e => h (of_decide_eq_true e)
def skp (T : Nat → Int) (N p : Nat) : Nat := RUN bkB T (N - p) p
def endT (T : Nat → Int) (N p : Nat) : Nat := if isDg (T p) then RUN dgB T (N - p) p else if isLt (T p) then RUN ltB T (N - p) p else p + 1
def eqB (T : Nat → Int) : Nat → List Int → Bool
  | _, [] => true
  | p, c :: w => decide (T p = c) && eqB T (p + 1) w
def wd : Nat → List Int
  | 0 => [120]
  | 1 => [116, 111, 112]
  | 2 => [98, 117, 116, 116, 111, 110]
  | 3 => [102, 108, 111, 111, 114]
  | 4 => [104, 97, 115]
  | 5 => [116, 101, 110, 97, 110, 116]
  | 6 => [97, 116]
  | _ => [115, 116, 105, 99, 107]
abbrev WIS (T : Nat → Int) (p n j : Nat) : Prop := n = (wd j).length ∧ eqB T p (wd j) = true
def wkT (T : Nat → Int) (p n : Nat) : Int := if WIS T p n 0 then 11 else if WIS T p n 1 then 4 else if WIS T p n 2 then 5 else if WIS T p n 3 then 6 else if WIS T p n 4 then 10 else if WIS T p n 5 then 7 else if WIS T p n 6 then 8 else if WIS T p n 7 then 9 else 3
def kdT (T : Nat → Int) (N p : Nat) : Int := if N ≤ p then 1 else if isDg (T p) then (if 3 < endT T N p - p then 0 else 2) else if isLt (T p) then wkT T p (endT T N p - p) else if isSg (T p) then T p else 0
def AMT (T : Nat → Int) : Nat → Nat → Int → Int
  | 0, _, a => a
  | n + 1, p, a => AMT T n (p + 1) (a * 10 + T p - 48)
def amT (T : Nat → Int) (N p : Nat) : Int := if kdT T N p = 2 then AMT T (endT T N p - p) p 0 else 0
def tpos (T : Nat → Int) (N : Nat) : Nat → Nat
  | 0 => skp T N 0
  | i + 1 => skp T N (endT T N (tpos T N i))
theorem skp_b {T : Nat → Int} {N p : Nat} (h : p ≤ N) : p ≤ skp T N p ∧ skp T N p ≤ N := by
  have := RUN_le (P := bkB) (T := T) (N - p) p
  unfold skp
  omega
theorem endT_b {T : Nat → Int} {N p : Nat} (h : p < N) : p < endT T N p ∧ endT T N p ≤ N := by
  have e : N - p = (N - (p + 1)) + 1 := by omega
  unfold endT
  split
  · next c =>
    have := RUN_le (P := dgB) (T := T) (N - (p + 1)) (p + 1)
    have e2 : RUN dgB T (N - p) p = RUN dgB T (N - (p + 1)) (p + 1) := by
      rw [e]
      show (if dgB (T p) = true then _ else _) = _
      rw [if_pos (dgB_t c)]
    omega
  · split
    · next c =>
      have := RUN_le (P := ltB) (T := T) (N - (p + 1)) (p + 1)
      have e2 : RUN ltB T (N - p) p = RUN ltB T (N - (p + 1)) (p + 1) := by
        rw [e]
        show (if ltB (T p) = true then _ else _) = _
        rw [if_pos (ltB_t c)]
      omega
    · omega
/-- a text of the class -/
def TXC (s : List Sh) (m : Mem) (tk N : Nat) (T : Nat → Int) : Prop := m.2.2 tk 4 = some 1 ∧ m.1 tk 5 = q32 N ∧ N ≤ 900 ∧ ln s 1 = 900 ∧ ∀ k, k < N → m.1 1 k = q32 (T k) ∧ 0 ≤ T k ∧ T k < 256
theorem dg9 {c : Int} (h : 0 ≤ c ∧ c < 256) : m_X6_isDigit (q32 c) = some (if isDg c then q32 1 else q32 0) := by
  unfold m_X6_isDigit b_X6_isDigit_0
  by_cases c1 : 48 ≤ c
  · by_cases c2 : c ≤ 57
    · rw [show (if isDg c then q32 1 else q32 0) = q32 1 from if_pos ⟨c1, c2⟩]; simp (disch := omega) only [Option.bind_some, bindv, bindv0, bind2_s, bind3_s, ↓reduceIte, Bool.false_eq_true, rZM_0, rZM_1, rZP_0, rZP_1, ptZ_0, ptZ_1, c32i, c64i, ncI, Int.natCast_add, Int.natCast_mul, q32_neg, q64_neg, q32_add, q32_sub, q32_mul, q64_add, q64_sub, q64_mul, q32_64i, q64_32, q32_lt_t, q32_lt_f, q32_le_t, q32_le_f, q32_eq_t, q32_eq_f, q64_lt_t, q64_lt_f, q64_le_t, q64_le_f, q64_eq_t, q64_eq_f, rdI_i, rdL_i, rdR_i, rdN_i, stI_i, stL_i, stR_i, wI_s, wI_n, wL_s, wL_n, wI_2, wI_3, wL_1, wL_3, wR_1, wR_2, Int.toNat_natCast, tnO, tn_add, tn_sub, tn_mul, Nat.add_sub_cancel, Nat.add_zero, Nat.zero_add, lnO, win_t, win_f]
    · rw [show (if isDg c then q32 1 else q32 0) = q32 0 from if_neg (fun h => c2 h.2)]; simp (disch := omega) only [Option.bind_some, bindv, bindv0, bind2_s, bind3_s, ↓reduceIte, Bool.false_eq_true, rZM_0, rZM_1, rZP_0, rZP_1, ptZ_0, ptZ_1, c32i, c64i, ncI, Int.natCast_add, Int.natCast_mul, q32_neg, q64_neg, q32_add, q32_sub, q32_mul, q64_add, q64_sub, q64_mul, q32_64i, q64_32, q32_lt_t, q32_lt_f, q32_le_t, q32_le_f, q32_eq_t, q32_eq_f, q64_lt_t, q64_lt_f, q64_le_t, q64_le_f, q64_eq_t, q64_eq_f, rdI_i, rdL_i, rdR_i, rdN_i, stI_i, stL_i, stR_i, wI_s, wI_n, wL_s, wL_n, wI_2, wI_3, wL_1, wL_3, wR_1, wR_2, Int.toNat_natCast, tnO, tn_add, tn_sub, tn_mul, Nat.add_sub_cancel, Nat.add_zero, Nat.zero_add, lnO, win_t, win_f]
  · rw [show (if isDg c then q32 1 else q32 0) = q32 0 from if_neg (fun h => c1 h.1)]; simp (disch := omega) only [Option.bind_some, bindv, bindv0, bind2_s, bind3_s, ↓reduceIte, Bool.false_eq_true, rZM_0, rZM_1, rZP_0, rZP_1, ptZ_0, ptZ_1, c32i, c64i, ncI, Int.natCast_add, Int.natCast_mul, q32_neg, q64_neg, q32_add, q32_sub, q32_mul, q64_add, q64_sub, q64_mul, q32_64i, q64_32, q32_lt_t, q32_lt_f, q32_le_t, q32_le_f, q32_eq_t, q32_eq_f, q64_lt_t, q64_lt_f, q64_le_t, q64_le_f, q64_eq_t, q64_eq_f, rdI_i, rdL_i, rdR_i, rdN_i, stI_i, stL_i, stR_i, wI_s, wI_n, wL_s, wL_n, wI_2, wI_3, wL_1, wL_3, wR_1, wR_2, Int.toNat_natCast, tnO, tn_add, tn_sub, tn_mul, Nat.add_sub_cancel, Nat.add_zero, Nat.zero_add, lnO, win_t, win_f]
theorem lt9 {c : Int} (h : 0 ≤ c ∧ c < 256) : m_X6_isLetter (q32 c) = some (if isLt c then q32 1 else q32 0) := by
  unfold m_X6_isLetter b_X6_isLetter_0
  by_cases c1 : 97 ≤ c
  · by_cases c2 : c ≤ 122
    · rw [show (if isLt c then q32 1 else q32 0) = q32 1 from if_pos ⟨c1, c2⟩]; simp (disch := omega) only [Option.bind_some, bindv, bindv0, bind2_s, bind3_s, ↓reduceIte, Bool.false_eq_true, rZM_0, rZM_1, rZP_0, rZP_1, ptZ_0, ptZ_1, c32i, c64i, ncI, Int.natCast_add, Int.natCast_mul, q32_neg, q64_neg, q32_add, q32_sub, q32_mul, q64_add, q64_sub, q64_mul, q32_64i, q64_32, q32_lt_t, q32_lt_f, q32_le_t, q32_le_f, q32_eq_t, q32_eq_f, q64_lt_t, q64_lt_f, q64_le_t, q64_le_f, q64_eq_t, q64_eq_f, rdI_i, rdL_i, rdR_i, rdN_i, stI_i, stL_i, stR_i, wI_s, wI_n, wL_s, wL_n, wI_2, wI_3, wL_1, wL_3, wR_1, wR_2, Int.toNat_natCast, tnO, tn_add, tn_sub, tn_mul, Nat.add_sub_cancel, Nat.add_zero, Nat.zero_add, lnO, win_t, win_f]
    · rw [show (if isLt c then q32 1 else q32 0) = q32 0 from if_neg (fun h => c2 h.2)]; simp (disch := omega) only [Option.bind_some, bindv, bindv0, bind2_s, bind3_s, ↓reduceIte, Bool.false_eq_true, rZM_0, rZM_1, rZP_0, rZP_1, ptZ_0, ptZ_1, c32i, c64i, ncI, Int.natCast_add, Int.natCast_mul, q32_neg, q64_neg, q32_add, q32_sub, q32_mul, q64_add, q64_sub, q64_mul, q32_64i, q64_32, q32_lt_t, q32_lt_f, q32_le_t, q32_le_f, q32_eq_t, q32_eq_f, q64_lt_t, q64_lt_f, q64_le_t, q64_le_f, q64_eq_t, q64_eq_f, rdI_i, rdL_i, rdR_i, rdN_i, stI_i, stL_i, stR_i, wI_s, wI_n, wL_s, wL_n, wI_2, wI_3, wL_1, wL_3, wR_1, wR_2, Int.toNat_natCast, tnO, tn_add, tn_sub, tn_mul, Nat.add_sub_cancel, Nat.add_zero, Nat.zero_add, lnO, win_t, win_f]
  · rw [show (if isLt c then q32 1 else q32 0) = q32 0 from if_neg (fun h => c1 h.1)]; simp (disch := omega) only [Option.bind_some, bindv, bindv0, bind2_s, bind3_s, ↓reduceIte, Bool.false_eq_true, rZM_0, rZM_1, rZP_0, rZP_1, ptZ_0, ptZ_1, c32i, c64i, ncI, Int.natCast_add, Int.natCast_mul, q32_neg, q64_neg, q32_add, q32_sub, q32_mul, q64_add, q64_sub, q64_mul, q32_64i, q64_32, q32_lt_t, q32_lt_f, q32_le_t, q32_le_f, q32_eq_t, q32_eq_f, q64_lt_t, q64_lt_f, q64_le_t, q64_le_f, q64_eq_t, q64_eq_f, rdI_i, rdL_i, rdR_i, rdN_i, stI_i, stL_i, stR_i, wI_s, wI_n, wL_s, wL_n, wI_2, wI_3, wL_1, wL_3, wR_1, wR_2, Int.toNat_natCast, tnO, tn_add, tn_sub, tn_mul, Nat.add_sub_cancel, Nat.add_zero, Nat.zero_add, lnO, win_t, win_f]
theorem blL9 {F : Nat} {s : List Sh} {m : Mem} {tk N : Nat} {T : Nat → Int} (h : TXC s m tk N T) : ∀ n p fuel, p + n = N → n < fuel → nl_X6_behindBlanks_2 F s m fuel tk (q32 (p : Nat)) = some (q32 (RUN bkB T n p : Nat)) := by
  obtain ⟨h1, h2, h3, h4, h5⟩ := h
  intro n
  induction n with
  | zero =>
    intro p fuel hp hfu
    obtain ⟨fuel, rfl⟩ : ∃ f, fuel = f + 1 := ⟨fuel - 1, by omega⟩
    show nb_X6_behindBlanks_2 F s (nl_X6_behindBlanks_2 F s m fuel) m tk _ = some (q32 p)
    unfold nb_X6_behindBlanks_2
    simp (disch := omega) only [Option.bind_some, bindv, bindv0, bind2_s, bind3_s, ↓reduceIte, Bool.false_eq_true, rZM_0, rZM_1, rZP_0, rZP_1, ptZ_0, ptZ_1, c32i, c64i, ncI, Int.natCast_add, Int.natCast_mul, q32_neg, q64_neg, q32_add, q32_sub, q32_mul, q64_add, q64_sub, q64_mul, q32_64i, q64_32, q32_lt_t, q32_lt_f, q32_le_t, q32_le_f, q32_eq_t, q32_eq_f, q64_lt_t, q64_lt_f, q64_le_t, q64_le_f, q64_eq_t, q64_eq_f, rdI_i, rdL_i, rdR_i, rdN_i, stI_i, stL_i, stR_i, wI_s, wI_n, wL_s, wL_n, wI_2, wI_3, wL_1, wL_3, wR_1, wR_2, Int.toNat_natCast, tnO, tn_add, tn_sub, tn_mul, Nat.add_sub_cancel, Nat.add_zero, Nat.zero_add, lnO, win_t, win_f, h2]
  | succ n ih =>
    intro p fuel hp hfu
    obtain ⟨fuel, rfl⟩ : ∃ f, fuel = f + 1 := ⟨fuel - 1, by omega⟩
    obtain ⟨u1, u2, u3⟩ := h5 p (by omega)
    have ih := ih (p + 1) fuel (by omega) (by omega)
    rw [Int.natCast_add p] at ih
    show nb_X6_behindBlanks_2 F s (nl_X6_behindBlanks_2 F s m fuel) m tk _ = some (q32 ((if bkB (T p) = true then RUN bkB T n (p + 1) else p : Nat) : Int))
    unfold nb_X6_behindBlanks_2 nb_X6_behindBlanks_32
    by_cases c : isBk (T p)
    · rw [if_pos (bkB_t c), ← ih]
      rcases c with c | c
      · rw [c] at u1
        simp (disch := omega) only [Option.bind_some, bindv, bindv0, bind2_s, bind3_s, ↓reduceIte, Bool.false_eq_true, rZM_0, rZM_1, rZP_0, rZP_1, ptZ_0, ptZ_1, c32i, c64i, ncI, Int.natCast_add, Int.natCast_mul, q32_neg, q64_neg, q32_add, q32_sub, q32_mul, q64_add, q64_sub, q64_mul, q32_64i, q64_32, q32_lt_t, q32_lt_f, q32_le_t, q32_le_f, q32_eq_t, q32_eq_f, q64_lt_t, q64_lt_f, q64_le_t, q64_le_f, q64_eq_t, q64_eq_f, rdI_i, rdL_i, rdR_i, rdN_i, stI_i, stL_i, stR_i, wI_s, wI_n, wL_s, wL_n, wI_2, wI_3, wL_1, wL_3, wR_1, wR_2, Int.toNat_natCast, tnO, tn_add, tn_sub, tn_mul, Nat.add_sub_cancel, Nat.add_zero, Nat.zero_add, lnO, win_t, win_f, h2, h1, u1]
        first | done | rfl
      · rw [c] at u1
        simp (disch := omega) only [Option.bind_some, bindv, bindv0, bind2_s, bind3_s, ↓reduceIte, Bool.false_eq_true, rZM_0, rZM_1, rZP_0, rZP_1, ptZ_0, ptZ_1, c32i, c64i, ncI, Int.natCast_add, Int.natCast_mul, q32_neg, q64_neg, q32_add, q32_sub, q32_mul, q64_add, q64_sub, q64_mul, q32_64i, q64_32, q32_lt_t, q32_lt_f, q32_le_t, q32_le_f, q32_eq_t, q32_eq_f, q64_lt_t, q64_lt_f, q64_le_t, q64_le_f, q64_eq_t, q64_eq_f, rdI_i, rdL_i, rdR_i, rdN_i, stI_i, stL_i, stR_i, wI_s, wI_n, wL_s, wL_n, wI_2, wI_3, wL_1, wL_3, wR_1, wR_2, Int.toNat_natCast, tnO, tn_add, tn_sub, tn_mul, Nat.add_sub_cancel, Nat.add_zero, Nat.zero_add, lnO, win_t, win_f, h2, h1, u1]
        first | done | rfl
    · rw [if_neg (bkB_f c)]
      have c1 : T p ≠ 32 := fun h => c (Or.inl h)
      have c2 : T p ≠ 10 := fun h => c (Or.inr h)
      simp (disch := omega) only [Option.bind_some, bindv, bindv0, bind2_s, bind3_s, ↓reduceIte, Bool.false_eq_true, rZM_0, rZM_1, rZP_0, rZP_1, ptZ_0, ptZ_1, c32i, c64i, ncI, Int.natCast_add, Int.natCast_mul, q32_neg, q64_neg, q32_add, q32_sub, q32_mul, q64_add, q64_sub, q64_mul, q32_64i, q64_32, q32_lt_t, q32_lt_f, q32_le_t, q32_le_f, q32_eq_t, q32_eq_f, q64_lt_t, q64_lt_f, q64_le_t, q64_le_f, q64_eq_t, q64_eq_f, rdI_i, rdL_i, rdR_i, rdN_i, stI_i, stL_i, stR_i, wI_s, wI_n, wL_s, wL_n, wI_2, wI_3, wL_1, wL_3, wR_1, wR_2, Int.toNat_natCast, tnO, tn_add, tn_sub, tn_mul, Nat.add_sub_cancel, Nat.add_zero, Nat.zero_add, lnO, win_t, win_f, h2, h1, u1]
theorem bl9 {F : Nat} (hF : 20000 ≤ F) {s : List Sh} {m : Mem} {tk N p : Nat} {T : Nat → Int} (h : TXC s m tk N T) (hp : p ≤ N) : n_X6_behindBlanks F s m tk (q32 p) = some (q32 (skp T N p : Nat)) := by
  have := h.2.2.1
  exact blL9 h (N - p) p F (by omega) (by omega)
theorem edL9 {F : Nat} {s : List Sh} {m : Mem} {tk N : Nat} {T : Nat → Int} (h : TXC s m tk N T) : ∀ n p fuel, p + n = N → n < fuel → nl_X6_endOf_14 F s m fuel tk (q32 (p : Nat)) = some (q32 (RUN dgB T n p : Nat)) := by
  obtain ⟨h1, h2, h3, h4, h5⟩ := h
  intro n
  induction n with
  | zero =>
    intro p fuel hp hfu
    obtain ⟨fuel, rfl⟩ : ∃ f, fuel = f + 1 := ⟨fuel - 1, by omega⟩
    show nb_X6_endOf_14 F s (nl_X6_endOf_14 F s m fuel) m tk _ = some (q32 p)
    unfold nb_X6_endOf_14
    simp (disch := omega) only [Option.bind_some, bindv, bindv0, bind2_s, bind3_s, ↓reduceIte, Bool.false_eq_true, rZM_0, rZM_1, rZP_0, rZP_1, ptZ_0, ptZ_1, c32i, c64i, ncI, Int.natCast_add, Int.natCast_mul, q32_neg, q64_neg, q32_add, q32_sub, q32_mul, q64_add, q64_sub, q64_mul, q32_64i, q64_32, q32_lt_t, q32_lt_f, q32_le_t, q32_le_f, q32_eq_t, q32_eq_f, q64_lt_t, q64_lt_f, q64_le_t, q64_le_f, q64_eq_t, q64_eq_f, rdI_i, rdL_i, rdR_i, rdN_i, stI_i, stL_i, stR_i, wI_s, wI_n, wL_s, wL_n, wI_2, wI_3, wL_1, wL_3, wR_1, wR_2, Int.toNat_natCast, tnO, tn_add, tn_sub, tn_mul, Nat.add_sub_cancel, Nat.add_zero, Nat.zero_add, lnO, win_t, win_f, h2]
  | succ n ih =>
    intro p fuel hp hfu
    obtain ⟨fuel, rfl⟩ : ∃ f, fuel = f + 1 := ⟨fuel - 1, by omega⟩
    obtain ⟨u1, u2⟩ := h5 p (by omega)
    have ih := ih (p + 1) fuel (by omega) (by omega)
    rw [Int.natCast_add p] at ih
    have dg := dg9 u2
    show nb_X6_endOf_14 F s (nl_X6_endOf_14 F s m fuel) m tk _ = some (q32 ((if dgB (T p) = true then RUN dgB T n (p + 1) else p : Nat) : Int))
    unfold nb_X6_endOf_14
    by_cases c : isDg (T p)
    · rw [if_pos (dgB_t c), ← ih]
      rw [if_pos c] at dg
      simp (disch := omega) only [Option.bind_some, bindv, bindv0, bind2_s, bind3_s, ↓reduceIte, Bool.false_eq_true, rZM_0, rZM_1, rZP_0, rZP_1, ptZ_0, ptZ_1, c32i, c64i, ncI, Int.natCast_add, Int.natCast_mul, q32_neg, q64_neg, q32_add, q32_sub, q32_mul, q64_add, q64_sub, q64_mul, q32_64i, q64_32, q32_lt_t, q32_lt_f, q32_le_t, q32_le_f, q32_eq_t, q32_eq_f, q64_lt_t, q64_lt_f, q64_le_t, q64_le_f, q64_eq_t, q64_eq_f, rdI_i, rdL_i, rdR_i, rdN_i, stI_i, stL_i, stR_i, wI_s, wI_n, wL_s, wL_n, wI_2, wI_3, wL_1, wL_3, wR_1, wR_2, Int.toNat_natCast, tnO, tn_add, tn_sub, tn_mul, Nat.add_sub_cancel, Nat.add_zero, Nat.zero_add, lnO, win_t, win_f, h2, h1, u1, dg]
      first | done | rfl
    · rw [if_neg (dgB_f c)]
      rw [if_neg c] at dg
      simp (disch := omega) only [Option.bind_some, bindv, bindv0, bind2_s, bind3_s, ↓reduceIte, Bool.false_eq_true, rZM_0, rZM_1, rZP_0, rZP_1, ptZ_0, ptZ_1, c32i, c64i, ncI, Int.natCast_add, Int.natCast_mul, q32_neg, q64_neg, q32_add, q32_sub, q32_mul, q64_add, q64_sub, q64_mul, q32_64i, q64_32, q32_lt_t, q32_lt_f, q32_le_t, q32_le_f, q32_eq_t, q32_eq_f, q64_lt_t, q64_lt_f, q64_le_t, q64_le_f, q64_eq_t, q64_eq_f, rdI_i, rdL_i, rdR_i, rdN_i, stI_i, stL_i, stR_i, wI_s, wI_n, wL_s, wL_n, wI_2, wI_3, wL_1, wL_3, wR_1, wR_2, Int.toNat_natCast, tnO, tn_add, tn_sub, tn_mul, Nat.add_sub_cancel, Nat.add_zero, Nat.zero_add, lnO, win_t, win_f, h2, h1, u1, dg]
theorem elL9 {F : Nat} {s : List Sh} {m : Mem} {tk N : Nat} {T : Nat → Int} (h : TXC s m tk N T) {b : Nat} (hb : b ≤ N) : ∀ n p fuel, p + n = N → n < fuel → b ≤ p → nl_X6_endOf_42 F s m fuel tk (q32 (b : Nat)) (q32 (p : Nat)) = some (q32 (if RUN ltB T n p = b then b + 1 else RUN ltB T n p : Nat)) := by
  obtain ⟨h1, h2, h3, h4, h5⟩ := h
  have n68 : ∀ p : Nat, p ≤ N → nb_X6_endOf_68 F s m (q32 (b : Nat)) (q32 (p : Nat)) = some (q32 (if p = b then b + 1 else p : Nat)) := fun p hp => by
    unfold nb_X6_endOf_68
    by_cases c : p = b
    · rw [if_pos c, c, if_pos rfl, Int.natCast_add]
      simp (disch := omega) only [Option.bind_some, bindv, bindv0, bind2_s, bind3_s, ↓reduceIte, Bool.false_eq_true, rZM_0, rZM_1, rZP_0, rZP_1, ptZ_0, ptZ_1, c32i, c64i, ncI, Int.natCast_add, Int.natCast_mul, q32_neg, q64_neg, q32_add, q32_sub, q32_mul, q64_add, q64_sub, q64_mul, q32_64i, q64_32, q32_lt_t, q32_lt_f, q32_le_t, q32_le_f, q32_eq_t, q32_eq_f, q64_lt_t, q64_lt_f, q64_le_t, q64_le_f, q64_eq_t, q64_eq_f, rdI_i, rdL_i, rdR_i, rdN_i, stI_i, stL_i, stR_i, wI_s, wI_n, wL_s, wL_n, wI_2, wI_3, wL_1, wL_3, wR_1, wR_2, Int.toNat_natCast, tnO, tn_add, tn_sub, tn_mul, Nat.add_sub_cancel, Nat.add_zero, Nat.zero_add, lnO, win_t, win_f]
      first | done | rfl
    · rw [if_neg c]
      simp (disch := omega) only [Option.bind_some, bindv, bindv0, bind2_s, bind3_s, ↓reduceIte, Bool.false_eq_true, rZM_0, rZM_1, rZP_0, rZP_1, ptZ_0, ptZ_1, c32i, c64i, ncI, Int.natCast_add, Int.natCast_mul, q32_neg, q64_neg, q32_add, q32_sub, q32_mul, q64_add, q64_sub, q64_mul, q32_64i, q64_32, q32_lt_t, q32_lt_f, q32_le_t, q32_le_f, q32_eq_t, q32_eq_f, q64_lt_t, q64_lt_f, q64_le_t, q64_le_f, q64_eq_t, q64_eq_f, rdI_i, rdL_i, rdR_i, rdN_i, stI_i, stL_i, stR_i, wI_s, wI_n, wL_s, wL_n, wI_2, wI_3, wL_1, wL_3, wR_1, wR_2, Int.toNat_natCast, tnO, tn_add, tn_sub, tn_mul, Nat.add_sub_cancel, Nat.add_zero, Nat.zero_add, lnO, win_t, win_f]
  intro n
  induction n with
  | zero =>
    intro p fuel hp hfu hbp
    obtain ⟨fuel, rfl⟩ : ∃ f, fuel = f + 1 := ⟨fuel - 1, by omega⟩
    show nb_X6_endOf_42 F s (nl_X6_endOf_42 F s m fuel) m tk _ _ = some (q32 (if p = b then b + 1 else p : Nat))
    rw [← n68 p (by omega)]
    unfold nb_X6_endOf_42
    simp (disch := omega) only [Option.bind_some, bindv, bindv0, bind2_s, bind3_s, ↓reduceIte, Bool.false_eq_true, rZM_0, rZM_1, rZP_0, rZP_1, ptZ_0, ptZ_1, c32i, c64i, ncI, Int.natCast_add, Int.natCast_mul, q32_neg, q64_neg, q32_add, q32_sub, q32_mul, q64_add, q64_sub, q64_mul, q32_64i, q64_32, q32_lt_t, q32_lt_f, q32_le_t, q32_le_f, q32_eq_t, q32_eq_f, q64_lt_t, q64_lt_f, q64_le_t, q64_le_f, q64_eq_t, q64_eq_f, rdI_i, rdL_i, rdR_i, rdN_i, stI_i, stL_i, stR_i, wI_s, wI_n, wL_s, wL_n, wI_2, wI_3, wL_1, wL_3, wR_1, wR_2, Int.toNat_natCast, tnO, tn_add, tn_sub, tn_mul, Nat.add_sub_cancel, Nat.add_zero, Nat.zero_add, lnO, win_t, win_f, h2]
  | succ n ih =>
    intro p fuel hp hfu hbp
    obtain ⟨fuel, rfl⟩ : ∃ f, fuel = f + 1 := ⟨fuel - 1, by omega⟩
    obtain ⟨u1, u2⟩ := h5 p (by omega)
    have ih := ih (p + 1) fuel (by omega) (by omega) (by omega)
    rw [Int.natCast_add p] at ih
    have dg := lt9 u2
    by_cases c : isLt (T p)
    · have e : RUN ltB T (n + 1) p = RUN ltB T n (p + 1) := by
        show (if ltB (T p) = true then _ else _) = _
        rw [if_pos (ltB_t c)]
      rw [e, ← ih]
      rw [if_pos c] at dg
      show nb_X6_endOf_42 F s (nl_X6_endOf_42 F s m fuel) m tk _ _ = _
      unfold nb_X6_endOf_42
      simp (disch := omega) only [Option.bind_some, bindv, bindv0, bind2_s, bind3_s, ↓reduceIte, Bool.false_eq_true, rZM_0, rZM_1, rZP_0, rZP_1, ptZ_0, ptZ_1, c32i, c64i, ncI, Int.natCast_add, Int.natCast_mul, q32_neg, q64_neg, q32_add, q32_sub, q32_mul, q64_add, q64_sub, q64_mul, q32_64i, q64_32, q32_lt_t, q32_lt_f, q32_le_t, q32_le_f, q32_eq_t, q32_eq_f, q64_lt_t, q64_lt_f, q64_le_t, q64_le_f, q64_eq_t, q64_eq_f, rdI_i, rdL_i, rdR_i, rdN_i, stI_i, stL_i, stR_i, wI_s, wI_n, wL_s, wL_n, wI_2, wI_3, wL_1, wL_3, wR_1, wR_2, Int.toNat_natCast, tnO, tn_add, tn_sub, tn_mul, Nat.add_sub_cancel, Nat.add_zero, Nat.zero_add, lnO, win_t, win_f, h2, h1, u1, dg]
      first | done | rfl
    · have e : RUN ltB T (n + 1) p = p := by
        show (if ltB (T p) = true then _ else _) = _
        rw [if_neg (ltB_f c)]
      rw [e, ← n68 p (by omega)]
      rw [if_neg c] at dg
      show nb_X6_endOf_42 F s (nl_X6_endOf_42 F s m fuel) m tk _ _ = _
      unfold nb_X6_endOf_42
      simp (disch := omega) only [Option.bind_some, bindv, bindv0, bind2_s, bind3_s, ↓reduceIte, Bool.false_eq_true, rZM_0, rZM_1, rZP_0, rZP_1, ptZ_0, ptZ_1, c32i, c64i, ncI, Int.natCast_add, Int.natCast_mul, q32_neg, q64_neg, q32_add, q32_sub, q32_mul, q64_add, q64_sub, q64_mul, q32_64i, q64_32, q32_lt_t, q32_lt_f, q32_le_t, q32_le_f, q32_eq_t, q32_eq_f, q64_lt_t, q64_lt_f, q64_le_t, q64_le_f, q64_eq_t, q64_eq_f, rdI_i, rdL_i, rdR_i, rdN_i, stI_i, stL_i, stR_i, wI_s, wI_n, wL_s, wL_n, wI_2, wI_3, wL_1, wL_3, wR_1, wR_2, Int.toNat_natCast, tnO, tn_add, tn_sub, tn_mul, Nat.add_sub_cancel, Nat.add_zero, Nat.zero_add, lnO, win_t, win_f, h2, h1, u1, dg]
theorem en9 {F : Nat} (hF : 20000 ≤ F) {s : List Sh} {m : Mem} {tk N p : Nat} {T : Nat → Int} (h : TXC s m tk N T) (hp : p < N) : n_X6_endOf F s m tk (q32 p) = some (q32 (endT T N p : Nat)) := by
  have h3 := h.2.2.1
  obtain ⟨u1, u2⟩ := h.2.2.2.2 p hp
  have h4 := h.2.2.2.1
  have h1 := h.1
  have dg := dg9 u2
  unfold n_X6_endOf nb_X6_endOf_0 endT
  by_cases c : isDg (T p)
  · rw [if_pos c]
    rw [if_pos c] at dg
    have ed := edL9 (F := F) h (N - p) p F (by omega) (by omega)
    rw [← ed]
    simp (disch := omega) only [Option.bind_some, bindv, bindv0, bind2_s, bind3_s, ↓reduceIte, Bool.false_eq_true, rZM_0, rZM_1, rZP_0, rZP_1, ptZ_0, ptZ_1, c32i, c64i, ncI, Int.natCast_add, Int.natCast_mul, q32_neg, q64_neg, q32_add, q32_sub, q32_mul, q64_add, q64_sub, q64_mul, q32_64i, q64_32, q32_lt_t, q32_lt_f, q32_le_t, q32_le_f, q32_eq_t, q32_eq_f, q64_lt_t, q64_lt_f, q64_le_t, q64_le_f, q64_eq_t, q64_eq_f, rdI_i, rdL_i, rdR_i, rdN_i, stI_i, stL_i, stR_i, wI_s, wI_n, wL_s, wL_n, wI_2, wI_3, wL_1, wL_3, wR_1, wR_2, Int.toNat_natCast, tnO, tn_add, tn_sub, tn_mul, Nat.add_sub_cancel, Nat.add_zero, Nat.zero_add, lnO, win_t, win_f, h1, u1, dg]
  · rw [if_neg c]
    rw [if_neg c] at dg
    have el := elL9 (F := F) h (b := p) (by omega) (N - p) p F (by omega) (by omega) (Nat.le_refl _)
    have e : (if isLt (T p) then RUN ltB T (N - p) p else p + 1) = (if RUN ltB T (N - p) p = p then p + 1 else RUN ltB T (N - p) p) := by
      have en : N - p = (N - (p + 1)) + 1 := by omega
      by_cases cl : isLt (T p)
      · rw [if_pos cl, if_neg]
        have := RUN_le (P := ltB) (T := T) (N - (p + 1)) (p + 1)
        rw [en]
        show ¬ (if ltB (T p) = true then RUN ltB T (N - (p + 1)) (p + 1) else p) = p
        rw [if_pos (ltB_t cl)]
        omega
      · rw [if_neg cl, if_pos]
        rw [en]
        show (if ltB (T p) = true then _ else p) = p
        rw [if_neg (ltB_f cl)]
    rw [e, ← el]
    simp (disch := omega) only [Option.bind_some, bindv, bindv0, bind2_s, bind3_s, ↓reduceIte, Bool.false_eq_true, rZM_0, rZM_1, rZP_0, rZP_1, ptZ_0, ptZ_1, c32i, c64i, ncI, Int.natCast_add, Int.natCast_mul, q32_neg, q64_neg, q32_add, q32_sub, q32_mul, q64_add, q64_sub, q64_mul, q32_64i, q64_32, q32_lt_t, q32_lt_f, q32_le_t, q32_le_f, q32_eq_t, q32_eq_f, q64_lt_t, q64_lt_f, q64_le_t, q64_le_f, q64_eq_t, q64_eq_f, rdI_i, rdL_i, rdR_i, rdN_i, stI_i, stL_i, stR_i, wI_s, wI_n, wL_s, wL_n, wI_2, wI_3, wL_1, wL_3, wR_1, wR_2, Int.toNat_natCast, tnO, tn_add, tn_sub, tn_mul, Nat.add_sub_cancel, Nat.add_zero, Nat.zero_add, lnO, win_t, win_f, h1, u1, dg]
