/-! PURE: neighbours -/
theorem frac_tr2 {a b c d e f : Int} (hb : 0 < b) (hd : 0 < d) (hf : 0 < f) (h1 : a * d < c * b) (h2 : c * f ≤ e * d) : a * f < e * b := by
  have k1 : a * d * f < c * b * f := Int.mul_lt_mul_of_pos_right h1 hf
  have k2 : c * f * b ≤ e * d * b := Int.mul_le_mul_of_nonneg_right h2 (by omega)
  have k3 : (a * f) * d < (e * b) * d := by
    have e1 : a * d * f = (a * f) * d := by rw [Int.mul_assoc, Int.mul_comm d f, ← Int.mul_assoc]
    have e2 : c * b * f = c * f * b := by rw [Int.mul_assoc, Int.mul_comm b f, ← Int.mul_assoc]
    have e3 : e * d * b = (e * b) * d := by rw [Int.mul_assoc, Int.mul_comm d b, ← Int.mul_assoc]
    omega
  exact Int.lt_of_mul_lt_mul_right k3 (by omega)
def NgA (P : Nat → Int) : Nat → Nat → FR → FR
  | 0, _, y => y
  | n + 1, q, y => if P q * y.2 < y.1 * q then NgA P n (q + 1) (P q, q) else NgA P n (q + 1) y
def NgB (P : Nat → Int) : Nat → Nat → FR → FR
  | 0, _, y => y
  | n + 1, q, y => if y.1 * q < P q * y.2 then NgB P n (q + 1) (P q, q) else NgB P n (q + 1) y
def RgA (P : Nat → Int) (tp : Int) : Nat → Nat → FR → FR
  | 0, _, y => y
  | n + 1, q, y => if P q < 0 ∨ tp * q < P q then RgA P tp n (q + 1) y else if y.1 = -1 ∨ P q * y.2 < y.1 * q then RgA P tp n (q + 1) (P q, q) else RgA P tp n (q + 1) y
def RgB (P : Nat → Int) (tp : Int) : Nat → Nat → FR → FR
  | 0, _, y => y
  | n + 1, q, y => if P q < 0 ∨ tp * q < P q then RgB P tp n (q + 1) y else if y.1 = -1 ∨ y.1 * q < P q * y.2 then RgB P tp n (q + 1) (P q, q) else RgB P tp n (q + 1) y
/-- what both hold of the best so far, above -/
def IgA (P : Nat → Int) (tp : Int) (q : Nat) (c r : FR) : Prop := 1 ≤ c.2 ∧ ((r.1 = -1 ∧ tp * c.2 < c.1) ∨ (r = c ∧ 0 ≤ c.1 ∧ c.1 ≤ tp * c.2)) ∧ (∀ k : Nat, 1 ≤ k → k < q → c.1 * k ≤ P k * c.2) ∧ (c.1 ≤ tp * c.2 → c.1 = P c.2.toNat ∧ ∀ k : Nat, 1 ≤ k → (k : Int) < c.2 → c.1 * k < P k * c.2)
def IgB (P : Nat → Int) (tp : Int) (q : Nat) (c r : FR) : Prop := 1 ≤ c.2 ∧ ((r.1 = -1 ∧ c.1 < 0) ∨ (r = c ∧ 0 ≤ c.1 ∧ c.1 ≤ tp * c.2)) ∧ (∀ k : Nat, 1 ≤ k → k < q → P k * c.2 ≤ c.1 * k) ∧ (0 ≤ c.1 → c.1 = P c.2.toNat ∧ ∀ k : Nat, 1 ≤ k → (k : Int) < c.2 → P k * c.2 < c.1 * k)
theorem NgA_RgA {P : Nat → Int} {tp : Int} (hP : ∀ q : Nat, 1 ≤ q → 0 ≤ P q) : ∀ (n q : Nat) (c r : FR), 1 ≤ q → IgA P tp q c r → IgA P tp (q + n) (NgA P n q c) (RgA P tp n q r) := by
  intro n
  induction n with
  | zero => intro q c r _ h; exact h
  | succ n ih =>
    intro q c r hq h
    obtain ⟨h1, h2, h3, h4⟩ := h
    have hp := hP q hq
    rw [show q + (n + 1) = q + 1 + n by omega]
    unfold NgA RgA
    by_cases c1 : P q * c.2 < c.1 * q
    · rw [if_pos c1]
      have strict : ∀ k : Nat, 1 ≤ k → k < q → P q * k < P k * q := fun k k1 k2 => frac_tr2 (b := (q : Int)) (d := c.2) (f := (k : Int)) (by omega) (by omega) (by omega) c1 (h3 k k1 k2)
      have new : ∀ r' : FR, (r'.1 = -1 ∧ tp * q < P q) ∨ (r' = (P q, (q : Int)) ∧ P q ≤ tp * q) → IgA P tp (q + 1) (P q, (q : Int)) r' := fun r' hr => by
        refine ⟨by first | omega | (dsimp only; omega), ?_, fun k k1 k2 => ?_, fun _ => ⟨by dsimp only; simp, fun k k1 k2 => ?_⟩⟩
        · rcases hr with h | h
          · exact Or.inl h
          · exact Or.inr ⟨h.1, hp, h.2⟩
        · dsimp only
          by_cases e : k = q
          · subst e; exact Int.le_refl _
          · exact Int.le_of_lt (strict k k1 (by omega))
        · dsimp only at k2 ⊢
          exact strict k k1 (by omega)
      by_cases c2 : tp * q < P q
      · rw [if_pos (Or.inr c2)]
        refine ih (q + 1) _ r (by omega) (new r (Or.inl ⟨?_, c2⟩))
        rcases h2 with h | h
        · exact h.1
        · exfalso
          obtain ⟨-, e2, e3⟩ := h
          have k1 : c.1 * q ≤ tp * c.2 * q := Int.mul_le_mul_of_nonneg_right e3 (by omega)
          have k2 : tp * q * c.2 < P q * c.2 := Int.mul_lt_mul_of_pos_right c2 (by omega)
          have k3 : tp * c.2 * q = tp * q * c.2 := by rw [Int.mul_assoc, Int.mul_comm c.2, ← Int.mul_assoc]
          omega
      · rw [if_neg (by omega)]
        have tk : r.1 = -1 ∨ P q * r.2 < r.1 * q := by
          rcases h2 with h | h
          · exact Or.inl h.1
          · rw [h.1]; exact Or.inr c1
        rw [if_pos tk]
        exact ih (q + 1) _ _ (by omega) (new _ (Or.inr ⟨rfl, by omega⟩))
    · rw [if_neg c1]
      have stay : IgA P tp (q + 1) c r := by
        refine ⟨h1, h2, fun k k1 k2 => ?_, h4⟩
        by_cases e : k = q
        · subst e; omega
        · exact h3 k k1 (by omega)
      by_cases c2 : P q < 0 ∨ tp * q < P q
      · rw [if_pos c2]
        exact ih (q + 1) c r (by omega) stay
      · rw [if_neg c2]
        have ns : ¬ (r.1 = -1 ∨ P q * r.2 < r.1 * q) := by
          rcases h2 with h | h
          · exfalso
            have k1 : tp * c.2 * q < c.1 * q := Int.mul_lt_mul_of_pos_right h.2 (by omega)
            have k2 : P q * c.2 ≤ tp * q * c.2 := Int.mul_le_mul_of_nonneg_right (by omega) (by omega)
            have k3 : tp * c.2 * q = tp * q * c.2 := by rw [Int.mul_assoc, Int.mul_comm c.2, ← Int.mul_assoc]
            omega
          · rw [h.1]; omega
        rw [if_neg ns]
        exact ih (q + 1) c r (by omega) stay
theorem NgB_RgB {P : Nat → Int} {tp : Int} (hP : ∀ q : Nat, 1 ≤ q → -1 ≤ P q ∧ P q ≤ tp * q) : ∀ (n q : Nat) (c r : FR), 1 ≤ q → IgB P tp q c r → IgB P tp (q + n) (NgB P n q c) (RgB P tp n q r) := by
  intro n
  induction n with
  | zero => intro q c r _ h; exact h
  | succ n ih =>
    intro q c r hq h
    obtain ⟨h1, h2, h3, h4⟩ := h
    obtain ⟨hp, hp2⟩ := hP q hq
    rw [show q + (n + 1) = q + 1 + n by omega]
    unfold NgB RgB
    by_cases c1 : c.1 * q < P q * c.2
    · rw [if_pos c1]
      have strict : ∀ k : Nat, 1 ≤ k → k < q → P k * q < P q * k := fun k k1 k2 => frac_tr' (b := (k : Int)) (d := c.2) (f := (q : Int)) (by omega) (by omega) (by omega) (h3 k k1 k2) c1
      have new : ∀ r' : FR, (r'.1 = -1 ∧ P q < 0) ∨ (r' = (P q, (q : Int)) ∧ 0 ≤ P q) → IgB P tp (q + 1) (P q, (q : Int)) r' := fun r' hr => by
        refine ⟨by first | omega | (dsimp only; omega), ?_, fun k k1 k2 => ?_, fun _ => ⟨by dsimp only; simp, fun k k1 k2 => ?_⟩⟩
        · rcases hr with h | h
          · exact Or.inl h
          · exact Or.inr ⟨h.1, h.2, hp2⟩
        · dsimp only
          by_cases e : k = q
          · subst e; exact Int.le_refl _
          · exact Int.le_of_lt (strict k k1 (by omega))
        · dsimp only at k2 ⊢
          exact strict k k1 (by omega)
      by_cases c2 : P q < 0
      · rw [if_pos (Or.inl c2)]
        refine ih (q + 1) _ r (by omega) (new r (Or.inl ⟨?_, c2⟩))
        rcases h2 with h | h
        · exact h.1
        · exfalso
          obtain ⟨-, e2, e3⟩ := h
          have k1 : 0 ≤ c.1 * q := Int.mul_nonneg e2 (by omega)
          have k2 : P q * c.2 < 0 := Int.mul_neg_of_neg_of_pos c2 (by omega)
          omega
      · rw [if_neg (by omega)]
        have tk : r.1 = -1 ∨ r.1 * q < P q * r.2 := by
          rcases h2 with h | h
          · exact Or.inl h.1
          · rw [h.1]; exact Or.inr c1
        rw [if_pos tk]
        exact ih (q + 1) _ _ (by omega) (new _ (Or.inr ⟨rfl, by omega⟩))
    · rw [if_neg c1]
      have stay : IgB P tp (q + 1) c r := by
        refine ⟨h1, h2, fun k k1 k2 => ?_, h4⟩
        by_cases e : k = q
        · subst e; omega
        · exact h3 k k1 (by omega)
      by_cases c2 : P q < 0 ∨ tp * q < P q
      · rw [if_pos c2]
        exact ih (q + 1) c r (by omega) stay
      · rw [if_neg c2]
        have ns : ¬ (r.1 = -1 ∨ r.1 * q < P q * r.2) := by
          rcases h2 with h | h
          · exfalso
            have k1 : c.1 * q < 0 := Int.mul_neg_of_neg_of_pos h.2 (by omega)
            have k2 : 0 ≤ P q * c.2 := Int.mul_nonneg (by omega) (by omega)
            omega
          · rw [h.1]; omega
        rw [if_neg ns]
        exact ih (q + 1) c r (by omega) stay
def PgA (a b : Nat) (q : Nat) : Int := ((a * q / b + 1 : Nat) : Int)
def PgB (a b : Nat) (q : Nat) : Int := (((a * q + b - 1) / b : Nat) : Int) - 1
theorem PgA_t {a b q : Nat} (hb : 1 ≤ b) (x : Int) : PgA a b q ≤ x ↔ (a * q : Int) < x * b := by
  have h1 := Nat.div_mul_le_self (a * q) b
  have h2 := Nat.lt_div_mul_add (a := a * q) (b := b) (by omega)
  unfold PgA
  generalize a * q / b = z at *
  constructor
  · intro h
    obtain ⟨y, rfl⟩ := Int.eq_ofNat_of_zero_le (show 0 ≤ x by omega)
    have : (z + 1) * b ≤ y * b := Nat.mul_le_mul_right b (by omega)
    rw [Nat.add_mul] at this
    have h3 : a * q < y * b := by omega
    exact_mod_cast h3
  · intro h
    have hx : 0 < x := by
      apply Classical.byContradiction
      intro hn
      have : x * b ≤ 0 := Int.mul_nonpos_of_nonpos_of_nonneg (by omega) (by omega)
      have : (0 : Int) ≤ a * q := by exact_mod_cast Nat.zero_le _
      omega
    obtain ⟨y, rfl⟩ := Int.eq_ofNat_of_zero_le (show 0 ≤ x by omega)
    have h3 : a * q < y * b := by exact_mod_cast h
    have : z < y := by
      apply Classical.byContradiction
      intro hn
      have : y * b ≤ z * b := Nat.mul_le_mul_right b (by omega)
      omega
    omega
theorem PgB_t {a b q : Nat} (hb : 1 ≤ b) (x : Int) (hx : -1 ≤ x) : x ≤ PgB a b q ↔ (x * b : Int) < a * q ∨ x = -1 := by
  have key : ∀ y, y + 1 ≤ (a * q + b - 1) / b ↔ y * b < a * q := fun y => by
    rw [Nat.le_div_iff_mul_le (by omega), Nat.add_mul]
    omega
  unfold PgB
  generalize (a * q + b - 1) / b = z at *
  by_cases e : x = -1
  · subst e
    exact ⟨fun _ => Or.inr rfl, fun _ => by omega⟩
  · obtain ⟨y, rfl⟩ := Int.eq_ofNat_of_zero_le (show 0 ≤ x by omega)
    constructor
    · intro h
      have : y * b < a * q := (key y).mp (by omega)
      exact Or.inl (by exact_mod_cast this)
    · intro h
      rcases h with h | h
      · have h3 : y * b < a * q := by exact_mod_cast h
        have := (key y).mpr h3
        omega
      · omega
theorem red_of {p q : Int} (hp : 0 ≤ p) (hq : 1 ≤ q) (hg : Int.gcd p q ≠ 1) : ∃ p' q' : Nat, 1 ≤ q' ∧ (q' : Int) < q ∧ p * q' = p' * q := by
  obtain ⟨n1, n2, n3, n4, n5⟩ := nrm_ok (p := p) (q := q) (by omega)
  have n0 : 0 ≤ (nrm p q).1 := by
    apply Classical.byContradiction
    intro h
    have q1 : (nrm p q).1 * q < 0 := Int.mul_neg_of_neg_of_pos (by omega) (by omega)
    have q2 : 0 ≤ p * (nrm p q).2 := Int.mul_nonneg (by omega) (by omega)
    omega
  refine ⟨(nrm p q).1.toNat, (nrm p q).2.toNat, by omega, ?_, ?_⟩
  · apply Classical.byContradiction
    intro h
    have e2 : (nrm p q).2 = q := by omega
    rw [e2] at n3
    have e1 : (nrm p q).1 = p := Int.eq_of_mul_eq_mul_right (by omega) n3
    rw [e1, e2] at n1
    exact hg n1
  · rw [Int.toNat_of_nonneg n0, Int.toNat_of_nonneg (by omega)]
    omega
theorem IgA_g {a b : Nat} (hb : 1 ≤ b) {tp : Int} {q : Nat} {c r : FR} (h : IgA (PgA a b) tp q c r) (h0 : 0 ≤ c.1) (ht : c.1 ≤ tp * c.2) : Int.gcd c.1 c.2 = 1 := by
  obtain ⟨h1, -, -, h4⟩ := h
  obtain ⟨e1, e2⟩ := h4 ht
  apply Classical.byContradiction
  intro hg
  obtain ⟨p', q', k1, k2, k3⟩ := red_of h0 h1 hg
  have s := e2 q' k1 k2
  have hc : (a * (c.2.toNat : Int) : Int) < c.1 * b := (PgA_t (q := c.2.toNat) hb c.1).mp (by rw [e1]; exact Int.le_refl _)
  rw [Int.toNat_of_nonneg (by omega)] at hc
  have hp : (a * (q' : Int) : Int) < p' * b := by
    have t1 : (a * c.2) * (q' : Int) < (c.1 * b) * q' := Int.mul_lt_mul_of_pos_right hc (by omega)
    have t2 : (a * (q' : Int)) * c.2 < ((p' : Int) * b) * c.2 := by
      have e3 : (c.1 * b) * (q' : Int) = ((p' : Int) * b) * c.2 := by
        calc (c.1 * b) * (q' : Int) = (c.1 * q') * b := by grind
          _ = (p' * c.2) * b := by rw [k3]
          _ = ((p' : Int) * b) * c.2 := by grind
      have e4 : (a * c.2) * (q' : Int) = (a * (q' : Int)) * c.2 := by grind
      omega
    exact Int.lt_of_mul_lt_mul_right t2 (by omega)
  have := (PgA_t (q := q') hb (p' : Int)).mpr hp
  have t3 : PgA a b q' * c.2 ≤ p' * c.2 := Int.mul_le_mul_of_nonneg_right this (by omega)
  omega
theorem IgB_g {a b : Nat} (hb : 1 ≤ b) {tp : Int} {q : Nat} {c r : FR} (h : IgB (PgB a b) tp q c r) (h0 : 0 ≤ c.1) : Int.gcd c.1 c.2 = 1 := by
  obtain ⟨h1, -, -, h4⟩ := h
  obtain ⟨e1, e2⟩ := h4 h0
  apply Classical.byContradiction
  intro hg
  obtain ⟨p', q', k1, k2, k3⟩ := red_of h0 h1 hg
  have s := e2 q' k1 k2
  have hc0 := (PgB_t (a := a) (b := b) (q := c.2.toNat) hb c.1 (by omega)).mp (by rw [e1]; exact Int.le_refl _)
  have hc : (c.1 * b : Int) < a * (c.2.toNat : Int) := by
    rcases hc0 with h | h
    · exact h
    · omega
  rw [Int.toNat_of_nonneg (by omega)] at hc
  have hp : (p' * b : Int) < a * (q' : Int) := by
    have t1 : (c.1 * b) * (q' : Int) < (a * c.2) * q' := Int.mul_lt_mul_of_pos_right hc (by omega)
    have t2 : ((p' : Int) * b) * c.2 < (a * (q' : Int)) * c.2 := by
      have e3 : (c.1 * b) * (q' : Int) = ((p' : Int) * b) * c.2 := by
        calc (c.1 * b) * (q' : Int) = (c.1 * q') * b := by grind
          _ = (p' * c.2) * b := by rw [k3]
          _ = ((p' : Int) * b) * c.2 := by grind
      have e4 : (a * c.2) * (q' : Int) = (a * (q' : Int)) * c.2 := by grind
      omega
    exact Int.lt_of_mul_lt_mul_right t2 (by omega)
  have := (PgB_t (q := q') hb (p' : Int) (by omega)).mpr (Or.inl hp)
  have t3 : p' * c.2 ≤ PgB a b q' * c.2 := Int.mul_le_mul_of_nonneg_right this (by omega)
  omega
theorem PgA_b {a b q : Nat} (ha : a ≤ 1000000) (hq : q ≤ 1000) : 0 ≤ PgA a b q ∧ PgA a b q ≤ 1000000001 := by
  have h1 := Nat.div_le_self (a * q) b
  have h2 : a * q ≤ 1000000 * 1000 := Nat.mul_le_mul ha hq
  unfold PgA
  generalize a * q / b = z at *
  omega
theorem PgB_b {a b q : Nat} (ha : a ≤ 1000000) (hb : 1 ≤ b) (hq : q ≤ 1000) : -1 ≤ PgB a b q ∧ PgB a b q ≤ 1000000001 := by
  have h2 : a * q ≤ 1000000 * 1000 := Nat.mul_le_mul ha hq
  have h3 : (a * q + b - 1) / b ≤ a * q + 1 := by
    refine Nat.div_le_of_le_mul ?_
    have : (a * q) * 1 ≤ b * (a * q) := by rw [Nat.mul_comm b]; exact Nat.mul_le_mul_left _ hb
    rw [Nat.mul_add]
    omega
  unfold PgB
  generalize (a * q + b - 1) / b = z at *
  omega
theorem PgA_q {a b q : Nat} : (((a : Int) * q).tdiv (b : Int)) + 1 = PgA a b q := by
  unfold PgA
  rw [show ((a : Int) * q) = ((a * q : Nat) : Int) from (Int.natCast_mul a q).symm, tdn, Int.natCast_add]
  rfl
theorem PgB_q {a b q : Nat} (hb : 1 ≤ b) : (((a : Int) * q + b - 1).tdiv (b : Int)) - 1 = PgB a b q := by
  unfold PgB
  rw [show ((a : Int) * q + b - 1) = ((a * q + b - 1 : Nat) : Int) by rw [← Int.natCast_mul]; omega, tdn]
theorem nearA9 {F : Nat} {s : List Sh} {a b d : Nat} (ha : a ≤ 1000000) (hb : 1 ≤ b ∧ b ≤ 1000000) (hd : d ≤ 1000) {m : Mem} (hr : RF m) (c0 : m.2.1 19 0 = q64 a) (c1 : m.2.1 19 1 = q64 b) : ∀ (n fuel : Nat), n < fuel → ∀ (q : Nat) (y : FR), 1 ≤ q → q + n = d + 1 → 0 ≤ y.1 → y.1 ≤ 1000000001 → 1 ≤ y.2 → y.2 ≤ 1000 → ∃ fuel', nl_X9_seekAbove_31 F s fuel m 0 (q32 d) (q64 y.1) (q64 y.2) (q32 q) = nb_X9_seekAbove_31 F s (nl_X9_seekAbove_31 F s fuel') m 0 (q32 d) (q64 (NgA (PgA a b) n q y).1) (q64 (NgA (PgA a b) n q y).2) (q32 (d + 1 : Nat)) ∧ 0 ≤ (NgA (PgA a b) n q y).1 ∧ (NgA (PgA a b) n q y).1 ≤ 1000000001 ∧ 1 ≤ (NgA (PgA a b) n q y).2 ∧ (NgA (PgA a b) n q y).2 ≤ 1000 := by
  have r12 := rf0_12 hr
  intro n
  induction n with
  | zero =>
    intro fuel hf q y h1 h2 y1 y2 y3 y4
    obtain ⟨fuel, rfl⟩ : ∃ f, fuel = f + 1 := ⟨fuel - 1, by omega⟩
    obtain rfl : q = d + 1 := by omega
    exact ⟨fuel, rfl, y1, y2, y3, y4⟩
  | succ n ih =>
    intro fuel hf q y h1 h2 y1 y2 y3 y4
    obtain ⟨fuel, rfl⟩ : ∃ f, fuel = f + 1 := ⟨fuel - 1, by omega⟩
    obtain ⟨p1, p2⟩ := PgA_b (a := a) (b := b) (q := q) ha (by omega)
    have pq := PgA_q (a := a) (b := b) (q := q)
    have m1 := mulB (show (PgA a b q).natAbs ≤ 1000000001 by omega) (show y.2.natAbs ≤ 1000 by omega)
    have m2 := mulB (show y.1.natAbs ≤ 1000000001 by omega) (show (q : Int).natAbs ≤ 1000 by omega)
    have m3 := mulB (show (a : Int).natAbs ≤ 1000000 by omega) (show (q : Int).natAbs ≤ 1000 by omega)
    show ∃ fuel', nb_X9_seekAbove_31 F s (nl_X9_seekAbove_31 F s fuel) m 0 (q32 d) (q64 y.1) (q64 y.2) (q32 q) = _ ∧ _
    unfold NgA
    by_cases c : PgA a b q * y.2 < y.1 * q
    · rw [if_pos c]
      obtain ⟨f', e1, e2⟩ := ih fuel (by omega) (q + 1) (PgA a b q, (q : Int)) (by omega) (by omega) p1 p2 (by first | omega | (dsimp only; omega)) (by first | omega | (dsimp only; omega))
      refine ⟨f', ?_, e2⟩
      rw [← e1]
      dsimp only
      rw [Int.natCast_add]
      conv => lhs; unfold nb_X9_seekAbove_31 nb_X9_seekAbove_82
      simp (disch := omega) only [Option.bind_some, bindv, bindv0, bind2_s, bind3_s, ↓reduceIte, Bool.false_eq_true, rZM_0, rZM_1, rZP_0, rZP_1, ptZ_0, ptZ_1, c32i, c64i, ncI, Int.natCast_add, Int.natCast_mul, q32_neg, q64_neg, q32_add, q32_sub, q32_mul, q64_add, q64_sub, q64_mul, q32_64i, q64_32, q32_lt_t, q32_lt_f, q32_le_t, q32_le_f, q32_eq_t, q32_eq_f, q64_lt_t, q64_lt_f, q64_le_t, q64_le_f, q64_eq_t, q64_eq_f, rdI_i, rdL_i, rdR_i, rdN_i, stI_i, stL_i, stR_i, wI_s, wI_n, wL_s, wL_n, wI_2, wI_3, wL_1, wL_3, wR_1, wR_2, Int.toNat_natCast, tnO, tn_add, tn_sub, tn_mul, Nat.add_sub_cancel, Nat.add_zero, Nat.zero_add, lnO, win_t, win_f, r12, c0, c1, q64_div_n, pq]
    · rw [if_neg c]
      obtain ⟨f', e1, e2⟩ := ih fuel (by omega) (q + 1) y (by omega) (by omega) y1 y2 y3 y4
      refine ⟨f', ?_, e2⟩
      rw [← e1, Int.natCast_add]
      conv => lhs; unfold nb_X9_seekAbove_31 nb_X9_seekAbove_82
      simp (disch := omega) only [Option.bind_some, bindv, bindv0, bind2_s, bind3_s, ↓reduceIte, Bool.false_eq_true, rZM_0, rZM_1, rZP_0, rZP_1, ptZ_0, ptZ_1, c32i, c64i, ncI, Int.natCast_add, Int.natCast_mul, q32_neg, q64_neg, q32_add, q32_sub, q32_mul, q64_add, q64_sub, q64_mul, q32_64i, q64_32, q32_lt_t, q32_lt_f, q32_le_t, q32_le_f, q32_eq_t, q32_eq_f, q64_lt_t, q64_lt_f, q64_le_t, q64_le_f, q64_eq_t, q64_eq_f, rdI_i, rdL_i, rdR_i, rdN_i, stI_i, stL_i, stR_i, wI_s, wI_n, wL_s, wL_n, wI_2, wI_3, wL_1, wL_3, wR_1, wR_2, Int.toNat_natCast, tnO, tn_add, tn_sub, tn_mul, Nat.add_sub_cancel, Nat.add_zero, Nat.zero_add, lnO, win_t, win_f, r12, c0, c1, q64_div_n, pq]
theorem nearB9 {F : Nat} {s : List Sh} {a b d : Nat} (ha : a ≤ 1000000) (hb : 1 ≤ b ∧ b ≤ 1000000) (hd : d ≤ 1000) {m : Mem} (hr : RF m) (c0 : m.2.1 19 0 = q64 a) (c1 : m.2.1 19 1 = q64 b) : ∀ (n fuel : Nat), n < fuel → ∀ (q : Nat) (y : FR), 1 ≤ q → q + n = d + 1 → -1 ≤ y.1 → y.1 ≤ 1000000001 → 1 ≤ y.2 → y.2 ≤ 1000 → ∃ fuel', nl_X9_seekBelow_24 F s fuel m 0 (q32 d) (q64 y.1) (q64 y.2) (q32 q) = nb_X9_seekBelow_24 F s (nl_X9_seekBelow_24 F s fuel') m 0 (q32 d) (q64 (NgB (PgB a b) n q y).1) (q64 (NgB (PgB a b) n q y).2) (q32 (d + 1 : Nat)) ∧ -1 ≤ (NgB (PgB a b) n q y).1 ∧ (NgB (PgB a b) n q y).1 ≤ 1000000001 ∧ 1 ≤ (NgB (PgB a b) n q y).2 ∧ (NgB (PgB a b) n q y).2 ≤ 1000 := by
  have r12 := rf0_12 hr
  intro n
  induction n with
  | zero =>
    intro fuel hf q y h1 h2 y1 y2 y3 y4
    obtain ⟨fuel, rfl⟩ : ∃ f, fuel = f + 1 := ⟨fuel - 1, by omega⟩
    obtain rfl : q = d + 1 := by omega
    exact ⟨fuel, rfl, y1, y2, y3, y4⟩
  | succ n ih =>
    intro fuel hf q y h1 h2 y1 y2 y3 y4
    obtain ⟨fuel, rfl⟩ : ∃ f, fuel = f + 1 := ⟨fuel - 1, by omega⟩
    obtain ⟨p1, p2⟩ := PgB_b (a := a) (b := b) (q := q) ha hb.1 (by omega)
    have pq := PgB_q (a := a) (b := b) (q := q) hb.1
    have m1 := mulB (show (PgB a b q).natAbs ≤ 1000000001 by omega) (show y.2.natAbs ≤ 1000 by omega)
    have m2 := mulB (show y.1.natAbs ≤ 1000000001 by omega) (show (q : Int).natAbs ≤ 1000 by omega)
    have m3 := mulB (show (a : Int).natAbs ≤ 1000000 by omega) (show (q : Int).natAbs ≤ 1000 by omega)
    show ∃ fuel', nb_X9_seekBelow_24 F s (nl_X9_seekBelow_24 F s fuel) m 0 (q32 d) (q64 y.1) (q64 y.2) (q32 q) = _ ∧ _
    unfold NgB
    by_cases c : y.1 * q < PgB a b q * y.2
    · rw [if_pos c]
      obtain ⟨f', e1, e2⟩ := ih fuel (by omega) (q + 1) (PgB a b q, (q : Int)) (by omega) (by omega) p1 p2 (by first | omega | (dsimp only; omega)) (by first | omega | (dsimp only; omega))
      refine ⟨f', ?_, e2⟩
      rw [← e1]
      dsimp only
      rw [Int.natCast_add]
      conv => lhs; unfold nb_X9_seekBelow_24 nb_X9_seekBelow_85
      simp (disch := omega) only [Option.bind_some, bindv, bindv0, bind2_s, bind3_s, ↓reduceIte, Bool.false_eq_true, rZM_0, rZM_1, rZP_0, rZP_1, ptZ_0, ptZ_1, c32i, c64i, ncI, Int.natCast_add, Int.natCast_mul, q32_neg, q64_neg, q32_add, q32_sub, q32_mul, q64_add, q64_sub, q64_mul, q32_64i, q64_32, q32_lt_t, q32_lt_f, q32_le_t, q32_le_f, q32_eq_t, q32_eq_f, q64_lt_t, q64_lt_f, q64_le_t, q64_le_f, q64_eq_t, q64_eq_f, rdI_i, rdL_i, rdR_i, rdN_i, stI_i, stL_i, stR_i, wI_s, wI_n, wL_s, wL_n, wI_2, wI_3, wL_1, wL_3, wR_1, wR_2, Int.toNat_natCast, tnO, tn_add, tn_sub, tn_mul, Nat.add_sub_cancel, Nat.add_zero, Nat.zero_add, lnO, win_t, win_f, r12, c0, c1, q64_div_n, pq]
    · rw [if_neg c]
      obtain ⟨f', e1, e2⟩ := ih fuel (by omega) (q + 1) y (by omega) (by omega) y1 y2 y3 y4
      refine ⟨f', ?_, e2⟩
      rw [← e1, Int.natCast_add]
      conv => lhs; unfold nb_X9_seekBelow_24 nb_X9_seekBelow_85
      simp (disch := omega) only [Option.bind_some, bindv, bindv0, bind2_s, bind3_s, ↓reduceIte, Bool.false_eq_true, rZM_0, rZM_1, rZP_0, rZP_1, ptZ_0, ptZ_1, c32i, c64i, ncI, Int.natCast_add, Int.natCast_mul, q32_neg, q64_neg, q32_add, q32_sub, q32_mul, q64_add, q64_sub, q64_mul, q32_64i, q64_32, q32_lt_t, q32_lt_f, q32_le_t, q32_le_f, q32_eq_t, q32_eq_f, q64_lt_t, q64_lt_f, q64_le_t, q64_le_f, q64_eq_t, q64_eq_f, rdI_i, rdL_i, rdR_i, rdN_i, stI_i, stL_i, stR_i, wI_s, wI_n, wL_s, wL_n, wI_2, wI_3, wL_1, wL_3, wR_1, wR_2, Int.toNat_natCast, tnO, tn_add, tn_sub, tn_mul, Nat.add_sub_cancel, Nat.add_zero, Nat.zero_add, lnO, win_t, win_f, r12, c0, c1, q64_div_n, pq]
def NRA (tp : Int) (y : FR) (v : Int) : Int := if y.1 = -1 then -1 else if v = 0 then y.1 else y.2
theorem nearL10 {F : Nat} {s : List Sh} (hp : ∃ t, s = sB ++ t) {a b d tp : Nat} (ha : a ≤ 1000000) (hb : 1 ≤ b ∧ b ≤ 1000000) (hd : d ≤ 1000) (ht : tp ≤ 9) {m : Mem} (hr : RF m) (t1 : m.1 24 1 = q32 tp) {ab v : Int} (hab : ab = 0 ∨ ab = 1) (hv : 0 ≤ v ∧ v ≤ 1) : ∀ (n fuel : Nat), n < fuel → ∀ (q : Nat) (y : FR), 1 ≤ q → q + n = d + 1 → -1 ≤ y.1 → y.1 ≤ 9000 → 1 ≤ y.2 → y.2 ≤ 1000 → nl_X10_neighbour_68 F s fuel m 23 (q32 d) (q32 ab) (q32 v) (q64 a) (q64 b) (q64 y.1) (q64 y.2) (q64 q) = some (q32 (NRA tp (if ab = 0 then RgB (PgB a b) tp n q y else RgA (PgA a b) tp n q y) v), m) := by
  have r1 := rf23_1 hr
  have l24 := ln24 hp
  intro n
  induction n with
  | zero =>
    intro fuel hf q y h1 h2 y1 y2 y3 y4
    obtain ⟨fuel, rfl⟩ : ∃ f, fuel = f + 1 := ⟨fuel - 1, by omega⟩
    obtain rfl : q = d + 1 := by omega
    show nb_X10_neighbour_68 F s (nl_X10_neighbour_68 F s fuel) m 23 _ _ _ _ _ _ _ _ = _
    unfold nb_X10_neighbour_68 RgA RgB NRA
    rw [show (if ab = 0 then y else y) = y by split <;> rfl]
    by_cases c : y.1 = -1
    · rw [if_pos c]; simp (disch := omega) only [Option.bind_some, bindv, bindv0, bind2_s, bind3_s, ↓reduceIte, Bool.false_eq_true, rZM_0, rZM_1, rZP_0, rZP_1, ptZ_0, ptZ_1, c32i, c64i, ncI, Int.natCast_add, Int.natCast_mul, q32_neg, q64_neg, q32_add, q32_sub, q32_mul, q64_add, q64_sub, q64_mul, q32_64i, q64_32, q32_lt_t, q32_lt_f, q32_le_t, q32_le_f, q32_eq_t, q32_eq_f, q64_lt_t, q64_lt_f, q64_le_t, q64_le_f, q64_eq_t, q64_eq_f, rdI_i, rdL_i, rdR_i, rdN_i, stI_i, stL_i, stR_i, wI_s, wI_n, wL_s, wL_n, wI_2, wI_3, wL_1, wL_3, wR_1, wR_2, Int.toNat_natCast, tnO, tn_add, tn_sub, tn_mul, Nat.add_sub_cancel, Nat.add_zero, Nat.zero_add, lnO, win_t, win_f, c]
    · rw [if_neg c]
      by_cases c2 : v = 0
      · rw [if_pos c2]; simp (disch := omega) only [Option.bind_some, bindv, bindv0, bind2_s, bind3_s, ↓reduceIte, Bool.false_eq_true, rZM_0, rZM_1, rZP_0, rZP_1, ptZ_0, ptZ_1, c32i, c64i, ncI, Int.natCast_add, Int.natCast_mul, q32_neg, q64_neg, q32_add, q32_sub, q32_mul, q64_add, q64_sub, q64_mul, q32_64i, q64_32, q32_lt_t, q32_lt_f, q32_le_t, q32_le_f, q32_eq_t, q32_eq_f, q64_lt_t, q64_lt_f, q64_le_t, q64_le_f, q64_eq_t, q64_eq_f, rdI_i, rdL_i, rdR_i, rdN_i, stI_i, stL_i, stR_i, wI_s, wI_n, wL_s, wL_n, wI_2, wI_3, wL_1, wL_3, wR_1, wR_2, Int.toNat_natCast, tnO, tn_add, tn_sub, tn_mul, Nat.add_sub_cancel, Nat.add_zero, Nat.zero_add, lnO, win_t, win_f]
      · rw [if_neg c2]; simp (disch := omega) only [Option.bind_some, bindv, bindv0, bind2_s, bind3_s, ↓reduceIte, Bool.false_eq_true, rZM_0, rZM_1, rZP_0, rZP_1, ptZ_0, ptZ_1, c32i, c64i, ncI, Int.natCast_add, Int.natCast_mul, q32_neg, q64_neg, q32_add, q32_sub, q32_mul, q64_add, q64_sub, q64_mul, q32_64i, q64_32, q32_lt_t, q32_lt_f, q32_le_t, q32_le_f, q32_eq_t, q32_eq_f, q64_lt_t, q64_lt_f, q64_le_t, q64_le_f, q64_eq_t, q64_eq_f, rdI_i, rdL_i, rdR_i, rdN_i, stI_i, stL_i, stR_i, wI_s, wI_n, wL_s, wL_n, wI_2, wI_3, wL_1, wL_3, wR_1, wR_2, Int.toNat_natCast, tnO, tn_add, tn_sub, tn_mul, Nat.add_sub_cancel, Nat.add_zero, Nat.zero_add, lnO, win_t, win_f]
  | succ n ih =>
    intro fuel hf q y h1 h2 y1 y2 y3 y4
    obtain ⟨fuel, rfl⟩ : ∃ f, fuel = f + 1 := ⟨fuel - 1, by omega⟩
    obtain ⟨pa1, pa2⟩ := PgA_b (a := a) (b := b) (q := q) ha (by omega)
    have pqa := PgA_q (a := a) (b := b) (q := q)
    obtain ⟨pb1, pb2⟩ := PgB_b (a := a) (b := b) (q := q) ha hb.1 (by omega)
    have pqb := PgB_q (a := a) (b := b) (q := q) hb.1
    have m3 := mulB (show (a : Int).natAbs ≤ 1000000 by omega) (show (q : Int).natAbs ≤ 1000 by omega)
    have m4 := mulB (show (tp : Int).natAbs ≤ 9 by omega) (show (q : Int).natAbs ≤ 1000 by omega)
    have ihy := ih fuel (by omega) (q + 1) y (by omega) (by omega) y1 y2 y3 y4
    show nb_X10_neighbour_68 F s (nl_X10_neighbour_68 F s fuel) m 23 _ _ _ _ _ _ _ _ = _
    unfold nb_X10_neighbour_68 nb_X10_neighbour_109 nb_X10_neighbour_161 nb_X10_neighbour_193 nb_X10_neighbour_201
    rcases hab with rfl | rfl
    · rw [if_pos rfl] at ihy ⊢
      unfold RgB
      rw [Int.natCast_add] at ihy
      by_cases c1 : PgB a b q < 0 ∨ (tp : Int) * q < PgB a b q
      · rw [if_pos c1]
        by_cases c2 : PgB a b q < 0
        · simp (disch := omega) only [Option.bind_some, bindv, bindv0, bind2_s, bind3_s, ↓reduceIte, Bool.false_eq_true, rZM_0, rZM_1, rZP_0, rZP_1, ptZ_0, ptZ_1, c32i, c64i, ncI, Int.natCast_add, Int.natCast_mul, q32_neg, q64_neg, q32_add, q32_sub, q32_mul, q64_add, q64_sub, q64_mul, q32_64i, q64_32, q32_lt_t, q32_lt_f, q32_le_t, q32_le_f, q32_eq_t, q32_eq_f, q64_lt_t, q64_lt_f, q64_le_t, q64_le_f, q64_eq_t, q64_eq_f, rdI_i, rdL_i, rdR_i, rdN_i, stI_i, stL_i, stR_i, wI_s, wI_n, wL_s, wL_n, wI_2, wI_3, wL_1, wL_3, wR_1, wR_2, Int.toNat_natCast, tnO, tn_add, tn_sub, tn_mul, Nat.add_sub_cancel, Nat.add_zero, Nat.zero_add, lnO, win_t, win_f, r1, t1, q64_div_n, pqb]
          exact ihy
        · simp (disch := omega) only [Option.bind_some, bindv, bindv0, bind2_s, bind3_s, ↓reduceIte, Bool.false_eq_true, rZM_0, rZM_1, rZP_0, rZP_1, ptZ_0, ptZ_1, c32i, c64i, ncI, Int.natCast_add, Int.natCast_mul, q32_neg, q64_neg, q32_add, q32_sub, q32_mul, q64_add, q64_sub, q64_mul, q32_64i, q64_32, q32_lt_t, q32_lt_f, q32_le_t, q32_le_f, q32_eq_t, q32_eq_f, q64_lt_t, q64_lt_f, q64_le_t, q64_le_f, q64_eq_t, q64_eq_f, rdI_i, rdL_i, rdR_i, rdN_i, stI_i, stL_i, stR_i, wI_s, wI_n, wL_s, wL_n, wI_2, wI_3, wL_1, wL_3, wR_1, wR_2, Int.toNat_natCast, tnO, tn_add, tn_sub, tn_mul, Nat.add_sub_cancel, Nat.add_zero, Nat.zero_add, lnO, win_t, win_f, r1, t1, q64_div_n, pqb]
          exact ihy
      · rw [if_neg c1]
        have ihn := ih fuel (by omega) (q + 1) (PgB a b q, (q : Int)) (by omega) (by omega) (by first | omega | (dsimp only; omega)) (by first | omega | (dsimp only; omega)) (by first | omega | (dsimp only; omega)) (by first | omega | (dsimp only; omega))
        rw [if_pos rfl, Int.natCast_add] at ihn
        dsimp only at ihn
        have ag := agn (a := PgB a b q) (b := (q : Int)) (c := y.1) (d := y.2) (by omega) (by omega) (by omega) (by omega)
        by_cases c2 : y.1 = -1
        · rw [if_pos (Or.inl c2)]
          simp (disch := omega) only [Option.bind_some, bindv, bindv0, bind2_s, bind3_s, ↓reduceIte, Bool.false_eq_true, rZM_0, rZM_1, rZP_0, rZP_1, ptZ_0, ptZ_1, c32i, c64i, ncI, Int.natCast_add, Int.natCast_mul, q32_neg, q64_neg, q32_add, q32_sub, q32_mul, q64_add, q64_sub, q64_mul, q32_64i, q64_32, q32_lt_t, q32_lt_f, q32_le_t, q32_le_f, q32_eq_t, q32_eq_f, q64_lt_t, q64_lt_f, q64_le_t, q64_le_f, q64_eq_t, q64_eq_f, rdI_i, rdL_i, rdR_i, rdN_i, stI_i, stL_i, stR_i, wI_s, wI_n, wL_s, wL_n, wI_2, wI_3, wL_1, wL_3, wR_1, wR_2, Int.toNat_natCast, tnO, tn_add, tn_sub, tn_mul, Nat.add_sub_cancel, Nat.add_zero, Nat.zero_add, lnO, win_t, win_f, r1, t1, q64_div_n, pqb, c2]
          exact ihn
        · by_cases c3 : y.1 * q < PgB a b q * y.2
          · rw [if_pos (Or.inr c3)]
            rw [if_neg (by omega), if_pos c3] at ag
            simp (disch := omega) only [Option.bind_some, bindv, bindv0, bind2_s, bind3_s, ↓reduceIte, Bool.false_eq_true, rZM_0, rZM_1, rZP_0, rZP_1, ptZ_0, ptZ_1, c32i, c64i, ncI, Int.natCast_add, Int.natCast_mul, q32_neg, q64_neg, q32_add, q32_sub, q32_mul, q64_add, q64_sub, q64_mul, q32_64i, q64_32, q32_lt_t, q32_lt_f, q32_le_t, q32_le_f, q32_eq_t, q32_eq_f, q64_lt_t, q64_lt_f, q64_le_t, q64_le_f, q64_eq_t, q64_eq_f, rdI_i, rdL_i, rdR_i, rdN_i, stI_i, stL_i, stR_i, wI_s, wI_n, wL_s, wL_n, wI_2, wI_3, wL_1, wL_3, wR_1, wR_2, Int.toNat_natCast, tnO, tn_add, tn_sub, tn_mul, Nat.add_sub_cancel, Nat.add_zero, Nat.zero_add, lnO, win_t, win_f, r1, t1, q64_div_n, pqb, ag]
            exact ihn
          · rw [if_neg (show ¬ (y.1 = -1 ∨ y.1 * q < PgB a b q * y.2) by omega)]
            by_cases c4 : PgB a b q * y.2 < y.1 * q
            · rw [if_pos c4] at ag
              simp (disch := omega) only [Option.bind_some, bindv, bindv0, bind2_s, bind3_s, ↓reduceIte, Bool.false_eq_true, rZM_0, rZM_1, rZP_0, rZP_1, ptZ_0, ptZ_1, c32i, c64i, ncI, Int.natCast_add, Int.natCast_mul, q32_neg, q64_neg, q32_add, q32_sub, q32_mul, q64_add, q64_sub, q64_mul, q32_64i, q64_32, q32_lt_t, q32_lt_f, q32_le_t, q32_le_f, q32_eq_t, q32_eq_f, q64_lt_t, q64_lt_f, q64_le_t, q64_le_f, q64_eq_t, q64_eq_f, rdI_i, rdL_i, rdR_i, rdN_i, stI_i, stL_i, stR_i, wI_s, wI_n, wL_s, wL_n, wI_2, wI_3, wL_1, wL_3, wR_1, wR_2, Int.toNat_natCast, tnO, tn_add, tn_sub, tn_mul, Nat.add_sub_cancel, Nat.add_zero, Nat.zero_add, lnO, win_t, win_f, r1, t1, q64_div_n, pqb, ag]
              exact ihy
            · rw [if_neg c4, if_neg c3] at ag
              simp (disch := omega) only [Option.bind_some, bindv, bindv0, bind2_s, bind3_s, ↓reduceIte, Bool.false_eq_true, rZM_0, rZM_1, rZP_0, rZP_1, ptZ_0, ptZ_1, c32i, c64i, ncI, Int.natCast_add, Int.natCast_mul, q32_neg, q64_neg, q32_add, q32_sub, q32_mul, q64_add, q64_sub, q64_mul, q32_64i, q64_32, q32_lt_t, q32_lt_f, q32_le_t, q32_le_f, q32_eq_t, q32_eq_f, q64_lt_t, q64_lt_f, q64_le_t, q64_le_f, q64_eq_t, q64_eq_f, rdI_i, rdL_i, rdR_i, rdN_i, stI_i, stL_i, stR_i, wI_s, wI_n, wL_s, wL_n, wI_2, wI_3, wL_1, wL_3, wR_1, wR_2, Int.toNat_natCast, tnO, tn_add, tn_sub, tn_mul, Nat.add_sub_cancel, Nat.add_zero, Nat.zero_add, lnO, win_t, win_f, r1, t1, q64_div_n, pqb, ag]
              exact ihy
    · rw [if_neg (show ¬ ((1 : Int) = 0) by omega)] at ihy ⊢
      unfold RgA
      rw [Int.natCast_add] at ihy
      by_cases c1 : PgA a b q < 0 ∨ (tp : Int) * q < PgA a b q
      · rw [if_pos c1]
        simp (disch := omega) only [Option.bind_some, bindv, bindv0, bind2_s, bind3_s, ↓reduceIte, Bool.false_eq_true, rZM_0, rZM_1, rZP_0, rZP_1, ptZ_0, ptZ_1, c32i, c64i, ncI, Int.natCast_add, Int.natCast_mul, q32_neg, q64_neg, q32_add, q32_sub, q32_mul, q64_add, q64_sub, q64_mul, q32_64i, q64_32, q32_lt_t, q32_lt_f, q32_le_t, q32_le_f, q32_eq_t, q32_eq_f, q64_lt_t, q64_lt_f, q64_le_t, q64_le_f, q64_eq_t, q64_eq_f, rdI_i, rdL_i, rdR_i, rdN_i, stI_i, stL_i, stR_i, wI_s, wI_n, wL_s, wL_n, wI_2, wI_3, wL_1, wL_3, wR_1, wR_2, Int.toNat_natCast, tnO, tn_add, tn_sub, tn_mul, Nat.add_sub_cancel, Nat.add_zero, Nat.zero_add, lnO, win_t, win_f, r1, t1, q64_div_n, pqa]
        exact ihy
      · rw [if_neg c1]
        have ihn := ih fuel (by omega) (q + 1) (PgA a b q, (q : Int)) (by omega) (by omega) (by first | omega | (dsimp only; omega)) (by first | omega | (dsimp only; omega)) (by first | omega | (dsimp only; omega)) (by first | omega | (dsimp only; omega))
        rw [if_neg (show ¬ ((1 : Int) = 0) by omega), Int.natCast_add] at ihn
        dsimp only at ihn
        have ag := agn (a := PgA a b q) (b := (q : Int)) (c := y.1) (d := y.2) (by omega) (by omega) (by omega) (by omega)
        by_cases c2 : y.1 = -1
        · rw [if_pos (Or.inl c2)]
          simp (disch := omega) only [Option.bind_some, bindv, bindv0, bind2_s, bind3_s, ↓reduceIte, Bool.false_eq_true, rZM_0, rZM_1, rZP_0, rZP_1, ptZ_0, ptZ_1, c32i, c64i, ncI, Int.natCast_add, Int.natCast_mul, q32_neg, q64_neg, q32_add, q32_sub, q32_mul, q64_add, q64_sub, q64_mul, q32_64i, q64_32, q32_lt_t, q32_lt_f, q32_le_t, q32_le_f, q32_eq_t, q32_eq_f, q64_lt_t, q64_lt_f, q64_le_t, q64_le_f, q64_eq_t, q64_eq_f, rdI_i, rdL_i, rdR_i, rdN_i, stI_i, stL_i, stR_i, wI_s, wI_n, wL_s, wL_n, wI_2, wI_3, wL_1, wL_3, wR_1, wR_2, Int.toNat_natCast, tnO, tn_add, tn_sub, tn_mul, Nat.add_sub_cancel, Nat.add_zero, Nat.zero_add, lnO, win_t, win_f, r1, t1, q64_div_n, pqa, c2]
          exact ihn
        · by_cases c3 : PgA a b q * y.2 < y.1 * q
          · rw [if_pos (Or.inr c3)]
            rw [if_pos c3] at ag
            simp (disch := omega) only [Option.bind_some, bindv, bindv0, bind2_s, bind3_s, ↓reduceIte, Bool.false_eq_true, rZM_0, rZM_1, rZP_0, rZP_1, ptZ_0, ptZ_1, c32i, c64i, ncI, Int.natCast_add, Int.natCast_mul, q32_neg, q64_neg, q32_add, q32_sub, q32_mul, q64_add, q64_sub, q64_mul, q32_64i, q64_32, q32_lt_t, q32_lt_f, q32_le_t, q32_le_f, q32_eq_t, q32_eq_f, q64_lt_t, q64_lt_f, q64_le_t, q64_le_f, q64_eq_t, q64_eq_f, rdI_i, rdL_i, rdR_i, rdN_i, stI_i, stL_i, stR_i, wI_s, wI_n, wL_s, wL_n, wI_2, wI_3, wL_1, wL_3, wR_1, wR_2, Int.toNat_natCast, tnO, tn_add, tn_sub, tn_mul, Nat.add_sub_cancel, Nat.add_zero, Nat.zero_add, lnO, win_t, win_f, r1, t1, q64_div_n, pqa, ag]
            exact ihn
          · rw [if_neg (show ¬ (y.1 = -1 ∨ PgA a b q * y.2 < y.1 * q) by omega)]
            rw [if_neg c3] at ag
            by_cases c4 : y.1 * q < PgA a b q * y.2
            · rw [if_pos c4] at ag
              simp (disch := omega) only [Option.bind_some, bindv, bindv0, bind2_s, bind3_s, ↓reduceIte, Bool.false_eq_true, rZM_0, rZM_1, rZP_0, rZP_1, ptZ_0, ptZ_1, c32i, c64i, ncI, Int.natCast_add, Int.natCast_mul, q32_neg, q64_neg, q32_add, q32_sub, q32_mul, q64_add, q64_sub, q64_mul, q32_64i, q64_32, q32_lt_t, q32_lt_f, q32_le_t, q32_le_f, q32_eq_t, q32_eq_f, q64_lt_t, q64_lt_f, q64_le_t, q64_le_f, q64_eq_t, q64_eq_f, rdI_i, rdL_i, rdR_i, rdN_i, stI_i, stL_i, stR_i, wI_s, wI_n, wL_s, wL_n, wI_2, wI_3, wL_1, wL_3, wR_1, wR_2, Int.toNat_natCast, tnO, tn_add, tn_sub, tn_mul, Nat.add_sub_cancel, Nat.add_zero, Nat.zero_add, lnO, win_t, win_f, r1, t1, q64_div_n, pqa, ag]
              exact ihy
            · rw [if_neg c4] at ag
              simp (disch := omega) only [Option.bind_some, bindv, bindv0, bind2_s, bind3_s, ↓reduceIte, Bool.false_eq_true, rZM_0, rZM_1, rZP_0, rZP_1, ptZ_0, ptZ_1, c32i, c64i, ncI, Int.natCast_add, Int.natCast_mul, q32_neg, q64_neg, q32_add, q32_sub, q32_mul, q64_add, q64_sub, q64_mul, q32_64i, q64_32, q32_lt_t, q32_lt_f, q32_le_t, q32_le_f, q32_eq_t, q32_eq_f, q64_lt_t, q64_lt_f, q64_le_t, q64_le_f, q64_eq_t, q64_eq_f, rdI_i, rdL_i, rdR_i, rdN_i, stI_i, stL_i, stR_i, wI_s, wI_n, wL_s, wL_n, wI_2, wI_3, wL_1, wL_3, wR_1, wR_2, Int.toNat_natCast, tnO, tn_add, tn_sub, tn_mul, Nat.add_sub_cancel, Nat.add_zero, Nat.zero_add, lnO, win_t, win_f, r1, t1, q64_div_n, pqa, ag]
              exact ihy
/-- the class's end: what was found is put, and is a floor or not -/
theorem near9 {F : Nat} (hF : 2000 ≤ F) {s : List Sh} {m : Mem} {ow : Nat → Nat} {nw : Nat} (hst : ST s m ow nw) {f : FR} (hf : FLR (A (m.1 24) 1) f.1 f.2) {d : Nat} (hd : 1 ≤ d ∧ d ≤ 1000) {ab v : Int} (hab : ab = 0 ∨ ab = 1) (hv : 0 ≤ v ∧ v ≤ 1) : ∃ y g : FR, ((ab = 0 → y = RgB (PgB f.1.toNat f.2.toNat) (A (m.1 24) 1) d 1 (-1, 1)) ∧ (ab = 1 → y = RgA (PgA f.1.toNat f.2.toNat) (A (m.1 24) 1) d 1 (-1, 1))) ∧ (if ab = 0 then bind2 (n_X9_seekBelow F s (PT m 19 f) 0 (q32 d)) fun x3 m4 => nb_X9_neighbour_56 F s m4 0 (q32 v) x3 else bind2 (n_X9_seekAbove F s (PT m 19 f) 0 (q32 d)) fun x5 m6 => nb_X9_neighbour_56 F s m6 0 (q32 v) x5) = some (q32 (NRA (A (m.1 24) 1) y v), PT (PT m 19 f) 20 g) := by
  have hp := hst.1.hp
  have hr := hst.1.rf
  have rn := hst.1.nw
  have r12 := rf0_12 hr
  have r13 := rf0_13 hr
  obtain ⟨tp, t1, t2, t3, t4, t5, t6, t7, -⟩ := hst.2.1.wa.at
  have g0 : m.1 nw 0 = q32 tp := by obtain ⟨tp, sk, nl, bc, fc, tc, au, aw, S, U, L, V, W, X, O, h1, ⟨a0, a1, a2, a4, a5, a6, a9, a15⟩, ⟨b0, b1, b2, b3, b4, b5, b6, b7, b8⟩, h4, ⟨s1, s2, s3, s4, s5, s6, s7⟩, h6, ⟨h7, h7b⟩, h8⟩ := hst.2.1; rw [a0, ← b1]; exact t3
  rw [t4] at hf ⊢
  unfold FLR at hf
  obtain ⟨u, l⟩ := f
  obtain ⟨a, rfl⟩ := Int.eq_ofNat_of_zero_le hf.1
  obtain ⟨b, rfl⟩ := Int.eq_ofNat_of_zero_le (show 0 ≤ l by omega)
  dsimp only at hf ⊢
  rw [show ((a : Int)).toNat = a from rfl, show ((b : Int)).toNat = b from rfl]
  have hatp : a ≤ tp * b := by have := hf.2.2.2.2.1; exact_mod_cast this
  have c0 : (PT m 19 ((a : Int), (b : Int))).2.1 19 0 = q64 a := PT_0 _ _ _
  have c1 : (PT m 19 ((a : Int), (b : Int))).2.1 19 1 = q64 b := PT_l _ _ _
  rcases hab with rfl | rfl
  · have ib : IgB (PgB a b) tp (1 + d) (NgB (PgB a b) d 1 (-1, 1)) (RgB (PgB a b) tp d 1 (-1, 1)) := by
      refine NgB_RgB (fun q hq => ⟨?_, ?_⟩) d 1 (-1, 1) (-1, 1) (by omega) ⟨by simp, Or.inl ⟨rfl, by simp⟩, fun k k1 k2 => by omega, fun h => by simp at h⟩
      · unfold PgB; generalize (a * q + b - 1) / b = z; omega
      · have k1 : a * q ≤ tp * q * b := by
          calc a * q ≤ (tp * b) * q := Nat.mul_le_mul_right q hatp
            _ = tp * q * b := by rw [Nat.mul_assoc, Nat.mul_comm b q, ← Nat.mul_assoc]
        have k2 : (a * q + b - 1) / b < tp * q + 1 := (Nat.div_lt_iff_lt_mul (by omega)).mpr (by rw [Nat.add_mul]; omega)
        unfold PgB
        have : ((tp * q : Nat) : Int) = (tp : Int) * q := Int.natCast_mul tp q
        omega
    obtain ⟨f', e1, e2, e3, e4, e5⟩ := nearB9 (F := F) (s := s) (m := PT m 19 ((a : Int), (b : Int))) (a := a) (b := b) (d := d) (by omega) (by omega) (by omega) (hr.same rfl) c0 c1 d F (by omega) 1 (-1, 1) (by omega) (by omega) (by simp) (by simp) (by simp) (by simp)
    generalize hC : NgB (PgB a b) d 1 (-1, 1) = C at *
    generalize hR : RgB (PgB a b) tp d 1 (-1, 1) = R at *
    have pu := put9 (F := F) (s := s) (m := PT m 19 ((a : Int), (b : Int))) (r := 20) (by omega) (p := C.1) (q := C.2) (by omega) (by omega) (by omega)
    obtain ⟨n1, n2, n3, n4, n5⟩ := nrm_ok (p := C.1) (q := C.2) (by omega)
    have if9 := isF9 (s := s) (m := PT (PT m 19 ((a : Int), (b : Int))) 20 (nrm C.1 C.2)) (n := nw) (tp := tp) g0 t2 (u := (nrm C.1 C.2).1) (l := (nrm C.1 C.2).2) (by omega) (by omega)
    refine ⟨R, nrm C.1 C.2, ⟨fun _ => rfl, fun h => by omega⟩, ?_⟩
    rw [if_pos rfl]
    have s1 : n_X9_seekBelow F s (PT m 19 ((a : Int), (b : Int))) 0 (q32 d) = some (if isF tp (nrm C.1 C.2) then 1 else 0, PT (PT m 19 ((a : Int), (b : Int))) 20 (nrm C.1 C.2)) := by
      unfold n_X9_seekBelow nb_X9_seekBelow_0
      dsimp only at e1
      simp (disch := omega) only [Option.bind_some, bindv, bindv0, bind2_s, bind3_s, ↓reduceIte, Bool.false_eq_true, rZM_0, rZM_1, rZP_0, rZP_1, ptZ_0, ptZ_1, c32i, c64i, ncI, Int.natCast_add, Int.natCast_mul, q32_neg, q64_neg, q32_add, q32_sub, q32_mul, q64_add, q64_sub, q64_mul, q32_64i, q64_32, q32_lt_t, q32_lt_f, q32_le_t, q32_le_f, q32_eq_t, q32_eq_f, q64_lt_t, q64_lt_f, q64_le_t, q64_le_f, q64_eq_t, q64_eq_f, rdI_i, rdL_i, rdR_i, rdN_i, stI_i, stL_i, stR_i, wI_s, wI_n, wL_s, wL_n, wI_2, wI_3, wL_1, wL_3, wR_1, wR_2, Int.toNat_natCast, tnO, tn_add, tn_sub, tn_mul, Nat.add_sub_cancel, Nat.add_zero, Nat.zero_add, lnO, win_t, win_f, PT_3, r12, c1]
      refine Eq.trans e1 ?_
      unfold nb_X9_seekBelow_24
      simp (disch := omega) only [Option.bind_some, bindv, bindv0, bind2_s, bind3_s, ↓reduceIte, Bool.false_eq_true, rZM_0, rZM_1, rZP_0, rZP_1, ptZ_0, ptZ_1, c32i, c64i, ncI, Int.natCast_add, Int.natCast_mul, q32_neg, q64_neg, q32_add, q32_sub, q32_mul, q64_add, q64_sub, q64_mul, q32_64i, q64_32, q32_lt_t, q32_lt_f, q32_le_t, q32_le_f, q32_eq_t, q32_eq_f, q64_lt_t, q64_lt_f, q64_le_t, q64_le_f, q64_eq_t, q64_eq_f, rdI_i, rdL_i, rdR_i, rdN_i, stI_i, stL_i, stR_i, wI_s, wI_n, wL_s, wL_n, wI_2, wI_3, wL_1, wL_3, wR_1, wR_2, Int.toNat_natCast, tnO, tn_add, tn_sub, tn_mul, Nat.add_sub_cancel, Nat.add_zero, Nat.zero_add, lnO, win_t, win_f, PT_3, r13, rn, pu, PT_0, PT_l, if9]
      cases isF tp (nrm C.1 C.2) <;> rfl
    rw [s1]
    obtain ⟨i1, i2, i3, i4⟩ := ib
    unfold NRA nb_X9_neighbour_56 n_X2_part nb_X2_part_0
    rcases i2 with ⟨i5, i6⟩ | ⟨i5, i6, i7⟩
    · have hb : isF tp (nrm C.1 C.2) = false := decide_eq_false (fun hh => by
        have q1 : C.1 * (nrm C.1 C.2).2 < 0 := Int.mul_neg_of_neg_of_pos i6 (by omega)
        have q2 : 0 ≤ (nrm C.1 C.2).1 * C.2 := Int.mul_nonneg hh.1 (by omega)
        omega)
      rw [hb, if_pos i5]
      simp (disch := omega) only [Option.bind_some, bindv, bindv0, bind2_s, bind3_s, ↓reduceIte, Bool.false_eq_true, rZM_0, rZM_1, rZP_0, rZP_1, ptZ_0, ptZ_1, c32i, c64i, ncI, Int.natCast_add, Int.natCast_mul, q32_neg, q64_neg, q32_add, q32_sub, q32_mul, q64_add, q64_sub, q64_mul, q32_64i, q64_32, q32_lt_t, q32_lt_f, q32_le_t, q32_le_f, q32_eq_t, q32_eq_f, q64_lt_t, q64_lt_f, q64_le_t, q64_le_f, q64_eq_t, q64_eq_f, rdI_i, rdL_i, rdR_i, rdN_i, stI_i, stL_i, stR_i, wI_s, wI_n, wL_s, wL_n, wI_2, wI_3, wL_1, wL_3, wR_1, wR_2, Int.toNat_natCast, tnO, tn_add, tn_sub, tn_mul, Nat.add_sub_cancel, Nat.add_zero, Nat.zero_add, lnO, win_t, win_f]
    · have hg := IgB_g (a := a) (b := b) (tp := tp) (q := 1 + d) (c := C) (r := R) (by omega) ⟨i1, Or.inr ⟨i5, i6, i7⟩, i3, i4⟩ i6
      have hnl := nrm_low (p := C.1) (q := C.2) (by omega) hg
      have hb : isF tp (nrm C.1 C.2) = true := by
        rw [hnl]
        have : (tp : Int) * C.2 ≤ 9 * 1000 := Int.mul_le_mul (by omega) (by omega) (by omega) (by omega)
        exact decide_eq_true ⟨i6, i1, by first | omega | (dsimp only; omega), by first | omega | (dsimp only; omega), i7⟩
      rw [hb, i5, if_neg (show ¬ (C.1 = -1) by omega), hnl]
      by_cases cv : v = 0
      · rw [if_pos cv]; simp (disch := omega) only [Option.bind_some, bindv, bindv0, bind2_s, bind3_s, ↓reduceIte, Bool.false_eq_true, rZM_0, rZM_1, rZP_0, rZP_1, ptZ_0, ptZ_1, c32i, c64i, ncI, Int.natCast_add, Int.natCast_mul, q32_neg, q64_neg, q32_add, q32_sub, q32_mul, q64_add, q64_sub, q64_mul, q32_64i, q64_32, q32_lt_t, q32_lt_f, q32_le_t, q32_le_f, q32_eq_t, q32_eq_f, q64_lt_t, q64_lt_f, q64_le_t, q64_le_f, q64_eq_t, q64_eq_f, rdI_i, rdL_i, rdR_i, rdN_i, stI_i, stL_i, stR_i, wI_s, wI_n, wL_s, wL_n, wI_2, wI_3, wL_1, wL_3, wR_1, wR_2, Int.toNat_natCast, tnO, tn_add, tn_sub, tn_mul, Nat.add_sub_cancel, Nat.add_zero, Nat.zero_add, lnO, win_t, win_f, PT_3, r13, PT_0, PT_l]
      · rw [if_neg cv]; simp (disch := omega) only [Option.bind_some, bindv, bindv0, bind2_s, bind3_s, ↓reduceIte, Bool.false_eq_true, rZM_0, rZM_1, rZP_0, rZP_1, ptZ_0, ptZ_1, c32i, c64i, ncI, Int.natCast_add, Int.natCast_mul, q32_neg, q64_neg, q32_add, q32_sub, q32_mul, q64_add, q64_sub, q64_mul, q32_64i, q64_32, q32_lt_t, q32_lt_f, q32_le_t, q32_le_f, q32_eq_t, q32_eq_f, q64_lt_t, q64_lt_f, q64_le_t, q64_le_f, q64_eq_t, q64_eq_f, rdI_i, rdL_i, rdR_i, rdN_i, stI_i, stL_i, stR_i, wI_s, wI_n, wL_s, wL_n, wI_2, wI_3, wL_1, wL_3, wR_1, wR_2, Int.toNat_natCast, tnO, tn_add, tn_sub, tn_mul, Nat.add_sub_cancel, Nat.add_zero, Nat.zero_add, lnO, win_t, win_f, PT_3, r13, PT_0, PT_l]
  · have ia : IgA (PgA a b) tp (1 + d) (NgA (PgA a b) d 1 ((tp : Int) + 1, 1)) (RgA (PgA a b) tp d 1 (-1, 1)) := by
      refine NgA_RgA (fun q hq => ?_) d 1 ((tp : Int) + 1, 1) (-1, 1) (by omega) ⟨by simp, Or.inl ⟨rfl, by dsimp only; omega⟩, fun k k1 k2 => by omega, fun h => by dsimp only at h; omega⟩
      unfold PgA; generalize a * q / b = z; omega
    obtain ⟨f', e1, e2, e3, e4, e5⟩ := nearA9 (F := F) (s := s) (m := PT m 19 ((a : Int), (b : Int))) (a := a) (b := b) (d := d) (by omega) (by omega) (by omega) (hr.same rfl) c0 c1 d F (by omega) 1 ((tp : Int) + 1, 1) (by omega) (by omega) (by first | omega | (dsimp only; omega)) (by first | omega | (dsimp only; omega)) (by simp) (by simp)
    generalize hC : NgA (PgA a b) d 1 ((tp : Int) + 1, 1) = C at *
    generalize hR : RgA (PgA a b) tp d 1 (-1, 1) = R at *
    have pu := put9 (F := F) (s := s) (m := PT m 19 ((a : Int), (b : Int))) (r := 20) (by omega) (p := C.1) (q := C.2) (by omega) (by omega) (by omega)
    obtain ⟨n1, n2, n3, n4, n5⟩ := nrm_ok (p := C.1) (q := C.2) (by omega)
    have if9 := isF9 (s := s) (m := PT (PT m 19 ((a : Int), (b : Int))) 20 (nrm C.1 C.2)) (n := nw) (tp := tp) g0 t2 (u := (nrm C.1 C.2).1) (l := (nrm C.1 C.2).2) (by omega) (by omega)
    refine ⟨R, nrm C.1 C.2, ⟨fun h => by omega, fun _ => rfl⟩, ?_⟩
    rw [if_neg (by omega)]
    have g0' : (PT m 19 ((a : Int), (b : Int))).1 nw 0 = q32 tp := g0
    have s1 : n_X9_seekAbove F s (PT m 19 ((a : Int), (b : Int))) 0 (q32 d) = some (if isF tp (nrm C.1 C.2) then 1 else 0, PT (PT m 19 ((a : Int), (b : Int))) 20 (nrm C.1 C.2)) := by
      unfold n_X9_seekAbove nb_X9_seekAbove_0
      dsimp only at e1
      simp (disch := omega) only [Option.bind_some, bindv, bindv0, bind2_s, bind3_s, ↓reduceIte, Bool.false_eq_true, rZM_0, rZM_1, rZP_0, rZP_1, ptZ_0, ptZ_1, c32i, c64i, ncI, Int.natCast_add, Int.natCast_mul, q32_neg, q64_neg, q32_add, q32_sub, q32_mul, q64_add, q64_sub, q64_mul, q32_64i, q64_32, q32_lt_t, q32_lt_f, q32_le_t, q32_le_f, q32_eq_t, q32_eq_f, q64_lt_t, q64_lt_f, q64_le_t, q64_le_f, q64_eq_t, q64_eq_f, rdI_i, rdL_i, rdR_i, rdN_i, stI_i, stL_i, stR_i, wI_s, wI_n, wL_s, wL_n, wI_2, wI_3, wL_1, wL_3, wR_1, wR_2, Int.toNat_natCast, tnO, tn_add, tn_sub, tn_mul, Nat.add_sub_cancel, Nat.add_zero, Nat.zero_add, lnO, win_t, win_f, PT_3, rn, g0', r12, c1]
      refine Eq.trans e1 ?_
      unfold nb_X9_seekAbove_31
      simp (disch := omega) only [Option.bind_some, bindv, bindv0, bind2_s, bind3_s, ↓reduceIte, Bool.false_eq_true, rZM_0, rZM_1, rZP_0, rZP_1, ptZ_0, ptZ_1, c32i, c64i, ncI, Int.natCast_add, Int.natCast_mul, q32_neg, q64_neg, q32_add, q32_sub, q32_mul, q64_add, q64_sub, q64_mul, q32_64i, q64_32, q32_lt_t, q32_lt_f, q32_le_t, q32_le_f, q32_eq_t, q32_eq_f, q64_lt_t, q64_lt_f, q64_le_t, q64_le_f, q64_eq_t, q64_eq_f, rdI_i, rdL_i, rdR_i, rdN_i, stI_i, stL_i, stR_i, wI_s, wI_n, wL_s, wL_n, wI_2, wI_3, wL_1, wL_3, wR_1, wR_2, Int.toNat_natCast, tnO, tn_add, tn_sub, tn_mul, Nat.add_sub_cancel, Nat.add_zero, Nat.zero_add, lnO, win_t, win_f, PT_3, r13, rn, pu, PT_0, PT_l, if9]
      cases isF tp (nrm C.1 C.2) <;> rfl
    rw [s1]
    have ia' := ia
    obtain ⟨i1, i2, i3, i4⟩ := ia
    unfold NRA nb_X9_neighbour_56 n_X2_part nb_X2_part_0
    rcases i2 with ⟨i5, i6⟩ | ⟨i5, i6, i7⟩
    · have hb : isF tp (nrm C.1 C.2) = false := decide_eq_false (fun hh => by
        have q1 : (tp : Int) * C.2 * (nrm C.1 C.2).2 < C.1 * (nrm C.1 C.2).2 := Int.mul_lt_mul_of_pos_right i6 (by omega)
        have q2 : (nrm C.1 C.2).1 * C.2 ≤ (tp : Int) * (nrm C.1 C.2).2 * C.2 := Int.mul_le_mul_of_nonneg_right hh.2.2.2.2 (by omega)
        have q3 : (tp : Int) * C.2 * (nrm C.1 C.2).2 = (tp : Int) * (nrm C.1 C.2).2 * C.2 := by grind
        omega)
      rw [hb, if_pos i5]
      simp (disch := omega) only [Option.bind_some, bindv, bindv0, bind2_s, bind3_s, ↓reduceIte, Bool.false_eq_true, rZM_0, rZM_1, rZP_0, rZP_1, ptZ_0, ptZ_1, c32i, c64i, ncI, Int.natCast_add, Int.natCast_mul, q32_neg, q64_neg, q32_add, q32_sub, q32_mul, q64_add, q64_sub, q64_mul, q32_64i, q64_32, q32_lt_t, q32_lt_f, q32_le_t, q32_le_f, q32_eq_t, q32_eq_f, q64_lt_t, q64_lt_f, q64_le_t, q64_le_f, q64_eq_t, q64_eq_f, rdI_i, rdL_i, rdR_i, rdN_i, stI_i, stL_i, stR_i, wI_s, wI_n, wL_s, wL_n, wI_2, wI_3, wL_1, wL_3, wR_1, wR_2, Int.toNat_natCast, tnO, tn_add, tn_sub, tn_mul, Nat.add_sub_cancel, Nat.add_zero, Nat.zero_add, lnO, win_t, win_f]
    · have hg := IgA_g (a := a) (b := b) (tp := tp) (by omega) ia' i6 i7
      have hnl := nrm_low (p := C.1) (q := C.2) (by omega) hg
      have hb : isF tp (nrm C.1 C.2) = true := by
        rw [hnl]
        have : (tp : Int) * C.2 ≤ 9 * 1000 := Int.mul_le_mul (by omega) (by omega) (by omega) (by omega)
        exact decide_eq_true ⟨i6, i1, by first | omega | (dsimp only; omega), by first | omega | (dsimp only; omega), i7⟩
      rw [hb, i5, if_neg (show ¬ (C.1 = -1) by omega), hnl]
      by_cases cv : v = 0
      · rw [if_pos cv]; simp (disch := omega) only [Option.bind_some, bindv, bindv0, bind2_s, bind3_s, ↓reduceIte, Bool.false_eq_true, rZM_0, rZM_1, rZP_0, rZP_1, ptZ_0, ptZ_1, c32i, c64i, ncI, Int.natCast_add, Int.natCast_mul, q32_neg, q64_neg, q32_add, q32_sub, q32_mul, q64_add, q64_sub, q64_mul, q32_64i, q64_32, q32_lt_t, q32_lt_f, q32_le_t, q32_le_f, q32_eq_t, q32_eq_f, q64_lt_t, q64_lt_f, q64_le_t, q64_le_f, q64_eq_t, q64_eq_f, rdI_i, rdL_i, rdR_i, rdN_i, stI_i, stL_i, stR_i, wI_s, wI_n, wL_s, wL_n, wI_2, wI_3, wL_1, wL_3, wR_1, wR_2, Int.toNat_natCast, tnO, tn_add, tn_sub, tn_mul, Nat.add_sub_cancel, Nat.add_zero, Nat.zero_add, lnO, win_t, win_f, PT_3, r13, PT_0, PT_l]
      · rw [if_neg cv]; simp (disch := omega) only [Option.bind_some, bindv, bindv0, bind2_s, bind3_s, ↓reduceIte, Bool.false_eq_true, rZM_0, rZM_1, rZP_0, rZP_1, ptZ_0, ptZ_1, c32i, c64i, ncI, Int.natCast_add, Int.natCast_mul, q32_neg, q64_neg, q32_add, q32_sub, q32_mul, q64_add, q64_sub, q64_mul, q32_64i, q64_32, q32_lt_t, q32_lt_f, q32_le_t, q32_le_f, q32_eq_t, q32_eq_f, q64_lt_t, q64_lt_f, q64_le_t, q64_le_f, q64_eq_t, q64_eq_f, rdI_i, rdL_i, rdR_i, rdN_i, stI_i, stL_i, stR_i, wI_s, wI_n, wL_s, wL_n, wI_2, wI_3, wL_1, wL_3, wR_1, wR_2, Int.toNat_natCast, tnO, tn_add, tn_sub, tn_mul, Nat.add_sub_cancel, Nat.add_zero, Nat.zero_add, lnO, win_t, win_f, PT_3, r13, PT_0, PT_l]
theorem opk_neighbour {F : Nat} (hF : 2000 ≤ F) {s : List Sh} {m : Mem} (h : INV s m) (w1 w2 w3 : Int32) (ab : Int) (hab : ab = 0 ∨ ab = 1) (w5 : Int32) : OPK s m (n_X9_neighbour F s m 0 w1 w2 w3 (q32 ab) w5) (fun m1 => n_X10_neighbour F s m1 23 w1 w2 w3 (q32 ab) w5) := by
  have h0 := h
  obtain ⟨hg, ow, nw, hst⟩ := h
  have hl := hst.1
  have hp := hl.hp
  have hr := hl.rf
  have hn := hl.hn
  have rn := hl.nw
  have r1 := rf23_1 hr
  have l24 := ln24 hp
  obtain ⟨u, hu, rfl⟩ := q32_of w1
  obtain ⟨l, hll, rfl⟩ := q32_of w2
  obtain ⟨d, hd, rfl⟩ := q32_of w3
  obtain ⟨v, hv, rfl⟩ := q32_of w5
  have fin : ∀ r m1 m2, n_X9_neighbour F s m 0 (q32 u) (q32 l) (q32 d) (q32 ab) (q32 v) = some (r, m1) → n_X10_neighbour F s m1 23 (q32 u) (q32 l) (q32 d) (q32 ab) (q32 v) = some (r, m2) → SC m m2 → OPK s m (n_X9_neighbour F s m 0 (q32 u) (q32 l) (q32 d) (q32 ab) (q32 v)) (fun m1 => n_X10_neighbour F s m1 23 (q32 u) (q32 l) (q32 d) (q32 ab) (q32 v)) := fun r m1 m2 e1 e2 sc =>
    opk_fin h0 e1 e2 (un_X10_neighbour (un_X9_neighbour hg (okB hp).1 e1).2 (okB hp).2 e2).2 sc
  by_cases c : 0 ≤ v ∧ v ≤ 1
  · by_cases cd : 1 ≤ d ∧ d ≤ 1000
    · rcases asks_cases (F := F) (by omega) hst hu hll with ⟨m1, k1, k2, k3⟩ | ⟨f, k1, k2, k3⟩
      · obtain ⟨m2, k4, k5⟩ := k3 (wI m1 23 0 (q32 0)) (hr.same k2.r) (by simp (disch := omega) only [Option.bind_some, bindv, bindv0, bind2_s, bind3_s, ↓reduceIte, Bool.false_eq_true, rZM_0, rZM_1, rZP_0, rZP_1, ptZ_0, ptZ_1, c32i, c64i, ncI, Int.natCast_add, Int.natCast_mul, q32_neg, q64_neg, q32_add, q32_sub, q32_mul, q64_add, q64_sub, q64_mul, q32_64i, q64_32, q32_lt_t, q32_lt_f, q32_le_t, q32_le_f, q32_eq_t, q32_eq_f, q64_lt_t, q64_lt_f, q64_le_t, q64_le_f, q64_eq_t, q64_eq_f, rdI_i, rdL_i, rdR_i, rdN_i, stI_i, stL_i, stR_i, wI_s, wI_n, wL_s, wL_n, wI_2, wI_3, wL_1, wL_3, wR_1, wR_2, Int.toNat_natCast, tnO, tn_add, tn_sub, tn_mul, Nat.add_sub_cancel, Nat.add_zero, Nat.zero_add, lnO, win_t, win_f]; exact k2.i _ _ (by omega))
        refine fin (q32 (-3)) m1 m2 ?_ ?_ (k2.tr ((SC.k0 m1).tr k5))
        · unfold n_X9_neighbour nb_X9_neighbour_0
          simp (disch := omega) only [Option.bind_some, bindv, bindv0, bind2_s, bind3_s, ↓reduceIte, Bool.false_eq_true, rZM_0, rZM_1, rZP_0, rZP_1, ptZ_0, ptZ_1, c32i, c64i, ncI, Int.natCast_add, Int.natCast_mul, q32_neg, q64_neg, q32_add, q32_sub, q32_mul, q64_add, q64_sub, q64_mul, q32_64i, q64_32, q32_lt_t, q32_lt_f, q32_le_t, q32_le_f, q32_eq_t, q32_eq_f, q64_lt_t, q64_lt_f, q64_le_t, q64_le_f, q64_eq_t, q64_eq_f, rdI_i, rdL_i, rdR_i, rdN_i, stI_i, stL_i, stR_i, wI_s, wI_n, wL_s, wL_n, wI_2, wI_3, wL_1, wL_3, wR_1, wR_2, Int.toNat_natCast, tnO, tn_add, tn_sub, tn_mul, Nat.add_sub_cancel, Nat.add_zero, Nat.zero_add, lnO, win_t, win_f, k1]
        · unfold n_X10_neighbour nb_X10_neighbour_0
          simp (disch := omega) only [Option.bind_some, bindv, bindv0, bind2_s, bind3_s, ↓reduceIte, Bool.false_eq_true, rZM_0, rZM_1, rZP_0, rZP_1, ptZ_0, ptZ_1, c32i, c64i, ncI, Int.natCast_add, Int.natCast_mul, q32_neg, q64_neg, q32_add, q32_sub, q32_mul, q64_add, q64_sub, q64_mul, q32_64i, q64_32, q32_lt_t, q32_lt_f, q32_le_t, q32_le_f, q32_eq_t, q32_eq_f, q64_lt_t, q64_lt_f, q64_le_t, q64_le_f, q64_eq_t, q64_eq_f, rdI_i, rdL_i, rdR_i, rdN_i, stI_i, stL_i, stR_i, wI_s, wI_n, wL_s, wL_n, wI_2, wI_3, wL_1, wL_3, wR_1, wR_2, Int.toNat_natCast, tnO, tn_add, tn_sub, tn_mul, Nat.add_sub_cancel, Nat.add_zero, Nat.zero_add, lnO, win_t, win_f, k4]
      · obtain ⟨n, rfl⟩ := Int.eq_ofNat_of_zero_le (show 0 ≤ d by omega)
        obtain ⟨y, g, ⟨y1, y2⟩, e9⟩ := near9 hF hst k1 (d := n) (by omega) hab c
        obtain ⟨tp, t1, t2, t3, t4, -⟩ := hst.2.1.wa.at
        have kf := k1
        unfold FLR at kf
        have k4 := k3 (wI (PT (PT m 19 f) 20 g) 23 0 (q32 0)) (hr.same rfl) (by simp (disch := omega) only [Option.bind_some, bindv, bindv0, bind2_s, bind3_s, ↓reduceIte, Bool.false_eq_true, rZM_0, rZM_1, rZP_0, rZP_1, ptZ_0, ptZ_1, c32i, c64i, ncI, Int.natCast_add, Int.natCast_mul, q32_neg, q64_neg, q32_add, q32_sub, q32_mul, q64_add, q64_sub, q64_mul, q32_64i, q64_32, q32_lt_t, q32_lt_f, q32_le_t, q32_le_f, q32_eq_t, q32_eq_f, q64_lt_t, q64_lt_f, q64_le_t, q64_le_f, q64_eq_t, q64_eq_f, rdI_i, rdL_i, rdR_i, rdN_i, stI_i, stL_i, stR_i, wI_s, wI_n, wL_s, wL_n, wI_2, wI_3, wL_1, wL_3, wR_1, wR_2, Int.toNat_natCast, tnO, tn_add, tn_sub, tn_mul, Nat.add_sub_cancel, Nat.add_zero, Nat.zero_add, lnO, win_t, win_f]; rfl)
        have k2' : n_X9_asksFloor F s m 0 (q32 u) (q32 l) = some (q32 1, PT m 19 f) := k2
        have l10 := nearL10 (F := F) (s := s) hp (a := f.1.toNat) (b := f.2.toNat) (d := n) (tp := tp) (by omega) (by omega) (by omega) t2 (m := PS (wI (PT (PT m 19 f) 20 g) 23 0 (q32 0)) f) (hr.same rfl) (by rw [PS_1]; simp (disch := omega) only [Option.bind_some, bindv, bindv0, bind2_s, bind3_s, ↓reduceIte, Bool.false_eq_true, rZM_0, rZM_1, rZP_0, rZP_1, ptZ_0, ptZ_1, c32i, c64i, ncI, Int.natCast_add, Int.natCast_mul, q32_neg, q64_neg, q32_add, q32_sub, q32_mul, q64_add, q64_sub, q64_mul, q32_64i, q64_32, q32_lt_t, q32_lt_f, q32_le_t, q32_le_f, q32_eq_t, q32_eq_f, q64_lt_t, q64_lt_f, q64_le_t, q64_le_f, q64_eq_t, q64_eq_f, rdI_i, rdL_i, rdR_i, rdN_i, stI_i, stL_i, stR_i, wI_s, wI_n, wL_s, wL_n, wI_2, wI_3, wL_1, wL_3, wR_1, wR_2, Int.toNat_natCast, tnO, tn_add, tn_sub, tn_mul, Nat.add_sub_cancel, Nat.add_zero, Nat.zero_add, lnO, win_t, win_f]; exact t3) hab c n F (by omega) 1 (-1, 1) (by omega) (by omega) (by simp) (by simp) (by simp) (by simp)
        rw [Int.toNat_of_nonneg (by omega), Int.toNat_of_nonneg (by omega)] at l10
        have ey : (if ab = 0 then RgB (PgB f.1.toNat f.2.toNat) tp n 1 (-1, 1) else RgA (PgA f.1.toNat f.2.toNat) tp n 1 (-1, 1)) = y := by
          rcases hab with rfl | rfl
          · rw [if_pos rfl, y1 rfl, t4]
          · rw [if_neg (by omega), y2 rfl, t4]
        rw [ey] at l10
        rw [t4] at e9
        refine fin (q32 (NRA tp y v)) (PT (PT m 19 f) 20 g) (PS (wI (PT (PT m 19 f) 20 g) 23 0 (q32 0)) f) ?_ ?_ ((((((SC.rf m).pt (by omega)).pt (by omega)).tr (SC.k0 _))).ps)
        · unfold n_X9_neighbour nb_X9_neighbour_0
          rcases hab with rfl | rfl
          · rw [if_pos rfl] at e9
            simp (disch := omega) only [Option.bind_some, bindv, bindv0, bind2_s, bind3_s, ↓reduceIte, Bool.false_eq_true, rZM_0, rZM_1, rZP_0, rZP_1, ptZ_0, ptZ_1, c32i, c64i, ncI, Int.natCast_add, Int.natCast_mul, q32_neg, q64_neg, q32_add, q32_sub, q32_mul, q64_add, q64_sub, q64_mul, q32_64i, q64_32, q32_lt_t, q32_lt_f, q32_le_t, q32_le_f, q32_eq_t, q32_eq_f, q64_lt_t, q64_lt_f, q64_le_t, q64_le_f, q64_eq_t, q64_eq_f, rdI_i, rdL_i, rdR_i, rdN_i, stI_i, stL_i, stR_i, wI_s, wI_n, wL_s, wL_n, wI_2, wI_3, wL_1, wL_3, wR_1, wR_2, Int.toNat_natCast, tnO, tn_add, tn_sub, tn_mul, Nat.add_sub_cancel, Nat.add_zero, Nat.zero_add, lnO, win_t, win_f, k2']
            exact e9
          · rw [if_neg (by omega)] at e9
            simp (disch := omega) only [Option.bind_some, bindv, bindv0, bind2_s, bind3_s, ↓reduceIte, Bool.false_eq_true, rZM_0, rZM_1, rZP_0, rZP_1, ptZ_0, ptZ_1, c32i, c64i, ncI, Int.natCast_add, Int.natCast_mul, q32_neg, q64_neg, q32_add, q32_sub, q32_mul, q64_add, q64_sub, q64_mul, q32_64i, q64_32, q32_lt_t, q32_lt_f, q32_le_t, q32_le_f, q32_eq_t, q32_eq_f, q64_lt_t, q64_lt_f, q64_le_t, q64_le_f, q64_eq_t, q64_eq_f, rdI_i, rdL_i, rdR_i, rdN_i, stI_i, stL_i, stR_i, wI_s, wI_n, wL_s, wL_n, wI_2, wI_3, wL_1, wL_3, wR_1, wR_2, Int.toNat_natCast, tnO, tn_add, tn_sub, tn_mul, Nat.add_sub_cancel, Nat.add_zero, Nat.zero_add, lnO, win_t, win_f, k2']
            exact e9
        · unfold n_X10_neighbour nb_X10_neighbour_0
          simp (disch := omega) only [Option.bind_some, bindv, bindv0, bind2_s, bind3_s, ↓reduceIte, Bool.false_eq_true, rZM_0, rZM_1, rZP_0, rZP_1, ptZ_0, ptZ_1, c32i, c64i, ncI, Int.natCast_add, Int.natCast_mul, q32_neg, q64_neg, q32_add, q32_sub, q32_mul, q64_add, q64_sub, q64_mul, q32_64i, q64_32, q32_lt_t, q32_lt_f, q32_le_t, q32_le_f, q32_eq_t, q32_eq_f, q64_lt_t, q64_lt_f, q64_le_t, q64_le_f, q64_eq_t, q64_eq_f, rdI_i, rdL_i, rdR_i, rdN_i, stI_i, stL_i, stR_i, wI_s, wI_n, wL_s, wL_n, wI_2, wI_3, wL_1, wL_3, wR_1, wR_2, Int.toNat_natCast, tnO, tn_add, tn_sub, tn_mul, Nat.add_sub_cancel, Nat.add_zero, Nat.zero_add, lnO, win_t, win_f, k4, PS_0, PS_l]
          exact l10
    · refine fin (q32 (-3)) m _ ?_ ?_ (SC.k0 m)
      · unfold n_X9_neighbour nb_X9_neighbour_0
        by_cases c2 : d < 1
        · simp (disch := omega) only [Option.bind_some, bindv, bindv0, bind2_s, bind3_s, ↓reduceIte, Bool.false_eq_true, rZM_0, rZM_1, rZP_0, rZP_1, ptZ_0, ptZ_1, c32i, c64i, ncI, Int.natCast_add, Int.natCast_mul, q32_neg, q64_neg, q32_add, q32_sub, q32_mul, q64_add, q64_sub, q64_mul, q32_64i, q64_32, q32_lt_t, q32_lt_f, q32_le_t, q32_le_f, q32_eq_t, q32_eq_f, q64_lt_t, q64_lt_f, q64_le_t, q64_le_f, q64_eq_t, q64_eq_f, rdI_i, rdL_i, rdR_i, rdN_i, stI_i, stL_i, stR_i, wI_s, wI_n, wL_s, wL_n, wI_2, wI_3, wL_1, wL_3, wR_1, wR_2, Int.toNat_natCast, tnO, tn_add, tn_sub, tn_mul, Nat.add_sub_cancel, Nat.add_zero, Nat.zero_add, lnO, win_t, win_f]
        · simp (disch := omega) only [Option.bind_some, bindv, bindv0, bind2_s, bind3_s, ↓reduceIte, Bool.false_eq_true, rZM_0, rZM_1, rZP_0, rZP_1, ptZ_0, ptZ_1, c32i, c64i, ncI, Int.natCast_add, Int.natCast_mul, q32_neg, q64_neg, q32_add, q32_sub, q32_mul, q64_add, q64_sub, q64_mul, q32_64i, q64_32, q32_lt_t, q32_lt_f, q32_le_t, q32_le_f, q32_eq_t, q32_eq_f, q64_lt_t, q64_lt_f, q64_le_t, q64_le_f, q64_eq_t, q64_eq_f, rdI_i, rdL_i, rdR_i, rdN_i, stI_i, stL_i, stR_i, wI_s, wI_n, wL_s, wL_n, wI_2, wI_3, wL_1, wL_3, wR_1, wR_2, Int.toNat_natCast, tnO, tn_add, tn_sub, tn_mul, Nat.add_sub_cancel, Nat.add_zero, Nat.zero_add, lnO, win_t, win_f]
      · unfold n_X10_neighbour nb_X10_neighbour_0
        simp (disch := omega) only [Option.bind_some, bindv, bindv0, bind2_s, bind3_s, ↓reduceIte, Bool.false_eq_true, rZM_0, rZM_1, rZP_0, rZP_1, ptZ_0, ptZ_1, c32i, c64i, ncI, Int.natCast_add, Int.natCast_mul, q32_neg, q64_neg, q32_add, q32_sub, q32_mul, q64_add, q64_sub, q64_mul, q32_64i, q64_32, q32_lt_t, q32_lt_f, q32_le_t, q32_le_f, q32_eq_t, q32_eq_f, q64_lt_t, q64_lt_f, q64_le_t, q64_le_f, q64_eq_t, q64_eq_f, rdI_i, rdL_i, rdR_i, rdN_i, stI_i, stL_i, stR_i, wI_s, wI_n, wL_s, wL_n, wI_2, wI_3, wL_1, wL_3, wR_1, wR_2, Int.toNat_natCast, tnO, tn_add, tn_sub, tn_mul, Nat.add_sub_cancel, Nat.add_zero, Nat.zero_add, lnO, win_t, win_f]
  · refine fin (q32 (-2)) m _ ?_ ?_ (SC.k0 m)
    · unfold n_X9_neighbour nb_X9_neighbour_0
      by_cases c2 : v < 0
      · simp (disch := omega) only [Option.bind_some, bindv, bindv0, bind2_s, bind3_s, ↓reduceIte, Bool.false_eq_true, rZM_0, rZM_1, rZP_0, rZP_1, ptZ_0, ptZ_1, c32i, c64i, ncI, Int.natCast_add, Int.natCast_mul, q32_neg, q64_neg, q32_add, q32_sub, q32_mul, q64_add, q64_sub, q64_mul, q32_64i, q64_32, q32_lt_t, q32_lt_f, q32_le_t, q32_le_f, q32_eq_t, q32_eq_f, q64_lt_t, q64_lt_f, q64_le_t, q64_le_f, q64_eq_t, q64_eq_f, rdI_i, rdL_i, rdR_i, rdN_i, stI_i, stL_i, stR_i, wI_s, wI_n, wL_s, wL_n, wI_2, wI_3, wL_1, wL_3, wR_1, wR_2, Int.toNat_natCast, tnO, tn_add, tn_sub, tn_mul, Nat.add_sub_cancel, Nat.add_zero, Nat.zero_add, lnO, win_t, win_f]
      · simp (disch := omega) only [Option.bind_some, bindv, bindv0, bind2_s, bind3_s, ↓reduceIte, Bool.false_eq_true, rZM_0, rZM_1, rZP_0, rZP_1, ptZ_0, ptZ_1, c32i, c64i, ncI, Int.natCast_add, Int.natCast_mul, q32_neg, q64_neg, q32_add, q32_sub, q32_mul, q64_add, q64_sub, q64_mul, q32_64i, q64_32, q32_lt_t, q32_lt_f, q32_le_t, q32_le_f, q32_eq_t, q32_eq_f, q64_lt_t, q64_lt_f, q64_le_t, q64_le_f, q64_eq_t, q64_eq_f, rdI_i, rdL_i, rdR_i, rdN_i, stI_i, stL_i, stR_i, wI_s, wI_n, wL_s, wL_n, wI_2, wI_3, wL_1, wL_3, wR_1, wR_2, Int.toNat_natCast, tnO, tn_add, tn_sub, tn_mul, Nat.add_sub_cancel, Nat.add_zero, Nat.zero_add, lnO, win_t, win_f]
    · unfold n_X10_neighbour nb_X10_neighbour_0
      simp (disch := omega) only [Option.bind_some, bindv, bindv0, bind2_s, bind3_s, ↓reduceIte, Bool.false_eq_true, rZM_0, rZM_1, rZP_0, rZP_1, ptZ_0, ptZ_1, c32i, c64i, ncI, Int.natCast_add, Int.natCast_mul, q32_neg, q64_neg, q32_add, q32_sub, q32_mul, q64_add, q64_sub, q64_mul, q32_64i, q64_32, q32_lt_t, q32_lt_f, q32_le_t, q32_le_f, q32_eq_t, q32_eq_f, q64_lt_t, q64_lt_f, q64_le_t, q64_le_f, q64_eq_t, q64_eq_f, rdI_i, rdL_i, rdR_i, rdN_i, stI_i, stL_i, stR_i, wI_s, wI_n, wL_s, wL_n, wI_2, wI_3, wL_1, wL_3, wR_1, wR_2, Int.toNat_natCast, tnO, tn_add, tn_sub, tn_mul, Nat.add_sub_cancel, Nat.add_zero, Nat.zero_add, lnO, win_t, win_f]
