/-! PURE: the greatest common factor, both ways -/
theorem eu_half {P Q : Nat} (h : 0 < P % Q) (hQ : 0 < Q) : 2 * (Q % (P % Q)) < Q := by
  have h1 : P % Q < Q := Nat.mod_lt _ hQ
  have h2 : Q % (P % Q) < P % Q := Nat.mod_lt _ h
  by_cases h3 : 2 * (P % Q) ≤ Q
  · omega
  · have h4 : Q % (P % Q) = Q - P % Q := by
      rw [Nat.mod_eq_sub_mod (Nat.le_of_lt h1), Nat.mod_eq_of_lt (by omega)]
    omega
theorem gcd_step (p q : Int) : Int.gcd q (p.tmod q) = Int.gcd p q := by
  unfold Int.gcd
  rw [Int.natAbs_tmod, Nat.gcd_comm q.natAbs, ← Nat.gcd_rec, Nat.gcd_comm]
theorem tmod_lt {p q : Int} (hq : q ≠ 0) : (p.tmod q).natAbs < q.natAbs := by
  rw [Int.natAbs_tmod]
  exact Nat.mod_lt _ (by omega)
theorem abs64 {p : Int} (hp : p.natAbs < 9223372036854775808) : (if (0 : Int64) ≤ q64 p then some (q64 p) else some (-q64 p)) = some (q64 (p.natAbs : Int)) := by
  rw [q64_0]
  by_cases h : 0 ≤ p
  · rw [if_pos ((q64_le (by decide) (b63n hp)).mpr h), show (p.natAbs : Int) = p by omega]
  · rw [if_neg (fun z => h ((q64_le (by decide) (b63n hp)).mp z)), q64_neg, show (p.natAbs : Int) = -p by omega]
theorem cf_step (F : Nat) (self : Int64 → Int64 → Int32 → Option Int64) {p q : Int} {i : Nat} (hp : p.natAbs < 9223372036854775808) (hq : q.natAbs < 9223372036854775808) (hi : i < 128) : b_X9_commonFactor_9 F self (q64 p) (q64 q) (q32 i) = if q = 0 then some (q64 (p.natAbs : Int)) else self (q64 q) (q64 (p.tmod q)) (q32 ((i + 1 : Nat) : Int)) := by
  unfold b_X9_commonFactor_9 b_X9_commonFactor_45
  have h128 : (128 : Int32) = q32 128 := rfl
  rw [abs64 hp, h128, if_neg (fun z => by have := (q32_le (by decide) (b31n (by omega))).mp z; omega)]
  by_cases h : q = 0
  · subst h; rfl
  · rw [if_neg h, q64_0, if_neg (fun z => h ((q64_eq (b63n hq) (by decide)).mp z)), if_neg (fun z => h ((q64_eq (b63n hq) (by decide)).mp z))]
    show self (q64 q) (remL (q64 p) (q64 q)) (q32 i + 1) = _
    rw [q64_remU (b63n hp) (b63n hq), show (1 : Int32) = q32 1 from rfl, q32_add]
    rfl
theorem cf_loop (F : Nat) : ∀ (k n : Nat) (p q : Int) (i : Nat), q.natAbs < 2 ^ k → p.natAbs < 9223372036854775808 → q.natAbs < 9223372036854775808 → i + 2 * k + 1 ≤ 128 → 2 * k + 2 ≤ n → l_X9_commonFactor_9 F n (q64 p) (q64 q) (q32 i) = some (q64 (Int.gcd p q : Int)) := by
  intro k
  induction k with
  | zero =>
    intro n p q i hk hp hq hi hn
    obtain ⟨n, rfl⟩ : ∃ z, n = z + 1 := ⟨n - 1, by omega⟩
    have h0 : q = 0 := by simp at hk; exact hk
    show b_X9_commonFactor_9 F (l_X9_commonFactor_9 F n) (q64 p) (q64 q) (q32 i) = _
    rw [cf_step F _ hp hq (by omega), if_pos h0, h0, Int.gcd_zero_right]
  | succ k ih =>
    intro n p q i hk hp hq hi hn
    obtain ⟨n, rfl⟩ : ∃ z, n = z + 2 := ⟨n - 2, by omega⟩
    show b_X9_commonFactor_9 F (l_X9_commonFactor_9 F (n + 1)) (q64 p) (q64 q) (q32 i) = _
    rw [cf_step F _ hp hq (by omega)]
    by_cases h0 : q = 0
    · rw [if_pos h0, h0, Int.gcd_zero_right]
    · rw [if_neg h0]
      have hr := tmod_lt (p := p) h0
      show b_X9_commonFactor_9 F (l_X9_commonFactor_9 F n) (q64 q) (q64 (p.tmod q)) (q32 ((i + 1 : Nat) : Int)) = _
      rw [cf_step F _ hq (by omega) (by omega), ← gcd_step p q]
      by_cases h1 : p.tmod q = 0
      · rw [if_pos h1, h1, Int.gcd_zero_right]
      · rw [if_neg h1]
        have hs := tmod_lt (p := q) h1
        have hh : 2 * (q.tmod (p.tmod q)).natAbs < q.natAbs := by
          rw [Int.natAbs_tmod, Int.natAbs_tmod]
          refine eu_half ?_ (by omega)
          have : (p.tmod q).natAbs ≠ 0 := by omega
          rw [Int.natAbs_tmod] at this
          omega
        rw [ih n (p.tmod q) (q.tmod (p.tmod q)) (i + 2) (by rw [Nat.pow_succ] at hk; omega) (by omega) (by omega) (by omega) (by omega), gcd_step]
theorem m_cf {F : Nat} (hF : 200 ≤ F) {p q : Int} (hp : p.natAbs < 9223372036854775808) (hq : q.natAbs < 9223372036854775808) : m_X9_commonFactor F (q64 p) (q64 q) = some (q64 (Int.gcd p q : Int)) :=
  cf_loop F 63 F p q 0 hq hp hq (by omega) (by omega)
theorem cm_step {rc : Int64 → Int64 → Option Int64} {p q : Int} (hp : p.natAbs < 9223372036854775808) (hq : q.natAbs < 9223372036854775808) : g_X10_common rc (q64 p) (q64 q) = if q = 0 then some (q64 (p.natAbs : Int)) else rc (q64 q) (q64 (p.tmod q)) := by
  unfold g_X10_common b_X10_common_0
  rw [abs64 hp]
  by_cases h : q = 0
  · subst h; rfl
  · rw [if_neg h, q64_0, if_neg (fun z => h ((q64_eq (b63n hq) (by decide)).mp z)), if_neg (fun z => h ((q64_eq (b63n hq) (by decide)).mp z)), q64_remU (b63n hp) (b63n hq)]
    cases rc (q64 q) (q64 (p.tmod q)) <;> rfl
theorem cm_loop : ∀ (k d : Nat) (p q : Int), q.natAbs < 2 ^ k → p.natAbs < 9223372036854775808 → q.natAbs < 9223372036854775808 → 2 * k + 2 ≤ d → m_X10_common d (q64 p) (q64 q) = some (q64 (Int.gcd p q : Int)) := by
  intro k
  induction k with
  | zero =>
    intro n p q hk hp hq hn
    obtain ⟨n, rfl⟩ : ∃ z, n = z + 1 := ⟨n - 1, by omega⟩
    have h0 : q = 0 := by simp at hk; exact hk
    show g_X10_common (m_X10_common n) (q64 p) (q64 q) = _
    rw [cm_step hp hq, if_pos h0, h0, Int.gcd_zero_right]
  | succ k ih =>
    intro n p q hk hp hq hn
    obtain ⟨n, rfl⟩ : ∃ z, n = z + 2 := ⟨n - 2, by omega⟩
    show g_X10_common (m_X10_common (n + 1)) (q64 p) (q64 q) = _
    rw [cm_step hp hq]
    by_cases h0 : q = 0
    · rw [if_pos h0, h0, Int.gcd_zero_right]
    · rw [if_neg h0]
      have hr := tmod_lt (p := p) h0
      show g_X10_common (m_X10_common n) (q64 q) (q64 (p.tmod q)) = _
      rw [cm_step hq (by omega), ← gcd_step p q]
      by_cases h1 : p.tmod q = 0
      · rw [if_pos h1, h1, Int.gcd_zero_right]
      · rw [if_neg h1]
        have hs := tmod_lt (p := q) h1
        have hh : 2 * (q.tmod (p.tmod q)).natAbs < q.natAbs := by
          rw [Int.natAbs_tmod, Int.natAbs_tmod]
          refine eu_half ?_ (by omega)
          have : (p.tmod q).natAbs ≠ 0 := by omega
          rw [Int.natAbs_tmod] at this
          omega
        rw [ih n (p.tmod q) (q.tmod (p.tmod q)) (by rw [Nat.pow_succ] at hk; omega) (by omega) (by omega) (by omega), gcd_step]
theorem m_cm {p q : Int} (hp : p.natAbs < 9223372036854775808) (hq : q.natAbs < 9223372036854775808) : m_X10_common 130 (q64 p) (q64 q) = some (q64 (Int.gcd p q : Int)) :=
  cm_loop 63 130 p q hq hp hq (by omega)
