/-! PURE: the simplest floor between two -/
def Sol (a b c d p q : Nat) : Prop := 1 ≤ b ∧ 1 ≤ q ∧ a * q < p * b ∧ p * d < c * q ∧ ∀ p0 q0, 1 ≤ q0 → a * q0 < p0 * b → p0 * d < c * q0 → p ≤ p0 ∧ q ≤ q0
theorem Sol.end {a b c d p q : Nat} (h : Sol a b c d p q) (hb : (a / b + 1) * d < c) : p = a / b + 1 ∧ q = 1 := by
  obtain ⟨h1, h2, h3, h4, h5⟩ := h
  have e := Nat.lt_div_mul_add (a := a) (b := b) (by omega)
  have k := h5 (a / b + 1) 1 (by omega) (by rw [Nat.add_mul]; omega) (by omega)
  have e2 := Nat.div_mul_le_self a b
  obtain rfl : q = 1 := by omega
  refine ⟨?_, rfl⟩
  have : a / b < p := by
    apply Classical.byContradiction
    intro hn
    have : p * b ≤ a / b * b := Nat.mul_le_mul_right b (by omega)
    omega
  omega
theorem Sol.step {a b c d p q : Nat} (h : Sol a b c d p q) (hb : ¬ (a / b + 1) * d < c) : p / q = a / b ∧ p % q ≠ 0 ∧ a / b * d < c ∧ a / b * b ≤ a ∧ Sol d (c - a / b * d) b (a - a / b * b) q (p % q) := by
  obtain ⟨h1, h2, h3, h4, h5⟩ := h
  have e := Nat.lt_div_mul_add (a := a) (b := b) (by omega)
  have e2 := Nat.div_mul_le_self a b
  generalize a / b = w at *
  have hc : 1 ≤ c := by
    rcases Nat.eq_zero_or_pos c with z | z
    · rw [z, Nat.zero_mul] at h4; omega
    · exact z
  have hd : 1 ≤ d := by
    rcases Nat.eq_zero_or_pos d with z | z
    · rw [z, Nat.mul_zero] at hb; omega
    · exact z
  have lo : w * q < p := by
    apply Classical.byContradiction
    intro hn
    have k1 : p * b ≤ w * q * b := Nat.mul_le_mul_right b (by omega)
    have k2 : w * b * q ≤ a * q := Nat.mul_le_mul_right q e2
    have k3 : w * q * b = w * b * q := by rw [Nat.mul_assoc, Nat.mul_comm q b, ← Nat.mul_assoc]
    omega
  have hi : p < (w + 1) * q := by
    apply Classical.byContradiction
    intro hn
    have k1 : (w + 1) * q * d ≤ p * d := Nat.mul_le_mul_right d (by omega)
    have k2 : c * q ≤ (w + 1) * d * q := Nat.mul_le_mul_right q (by omega)
    have k3 : (w + 1) * q * d = (w + 1) * d * q := by rw [Nat.mul_assoc, Nat.mul_comm q d, ← Nat.mul_assoc]
    omega
  have hw : p / q = w := by
    have k1 : w ≤ p / q := (Nat.le_div_iff_mul_le (by omega)).mpr (by omega)
    have k2 : p / q < w + 1 := (Nat.div_lt_iff_lt_mul (by omega)).mpr (by omega)
    omega
  have hm : p % q = p - w * q := by
    have := Nat.div_add_mod p q
    rw [hw, Nat.mul_comm] at this
    omega
  have wd : w * d < c := by
    apply Classical.byContradiction
    intro hn
    have k1 : c * q ≤ w * d * q := Nat.mul_le_mul_right q (by omega)
    have k2 : w * q * d ≤ p * d := Nat.mul_le_mul_right d (by omega)
    have k3 : w * q * d = w * d * q := by rw [Nat.mul_assoc, Nat.mul_comm q d, ← Nat.mul_assoc]
    omega
  obtain ⟨r, hr⟩ : ∃ r, p = w * q + r := ⟨p - w * q, by omega⟩
  obtain ⟨x, hx⟩ : ∃ x, c = w * d + x := ⟨c - w * d, by omega⟩
  obtain ⟨y, hy⟩ : ∃ y, a = w * b + y := ⟨a - w * b, by omega⟩
  rw [hm, show p - w * q = r by omega, show c - w * d = x by omega, show a - w * b = y by omega]
  subst hr
  subst hx
  subst hy
  have f1 : y * q < r * b := by
    have : w * b * q = w * q * b := by rw [Nat.mul_assoc, Nat.mul_comm b q, ← Nat.mul_assoc]
    rw [Nat.add_mul, Nat.add_mul] at h3
    omega
  have f2 : r * d < x * q := by
    have : w * d * q = w * q * d := by rw [Nat.mul_assoc, Nat.mul_comm d q, ← Nat.mul_assoc]
    rw [Nat.add_mul, Nat.add_mul] at h4
    omega
  refine ⟨hw, by omega, wd, e2, by omega, by omega, by rw [Nat.mul_comm d, Nat.mul_comm q]; exact f2, by rw [Nat.mul_comm q, Nat.mul_comm b]; exact f1, fun p0 q0 g1 g2 g3 => ?_⟩
  have cand : ∀ P0 Q0, 1 ≤ Q0 → y * Q0 < P0 * b → P0 * d < x * Q0 → w * q + r ≤ w * Q0 + P0 ∧ q ≤ Q0 := fun P0 Q0 k1 k2 k3 => by
    refine h5 (w * Q0 + P0) Q0 k1 ?_ ?_
    · have : w * b * Q0 = w * Q0 * b := by rw [Nat.mul_assoc, Nat.mul_comm b Q0, ← Nat.mul_assoc]
      rw [Nat.add_mul, Nat.add_mul]
      omega
    · have : w * d * Q0 = w * Q0 * d := by rw [Nat.mul_assoc, Nat.mul_comm d Q0, ← Nat.mul_assoc]
      rw [Nat.add_mul, Nat.add_mul]
      omega
  have hp0 : 1 ≤ p0 := by
    rcases Nat.eq_zero_or_pos p0 with z | z
    · rw [z, Nat.zero_mul] at g2; omega
    · exact z
  have g2' : q0 * d < x * p0 := by rw [Nat.mul_comm q0, Nat.mul_comm x]; exact g2
  have g3' : y * p0 < q0 * b := by rw [Nat.mul_comm y, Nat.mul_comm q0]; exact g3
  obtain ⟨-, k2⟩ := cand q0 p0 hp0 g3' g2'
  refine ⟨k2, ?_⟩
  apply Classical.byContradiction
  intro hn
  have k3 : y * q ≤ y * p0 := Nat.mul_le_mul_left y k2
  have k4 : q0 * d ≤ r * d := Nat.mul_le_mul_right d (by omega)
  obtain ⟨k5, -⟩ := cand q0 q h2 (by omega) (by omega)
  omega
theorem Sol.gcd {a b c d p q : Nat} (h : Sol a b c d p q) : Nat.gcd p q = 1 := by
  obtain ⟨h1, h2, h3, h4, h5⟩ := h
  have hg : 0 < Nat.gcd p q := Nat.gcd_pos_of_pos_right _ (by omega)
  obtain ⟨p', hp⟩ := Nat.gcd_dvd_left p q
  obtain ⟨q', hq⟩ := Nat.gcd_dvd_right p q
  generalize Nat.gcd p q = g at *
  have q1 : 1 ≤ q' := by
    rcases Nat.eq_zero_or_pos q' with z | z
    · rw [z] at hq; omega
    · exact z
  have k1 : a * q' < p' * b := by
    have : g * (a * q') < g * (p' * b) := by
      calc g * (a * q') = a * (g * q') := by rw [← Nat.mul_assoc, Nat.mul_comm g a, Nat.mul_assoc]
        _ = a * q := by rw [← hq]
        _ < p * b := h3
        _ = g * (p' * b) := by rw [hp, Nat.mul_assoc]
    exact Nat.lt_of_mul_lt_mul_left this
  have k2 : p' * d < c * q' := by
    have : g * (p' * d) < g * (c * q') := by
      calc g * (p' * d) = p * d := by rw [hp, Nat.mul_assoc]
        _ < c * q := h4
        _ = c * (g * q') := by rw [← hq]
        _ = g * (c * q') := by rw [← Nat.mul_assoc, Nat.mul_comm c g, Nat.mul_assoc]
    exact Nat.lt_of_mul_lt_mul_left this
  have := (h5 p' q' q1 k1 k2).2
  have : g * q' ≤ 1 * q' := by omega
  have := Nat.le_of_mul_le_mul_right this (by omega)
  omega
/-- the class's walk -/
theorem simL9 {F : Nat} {s : List Sh} {m : Mem} : ∀ (f fuel : Nat) (a b c d p q i U V L W : Nat), Sol a b c d p q → q < f → (CF f p q).length < fuel → i + (CF f p q).length ≤ 127 → a ≤ 1000000 → b ≤ 1000000 → c ≤ 1000000 → d ≤ 1000000 → U * p + V * q ≤ 4000000 → L * p + W * q ≤ 4000000 → nl_X9_seekSimplest_29 F s fuel m 0 (q64 a) (q64 b) (q64 c) (q64 d) (q64 U) (q64 V) (q64 L) (q64 W) (q32 i) = nb_X9_seekSimplest_173 F s m 0 (q64 (U * p + V * q : Nat)) (q64 (L * p + W * q : Nat)) := by
  intro f
  induction f with
  | zero => intro fuel a b c d p q i U V L W hs hf; omega
  | succ f ih =>
    intro fuel a b c d p q i U V L W hs hf hfu hi ha hb hc hd hU hL
    obtain ⟨fuel, rfl⟩ : ∃ f, fuel = f + 1 := ⟨fuel - 1, by omega⟩
    have hq := hs.2.1
    have hb1 := hs.1
    have hp : 1 ≤ p := by
      have := hs.2.2.1
      rcases Nat.eq_zero_or_pos p with z | z
      · rw [z, Nat.zero_mul] at this; omega
      · exact z
    have w1 := Nat.div_le_self a b
    have hwd : (a / b + 1) * d ≤ 1000001 * 1000000 := Nat.mul_le_mul (by omega) hd
    have eU : U * 1 ≤ U * p := Nat.mul_le_mul_left U hp
    have eL : L * 1 ≤ L * p := Nat.mul_le_mul_left L hp
    have eV : V * 1 ≤ V * q := Nat.mul_le_mul_left V hq
    have eW : W * 1 ≤ W * q := Nat.mul_le_mul_left W hq
    rw [CF_s (by omega), List.length_cons] at hfu hi
    have dv : q64 (a : Int) / q64 (b : Int) = q64 ((a / b : Nat) : Int) := by rw [q64_div_n (by omega), tdn]
    have cc : (((a / b : Nat) : Int) + 1) * (d : Int) = (((a / b + 1) * d : Nat) : Int) := by rw [Int.natCast_mul, Int.natCast_add]; rfl
    show nb_X9_seekSimplest_29 F s (nl_X9_seekSimplest_29 F s fuel) m 0 _ _ _ _ _ _ _ _ _ = _
    unfold nb_X9_seekSimplest_29 nb_X9_seekSimplest_69 nb_X9_seekSimplest_85
    by_cases cb : (a / b + 1) * d < c
    · obtain ⟨rfl, rfl⟩ := hs.end cb
      have u1 : (((a / b : Nat) : Int) + 1) * (U : Int) + V = ((U * (a / b + 1) + V * 1 : Nat) : Int) := by
        rw [Nat.mul_one, Nat.mul_comm U, Int.natCast_add, Int.natCast_mul, Int.natCast_add]; rfl
      have u2 : (((a / b : Nat) : Int) + 1) * (L : Int) + W = ((L * (a / b + 1) + W * 1 : Nat) : Int) := by
        rw [Nat.mul_one, Nat.mul_comm L, Int.natCast_add, Int.natCast_mul, Int.natCast_add]; rfl
      generalize hw : a / b = w at *
      simp (disch := omega) only [bindv, bindv0, c32i, c64i, dv, q64_add, q64_mul, cc, q32_le_f, q64_eq_f, q64_le_f, ↓reduceIte, q32_eq_f, u1, u2]
    · obtain ⟨k1, k2, k3, k4, k5⟩ := hs.step cb
      have hdm := Nat.div_add_mod p q
      rw [k1] at hdm
      have e1 : (a / b * U + V) * q + U * (p % q) = U * p + V * q := by
        rw [← hdm, Nat.add_mul, Nat.mul_add, show a / b * U * q = U * (q * (a / b)) by rw [Nat.mul_comm (a / b) U, Nat.mul_assoc, Nat.mul_comm (a / b) q], hdm]
        omega
      have e2 : (a / b * L + W) * q + L * (p % q) = L * p + W * q := by
        rw [← hdm, Nat.add_mul, Nat.mul_add, show a / b * L * q = L * (q * (a / b)) by rw [Nat.mul_comm (a / b) L, Nat.mul_assoc, Nat.mul_comm (a / b) q], hdm]
        omega
      have hlt := Nat.mod_lt p (show 0 < q by omega)
      have ih := ih fuel d (c - a / b * d) b (a - a / b * b) q (p % q) (i + 1) (a / b * U + V) U (a / b * L + W) L k5 (by omega) (by omega) (by omega) hd (by omega) hb (by omega) (by rw [e1]; exact hU) (by rw [e2]; exact hL)
      rw [e1, e2] at ih
      have x1 : ((a / b : Nat) : Int) * (U : Int) + V = ((a / b * U + V : Nat) : Int) := by rw [Int.natCast_add, Int.natCast_mul]
      have x2 : ((a / b : Nat) : Int) * (L : Int) + W = ((a / b * L + W : Nat) : Int) := by rw [Int.natCast_add, Int.natCast_mul]
      have x3 : (a : Int) - ((a / b : Nat) : Int) * (b : Int) = ((a - a / b * b : Nat) : Int) := by rw [← Int.natCast_mul]; omega
      have x4 : (c : Int) - ((a / b : Nat) : Int) * (d : Int) = ((c - a / b * d : Nat) : Int) := by rw [← Int.natCast_mul]; omega
      rw [Int.natCast_add i 1] at ih
      generalize hw : a / b = w at *
      simp (disch := omega) only [bindv, bindv0, c32i, c64i, dv, q64_add, q64_sub, q64_mul, q32_add, cc, q32_le_f, q64_eq_f, q64_le_t, ↓reduceIte, q32_eq_t, x1, x2, x3, x4]
      exact ih
/-- the reference's search -/
def SMB (a b c d : Nat) (k : Nat) : Prop := (a * k / b + 1) * d < c * k
theorem SMB_ex {a b c d : Nat} (hb : 1 ≤ b) (hd : 1 ≤ d) (h : a * d < c * b) : ∃ Q, 1 ≤ Q ∧ Q ≤ b + d ∧ SMB a b c d Q ∧ ∀ k, 1 ≤ k → k < Q → ¬ SMB a b c d k := by
  have med : SMB a b c d (b + d) := by
    unfold SMB
    have k1 : a * (b + d) < (a + c) * b := by rw [Nat.mul_add, Nat.add_mul]; omega
    have k2 : a * (b + d) / b < a + c := (Nat.div_lt_iff_lt_mul (by omega)).mpr k1
    have k3 : (a * (b + d) / b + 1) * d ≤ (a + c) * d := Nat.mul_le_mul_right d (by omega)
    have k4 := Nat.add_mul a c d
    have k5 := Nat.mul_add c b d
    omega
  have least : ∀ n, (∃ Q, 1 ≤ Q ∧ Q ≤ n ∧ SMB a b c d Q ∧ ∀ k, 1 ≤ k → k < Q → ¬ SMB a b c d k) ∨ ∀ k, 1 ≤ k → k ≤ n → ¬ SMB a b c d k := by
    intro n
    induction n with
    | zero => exact Or.inr (fun k h1 h2 => by omega)
    | succ n ih =>
      rcases ih with ⟨Q, q1, q2, q3, q4⟩ | hn
      · exact Or.inl ⟨Q, q1, by omega, q3, q4⟩
      · by_cases c : SMB a b c d (n + 1)
        · exact Or.inl ⟨n + 1, by omega, by omega, c, fun k h1 h2 => hn k h1 (by omega)⟩
        · exact Or.inr (fun k h1 h2 => by
            by_cases e : k = n + 1
            · subst e; exact c
            · exact hn k h1 (by omega))
  rcases least (b + d) with h | h
  · exact h
  · exact absurd med (h (b + d) (by omega) (Nat.le_refl _))
theorem SMB_sol {a b c d Q : Nat} (hb : 1 ≤ b) (hQ : 1 ≤ Q) (h1 : SMB a b c d Q) (h2 : ∀ k, 1 ≤ k → k < Q → ¬ SMB a b c d k) : Sol a b c d (a * Q / b + 1) Q := by
  have lt : ∀ k, a * k < (a * k / b + 1) * b := fun k => by
    have := Nat.lt_div_mul_add (a := a * k) (b := b) (by omega)
    rw [Nat.add_mul]
    omega
  refine ⟨hb, hQ, lt Q, h1, fun p0 q0 g1 g2 g3 => ?_⟩
  have k1 : a * q0 / b < p0 := (Nat.div_lt_iff_lt_mul (by omega)).mpr g2
  have kq : Q ≤ q0 := by
    apply Classical.byContradiction
    intro hn
    refine h2 q0 g1 (by omega) ?_
    unfold SMB
    have : (a * q0 / b + 1) * d ≤ p0 * d := Nat.mul_le_mul_right d (by omega)
    omega
  refine ⟨?_, kq⟩
  have : a * Q / b ≤ a * q0 / b := Nat.div_le_div_right (Nat.mul_le_mul_left a kq)
  omega
theorem simL10 {F : Nat} {s : List Sh} {m : Mem} {v6 v8 v10 v12 : Nat} {sg v a b c d tp : Nat} (hsg : (sg = 0 ∧ v6 = a ∧ v8 = b ∧ v10 = c ∧ v12 = d) ∨ (sg = 1 ∧ v10 = a ∧ v12 = b ∧ v6 = c ∧ v8 = d)) (hb : 1 ≤ b ∧ b ≤ 1000000) (hd : 1 ≤ d ∧ d ≤ 1000000) (hc : c ≤ 1000000) (htp : tp ≤ 9) (hab : a ≤ tp * b) {Q : Nat} (hQ : Q ≤ 2000000) (h1 : SMB a b c d Q) (h2 : ∀ k, 1 ≤ k → k < Q → ¬ SMB a b c d k) : ∀ (n fuel : Nat), n < fuel → ∀ q : Nat, 1 ≤ q → q + n = Q → nl_X10_simplest_96 F s fuel m (q32 v) (q64 v6) (q64 v8) (q64 v10) (q64 v12) (q32 (if sg = 0 then -1 else 1)) (q64 q) = nb_X10_simplest_157 F s m (q32 v) (q64 v6) (q64 v8) (q64 v10) (q64 v12) (q32 (if sg = 0 then -1 else 1)) (q64 Q) := by
  have bd : ∀ k, k ≤ 2000000 → a * k / b + 1 ≤ 18000001 := fun k hk => by
    have k1 : a * k ≤ tp * k * b := by
      calc a * k ≤ tp * b * k := Nat.mul_le_mul_right k hab
        _ = tp * k * b := by rw [Nat.mul_assoc, Nat.mul_comm b k, ← Nat.mul_assoc]
    have k2 : a * k / b ≤ tp * k := Nat.div_le_of_le_mul (by rw [Nat.mul_comm b]; exact k1)
    have k3 : tp * k ≤ 9 * 2000000 := Nat.mul_le_mul htp hk
    omega
  have ha : a ≤ 9000000 := by
    have : tp * b ≤ 9 * 1000000 := Nat.mul_le_mul htp hb.2
    omega
  intro n
  induction n with
  | zero =>
    intro fuel hf q hq hi
    obtain ⟨fuel, rfl⟩ : ∃ f, fuel = f + 1 := ⟨fuel - 1, by omega⟩
    obtain rfl : q = Q := by omega
    have bq := bd q (by omega)
    have lt : ((a * q / b + 1 : Nat) : Int) * (d : Int) < (c : Int) * (q : Int) := by
      unfold SMB at h1
      exact_mod_cast h1
    have m1 := mulB (show (a : Int).natAbs ≤ 9000000 by omega) (show (q : Int).natAbs ≤ 2000000 by omega)
    have dv : q64 ((a : Int) * q) / q64 (b : Int) + q64 1 = q64 ((a * q / b + 1 : Nat) : Int) := by
      rw [q64_div_n (by omega), ← Int.natCast_mul, tdn, q64_add, Int.natCast_add]
      rfl
    clear h1
    generalize a * q / b + 1 = P at *
    have ag := agn (a := (P : Int)) (b := (q : Int)) (c := (c : Int)) (d := (d : Int)) (by omega) (by omega) (by omega) (by omega)
    rw [if_pos lt] at ag
    show nb_X10_simplest_96 F s (nl_X10_simplest_96 F s fuel) m _ _ _ _ _ _ _ = _
    unfold nb_X10_simplest_96
    rcases hsg with ⟨rfl, rfl, rfl, rfl, rfl⟩ | ⟨rfl, rfl, rfl, rfl, rfl⟩
    · rw [if_pos rfl]
      simp (disch := omega) only [Option.bind_some, c32i, c64i, q64_mul, dv, ag, q32_le_f, q64_eq_f, q32_lt_t, ↓reduceIte]
    · rw [if_neg (show ¬ ((1 : Nat) = 0) by omega)]
      simp (disch := omega) only [Option.bind_some, c32i, c64i, q64_mul, dv, ag, q32_le_t, q64_eq_f, q32_lt_t, ↓reduceIte]
  | succ n ih =>
    intro fuel hf q hq hi
    obtain ⟨fuel, rfl⟩ : ∃ f, fuel = f + 1 := ⟨fuel - 1, by omega⟩
    have bq := bd q (by omega)
    have nlt : ¬ ((a * q / b + 1 : Nat) : Int) * (d : Int) < (c : Int) * (q : Int) := by
      have := h2 q hq (by omega)
      unfold SMB at this
      intro z
      exact this (by exact_mod_cast z)
    have m1 := mulB (show (a : Int).natAbs ≤ 9000000 by omega) (show (q : Int).natAbs ≤ 2000000 by omega)
    have dv : q64 ((a : Int) * q) / q64 (b : Int) + q64 1 = q64 ((a * q / b + 1 : Nat) : Int) := by
      rw [q64_div_n (by omega), ← Int.natCast_mul, tdn, q64_add, Int.natCast_add]
      rfl
    generalize a * q / b + 1 = P at *
    have ag := agn (a := (P : Int)) (b := (q : Int)) (c := (c : Int)) (d := (d : Int)) (by omega) (by omega) (by omega) (by omega)
    rw [if_neg nlt] at ag
    have ih := ih fuel (by omega) (q + 1) (by omega) (by omega)
    rw [Int.natCast_add] at ih
    have agz : ∃ z : Int, 0 ≤ z ∧ z ≤ 1 ∧ m_X10_against (q64 (P : Int)) (q64 q) (q64 c) (q64 d) = some (q32 z) := by
      split at ag
      · exact ⟨1, by omega, by omega, ag⟩
      · exact ⟨0, by omega, by omega, ag⟩
    obtain ⟨z, z1, z2, ag⟩ := agz
    show nb_X10_simplest_96 F s (nl_X10_simplest_96 F s fuel) m _ _ _ _ _ _ _ = _
    rw [← ih]
    unfold nb_X10_simplest_96 nb_X10_simplest_148
    rcases hsg with ⟨rfl, rfl, rfl, rfl, rfl⟩ | ⟨rfl, rfl, rfl, rfl, rfl⟩
    · rw [if_pos rfl]
      simp (disch := omega) only [Option.bind_some, bindv, bindv0, c32i, c64i, q64_mul, dv, ag, q32_le_f, q64_eq_f, q32_lt_f, ↓reduceIte, q64_add]
      rfl
    · rw [if_neg (show ¬ ((1 : Nat) = 0) by omega)]
      simp (disch := omega) only [Option.bind_some, bindv, bindv0, c32i, c64i, q64_mul, dv, ag, q32_le_t, q64_eq_f, q32_lt_f, ↓reduceIte, q64_add]
      rfl
/-- both, from the lower one to the higher one -/
theorem sim_both {F : Nat} (hF : 3000000 ≤ F) {s : List Sh} {a b c d tp : Nat} (hb : 1 ≤ b ∧ b ≤ 1000000) (hd : 1 ≤ d ∧ d ≤ 1000000) (ha : a ≤ 1000000) (hc : c ≤ 1000000) (htp : tp ≤ 9) (hab : a ≤ tp * b) (h : a * d < c * b) : ∃ P Q : Nat, P ≤ 2000000 ∧ 1 ≤ Q ∧ Q ≤ 2000000 ∧ (∀ m : Mem, RF m → n_X9_seekSimplest F s m 0 (q64 a) (q64 b) (q64 c) (q64 d) = some ((), PT m 19 ((P : Int), (Q : Int)))) ∧ ∀ (m : Mem) (v : Nat), v ≤ 1 → nl_X10_simplest_96 F s F m (q32 v) (q64 a) (q64 b) (q64 c) (q64 d) (q32 (-1)) (q64 1) = some (q32 (if v = 0 then (P : Int) else (Q : Int)), m) ∧ nl_X10_simplest_96 F s F m (q32 v) (q64 c) (q64 d) (q64 a) (q64 b) (q32 1) (q64 1) = some (q32 (if v = 0 then (P : Int) else (Q : Int)), m) := by
  obtain ⟨Q, q1, q2, q3, q4⟩ := SMB_ex hb.1 hd.1 h
  have hs := SMB_sol hb.1 q1 q3 q4
  have hPm : a * Q / b + 1 ≤ a + c := by
    refine (hs.2.2.2.2 (a + c) (b + d) (by omega) ?_ ?_).1
    · rw [Nat.mul_add, Nat.add_mul]; omega
    · rw [Nat.add_mul, Nat.mul_add, Nat.mul_comm c b, Nat.mul_comm b c] at *; omega
  have m1 := mulB (show (a : Int).natAbs ≤ 1000000 by omega) (show (Q : Int).natAbs ≤ 2000000 by omega)
  have dv : q64 ((a : Int) * Q) / q64 (b : Int) + q64 1 = q64 ((a * Q / b + 1 : Nat) : Int) := by
    rw [q64_div_n (by omega), ← Int.natCast_mul, tdn, q64_add, Int.natCast_add]
    rfl
  refine ⟨a * Q / b + 1, Q, by omega, q1, by omega, fun m hr => ?_, fun m v hv => ⟨?_, ?_⟩⟩
  · have hl := CF_len 21 3000000 (a * Q / b + 1) Q (by omega)
    have w := simL9 (F := F) (s := s) (m := m) 3000000 F a b c d (a * Q / b + 1) Q 0 1 0 0 1 hs (by omega) (by omega) (by omega) ha hb.2 hc hd.2 (by omega) (by omega)
    have r12 := rf0_12 hr
    have hg := hs.gcd
    generalize a * Q / b + 1 = P at *
    have pu := put9 (F := F) (s := s) (m := m) (r := 19) (by omega) (p := (P : Int)) (q := (Q : Int)) (by omega) (by omega) (by omega)
    rw [nrm_low (by omega) (show Int.gcd (P : Int) (Q : Int) = 1 from hg)] at pu
    rw [show 1 * P + 0 * Q = P by omega, show 0 * P + 1 * Q = Q by omega] at w
    have w' : n_X9_seekSimplest F s m 0 (q64 a) (q64 b) (q64 c) (q64 d) = nb_X9_seekSimplest_173 F s m 0 (q64 P) (q64 Q) := w
    rw [w']
    unfold nb_X9_seekSimplest_173
    simp (disch := omega) only [Option.bind_some, bindv, bindv0, bind2_s, bind3_s, ↓reduceIte, Bool.false_eq_true, rZM_0, rZM_1, rZP_0, rZP_1, ptZ_0, ptZ_1, c32i, c64i, ncI, Int.natCast_add, Int.natCast_mul, q32_neg, q64_neg, q32_add, q32_sub, q32_mul, q64_add, q64_sub, q64_mul, q32_64i, q64_32, q32_lt_t, q32_lt_f, q32_le_t, q32_le_f, q32_eq_t, q32_eq_f, q64_lt_t, q64_lt_f, q64_le_t, q64_le_f, q64_eq_t, q64_eq_f, rdI_i, rdL_i, rdR_i, rdN_i, stI_i, stL_i, stR_i, wI_s, wI_n, wL_s, wL_n, wI_2, wI_3, wL_1, wL_3, wR_1, wR_2, Int.toNat_natCast, tnO, tn_add, tn_sub, tn_mul, Nat.add_sub_cancel, Nat.add_zero, Nat.zero_add, lnO, win_t, win_f, r12, pu]
  · have w := simL10 (F := F) (s := s) (m := m) (sg := 0) (v := v) (a := a) (b := b) (c := c) (d := d) (tp := tp) (Or.inl ⟨rfl, rfl, rfl, rfl, rfl⟩) hb hd hc htp hab (by omega) q3 q4 (Q - 1) F (by omega) 1 (by omega) (by omega)
    rw [if_pos rfl] at w
    refine Eq.trans w ?_
    unfold nb_X10_simplest_157
    generalize a * Q / b + 1 = P at *
    rcases (show v = 0 ∨ v = 1 by omega) with rfl | rfl
    · rw [if_pos rfl]
      simp (disch := omega) only [ncI, c32i, c64i, q64_mul, dv, q32_le_f, q32_eq_f, q64_eq_f, ↓reduceIte, q64_32]
    · rw [if_neg (show ¬ ((1 : Nat) = 0) by omega)]
      simp (disch := omega) only [ncI, c32i, c64i, q32_eq_t, ↓reduceIte, q64_32]
  · have w := simL10 (F := F) (s := s) (m := m) (sg := 1) (v := v) (a := a) (b := b) (c := c) (d := d) (tp := tp) (Or.inr ⟨rfl, rfl, rfl, rfl, rfl⟩) hb hd hc htp hab (by omega) q3 q4 (Q - 1) F (by omega) 1 (by omega) (by omega)
    rw [if_neg (show ¬ ((1 : Nat) = 0) by omega)] at w
    refine Eq.trans w ?_
    unfold nb_X10_simplest_157
    generalize a * Q / b + 1 = P at *
    rcases (show v = 0 ∨ v = 1 by omega) with rfl | rfl
    · rw [if_pos rfl]
      simp (disch := omega) only [ncI, c32i, c64i, q64_mul, dv, q32_le_t, q32_eq_f, q64_eq_f, ↓reduceIte, q64_32]
    · rw [if_neg (show ¬ ((1 : Nat) = 0) by omega)]
      simp (disch := omega) only [ncI, c32i, c64i, q32_eq_t, ↓reduceIte, q64_32]
theorem opk_simplest {F : Nat} (hF : 3000000 ≤ F) {s : List Sh} {m : Mem} (h : INV s m) (w1 w2 w3 w4 w5 : Int32) : OPK s m (n_X9_simplest F s m 0 w1 w2 w3 w4 w5) (fun m1 => n_X10_simplest F s m1 23 w1 w2 w3 w4 w5) := by
  have h0 := h
  obtain ⟨hg, ow, nw, hst⟩ := h
  have hl := hst.1
  have hp := hl.hp
  have hr := hl.rf
  have hn := hl.hn
  have rn := hl.nw
  have r1 := rf23_1 hr
  have l24 := ln24 hp
  obtain ⟨u, hu, rfl⟩ := q32_of w1
  obtain ⟨l, hll, rfl⟩ := q32_of w2
  obtain ⟨u2, hu2, rfl⟩ := q32_of w3
  obtain ⟨l2, hl2, rfl⟩ := q32_of w4
  obtain ⟨v, hv, rfl⟩ := q32_of w5
  have r12 := rf0_12 hr
  have r13 := rf0_13 hr
  obtain ⟨tp, t1, t2, t3, t4, -⟩ := hst.2.1.wa.at
  have fin : ∀ r m1 m2, n_X9_simplest F s m 0 (q32 u) (q32 l) (q32 u2) (q32 l2) (q32 v) = some (r, m1) → n_X10_simplest F s m1 23 (q32 u) (q32 l) (q32 u2) (q32 l2) (q32 v) = some (r, m2) → SC m m2 → OPK s m (n_X9_simplest F s m 0 (q32 u) (q32 l) (q32 u2) (q32 l2) (q32 v)) (fun m1 => n_X10_simplest F s m1 23 (q32 u) (q32 l) (q32 u2) (q32 l2) (q32 v)) := fun r m1 m2 e1 e2 sc =>
    opk_fin h0 e1 e2 (un_X10_simplest (un_X9_simplest hg (okB hp).1 e1).2 (okB hp).2 e2).2 sc
  by_cases c : 0 ≤ v ∧ v ≤ 1
  · rcases asks_cases (F := F) (by omega) hst hu2 hl2 with ⟨m1, k1, k2, k3⟩ | ⟨g, g1, g2, g3⟩
    · -- the other one is none
      have hr1 : RF (wI m1 23 0 (q32 0)) := hr.same k2.r
      have h241 : (wI m1 23 0 (q32 0)).1 24 1 = m.1 24 1 := by simp (disch := omega) only [Option.bind_some, bindv, bindv0, bind2_s, bind3_s, ↓reduceIte, Bool.false_eq_true, rZM_0, rZM_1, rZP_0, rZP_1, ptZ_0, ptZ_1, c32i, c64i, ncI, Int.natCast_add, Int.natCast_mul, q32_neg, q64_neg, q32_add, q32_sub, q32_mul, q64_add, q64_sub, q64_mul, q32_64i, q64_32, q32_lt_t, q32_lt_f, q32_le_t, q32_le_f, q32_eq_t, q32_eq_f, q64_lt_t, q64_lt_f, q64_le_t, q64_le_f, q64_eq_t, q64_eq_f, rdI_i, rdL_i, rdR_i, rdN_i, stI_i, stL_i, stR_i, wI_s, wI_n, wL_s, wL_n, wI_2, wI_3, wL_1, wL_3, wR_1, wR_2, Int.toNat_natCast, tnO, tn_add, tn_sub, tn_mul, Nat.add_sub_cancel, Nat.add_zero, Nat.zero_add, lnO, win_t, win_f]; exact k2.i _ _ (by omega)
      have e1 : n_X9_simplest F s m 0 (q32 u) (q32 l) (q32 u2) (q32 l2) (q32 v) = some (q32 (-3), m1) := by
        unfold n_X9_simplest nb_X9_simplest_0
        simp (disch := omega) only [Option.bind_some, bindv, bindv0, bind2_s, bind3_s, ↓reduceIte, Bool.false_eq_true, rZM_0, rZM_1, rZP_0, rZP_1, ptZ_0, ptZ_1, c32i, c64i, ncI, Int.natCast_add, Int.natCast_mul, q32_neg, q64_neg, q32_add, q32_sub, q32_mul, q64_add, q64_sub, q64_mul, q32_64i, q64_32, q32_lt_t, q32_lt_f, q32_le_t, q32_le_f, q32_eq_t, q32_eq_f, q64_lt_t, q64_lt_f, q64_le_t, q64_le_f, q64_eq_t, q64_eq_f, rdI_i, rdL_i, rdR_i, rdN_i, stI_i, stL_i, stR_i, wI_s, wI_n, wL_s, wL_n, wI_2, wI_3, wL_1, wL_3, wR_1, wR_2, Int.toNat_natCast, tnO, tn_add, tn_sub, tn_mul, Nat.add_sub_cancel, Nat.add_zero, Nat.zero_add, lnO, win_t, win_f, k1]
      rcases asks_cases (F := F) (by omega) hst hu hll with ⟨m2, x1, x2, x3⟩ | ⟨f, x1, x2, x3⟩
      · obtain ⟨m3, y1, y2⟩ := x3 _ hr1 h241
        refine fin (q32 (-3)) m1 m3 e1 ?_ (k2.tr ((SC.k0 m1).tr y2))
        unfold n_X10_simplest nb_X10_simplest_0
        simp (disch := omega) only [Option.bind_some, bindv, bindv0, bind2_s, bind3_s, ↓reduceIte, Bool.false_eq_true, rZM_0, rZM_1, rZP_0, rZP_1, ptZ_0, ptZ_1, c32i, c64i, ncI, Int.natCast_add, Int.natCast_mul, q32_neg, q64_neg, q32_add, q32_sub, q32_mul, q64_add, q64_sub, q64_mul, q32_64i, q64_32, q32_lt_t, q32_lt_f, q32_le_t, q32_le_f, q32_eq_t, q32_eq_f, q64_lt_t, q64_lt_f, q64_le_t, q64_le_f, q64_eq_t, q64_eq_f, rdI_i, rdL_i, rdR_i, rdN_i, stI_i, stL_i, stR_i, wI_s, wI_n, wL_s, wL_n, wI_2, wI_3, wL_1, wL_3, wR_1, wR_2, Int.toNat_natCast, tnO, tn_add, tn_sub, tn_mul, Nat.add_sub_cancel, Nat.add_zero, Nat.zero_add, lnO, win_t, win_f, y1]
      · have y1 := x3 _ hr1 h241
        obtain ⟨m3, y2, y3⟩ := k3 (PS (wI m1 23 0 (q32 0)) f) (hr1.same rfl) h241
        refine fin (q32 (-3)) m1 m3 e1 ?_ ((k2.tr ((SC.k0 m1))).ps.tr y3)
        unfold n_X10_simplest nb_X10_simplest_0
        simp (disch := omega) only [Option.bind_some, bindv, bindv0, bind2_s, bind3_s, ↓reduceIte, Bool.false_eq_true, rZM_0, rZM_1, rZP_0, rZP_1, ptZ_0, ptZ_1, c32i, c64i, ncI, Int.natCast_add, Int.natCast_mul, q32_neg, q64_neg, q32_add, q32_sub, q32_mul, q64_add, q64_sub, q64_mul, q32_64i, q64_32, q32_lt_t, q32_lt_f, q32_le_t, q32_le_f, q32_eq_t, q32_eq_f, q64_lt_t, q64_lt_f, q64_le_t, q64_le_f, q64_eq_t, q64_eq_f, rdI_i, rdL_i, rdR_i, rdN_i, stI_i, stL_i, stR_i, wI_s, wI_n, wL_s, wL_n, wI_2, wI_3, wL_1, wL_3, wR_1, wR_2, Int.toNat_natCast, tnO, tn_add, tn_sub, tn_mul, Nat.add_sub_cancel, Nat.add_zero, Nat.zero_add, lnO, win_t, win_f, y1, y2]
    · have gf := g1
      unfold FLR at gf
      have g2' : n_X9_asksFloor F s m 0 (q32 u2) (q32 l2) = some (q32 1, PT m 19 g) := g2
      have pu := put9 (F := F) (s := s) (m := PT m 19 g) (r := 20) (by omega) (p := g.1) (q := g.2) (by omega) (by omega) (by omega)
      rw [nrm_low (by omega) gf.2.2.2.2.2] at pu
      have hst' : ST s (PT (PT m 19 g) 20 g) ow nw := hst.sc (((SC.rf m).pt (by omega)).pt (by omega))
      rcases asks_cases (F := F) (by omega) hst' hu hll with ⟨m1, k1, k2, k3⟩ | ⟨f, f1, f2, f3⟩
      · have hr1 : RF (wI m1 23 0 (q32 0)) := hr.same k2.r
        obtain ⟨m3, y1, y2⟩ := k3 _ hr1 (by simp (disch := omega) only [Option.bind_some, bindv, bindv0, bind2_s, bind3_s, ↓reduceIte, Bool.false_eq_true, rZM_0, rZM_1, rZP_0, rZP_1, ptZ_0, ptZ_1, c32i, c64i, ncI, Int.natCast_add, Int.natCast_mul, q32_neg, q64_neg, q32_add, q32_sub, q32_mul, q64_add, q64_sub, q64_mul, q32_64i, q64_32, q32_lt_t, q32_lt_f, q32_le_t, q32_le_f, q32_eq_t, q32_eq_f, q64_lt_t, q64_lt_f, q64_le_t, q64_le_f, q64_eq_t, q64_eq_f, rdI_i, rdL_i, rdR_i, rdN_i, stI_i, stL_i, stR_i, wI_s, wI_n, wL_s, wL_n, wI_2, wI_3, wL_1, wL_3, wR_1, wR_2, Int.toNat_natCast, tnO, tn_add, tn_sub, tn_mul, Nat.add_sub_cancel, Nat.add_zero, Nat.zero_add, lnO, win_t, win_f]; exact k2.i _ _ (by omega))
        refine fin (q32 (-3)) m1 m3 ?_ ?_ ((((SC.rf m).pt (by omega)).pt (by omega)).tr (k2.tr ((SC.k0 m1).tr y2)))
        · unfold n_X9_simplest nb_X9_simplest_0
          simp (disch := omega) only [Option.bind_some, bindv, bindv0, bind2_s, bind3_s, ↓reduceIte, Bool.false_eq_true, rZM_0, rZM_1, rZP_0, rZP_1, ptZ_0, ptZ_1, c32i, c64i, ncI, Int.natCast_add, Int.natCast_mul, q32_neg, q64_neg, q32_add, q32_sub, q32_mul, q64_add, q64_sub, q64_mul, q32_64i, q64_32, q32_lt_t, q32_lt_f, q32_le_t, q32_le_f, q32_eq_t, q32_eq_f, q64_lt_t, q64_lt_f, q64_le_t, q64_le_f, q64_eq_t, q64_eq_f, rdI_i, rdL_i, rdR_i, rdN_i, stI_i, stL_i, stR_i, wI_s, wI_n, wL_s, wL_n, wI_2, wI_3, wL_1, wL_3, wR_1, wR_2, Int.toNat_natCast, tnO, tn_add, tn_sub, tn_mul, Nat.add_sub_cancel, Nat.add_zero, Nat.zero_add, lnO, win_t, win_f, g2', PT_3, r12, r13, PT_0, PT_l, pu, k1]
        · unfold n_X10_simplest nb_X10_simplest_0
          simp (disch := omega) only [Option.bind_some, bindv, bindv0, bind2_s, bind3_s, ↓reduceIte, Bool.false_eq_true, rZM_0, rZM_1, rZP_0, rZP_1, ptZ_0, ptZ_1, c32i, c64i, ncI, Int.natCast_add, Int.natCast_mul, q32_neg, q64_neg, q32_add, q32_sub, q32_mul, q64_add, q64_sub, q64_mul, q32_64i, q64_32, q32_lt_t, q32_lt_f, q32_le_t, q32_le_f, q32_eq_t, q32_eq_f, q64_lt_t, q64_lt_f, q64_le_t, q64_le_f, q64_eq_t, q64_eq_f, rdI_i, rdL_i, rdR_i, rdN_i, stI_i, stL_i, stR_i, wI_s, wI_n, wL_s, wL_n, wI_2, wI_3, wL_1, wL_3, wR_1, wR_2, Int.toNat_natCast, tnO, tn_add, tn_sub, tn_mul, Nat.add_sub_cancel, Nat.add_zero, Nat.zero_add, lnO, win_t, win_f, y1]
      · have ff := f1
        unfold FLR at ff
        have f2' : n_X9_asksFloor F s (PT (PT m 19 g) 20 g) 0 (q32 u) (q32 l) = some (q32 1, PT (PT (PT m 19 g) 20 g) 19 f) := f2
        have cp := compared9 (s := s) (m := PT (PT (PT m 19 g) 20 g) 19 f) (r := 19) (r' := 20) (f := f) (g := g) (PT_0 _ _ _) (PT_l _ _ _) (by rw [PT_n (by omega)]; exact PT_0 _ _ _) (by rw [PT_n (by omega)]; exact PT_l _ _ _) (by omega) (by omega) (by omega) (by omega)
        have ag := agn (a := f.1) (b := f.2) (c := g.1) (d := g.2) (by omega) (by omega) (by omega) (by omega)
        have tpa : A ((PT (PT m 19 g) 20 g).1 24) 1 = tp := t4
        rw [tpa] at ff
        rw [t4] at gf
        have c20 : (PT (PT (PT m 19 g) 20 g) 19 f).2.1 20 0 = q64 g.1 := by rw [PT_n (by omega)]; exact PT_0 _ _ _
        have c201 : (PT (PT (PT m 19 g) 20 g) 19 f).2.1 20 1 = q64 g.2 := by rw [PT_n (by omega)]; exact PT_l _ _ _
        have c19 : (PT (PT (PT m 19 g) 20 g) 19 f).2.1 19 0 = q64 f.1 := PT_0 _ _ _
        have c191 : (PT (PT (PT m 19 g) 20 g) 19 f).2.1 19 1 = q64 f.2 := PT_l _ _ _
        have r13' : (PT (PT (PT m 19 g) 20 g) 19 f).2.2 0 13 = some 20 := r13
        have r12' : (PT (PT (PT m 19 g) 20 g) 19 f).2.2 0 12 = some 19 := r12
        have rM : RF (PT (PT (PT m 19 g) 20 g) 19 f) := hr.same rfl
        have scM : SC m (PT (PT (PT m 19 g) 20 g) 19 f) := (((SC.rf m).pt (by omega)).pt (by omega)).pt (by omega)
        obtain ⟨vn, rfl⟩ := Int.eq_ofNat_of_zero_le c.1
        -- the reference, behind a memory in which both stand
        have ref : ∀ M : Mem, RF M → M.1 24 1 = m.1 24 1 → n_X10_asks s M 23 (q64 u) (q64 l) = some (q32 1, PS M f) ∧ n_X10_asks s (PS M f) 23 (q64 u2) (q64 l2) = some (q32 1, PS (PS M f) g) := fun M hM h1 => ⟨f3 M hM h1, g3 (PS M f) (hM.same rfl) h1⟩
        by_cases ce : f.1 * g.2 = g.1 * f.2
        · rw [if_neg (by omega), if_neg (by omega)] at cp ag
          obtain ⟨y1, y2⟩ := ref (wI (PT (PT (PT m 19 g) 20 g) 19 f) 23 0 (q32 0)) (rM.same rfl) (by simp (disch := omega) only [Option.bind_some, bindv, bindv0, bind2_s, bind3_s, ↓reduceIte, Bool.false_eq_true, rZM_0, rZM_1, rZP_0, rZP_1, ptZ_0, ptZ_1, c32i, c64i, ncI, Int.natCast_add, Int.natCast_mul, q32_neg, q64_neg, q32_add, q32_sub, q32_mul, q64_add, q64_sub, q64_mul, q32_64i, q64_32, q32_lt_t, q32_lt_f, q32_le_t, q32_le_f, q32_eq_t, q32_eq_f, q64_lt_t, q64_lt_f, q64_le_t, q64_le_f, q64_eq_t, q64_eq_f, rdI_i, rdL_i, rdR_i, rdN_i, stI_i, stL_i, stR_i, wI_s, wI_n, wL_s, wL_n, wI_2, wI_3, wL_1, wL_3, wR_1, wR_2, Int.toNat_natCast, tnO, tn_add, tn_sub, tn_mul, Nat.add_sub_cancel, Nat.add_zero, Nat.zero_add, lnO, win_t, win_f]; rfl)
          refine fin (q32 (-3)) (PT (PT (PT m 19 g) 20 g) 19 f) (PS (PS (wI (PT (PT (PT m 19 g) 20 g) 19 f) 23 0 (q32 0)) f) g) ?_ ?_ ((scM.tr (SC.k0 _)).ps.ps)
          · unfold n_X9_simplest nb_X9_simplest_0
            simp (disch := omega) only [Option.bind_some, bindv, bindv0, bind2_s, bind3_s, ↓reduceIte, Bool.false_eq_true, rZM_0, rZM_1, rZP_0, rZP_1, ptZ_0, ptZ_1, c32i, c64i, ncI, Int.natCast_add, Int.natCast_mul, q32_neg, q64_neg, q32_add, q32_sub, q32_mul, q64_add, q64_sub, q64_mul, q32_64i, q64_32, q32_lt_t, q32_lt_f, q32_le_t, q32_le_f, q32_eq_t, q32_eq_f, q64_lt_t, q64_lt_f, q64_le_t, q64_le_f, q64_eq_t, q64_eq_f, rdI_i, rdL_i, rdR_i, rdN_i, stI_i, stL_i, stR_i, wI_s, wI_n, wL_s, wL_n, wI_2, wI_3, wL_1, wL_3, wR_1, wR_2, Int.toNat_natCast, tnO, tn_add, tn_sub, tn_mul, Nat.add_sub_cancel, Nat.add_zero, Nat.zero_add, lnO, win_t, win_f, g2', PT_3, r12, r13, PT_0, PT_l, pu, f2', cp]
          · unfold n_X10_simplest nb_X10_simplest_0
            simp (disch := omega) only [Option.bind_some, bindv, bindv0, bind2_s, bind3_s, ↓reduceIte, Bool.false_eq_true, rZM_0, rZM_1, rZP_0, rZP_1, ptZ_0, ptZ_1, c32i, c64i, ncI, Int.natCast_add, Int.natCast_mul, q32_neg, q64_neg, q32_add, q32_sub, q32_mul, q64_add, q64_sub, q64_mul, q32_64i, q64_32, q32_lt_t, q32_lt_f, q32_le_t, q32_le_f, q32_eq_t, q32_eq_f, q64_lt_t, q64_lt_f, q64_le_t, q64_le_f, q64_eq_t, q64_eq_f, rdI_i, rdL_i, rdR_i, rdN_i, stI_i, stL_i, stR_i, wI_s, wI_n, wL_s, wL_n, wI_2, wI_3, wL_1, wL_3, wR_1, wR_2, Int.toNat_natCast, tnO, tn_add, tn_sub, tn_mul, Nat.add_sub_cancel, Nat.add_zero, Nat.zero_add, lnO, win_t, win_f, y1, y2, PS_0, PS_l, ag]
        · obtain ⟨fa, fb⟩ := f
          obtain ⟨ga, gb⟩ := g
          dsimp only at ff gf ce cp ag c20 c201 c19 c191 ⊢
          obtain ⟨a, rfl⟩ := Int.eq_ofNat_of_zero_le ff.1
          obtain ⟨b, rfl⟩ := Int.eq_ofNat_of_zero_le (show 0 ≤ fb by omega)
          obtain ⟨c', rfl⟩ := Int.eq_ofNat_of_zero_le gf.1
          obtain ⟨d, rfl⟩ := Int.eq_ofNat_of_zero_le (show 0 ≤ gb by omega)
          have hab : a ≤ tp * b := by have := ff.2.2.2.2.1; exact_mod_cast this
          have hcd : c' ≤ tp * d := by have := gf.2.2.2.2.1; exact_mod_cast this
          have pM : ∀ P Q : Nat, P ≤ 2000000 → Q ≤ 2000000 → n_X2_part s (PT (PT (PT (PT m 19 ((c' : Int), (d : Int))) 20 ((c' : Int), (d : Int))) 19 ((a : Int), (b : Int))) 19 ((P : Int), (Q : Int))) 19 (q32 vn) = some (q64 (if vn = 0 then (P : Int) else (Q : Int))) := fun P Q hP hQ => by
            unfold n_X2_part nb_X2_part_0
            rw [PT_0, PT_l]
            rcases (show vn = 0 ∨ vn = 1 by omega) with rfl | rfl
            · simp (disch := omega) only [Option.bind_some, bindv, bindv0, bind2_s, bind3_s, ↓reduceIte, Bool.false_eq_true, rZM_0, rZM_1, rZP_0, rZP_1, ptZ_0, ptZ_1, c32i, c64i, ncI, Int.natCast_add, Int.natCast_mul, q32_neg, q64_neg, q32_add, q32_sub, q32_mul, q64_add, q64_sub, q64_mul, q32_64i, q64_32, q32_lt_t, q32_lt_f, q32_le_t, q32_le_f, q32_eq_t, q32_eq_f, q64_lt_t, q64_lt_f, q64_le_t, q64_le_f, q64_eq_t, q64_eq_f, rdI_i, rdL_i, rdR_i, rdN_i, stI_i, stL_i, stR_i, wI_s, wI_n, wL_s, wL_n, wI_2, wI_3, wL_1, wL_3, wR_1, wR_2, Int.toNat_natCast, tnO, tn_add, tn_sub, tn_mul, Nat.add_sub_cancel, Nat.add_zero, Nat.zero_add, lnO, win_t, win_f]
              first | rfl | skip
            · simp (disch := omega) only [Option.bind_some, bindv, bindv0, bind2_s, bind3_s, ↓reduceIte, Bool.false_eq_true, rZM_0, rZM_1, rZP_0, rZP_1, ptZ_0, ptZ_1, c32i, c64i, ncI, Int.natCast_add, Int.natCast_mul, q32_neg, q64_neg, q32_add, q32_sub, q32_mul, q64_add, q64_sub, q64_mul, q32_64i, q64_32, q32_lt_t, q32_lt_f, q32_le_t, q32_le_f, q32_eq_t, q32_eq_f, q64_lt_t, q64_lt_f, q64_le_t, q64_le_f, q64_eq_t, q64_eq_f, rdI_i, rdL_i, rdR_i, rdN_i, stI_i, stL_i, stR_i, wI_s, wI_n, wL_s, wL_n, wI_2, wI_3, wL_1, wL_3, wR_1, wR_2, Int.toNat_natCast, tnO, tn_add, tn_sub, tn_mul, Nat.add_sub_cancel, Nat.add_zero, Nat.zero_add, lnO, win_t, win_f]
              first | rfl | skip
          by_cases cl : (a : Int) * d < (c' : Int) * b
          · rw [if_pos cl] at cp ag
            obtain ⟨P, Q, b1, b2, b3, s9, s10⟩ := sim_both hF (s := s) (a := a) (b := b) (c := c') (d := d) (tp := tp) (by omega) (by omega) (by omega) (by omega) t2 hab (by exact_mod_cast cl)
            have s9 := s9 _ rM
            obtain ⟨y1, y2⟩ := ref (wI (PT (PT (PT (PT m 19 ((c' : Int), (d : Int))) 20 ((c' : Int), (d : Int))) 19 ((a : Int), (b : Int))) 19 ((P : Int), (Q : Int))) 23 0 (q32 0)) (rM.same rfl) (by simp (disch := omega) only [Option.bind_some, bindv, bindv0, bind2_s, bind3_s, ↓reduceIte, Bool.false_eq_true, rZM_0, rZM_1, rZP_0, rZP_1, ptZ_0, ptZ_1, c32i, c64i, ncI, Int.natCast_add, Int.natCast_mul, q32_neg, q64_neg, q32_add, q32_sub, q32_mul, q64_add, q64_sub, q64_mul, q32_64i, q64_32, q32_lt_t, q32_lt_f, q32_le_t, q32_le_f, q32_eq_t, q32_eq_f, q64_lt_t, q64_lt_f, q64_le_t, q64_le_f, q64_eq_t, q64_eq_f, rdI_i, rdL_i, rdR_i, rdN_i, stI_i, stL_i, stR_i, wI_s, wI_n, wL_s, wL_n, wI_2, wI_3, wL_1, wL_3, wR_1, wR_2, Int.toNat_natCast, tnO, tn_add, tn_sub, tn_mul, Nat.add_sub_cancel, Nat.add_zero, Nat.zero_add, lnO, win_t, win_f]; rfl)
            have s10 := (s10 (PS (PS (wI (PT (PT (PT (PT m 19 ((c' : Int), (d : Int))) 20 ((c' : Int), (d : Int))) 19 ((a : Int), (b : Int))) 19 ((P : Int), (Q : Int))) 23 0 (q32 0)) ((a : Int), (b : Int))) ((c' : Int), (d : Int))) vn (by omega)).1
            have pm := pM P Q b1 b3
            refine fin (q32 (if vn = 0 then (P : Int) else (Q : Int))) (PT (PT (PT (PT m 19 ((c' : Int), (d : Int))) 20 ((c' : Int), (d : Int))) 19 ((a : Int), (b : Int))) 19 ((P : Int), (Q : Int))) (PS (PS (wI (PT (PT (PT (PT m 19 ((c' : Int), (d : Int))) 20 ((c' : Int), (d : Int))) 19 ((a : Int), (b : Int))) 19 ((P : Int), (Q : Int))) 23 0 (q32 0)) ((a : Int), (b : Int))) ((c' : Int), (d : Int))) ?_ ?_ (((scM.pt (by omega)).tr (SC.k0 _)).ps.ps)
            · unfold n_X9_simplest nb_X9_simplest_0 nb_X9_simplest_153
              simp (disch := omega) only [Option.bind_some, bindv, bindv0, bind2_s, bind3_s, ↓reduceIte, Bool.false_eq_true, rZM_0, rZM_1, rZP_0, rZP_1, ptZ_0, ptZ_1, c32i, c64i, ncI, Int.natCast_add, Int.natCast_mul, q32_neg, q64_neg, q32_add, q32_sub, q32_mul, q64_add, q64_sub, q64_mul, q32_64i, q64_32, q32_lt_t, q32_lt_f, q32_le_t, q32_le_f, q32_eq_t, q32_eq_f, q64_lt_t, q64_lt_f, q64_le_t, q64_le_f, q64_eq_t, q64_eq_f, rdI_i, rdL_i, rdR_i, rdN_i, stI_i, stL_i, stR_i, wI_s, wI_n, wL_s, wL_n, wI_2, wI_3, wL_1, wL_3, wR_1, wR_2, Int.toNat_natCast, tnO, tn_add, tn_sub, tn_mul, Nat.add_sub_cancel, Nat.add_zero, Nat.zero_add, lnO, win_t, win_f, g2', PT_3, r12, r13, PT_0, PT_l, pu, f2', cp, c20, c201, s9, pm]
            · unfold n_X10_simplest nb_X10_simplest_0
              simp (disch := omega) only [Option.bind_some, bindv, bindv0, bind2_s, bind3_s, ↓reduceIte, Bool.false_eq_true, rZM_0, rZM_1, rZP_0, rZP_1, ptZ_0, ptZ_1, c32i, c64i, ncI, Int.natCast_add, Int.natCast_mul, q32_neg, q64_neg, q32_add, q32_sub, q32_mul, q64_add, q64_sub, q64_mul, q32_64i, q64_32, q32_lt_t, q32_lt_f, q32_le_t, q32_le_f, q32_eq_t, q32_eq_f, q64_lt_t, q64_lt_f, q64_le_t, q64_le_f, q64_eq_t, q64_eq_f, rdI_i, rdL_i, rdR_i, rdN_i, stI_i, stL_i, stR_i, wI_s, wI_n, wL_s, wL_n, wI_2, wI_3, wL_1, wL_3, wR_1, wR_2, Int.toNat_natCast, tnO, tn_add, tn_sub, tn_mul, Nat.add_sub_cancel, Nat.add_zero, Nat.zero_add, lnO, win_t, win_f, y1, y2, PS_0, PS_l, ag]
              exact s10
          · have cg : (c' : Int) * b < (a : Int) * d := by omega
            rw [if_neg cl, if_pos cg] at cp ag
            obtain ⟨P, Q, b1, b2, b3, s9, s10⟩ := sim_both hF (s := s) (a := c') (b := d) (c := a) (d := b) (tp := tp) (by omega) (by omega) (by omega) (by omega) t2 hcd (by exact_mod_cast cg)
            have s9 := s9 _ rM
            obtain ⟨y1, y2⟩ := ref (wI (PT (PT (PT (PT m 19 ((c' : Int), (d : Int))) 20 ((c' : Int), (d : Int))) 19 ((a : Int), (b : Int))) 19 ((P : Int), (Q : Int))) 23 0 (q32 0)) (rM.same rfl) (by simp (disch := omega) only [Option.bind_some, bindv, bindv0, bind2_s, bind3_s, ↓reduceIte, Bool.false_eq_true, rZM_0, rZM_1, rZP_0, rZP_1, ptZ_0, ptZ_1, c32i, c64i, ncI, Int.natCast_add, Int.natCast_mul, q32_neg, q64_neg, q32_add, q32_sub, q32_mul, q64_add, q64_sub, q64_mul, q32_64i, q64_32, q32_lt_t, q32_lt_f, q32_le_t, q32_le_f, q32_eq_t, q32_eq_f, q64_lt_t, q64_lt_f, q64_le_t, q64_le_f, q64_eq_t, q64_eq_f, rdI_i, rdL_i, rdR_i, rdN_i, stI_i, stL_i, stR_i, wI_s, wI_n, wL_s, wL_n, wI_2, wI_3, wL_1, wL_3, wR_1, wR_2, Int.toNat_natCast, tnO, tn_add, tn_sub, tn_mul, Nat.add_sub_cancel, Nat.add_zero, Nat.zero_add, lnO, win_t, win_f]; rfl)
            have s10 := (s10 (PS (PS (wI (PT (PT (PT (PT m 19 ((c' : Int), (d : Int))) 20 ((c' : Int), (d : Int))) 19 ((a : Int), (b : Int))) 19 ((P : Int), (Q : Int))) 23 0 (q32 0)) ((a : Int), (b : Int))) ((c' : Int), (d : Int))) vn (by omega)).2
            have pm := pM P Q b1 b3
            refine fin (q32 (if vn = 0 then (P : Int) else (Q : Int))) (PT (PT (PT (PT m 19 ((c' : Int), (d : Int))) 20 ((c' : Int), (d : Int))) 19 ((a : Int), (b : Int))) 19 ((P : Int), (Q : Int))) (PS (PS (wI (PT (PT (PT (PT m 19 ((c' : Int), (d : Int))) 20 ((c' : Int), (d : Int))) 19 ((a : Int), (b : Int))) 19 ((P : Int), (Q : Int))) 23 0 (q32 0)) ((a : Int), (b : Int))) ((c' : Int), (d : Int))) ?_ ?_ (((scM.pt (by omega)).tr (SC.k0 _)).ps.ps)
            · unfold n_X9_simplest nb_X9_simplest_0 nb_X9_simplest_153
              simp (disch := omega) only [Option.bind_some, bindv, bindv0, bind2_s, bind3_s, ↓reduceIte, Bool.false_eq_true, rZM_0, rZM_1, rZP_0, rZP_1, ptZ_0, ptZ_1, c32i, c64i, ncI, Int.natCast_add, Int.natCast_mul, q32_neg, q64_neg, q32_add, q32_sub, q32_mul, q64_add, q64_sub, q64_mul, q32_64i, q64_32, q32_lt_t, q32_lt_f, q32_le_t, q32_le_f, q32_eq_t, q32_eq_f, q64_lt_t, q64_lt_f, q64_le_t, q64_le_f, q64_eq_t, q64_eq_f, rdI_i, rdL_i, rdR_i, rdN_i, stI_i, stL_i, stR_i, wI_s, wI_n, wL_s, wL_n, wI_2, wI_3, wL_1, wL_3, wR_1, wR_2, Int.toNat_natCast, tnO, tn_add, tn_sub, tn_mul, Nat.add_sub_cancel, Nat.add_zero, Nat.zero_add, lnO, win_t, win_f, g2', PT_3, r12, r13, PT_0, PT_l, pu, f2', cp, c20, c201, s9, pm]
            · unfold n_X10_simplest nb_X10_simplest_0
              simp (disch := omega) only [Option.bind_some, bindv, bindv0, bind2_s, bind3_s, ↓reduceIte, Bool.false_eq_true, rZM_0, rZM_1, rZP_0, rZP_1, ptZ_0, ptZ_1, c32i, c64i, ncI, Int.natCast_add, Int.natCast_mul, q32_neg, q64_neg, q32_add, q32_sub, q32_mul, q64_add, q64_sub, q64_mul, q32_64i, q64_32, q32_lt_t, q32_lt_f, q32_le_t, q32_le_f, q32_eq_t, q32_eq_f, q64_lt_t, q64_lt_f, q64_le_t, q64_le_f, q64_eq_t, q64_eq_f, rdI_i, rdL_i, rdR_i, rdN_i, stI_i, stL_i, stR_i, wI_s, wI_n, wL_s, wL_n, wI_2, wI_3, wL_1, wL_3, wR_1, wR_2, Int.toNat_natCast, tnO, tn_add, tn_sub, tn_mul, Nat.add_sub_cancel, Nat.add_zero, Nat.zero_add, lnO, win_t, win_f, y1, y2, PS_0, PS_l, ag]
              exact s10
  · refine fin (q32 (-2)) m _ ?_ ?_ (SC.k0 m)
    · unfold n_X9_simplest nb_X9_simplest_0
      by_cases c2 : v < 0
      · simp (disch := omega) only [Option.bind_some, bindv, bindv0, bind2_s, bind3_s, ↓reduceIte, Bool.false_eq_true, rZM_0, rZM_1, rZP_0, rZP_1, ptZ_0, ptZ_1, c32i, c64i, ncI, Int.natCast_add, Int.natCast_mul, q32_neg, q64_neg, q32_add, q32_sub, q32_mul, q64_add, q64_sub, q64_mul, q32_64i, q64_32, q32_lt_t, q32_lt_f, q32_le_t, q32_le_f, q32_eq_t, q32_eq_f, q64_lt_t, q64_lt_f, q64_le_t, q64_le_f, q64_eq_t, q64_eq_f, rdI_i, rdL_i, rdR_i, rdN_i, stI_i, stL_i, stR_i, wI_s, wI_n, wL_s, wL_n, wI_2, wI_3, wL_1, wL_3, wR_1, wR_2, Int.toNat_natCast, tnO, tn_add, tn_sub, tn_mul, Nat.add_sub_cancel, Nat.add_zero, Nat.zero_add, lnO, win_t, win_f]
      · simp (disch := omega) only [Option.bind_some, bindv, bindv0, bind2_s, bind3_s, ↓reduceIte, Bool.false_eq_true, rZM_0, rZM_1, rZP_0, rZP_1, ptZ_0, ptZ_1, c32i, c64i, ncI, Int.natCast_add, Int.natCast_mul, q32_neg, q64_neg, q32_add, q32_sub, q32_mul, q64_add, q64_sub, q64_mul, q32_64i, q64_32, q32_lt_t, q32_lt_f, q32_le_t, q32_le_f, q32_eq_t, q32_eq_f, q64_lt_t, q64_lt_f, q64_le_t, q64_le_f, q64_eq_t, q64_eq_f, rdI_i, rdL_i, rdR_i, rdN_i, stI_i, stL_i, stR_i, wI_s, wI_n, wL_s, wL_n, wI_2, wI_3, wL_1, wL_3, wR_1, wR_2, Int.toNat_natCast, tnO, tn_add, tn_sub, tn_mul, Nat.add_sub_cancel, Nat.add_zero, Nat.zero_add, lnO, win_t, win_f]
    · unfold n_X10_simplest nb_X10_simplest_0
      simp (disch := omega) only [Option.bind_some, bindv, bindv0, bind2_s, bind3_s, ↓reduceIte, Bool.false_eq_true, rZM_0, rZM_1, rZP_0, rZP_1, ptZ_0, ptZ_1, c32i, c64i, ncI, Int.natCast_add, Int.natCast_mul, q32_neg, q64_neg, q32_add, q32_sub, q32_mul, q64_add, q64_sub, q64_mul, q32_64i, q64_32, q32_lt_t, q32_lt_f, q32_le_t, q32_le_f, q32_eq_t, q32_eq_f, q64_lt_t, q64_lt_f, q64_le_t, q64_le_f, q64_eq_t, q64_eq_f, rdI_i, rdL_i, rdR_i, rdN_i, stI_i, stL_i, stR_i, wI_s, wI_n, wL_s, wL_n, wI_2, wI_3, wL_1, wL_3, wR_1, wR_2, Int.toNat_natCast, tnO, tn_add, tn_sub, tn_mul, Nat.add_sub_cancel, Nat.add_zero, Nat.zero_add, lnO, win_t, win_f]
