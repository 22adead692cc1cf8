/-! PURE: more steps for the simplifier -/
theorem tnO (n : Nat) : (no_index (OfNat.ofNat n) : Int).toNat = OfNat.ofNat n := rfl
theorem tn_add {a b : Int} (h : 0 ≤ a ∧ 0 ≤ b) : (a + b).toNat = a.toNat + b.toNat := by omega
theorem tn_sub {a b : Int} (h : 0 ≤ b ∧ b ≤ a) : (a - b).toNat = a.toNat - b.toNat := by omega
theorem tn_mul {a b : Int} (h : 0 ≤ a ∧ 0 ≤ b) : (a * b).toNat = a.toNat * b.toNat := by
  obtain ⟨x, rfl⟩ := Int.eq_ofNat_of_zero_le h.1
  obtain ⟨y, rfl⟩ := Int.eq_ofNat_of_zero_le h.2
  rw [← Int.natCast_mul]
  rfl
theorem lnO (n : Nat) : Int32.ofNat n = q32 n := (Int32.ofInt_eq_ofNat (n := n)).symm
theorem win_t {a b c : Int} (h : -9223372036854775808 ≤ b ∧ c < 9223372036854775808 ∧ b ≤ a ∧ a ≤ c) : m_X10_within (q64 a) (q64 b) (q64 c) = some (q32 1) := by
  rw [win (by omega) (by omega) (by omega), if_pos (by omega)]
  rfl
theorem win_f {a b c : Int} (h : -9223372036854775808 ≤ a ∧ a < 9223372036854775808 ∧ -9223372036854775808 ≤ b ∧ b < 9223372036854775808 ∧ -9223372036854775808 ≤ c ∧ c < 9223372036854775808 ∧ (a < b ∨ c < a)) : m_X10_within (q64 a) (q64 b) (q64 c) = some (q32 0) := by
  rw [win (by omega) (by omega) (by omega), if_neg (by omega)]
  rfl
theorem sw_at {α : Type} {v lo : Int} (hv : B31 v) (i : Nat) (h : v = lo + i) {l : List (Option α)} {D r : Option α} (e : l[i]? = some r) : swN (q32 v) lo l D = r := by
  unfold swN
  rw [q32_toInt hv, if_pos (by omega), List.getD_eq_getElem?_getD, show (v - lo).toNat = i by omega, e]
  rfl
theorem sw_out {α : Type} {v lo : Int} (hv : B31 v) {l : List (Option α)} {D : Option α} (h : v < lo ∨ lo + l.length ≤ v) : swN (q32 v) lo l D = D := by
  unfold swN
  rw [q32_toInt hv]
  by_cases c : lo ≤ v
  · rw [if_pos c, List.getD_eq_getElem?_getD, List.getElem?_eq_none (by omega)]
    rfl
  · rw [if_neg c]
/-- a fraction against another one -/
theorem agn {a b c d : Int} (ha : a.natAbs ≤ 1000000000) (hb : b.natAbs ≤ 1000000000) (hc : c.natAbs ≤ 1000000000) (hd : d.natAbs ≤ 1000000000) : m_X10_against (q64 a) (q64 b) (q64 c) (q64 d) = some (if a * d < c * b then q32 (-1) else if c * b < a * d then q32 1 else q32 0) := by
  have h1 := mulb ha hd
  have h2 := mulb hc hb
  unfold m_X10_against b_X10_against_0
  by_cases c1 : a * d < c * b
  · rw [if_pos c1]; simp (disch := omega) only [Option.bind_some, bindv, bindv0, bind2_s, bind3_s, ↓reduceIte, Bool.false_eq_true, rZM_0, rZM_1, rZP_0, rZP_1, ptZ_0, ptZ_1, c32i, c64i, ncI, Int.natCast_add, Int.natCast_mul, q32_neg, q64_neg, q32_add, q32_sub, q32_mul, q64_add, q64_sub, q64_mul, q32_64i, q64_32, q32_lt_t, q32_lt_f, q32_le_t, q32_le_f, q32_eq_t, q32_eq_f, q64_lt_t, q64_lt_f, q64_le_t, q64_le_f, q64_eq_t, q64_eq_f, rdI_i, rdL_i, rdR_i, rdN_i, stI_i, stL_i, stR_i, wI_s, wI_n, wL_s, wL_n, wI_2, wI_3, wL_1, wL_3, wR_1, wR_2, Int.toNat_natCast, tnO, tn_add, tn_sub, tn_mul, Nat.add_sub_cancel, Nat.add_zero, Nat.zero_add, lnO, win_t, win_f]
  · rw [if_neg c1]
    by_cases c2 : c * b < a * d
    · rw [if_pos c2]; simp (disch := omega) only [Option.bind_some, bindv, bindv0, bind2_s, bind3_s, ↓reduceIte, Bool.false_eq_true, rZM_0, rZM_1, rZP_0, rZP_1, ptZ_0, ptZ_1, c32i, c64i, ncI, Int.natCast_add, Int.natCast_mul, q32_neg, q64_neg, q32_add, q32_sub, q32_mul, q64_add, q64_sub, q64_mul, q32_64i, q64_32, q32_lt_t, q32_lt_f, q32_le_t, q32_le_f, q32_eq_t, q32_eq_f, q64_lt_t, q64_lt_f, q64_le_t, q64_le_f, q64_eq_t, q64_eq_f, rdI_i, rdL_i, rdR_i, rdN_i, stI_i, stL_i, stR_i, wI_s, wI_n, wL_s, wL_n, wI_2, wI_3, wL_1, wL_3, wR_1, wR_2, Int.toNat_natCast, tnO, tn_add, tn_sub, tn_mul, Nat.add_sub_cancel, Nat.add_zero, Nat.zero_add, lnO, win_t, win_f]
    · rw [if_neg c2]; simp (disch := omega) only [Option.bind_some, bindv, bindv0, bind2_s, bind3_s, ↓reduceIte, Bool.false_eq_true, rZM_0, rZM_1, rZP_0, rZP_1, ptZ_0, ptZ_1, c32i, c64i, ncI, Int.natCast_add, Int.natCast_mul, q32_neg, q64_neg, q32_add, q32_sub, q32_mul, q64_add, q64_sub, q64_mul, q32_64i, q64_32, q32_lt_t, q32_lt_f, q32_le_t, q32_le_f, q32_eq_t, q32_eq_f, q64_lt_t, q64_lt_f, q64_le_t, q64_le_f, q64_eq_t, q64_eq_f, rdI_i, rdL_i, rdR_i, rdN_i, stI_i, stL_i, stR_i, wI_s, wI_n, wL_s, wL_n, wI_2, wI_3, wL_1, wL_3, wR_1, wR_2, Int.toNat_natCast, tnO, tn_add, tn_sub, tn_mul, Nat.add_sub_cancel, Nat.add_zero, Nat.zero_add, lnO, win_t, win_f]
/-! fractions, sums, orders -/
theorem frac_tr {a b c d e f : Int} (hb : 0 < b) (hd : 0 < d) (hf : 0 < f) (h1 : a * d < c * b) (h2 : c * f < e * d) : a * f < e * b := by
  have k1 : a * d * f < c * b * f := Int.mul_lt_mul_of_pos_right h1 hf
  have k2 : c * f * b < e * d * b := Int.mul_lt_mul_of_pos_right h2 hb
  have k3 : (a * f) * d < (e * b) * d := by
    have e1 : a * d * f = (a * f) * d := by rw [Int.mul_assoc, Int.mul_comm d f, ← Int.mul_assoc]
    have e2 : c * b * f = c * f * b := by rw [Int.mul_assoc, Int.mul_comm b f, ← Int.mul_assoc]
    have e3 : e * d * b = (e * b) * d := by rw [Int.mul_assoc, Int.mul_comm d b, ← Int.mul_assoc]
    omega
  exact Int.lt_of_mul_lt_mul_right k3 (by omega)
theorem frac_tr' {a b c d e f : Int} (hb : 0 < b) (hd : 0 < d) (hf : 0 < f) (h1 : a * d ≤ c * b) (h2 : c * f < e * d) : a * f < e * b := by
  have k1 : a * d * f ≤ c * b * f := Int.mul_le_mul_of_nonneg_right h1 (by omega)
  have k2 : c * f * b < e * d * b := Int.mul_lt_mul_of_pos_right h2 hb
  have k3 : (a * f) * d < (e * b) * d := by
    have e1 : a * d * f = (a * f) * d := by rw [Int.mul_assoc, Int.mul_comm d f, ← Int.mul_assoc]
    have e2 : c * b * f = c * f * b := by rw [Int.mul_assoc, Int.mul_comm b f, ← Int.mul_assoc]
    have e3 : e * d * b = (e * b) * d := by rw [Int.mul_assoc, Int.mul_comm d b, ← Int.mul_assoc]
    omega
  exact Int.lt_of_mul_lt_mul_right k3 (by omega)
def Sm (g : Nat → Nat) : Nat → Nat
  | 0 => 0
  | n + 1 => Sm g n + g n
theorem Sm_eq {g h : Nat → Nat} : ∀ n, (∀ i, i < n → g i = h i) → Sm g n = Sm h n := by
  intro n
  induction n with
  | zero => intro _; rfl
  | succ n ih => intro hh; unfold Sm; rw [ih (fun i hi => hh i (by omega)), hh n (by omega)]
theorem Sm_pt {g h : Nat → Nat} {p : Nat} : ∀ n, p < n → (∀ i, i < n → i ≠ p → g i = h i) → Sm g n + h p = Sm h n + g p := by
  intro n
  induction n with
  | zero => intro hp; omega
  | succ n ih =>
    intro hp hh
    unfold Sm
    by_cases e : p = n
    · subst e
      rw [Sm_eq p (fun i hi => hh i (by omega) (by omega))]
      omega
    · have := ih (by omega) (fun i hi hne => hh i (by omega) hne)
      rw [hh n (by omega) (by omega)]
      omega
theorem Sm_0 {g : Nat → Nat} : ∀ n, (∀ i, i < n → g i = 0) → Sm g n = 0 := by
  intro n
  induction n with
  | zero => intro _; rfl
  | succ n ih => intro h; unfold Sm; rw [ih (fun i hi => h i (by omega)), h n (by omega)]
theorem Sm_one {p : Nat} : ∀ n, p < n → Sm (fun f => if f = p then 1 else 0) n = 1 := by
  intro n
  induction n with
  | zero => intro h; omega
  | succ n ih =>
    intro h
    unfold Sm
    by_cases e : n = p
    · subst e
      rw [Sm_0 n (fun i hi => if_neg (by omega)), if_pos rfl]
    · rw [ih (by omega), if_neg e]
/-- a sum in another order -/
theorem reidx : ∀ (n : Nat) (O : Nat → Nat) (g : Nat → Nat), (∀ i, i < n → O i < n) → (∀ i j, i < n → j < n → O i = O j → i = j) → Sm (fun i => g (O i)) n = Sm g n := by
  intro n
  induction n with
  | zero => intro O g _ _; rfl
  | succ n ih =>
    intro O g h1 h2
    by_cases hn : O n = n
    · have hl : ∀ i, i < n → O i < n := fun i hi => by
        have := h1 i (by omega)
        have hne : O i ≠ n := fun e => by have := h2 i n (by omega) (by omega) (by omega); omega
        omega
      unfold Sm
      rw [ih O g hl (fun i j hi hj => h2 i j (by omega) (by omega)), hn]
    · have hOn : O n < n := by have := h1 n (by omega); omega
      have hex : ∃ p, p < n ∧ O p = n := by
        apply Classical.byContradiction
        intro hno
        have hl : ∀ i, i < n → O i < n := fun i hi => by
          have := h1 i (by omega)
          have hne : O i ≠ n := fun e => hno ⟨i, hi, e⟩
          omega
        have := ih O (fun f => if f = O n then 1 else 0) hl (fun i j hi hj => h2 i j (by omega) (by omega))
        rw [Sm_one n hOn, Sm_0 n (fun i hi => if_neg (fun e => by have := h2 i n (by omega) (by omega) e; omega))] at this
        omega
      obtain ⟨p, hp, hpn⟩ := hex
      have hu : ∀ i, i < n → i ≠ p → O i < n := fun i hi hne => by
        have := h1 i (by omega)
        have : O i ≠ n := fun e => hne (h2 i p (by omega) (by omega) (by omega))
        omega
      have := ih (fun i => if i = p then O n else O i) g (fun i hi => by
        by_cases e : i = p
        · rw [if_pos e]; exact hOn
        · rw [if_neg e]; exact hu i hi e) (fun i j hi hj e => by
        by_cases e1 : i = p
        · by_cases e2 : j = p
          · omega
          · rw [if_pos e1, if_neg e2] at e
            have := h2 n j (by omega) (by omega) e
            omega
        · by_cases e2 : j = p
          · rw [if_neg e1, if_pos e2] at e
            have := h2 i n (by omega) (by omega) e
            omega
          · rw [if_neg e1, if_neg e2] at e
            exact h2 i j (by omega) (by omega) e)
      have hpt := Sm_pt (g := fun i => g (O i)) (h := fun i => g (if i = p then O n else O i)) (p := p) n hp (fun i hi hne => by rw [if_neg hne])
      rw [if_pos rfl, hpn] at hpt
      unfold Sm
      omega
/-- a sum of a beginning -/
theorem Sm_seg {h : Nat → Nat} : ∀ n, (∀ i, i < n → h i = 0 ∨ h i = 1) → (∀ i j, i < j → j < n → h j = 1 → h i = 1) → Sm h n ≤ n ∧ (∀ i, i < Sm h n → h i = 1) ∧ ∀ i, Sm h n ≤ i → i < n → h i = 0 := by
  intro n
  induction n with
  | zero => intro _ _; exact ⟨Nat.le_refl _, fun i hi => absurd hi (by unfold Sm; omega), fun i _ hi => absurd hi (by omega)⟩
  | succ n ih =>
    intro h1 h2
    obtain ⟨k1, k2, k3⟩ := ih (fun i hi => h1 i (by omega)) (fun i j hi hj => h2 i j hi (by omega))
    unfold Sm
    rcases h1 n (by omega) with e | e
    · rw [e]
      refine ⟨by omega, fun i hi => k2 i (by omega), fun i hi hn => ?_⟩
      by_cases en : i = n
      · subst en; exact e
      · exact k3 i (by omega) (by omega)
    · have hall : Sm h n = n := by
        apply Classical.byContradiction
        intro hne
        have := k3 (Sm h n) (Nat.le_refl _) (by omega)
        have := h2 (Sm h n) n (by omega) (by omega) e
        omega
      rw [e, hall]
      refine ⟨Nat.le_refl _, fun i hi => ?_, fun i hi hn => by omega⟩
      by_cases en : i = n
      · subst en; exact e
      · exact k2 i (by omega)
/-- the told floors by height -/
def ORD (fc : Nat) (U L : Nat → Int) (O : Nat → Nat) : Prop := (∀ i, i < fc → O i < fc) ∧ (∀ k, k < fc → 0 < L k) ∧ ∀ i j, i < j → j < fc → U (O i) * L (O j) < U (O j) * L (O i)
theorem ORD.inj {fc : Nat} {U L : Nat → Int} {O : Nat → Nat} (h : ORD fc U L O) : ∀ i j, i < fc → j < fc → O i = O j → i = j := by
  intro i j hi hj e
  rcases Nat.lt_trichotomy i j with c | c | c
  · have := h.2.2 i j c hj; rw [e] at this; omega
  · exact c
  · have := h.2.2 j i c hi; rw [e] at this; omega
def blw (U L : Nat → Int) (u l : Int) : Nat → Nat := fun f => if U f * l < u * L f then 1 else 0
/-- how many told floors are below one, and which -/
theorem ORD.cnt {fc : Nat} {U L : Nat → Int} {O : Nat → Nat} (h : ORD fc U L O) {u l : Int} (hl : 0 < l) : Sm (blw U L u l) fc ≤ fc ∧ (∀ i, i < Sm (blw U L u l) fc → U (O i) * l < u * L (O i)) ∧ ∀ i, Sm (blw U L u l) fc ≤ i → i < fc → ¬ U (O i) * l < u * L (O i) := by
  rw [← reidx fc O (blw U L u l) h.1 h.inj]
  have := Sm_seg (h := fun i => blw U L u l (O i)) fc (fun i hi => by
    unfold blw
    split
    · exact Or.inr rfl
    · exact Or.inl rfl) (fun i j hij hj e => by
    unfold blw at e ⊢
    have hb : U (O j) * l < u * L (O j) := by
      apply Classical.byContradiction
      intro hn
      rw [if_neg hn] at e
      omega
    exact if_pos (frac_tr (h.2.1 _ (h.1 i (by omega))) (h.2.1 _ (h.1 j hj)) hl (h.2.2 i j hij hj) hb))
  refine ⟨this.1, fun i hi => ?_, fun i h1 h2 => ?_⟩
  · have := this.2.1 i hi
    unfold blw at this
    apply Classical.byContradiction
    intro hn
    rw [if_neg hn] at this
    omega
  · have := this.2.2 i h1 h2
    unfold blw at this
    intro hn
    rw [if_pos hn] at this
    omega
theorem ORD.place {fc : Nat} {U L : Nat → Int} {O : Nat → Nat} (h : ORD fc U L O) {p : Nat} (hp : p < fc) : Sm (blw U L (U (O p)) (L (O p))) fc = p := by
  obtain ⟨k1, k2, k3⟩ := h.cnt (u := U (O p)) (l := L (O p)) (h.2.1 _ (h.1 p hp))
  rcases Nat.lt_trichotomy (Sm (blw U L (U (O p)) (L (O p))) fc) p with c | c | c
  · exact absurd (h.2.2 _ p c hp) (k3 _ (Nat.le_refl _) (by omega))
  · exact c
  · have := k2 p c; omega
theorem ORD.sur {fc : Nat} {U L : Nat → Int} {O : Nat → Nat} (h : ORD fc U L O) {k : Nat} (hk : k < fc) : ∃ p, p < fc ∧ O p = k := by
  apply Classical.byContradiction
  intro hno
  have := reidx fc O (fun f => if f = k then 1 else 0) h.1 h.inj
  rw [Sm_one fc hk, Sm_0 fc (fun i hi => if_neg (fun e => hno ⟨i, hi, e⟩))] at this
  omega
