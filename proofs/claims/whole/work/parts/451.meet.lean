/-! who meets whom -/
theorem frqn {a b c d : Nat} (h1 : Nat.Coprime a b) (h2 : Nat.Coprime c d) (hb : 1 ≤ b) (h : a * d = c * b) : a = c ∧ b = d := by
  have e1 : b ∣ d := by
    have : b ∣ a * d := ⟨c, by rw [h, Nat.mul_comm]⟩
    exact Nat.Coprime.dvd_of_dvd_mul_left (Nat.coprime_comm.mp h1) this
  have e2 : d ∣ b := by
    have : d ∣ c * b := ⟨a, by rw [← h, Nat.mul_comm]⟩
    exact Nat.Coprime.dvd_of_dvd_mul_left (Nat.coprime_comm.mp h2) this
  have e3 : b = d := Nat.dvd_antisymm e1 e2
  subst e3
  exact ⟨Nat.eq_of_mul_eq_mul_right (by omega) h, rfl⟩
theorem frq {a b c d : Int} (ha : 0 ≤ a) (hc : 0 ≤ c) (h1 : Int.gcd a b = 1) (h2 : Int.gcd c d = 1) (hb : 1 ≤ b) (hd : 1 ≤ d) (h : a * d = c * b) : a = c ∧ b = d := by
  obtain ⟨a, rfl⟩ := Int.eq_ofNat_of_zero_le ha
  obtain ⟨b, rfl⟩ := Int.eq_ofNat_of_zero_le (show 0 ≤ b by omega)
  obtain ⟨c, rfl⟩ := Int.eq_ofNat_of_zero_le hc
  obtain ⟨d, rfl⟩ := Int.eq_ofNat_of_zero_le (show 0 ≤ d by omega)
  rw [← Int.natCast_mul, ← Int.natCast_mul] at h
  have := frqn (a := a) (b := b) (c := c) (d := d) h1 h2 (by omega) (by omega)
  omega
abbrev fbl (x y : FR) : Prop := x.1 * y.2 < y.1 * x.2
theorem fbl_tr {x y z : FR} (hx : 1 ≤ x.2) (hy : 1 ≤ y.2) (hz : 1 ≤ z.2) (h1 : fbl x y) (h2 : fbl y z) : fbl x z := by
  unfold fbl at *
  have a1 := Int.mul_lt_mul_of_pos_right h1 (show 0 < z.2 by omega)
  have a2 := Int.mul_lt_mul_of_pos_right h2 (show 0 < x.2 by omega)
  have e : x.1 * z.2 * y.2 < z.1 * x.2 * y.2 := by
    have p1 : x.1 * y.2 * z.2 = x.1 * z.2 * y.2 := by rw [Int.mul_assoc, Int.mul_comm y.2, ← Int.mul_assoc]
    have p2 : y.1 * x.2 * z.2 = y.1 * z.2 * x.2 := by rw [Int.mul_assoc, Int.mul_comm x.2, ← Int.mul_assoc]
    have p3 : z.1 * y.2 * x.2 = z.1 * x.2 * y.2 := by rw [Int.mul_assoc, Int.mul_comm y.2, ← Int.mul_assoc]
    rw [← p1, ← p3]
    rw [p2] at a1
    exact Int.lt_trans a1 a2
  exact Int.lt_of_mul_lt_mul_right e (by omega)
theorem fbl_eq {tp : Int} {x y : FR} (hx : FLR tp x.1 x.2) (hy : FLR tp y.1 y.2) (h1 : ¬ fbl x y) (h2 : ¬ fbl y x) : x = y := by
  unfold fbl at h1 h2
  have xb := hx.b
  have yb := hy.b
  obtain ⟨p1, p2⟩ := frq (a := x.1) (b := x.2) (c := y.1) (d := y.2) (by omega) (by omega) hx.2.2.2.2.2 hy.2.2.2.2.2 (by omega) (by omega) (by omega)
  exact Prod.ext p1 p2
theorem mem_AD {R : List FR} {x z : FR} : z ∈ AD R x ↔ z ∈ R ∨ z = x := by
  unfold AD
  split
  · next c => exact ⟨Or.inl, fun h => h.elim id (fun e => by rw [e]; exact c)⟩
  · rw [List.mem_append, List.mem_singleton]
theorem mem_SP1 {al : Nat → Int32} {R : List FR} {x z : FR} {b : Nat} : z ∈ SP1 al R x b ↔ z ∈ R ∨ ((LE al b x).1 = 0 ∧ (LE al b x).2 = z) := by
  unfold SP1
  split
  · next c => rw [mem_AD]; exact ⟨fun h => h.elim Or.inl (fun e => Or.inr ⟨c, e.symm⟩), fun h => h.elim Or.inl (fun e => Or.inr e.2.symm)⟩
  · next c => exact ⟨Or.inl, fun h => h.elim id (fun e => absurd e.1 c)⟩
theorem mem_SPB {al : Nat → Int32} {x z : FR} : ∀ n b R, z ∈ SPB al x n b R ↔ z ∈ R ∨ ∃ b', b ≤ b' ∧ b' < b + n ∧ (LE al (b' : Nat) x).1 = 0 ∧ (LE al (b' : Nat) x).2 = z := by
  intro n
  induction n with
  | zero =>
    intro b R
    refine ⟨Or.inl, fun h => h.elim id (fun ⟨b', h1, h2, _⟩ => by omega)⟩
  | succ n ih =>
    intro b R
    unfold SPB
    rw [ih, mem_SP1]
    constructor
    · rintro ((h | h) | ⟨b', h1, h2, h3⟩)
      · exact Or.inl h
      · exact Or.inr ⟨b, by omega, by omega, h⟩
      · exact Or.inr ⟨b', by omega, by omega, h3⟩
    · rintro (h | ⟨b', h1, h2, h3⟩)
      · exact Or.inl (Or.inl h)
      · by_cases c : b' = b
        · subst c; exact Or.inl (Or.inr h3)
        · exact Or.inr ⟨b', by omega, by omega, h3⟩
def NX (al : Nat → Int32) (bc : Nat) (P : List FR) (z : FR) : Prop := ∃ x ∈ P, ∃ b, b < bc ∧ (LE al (b : Nat) x).1 = 0 ∧ (LE al (b : Nat) x).2 = z
theorem NX_c {al : Nat → Int32} {bc : Nat} {x z : FR} {P : List FR} : NX al bc (x :: P) z ↔ (∃ b, 0 ≤ b ∧ b < 0 + bc ∧ (LE al (b : Nat) x).1 = 0 ∧ (LE al (b : Nat) x).2 = z) ∨ NX al bc P z := by
  unfold NX
  constructor
  · rintro ⟨y, hy, b, h⟩
    rcases List.mem_cons.mp hy with rfl | hy
    · exact Or.inl ⟨b, by omega, by omega, h.2⟩
    · exact Or.inr ⟨y, hy, b, h⟩
  · rintro (⟨b, -, h1, h2⟩ | ⟨y, hy, b, h⟩)
    · exact ⟨x, List.mem_cons_self, b, by omega, h2⟩
    · exact ⟨y, List.mem_cons_of_mem _ hy, b, h⟩
theorem mem_SPR {al : Nat → Int32} {bc : Nat} {z : FR} : ∀ P R, z ∈ SPR al bc P R ↔ z ∈ R ∨ NX al bc P z := by
  intro P
  induction P with
  | nil => intro R; exact ⟨Or.inl, fun h => h.elim id (fun ⟨x, hx, _⟩ => (List.not_mem_nil hx).elim)⟩
  | cons x P ih =>
    intro R
    unfold SPR
    rw [ih, mem_SPB, NX_c, or_assoc]
theorem mem_SPW {al : Nat → Int32} {bc w : Nat} {z : FR} : ∀ P R, z ∈ SPW al bc w P R ↔ z ∈ R ∨ (w ≠ 0 ∧ z ∈ P) ∨ NX al bc P z := by
  intro P
  induction P with
  | nil => intro R; exact ⟨Or.inl, fun h => h.elim id (fun h => h.elim (fun h => (List.not_mem_nil h.2).elim) (fun ⟨x, hx, _⟩ => (List.not_mem_nil hx).elim))⟩
  | cons x P ih =>
    intro R
    unfold SPW
    rw [ih, mem_SPB, NX_c, List.mem_cons]
    by_cases c : w = 0
    · rw [if_pos c]
      constructor
      · rintro ((h | h) | (h | h))
        · exact Or.inl h
        · exact Or.inr (Or.inr (Or.inl h))
        · exact absurd c h.1
        · exact Or.inr (Or.inr (Or.inr h))
      · rintro (h | (h | (h | h)))
        · exact Or.inl (Or.inl h)
        · exact absurd c h.1
        · exact Or.inl (Or.inr h)
        · exact Or.inr (Or.inr h)
    · rw [if_neg c, mem_AD]
      constructor
      · rintro (((h | h) | h) | (h | h))
        · exact Or.inl h
        · exact Or.inr (Or.inl ⟨c, Or.inl h⟩)
        · exact Or.inr (Or.inr (Or.inl h))
        · exact Or.inr (Or.inl ⟨c, Or.inr h.2⟩)
        · exact Or.inr (Or.inr (Or.inr h))
      · rintro (h | (⟨-, h | h⟩ | (h | h)))
        · exact Or.inl (Or.inl (Or.inl h))
        · exact Or.inl (Or.inl (Or.inr h))
        · exact Or.inr (Or.inl ⟨c, h⟩)
        · exact Or.inl (Or.inr h)
        · exact Or.inr (Or.inr h)
def QY (al : Nat → Int32) (bc w : Nat) (x : FR) : Nat → List FR
  | 0 => [x]
  | k + 1 => SPR al bc (QY al bc w x k) (if w = 0 then [] else QY al bc w x k)
def LW (al : Nat → Int32) (bc w : Nat) (x : FR) : Nat → List FR
  | 0 => [x]
  | k + 1 => SPW al bc w (LW al bc w x k) []
theorem NX_e {al : Nat → Int32} {bc : Nat} {P Q : List FR} (h : ∀ z, z ∈ P ↔ z ∈ Q) (z : FR) : NX al bc P z ↔ NX al bc Q z := by
  unfold NX
  constructor
  · rintro ⟨x, hx, r⟩; exact ⟨x, (h x).mp hx, r⟩
  · rintro ⟨x, hx, r⟩; exact ⟨x, (h x).mpr hx, r⟩
theorem LW_QY (al : Nat → Int32) (bc w : Nat) (x : FR) : ∀ k z, z ∈ LW al bc w x k ↔ z ∈ QY al bc w x k := by
  intro k
  induction k with
  | zero => intro z; exact Iff.rfl
  | succ k ih =>
    intro z
    show z ∈ SPW al bc w (LW al bc w x k) [] ↔ z ∈ SPR al bc (QY al bc w x k) (if w = 0 then [] else QY al bc w x k)
    rw [mem_SPW, mem_SPR, NX_e ih, ih]
    by_cases c : w = 0
    · rw [if_pos c]
      constructor
      · rintro (h | (h | h))
        · exact Or.inl h
        · exact absurd c h.1
        · exact Or.inr h
      · rintro (h | h)
        · exact Or.inl h
        · exact Or.inr (Or.inr h)
    · rw [if_neg c]
      constructor
      · rintro (h | (h | h))
        · exact (List.not_mem_nil h).elim
        · exact Or.inl h.2
        · exact Or.inr h
      · rintro (h | h)
        · exact Or.inr (Or.inl ⟨c, h⟩)
        · exact Or.inr (Or.inr h)
theorem QY_len (al : Nat → Int32) {bc : Nat} (hbc : bc ≤ 6) (w : Nat) (x : FR) : ∀ k, (QY al bc w x k).length ≤ 7 ^ k := by
  intro k
  induction k with
  | zero => exact Nat.le_refl _
  | succ k ih =>
    have h1 := SPR_len al hbc (QY al bc w x k) (if w = 0 then [] else QY al bc w x k)
    have h2 : (if w = 0 then [] else QY al bc w x k).length ≤ (QY al bc w x k).length := by
      split
      · exact Nat.zero_le _
      · exact Nat.le_refl _
    show (SPR al bc (QY al bc w x k) (if w = 0 then [] else QY al bc w x k)).length ≤ _
    rw [Nat.pow_succ]
    omega
theorem LW_len (al : Nat → Int32) {bc : Nat} (hbc : bc ≤ 6) {w : Nat} (hw : w ≤ 1) (x : FR) : ∀ k, (LW al bc w x k).length ≤ 7 ^ k := by
  intro k
  induction k with
  | zero => exact Nat.le_refl _
  | succ k ih =>
    have h1 := SPW_len al hbc hw (LW al bc w x k) []
    have h2 : (6 + w) * (LW al bc w x k).length ≤ 7 * (LW al bc w x k).length := Nat.mul_le_mul_right _ (by omega)
    have e : ([] : List FR).length = 0 := rfl
    show (SPW al bc w (LW al bc w x k) []).length ≤ _
    rw [Nat.pow_succ]
    omega
theorem FLS.ly {al : Nat → Int32} (hw : WA al) (bc : Nat) {x : FR} (hx : FLR (A al 1) x.1 x.2) : ∀ k, FLS (A al 1) (LY al bc x k) := by
  intro k
  induction k with
  | zero => exact FLS.one hx
  | succ k ih => exact FLS.spr hw bc _ _ ih (fun y hy => (List.not_mem_nil hy).elim)
theorem FLS.qy {al : Nat → Int32} (hw : WA al) (bc w : Nat) {x : FR} (hx : FLR (A al 1) x.1 x.2) : ∀ k, FLS (A al 1) (QY al bc w x k) := by
  intro k
  induction k with
  | zero => exact FLS.one hx
  | succ k ih =>
    refine FLS.spr hw bc _ _ ih ?_
    split
    · exact fun y hy => (List.not_mem_nil hy).elim
    · exact ih
theorem FLS.lw {al : Nat → Int32} (hw : WA al) (bc w : Nat) {x : FR} (hx : FLR (A al 1) x.1 x.2) (k : Nat) : FLS (A al 1) (LW al bc w x k) := fun y hy => FLS.qy hw bc w hx k y ((LW_QY al bc w x k y).mp hy)
/-! the least that two have -/
def LCX (P Q : List FR) : Nat → Nat → Int → Int
  | 0, _, b => b
  | n + 1, i, b => LCX P Q n (i + 1) (if (b = -1 ∨ fbl (gt Q i) (gt Q b.toNat)) ∧ gt Q i ∈ P then (i : Int) else b)
def LCI (P Q : List FR) (i : Nat) (b : Int) : Prop := (b = -1 ∧ ∀ k, k < i → ¬ gt Q k ∈ P) ∨ ∃ j : Nat, b = j ∧ j < i ∧ gt Q j ∈ P ∧ ∀ k, k < i → gt Q k ∈ P → ¬ fbl (gt Q k) (gt Q j)
theorem LCX_i {tp : Int} {P Q : List FR} (hQ : FLS tp Q) : ∀ n i b, i + n = Q.length → LCI P Q i b → LCI P Q Q.length (LCX P Q n i b) := by
  intro n
  induction n with
  | zero => intro i b hi h; have : i = Q.length := hi; rw [← this]; exact h
  | succ n ih =>
    intro i b hi h
    unfold LCX
    refine ih (i + 1) _ (by omega) ?_
    have bi := (hQ.at (i := i) (by omega)).b
    by_cases cP : gt Q i ∈ P
    · by_cases cb : b = -1 ∨ fbl (gt Q i) (gt Q b.toNat)
      · rw [if_pos ⟨cb, cP⟩]
        refine Or.inr ⟨i, rfl, by omega, cP, fun k hk hkP => ?_⟩
        by_cases ck : k = i
        · rw [ck]; unfold fbl; omega
        · rcases h with ⟨h1, h2⟩ | ⟨j, rfl, h2, h3, h4⟩
          · exact absurd hkP (h2 k (by omega))
          · rw [Int.toNat_natCast] at cb
            have cb' : fbl (gt Q i) (gt Q j) := by rcases cb with h | h; omega; exact h
            have bk := (hQ.at (i := k) (by omega)).b
            have bj := (hQ.at (i := j) (by omega)).b
            exact fun h => h4 k (by omega) hkP (fbl_tr (by omega) (by omega) (by omega) h cb')
      · rw [if_neg (fun h => cb h.1)]
        rcases h with ⟨h1, h2⟩ | ⟨j, rfl, h2, h3, h4⟩
        · exact absurd (Or.inl h1) cb
        · rw [Int.toNat_natCast] at cb
          refine Or.inr ⟨j, rfl, by omega, h3, fun k hk hkP => ?_⟩
          by_cases ck : k = i
          · rw [ck]; exact fun h => cb (Or.inr h)
          · exact h4 k (by omega) hkP
    · rw [if_neg (fun h => cP h.2)]
      rcases h with ⟨h1, h2⟩ | ⟨j, rfl, h2, h3, h4⟩
      · refine Or.inl ⟨h1, fun k hk => ?_⟩
        by_cases ck : k = i
        · rw [ck]; exact cP
        · exact h2 k (by omega)
      · refine Or.inr ⟨j, rfl, by omega, h3, fun k hk hkP => ?_⟩
        by_cases ck : k = i
        · rw [ck] at hkP; exact absurd hkP cP
        · exact h4 k (by omega) hkP
def LCO (P Q : List FR) : Option FR := if LCX P Q Q.length 0 (-1) = -1 then none else some (gt Q (LCX P Q Q.length 0 (-1)).toNat)
theorem LCO_s {tp : Int} {P Q : List FR} (hQ : FLS tp Q) : (LCO P Q = none ∧ ∀ z, z ∈ Q → ¬ z ∈ P) ∨ ∃ y, LCO P Q = some y ∧ y ∈ Q ∧ y ∈ P ∧ ∀ z, z ∈ Q → z ∈ P → ¬ fbl z y := by
  have h := LCX_i (P := P) hQ Q.length 0 (-1) (by omega) (Or.inl ⟨rfl, fun k hk => by omega⟩)
  unfold LCO
  rcases h with ⟨h1, h2⟩ | ⟨j, h1, h2, h3, h4⟩
  · rw [if_pos h1]
    refine Or.inl ⟨rfl, fun z hz => ?_⟩
    obtain ⟨i, i1, rfl⟩ := mem_gt hz
    exact h2 i i1
  · rw [if_neg (by omega), h1, Int.toNat_natCast]
    refine Or.inr ⟨_, rfl, gt_mem h2, h3, fun z hz hzP => ?_⟩
    obtain ⟨i, i1, rfl⟩ := mem_gt hz
    exact h4 i i1 hzP
theorem LCO_sw {tp : Int} {P Q Q' : List FR} (hP : FLS tp P) (hQ : FLS tp Q) (e : ∀ z, z ∈ Q' ↔ z ∈ Q) : LCO Q' P = LCO P Q := by
  rcases LCO_s (P := Q') hP with ⟨h1, h2⟩ | ⟨y, h1, h2, h3, h4⟩
  · rcases LCO_s (P := P) hQ with ⟨k1, k2⟩ | ⟨z, k1, k2, k3, k4⟩
    · rw [h1, k1]
    · exact absurd ((e z).mpr k2) (h2 z k3)
  · rcases LCO_s (P := P) hQ with ⟨k1, k2⟩ | ⟨z, k1, k2, k3, k4⟩
    · exact absurd h2 (k2 y ((e y).mp h3))
    · rw [h1, k1, fbl_eq (hP y h2) (hP z k3) (k4 y ((e y).mp h3) h2) (h4 z k3 ((e z).mpr k2))]
def MTF (al : Nat → Int32) (bc w : Nat) (x y : FR) : Nat → Nat → Option (Nat × FR)
  | 0, _ => none
  | n + 1, k => match LCO (LY al bc x k) (QY al bc w y k) with
    | some f => some (k, f)
    | none => MTF al bc w x y n (k + 1)
