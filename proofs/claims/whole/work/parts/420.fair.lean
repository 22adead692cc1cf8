/-! PURE: the fairest floor -/
def LC (x w : Nat) : Nat := x / Nat.gcd x w * w
theorem LC_p {x w : Nat} (hx : 1 ≤ x) (hw : 1 ≤ w) : 1 ≤ LC x w ∧ LC x w ≤ x * w ∧ x ∣ LC x w ∧ w ∣ LC x w := by
  have hg : 0 < Nat.gcd x w := Nat.gcd_pos_of_pos_left _ (by omega)
  obtain ⟨a, ha⟩ := Nat.gcd_dvd_left x w
  obtain ⟨b, hb⟩ := Nat.gcd_dvd_right x w
  unfold LC
  generalize Nat.gcd x w = g at *
  have e : x / g = a := by rw [ha, Nat.mul_div_cancel_left _ hg]
  rw [e]
  have ha1 : 1 ≤ a := by
    rcases Nat.eq_zero_or_pos a with z | z
    · rw [z] at ha; omega
    · exact z
  refine ⟨Nat.mul_pos ha1 hw, ?_, ⟨b, ?_⟩, ⟨a, Nat.mul_comm _ _⟩⟩
  · refine Nat.mul_le_mul_right w ?_
    rw [ha]
    exact Nat.le_mul_of_pos_left a hg
  · rw [ha, hb, Nat.mul_comm g a, Nat.mul_assoc, ← Nat.mul_assoc a]
def LCF (W : Nat → Nat) (t : Nat) : Nat → Nat → Nat → Nat
  | 0, _, x => x
  | n + 1, u, x => LCF W t n (u + 1) (if u = t then x else LC x (W u))
theorem LCF_p {W : Nat → Nat} {t : Nat} : ∀ (n u x : Nat), 1 ≤ x → (∀ i, u ≤ i → i < u + n → 1 ≤ W i ∧ W i ≤ 99) → 1 ≤ LCF W t n u x ∧ LCF W t n u x ≤ x * 99 ^ n ∧ x ∣ LCF W t n u x ∧ ∀ i, u ≤ i → i < u + n → i ≠ t → W i ∣ LCF W t n u x := by
  intro n
  induction n with
  | zero => intro u x hx _; exact ⟨hx, by simp [LCF], Nat.dvd_refl _, fun i h1 h2 => by omega⟩
  | succ n ih =>
    intro u x hx hW
    obtain ⟨w1, w2⟩ := hW u (by omega) (by omega)
    unfold LCF
    by_cases c : u = t
    · rw [if_pos c]
      obtain ⟨k1, k2, k3, k4⟩ := ih (u + 1) x hx (fun i h1 h2 => hW i (by omega) (by omega))
      refine ⟨k1, ?_, k3, fun i h1 h2 h3 => k4 i (by omega) (by omega) h3⟩
      rw [Nat.pow_succ]
      have : x * 99 ^ n * 1 ≤ x * 99 ^ n * 99 := Nat.mul_le_mul_left _ (by omega)
      rw [Nat.mul_assoc] at this
      rw [← Nat.mul_assoc]
      omega
    · rw [if_neg c]
      obtain ⟨l1, l2, l3, l4⟩ := LC_p hx w1
      obtain ⟨k1, k2, k3, k4⟩ := ih (u + 1) (LC x (W u)) l1 (fun i h1 h2 => hW i (by omega) (by omega))
      refine ⟨k1, ?_, Nat.dvd_trans l3 k3, fun i h1 h2 h3 => ?_⟩
      · have e1 : LC x (W u) * 99 ^ n ≤ x * 99 * 99 ^ n := Nat.mul_le_mul_right _ (Nat.le_trans l2 (Nat.mul_le_mul_left x w2))
        rw [Nat.pow_succ, Nat.mul_comm (99 ^ n) 99, ← Nat.mul_assoc]
        omega
      · by_cases e : i = u
        · subst e; exact Nat.dvd_trans l4 k3
        · exact k4 i (by omega) (by omega) h3
/-- how far a spot is from the others, by the class; a fraction, by the reference -/
def GF (V W : Nat → Int) (t : Nat) (unit x : Int) : Nat → Nat → Int → Int
  | 0, _, s => s
  | n + 1, u, s => GF V W t unit x n (u + 1) (if u = t then s else s + ((x - unit.tdiv (W u) * V u).natAbs : Int))
def HF (V W : Nat → Int) (t : Nat) (p q by_ : Int) : Nat → Nat → Int → Int
  | 0, _, s => s
  | n + 1, u, s => HF V W t p q by_ n (u + 1) (if u = t then s else s + ((p * W u - V u * q).natAbs : Int) * by_.tdiv (W u))
theorem GH {V W : Nat → Int} {t : Nat} {unit k p q by_ : Int} (hu : unit = q * k) (hq : 1 ≤ q) (hk : 0 ≤ k) (hb : 1 ≤ by_) : ∀ (n u : Nat) (s r : Int), (∀ i, u ≤ i → i < u + n → i ≠ t → 1 ≤ W i ∧ W i ∣ unit ∧ W i ∣ by_) → s * (by_ * q) = r * unit → GF V W t unit (p * k) n u s * (by_ * q) = HF V W t p q by_ n u r * unit := by
  intro n
  induction n with
  | zero => intro u s r _ h; exact h
  | succ n ih =>
    intro u s r hW h
    unfold GF HF
    by_cases c : u = t
    · rw [if_pos c, if_pos c]
      exact ih (u + 1) s r (fun i h1 h2 => hW i (by omega) (by omega)) h
    · rw [if_neg c, if_neg c]
      refine ih (u + 1) _ _ (fun i h1 h2 => hW i (by omega) (by omega)) ?_
      obtain ⟨w1, ⟨j, hj⟩, ⟨i, hi⟩⟩ := hW u (by omega) (by omega) c
      have e1 : unit.tdiv (W u) = j := by rw [hj]; exact Int.mul_tdiv_cancel_left _ (by omega)
      have e2 : by_.tdiv (W u) = i := by rw [hi]; exact Int.mul_tdiv_cancel_left _ (by omega)
      rw [e1, e2, Int.add_mul, Int.add_mul, h]
      congr 1
      have hi0 : 0 ≤ i := by
        apply Classical.byContradiction
        intro hn
        have : W u * i < 0 := Int.mul_neg_of_pos_of_neg (by omega) (by omega)
        omega
      have hj0 : 0 ≤ unit := by rw [hu]; exact Int.mul_nonneg (by omega) hk
      have a1 : ((p * k - j * V u).natAbs : Int) * (by_ * q) = (((p * k - j * V u) * (by_ * q)).natAbs : Int) := by
        rw [Int.natAbs_mul, Int.natCast_mul]
        congr 1
        have : 0 ≤ by_ * q := Int.mul_nonneg (by omega) (by omega)
        omega
      have a2 : ((p * W u - V u * q).natAbs : Int) * i * unit = (((p * W u - V u * q) * (i * unit)).natAbs : Int) := by
        rw [Int.natAbs_mul, Int.natCast_mul, Int.mul_assoc]
        congr 1
        have : 0 ≤ i * unit := Int.mul_nonneg hi0 hj0
        omega
      rw [a1, a2]
      congr 2
      calc (p * k - j * V u) * (by_ * q) = p * (q * k) * by_ - j * V u * by_ * q := by grind
        _ = p * unit * by_ - j * V u * by_ * q := by rw [← hu]
        _ = p * unit * (W u * i) - j * V u * (W u * i) * q := by rw [← hi]
        _ = p * W u * (i * unit) - (W u * j) * V u * q * i := by grind
        _ = p * W u * (i * unit) - unit * V u * q * i := by rw [← hj]
        _ = (p * W u - V u * q) * (i * unit) := by grind
theorem GF_b {V W : Nat → Int} {t : Nat} {unit x B : Int} (hB : 0 ≤ B) (hx : 0 ≤ x ∧ x ≤ B) : ∀ (n u : Nat) (s : Int), (∀ i, u ≤ i → i < u + n → 0 ≤ unit.tdiv (W i) * V i ∧ unit.tdiv (W i) * V i ≤ B) → s ≤ GF V W t unit x n u s ∧ GF V W t unit x n u s ≤ s + n * B := by
  intro n
  induction n with
  | zero => intro u s _; unfold GF; omega
  | succ n ih =>
    intro u s h
    obtain ⟨h1, h2⟩ := h u (by omega) (by omega)
    unfold GF
    have e : ((n + 1 : Nat) : Int) * B = (n : Int) * B + B := by rw [Int.natCast_add, Int.add_mul]; simp
    by_cases c : u = t
    · rw [if_pos c]
      have := ih (u + 1) s (fun i h1 h2 => h i (by omega) (by omega))
      omega
    · rw [if_neg c]
      have := ih (u + 1) (s + ((x - unit.tdiv (W u) * V u).natAbs : Int)) (fun i h1 h2 => h i (by omega) (by omega))
      omega
theorem HF_b {V W : Nat → Int} {t : Nat} {p q by_ B : Int} (hB : 0 ≤ B) : ∀ (n u : Nat) (s : Int), (∀ i, u ≤ i → i < u + n → 0 ≤ ((p * W i - V i * q).natAbs : Int) * by_.tdiv (W i) ∧ ((p * W i - V i * q).natAbs : Int) * by_.tdiv (W i) ≤ B) → s ≤ HF V W t p q by_ n u s ∧ HF V W t p q by_ n u s ≤ s + n * B := by
  intro n
  induction n with
  | zero => intro u s _; unfold HF; omega
  | succ n ih =>
    intro u s h
    obtain ⟨h1, h2⟩ := h u (by omega) (by omega)
    unfold HF
    have e : ((n + 1 : Nat) : Int) * B = (n : Int) * B + B := by rw [Int.natCast_add, Int.add_mul]; simp
    by_cases c : u = t
    · rw [if_pos c]
      have := ih (u + 1) s (fun i h1 h2 => h i (by omega) (by omega))
      omega
    · rw [if_neg c]
      have := ih (u + 1) (s + ((p * W u - V u * q).natAbs : Int) * by_.tdiv (W u)) (fun i h1 h2 => h i (by omega) (by omega))
      omega
/-! the folds: class (far, spot), reference (up, low, least) -/
def FCp (G : Int → Int) (k : Int) : Nat → Nat → FR → FR
  | 0, _, y => y
  | n + 1, p, y => if y.1 = -1 ∨ G (p * k) < y.1 ∨ (G (p * k) = y.1 ∧ p * k < y.2) then FCp G k n (p + 1) (G (p * k), p * k) else FCp G k n (p + 1) y
def FCq (G : Int → Int) (unit : Int) (tp : Nat) : Nat → Nat → FR → FR
  | 0, _, y => y
  | n + 1, q, y => FCq G unit tp n (q + 1) (FCp G (unit.tdiv q) (tp * q + 1) 0 y)
abbrev F3 : Type := Int × Int × Int
def FRp (H : Int → Int → Int) (q : Nat) : Nat → Nat → F3 → F3
  | 0, _, y => y
  | n + 1, p, y => if Nat.gcd p q = 1 ∧ (y.1 = -1 ∨ H p q * y.2.1 < y.2.2 * q ∨ (H p q * y.2.1 = y.2.2 * q ∧ (p : Int) * y.2.1 < y.1 * q)) then FRp H q n (p + 1) ((p : Int), (q : Int), H p q) else FRp H q n (p + 1) y
def FRq (H : Int → Int → Int) (tp : Nat) : Nat → Nat → F3 → F3
  | 0, _, y => y
  | n + 1, q, y => FRq H tp n (q + 1) (FRp H q (tp * q + 1) 0 y)
/-- best so far: y of the class, z of the reference; all spots that D holds have been looked at -/
def FI (G : Int → Int) (unit by_ : Int) (D : Int → Prop) (y : FR) (z : F3) : Prop := ((y.1 = -1 ∧ z.1 = -1) ∨ (0 ≤ y.1 ∧ 0 ≤ y.2 ∧ 0 ≤ z.1 ∧ 1 ≤ z.2.1 ∧ z.2.1 ≤ 12 ∧ y.2 * z.2.1 = z.1 * unit ∧ y.1 * (by_ * z.2.1) = z.2.2 * unit ∧ Int.gcd z.1 z.2.1 = 1)) ∧ (y.1 = -1 → ∀ x, ¬ D x) ∧ ∀ x, D x → y.1 < G x ∨ (y.1 = G x ∧ y.2 ≤ x)
theorem mulc {a b c d k l : Int} (hk : 0 < k) (hl : 0 < l) (h1 : a * k = c * l) (h2 : b * k = d * l) : (a < b ↔ c < d) ∧ (a = b ↔ c = d) := by
  constructor
  · constructor
    · intro h
      have : a * k < b * k := Int.mul_lt_mul_of_pos_right h hk
      rw [h1, h2] at this
      exact Int.lt_of_mul_lt_mul_right this (by omega)
    · intro h
      have : c * l < d * l := Int.mul_lt_mul_of_pos_right h hl
      rw [← h1, ← h2] at this
      exact Int.lt_of_mul_lt_mul_right this (by omega)
  · constructor
    · intro h
      rw [h, h2] at h1
      exact (Int.eq_of_mul_eq_mul_right (by omega) h1).symm
    · intro h
      rw [h, ← h2] at h1
      exact Int.eq_of_mul_eq_mul_right (by omega) h1
theorem FI_p {G : Int → Int} {H : Int → Int → Int} {unit by_ k : Int} {q : Nat} (hu : unit = (q : Int) * k) (hq : 1 ≤ q ∧ q ≤ 12) (hk : 1 ≤ k) (hb : 1 ≤ by_) (hG : ∀ x, 0 ≤ G x) (hGH : ∀ p : Nat, G (p * k) * (by_ * q) = H p q * unit) : ∀ (n p : Nat) (D : Int → Prop) (y : FR) (z : F3), (∀ i : Nat, p ≤ i → i < p + n → Nat.gcd i q ≠ 1 → D (i * k)) → FI G unit by_ D y z → FI G unit by_ (fun x => D x ∨ ∃ i : Nat, p ≤ i ∧ i < p + n ∧ x = i * k) (FCp G k n p y) (FRp H q n p z) := by
  intro n
  induction n with
  | zero =>
    intro p D y z _ h
    obtain ⟨h1, h2, h3⟩ := h
    refine ⟨h1, fun e x hx => ?_, fun x hx => ?_⟩
    · rcases hx with hx | ⟨i, a, b, -⟩
      · exact h2 e x hx
      · omega
    · rcases hx with hx | ⟨i, a, b, -⟩
      · exact h3 x hx
      · omega
  | succ n ih =>
    intro p D y z hD h
    obtain ⟨h1, h2, h3⟩ := h
    have step : FI G unit by_ (fun x => D x ∨ x = p * k) (if y.1 = -1 ∨ G (p * k) < y.1 ∨ (G (p * k) = y.1 ∧ p * k < y.2) then (G (p * k), p * k) else y) (if Nat.gcd p q = 1 ∧ (z.1 = -1 ∨ H p q * z.2.1 < z.2.2 * q ∨ (H p q * z.2.1 = z.2.2 * q ∧ (p : Int) * z.2.1 < z.1 * q)) then ((p : Int), (q : Int), H p q) else z) := by
      have hgp := hG (p * k)
      have hpk : 0 ≤ (p : Int) * k := Int.mul_nonneg (by omega) (by omega)
      have hup : 0 < unit := by rw [hu]; exact Int.mul_pos (by omega) (by omega)
      -- both take alike, where p by q is in lowest terms
      have same : Nat.gcd p q = 1 → ((y.1 = -1 ∨ G (p * k) < y.1 ∨ (G (p * k) = y.1 ∧ p * k < y.2)) ↔ (z.1 = -1 ∨ H p q * z.2.1 < z.2.2 * q ∨ (H p q * z.2.1 = z.2.2 * q ∧ (p : Int) * z.2.1 < z.1 * q))) := fun _ => by
        rcases h1 with ⟨a, b⟩ | ⟨a1, a2, a3, a4, a4', a5, a6, -⟩
        · exact ⟨fun _ => Or.inl b, fun _ => Or.inl a⟩
        · have m1 := mulc (a := G (p * k)) (b := y.1) (c := H p q * z.2.1) (d := z.2.2 * q) (k := by_ * q * z.2.1) (l := unit) (Int.mul_pos (Int.mul_pos (by omega) (by omega)) (by omega)) hup (by
            calc G (p * k) * (by_ * q * z.2.1) = (G (p * k) * (by_ * q)) * z.2.1 := by grind
              _ = (H p q * unit) * z.2.1 := by rw [hGH]
              _ = H p q * z.2.1 * unit := by grind) (by
            calc y.1 * (by_ * q * z.2.1) = (y.1 * (by_ * z.2.1)) * q := by grind
              _ = (z.2.2 * unit) * q := by rw [a6]
              _ = z.2.2 * q * unit := by grind)
          have m2 := mulc (a := (p : Int) * k) (b := y.2) (c := (p : Int) * z.2.1) (d := z.1 * q) (k := (q : Int) * z.2.1) (l := unit) (Int.mul_pos (by omega) (by omega)) hup (by rw [hu]; grind) (by
            calc y.2 * ((q : Int) * z.2.1) = (y.2 * z.2.1) * q := by grind
              _ = (z.1 * unit) * q := by rw [a5]
              _ = z.1 * q * unit := by grind)
          rw [m1.1, m1.2, m2.1]
          constructor
          · intro hh
            rcases hh with hh | hh
            · omega
            · exact Or.inr hh
          · intro hh
            rcases hh with hh | hh
            · omega
            · exact Or.inr hh
      by_cases hg : Nat.gcd p q = 1
      · by_cases ct : y.1 = -1 ∨ G (p * k) < y.1 ∨ (G (p * k) = y.1 ∧ p * k < y.2)
        · rw [if_pos ct, if_pos ⟨hg, (same hg).mp ct⟩]
          refine ⟨Or.inr ⟨hgp, hpk, by dsimp only; omega, by dsimp only; omega, by dsimp only; omega, ?_, ?_, ?_⟩, fun e => ?_, fun x hx => ?_⟩
          · dsimp only; rw [hu]; grind
          · dsimp only; exact hGH p
          · dsimp only; exact hg
          · dsimp only at e; omega
          · dsimp only
            rcases hx with hx | rfl
            · have := h3 x hx
              rcases ct with c | c | c
              · exact absurd hx (h2 c x)
              · omega
              · omega
            · omega
        · rw [if_neg ct, if_neg (fun hh => ct ((same hg).mpr hh.2))]
          refine ⟨h1, fun e x hx => absurd (Or.inl e) ct, fun x hx => ?_⟩
          rcases hx with hx | rfl
          · exact h3 x hx
          · omega
      · have hd := h3 _ (hD p (by omega) (by omega) hg)
        have hne : y.1 ≠ -1 := fun e => h2 e _ (hD p (by omega) (by omega) hg)
        rw [if_neg (show ¬ (y.1 = -1 ∨ G (p * k) < y.1 ∨ (G (p * k) = y.1 ∧ p * k < y.2)) by omega), if_neg (fun hh => hg hh.1)]
        refine ⟨h1, fun e => absurd e hne, fun x hx => ?_⟩
        rcases hx with hx | rfl
        · exact h3 x hx
        · exact hd
    have := ih (p + 1) (fun x => D x ∨ x = p * k) _ _ (fun i h1 h2 h3 => Or.inl (hD i (by omega) (by omega) h3)) step
    have e9 : FCp G k (n + 1) p y = FCp G k n (p + 1) (if y.1 = -1 ∨ G (p * k) < y.1 ∨ (G (p * k) = y.1 ∧ p * k < y.2) then (G (p * k), p * k) else y) := by
      conv => lhs; unfold FCp
      split <;> rfl
    have e10 : FRp H q (n + 1) p z = FRp H q n (p + 1) (if Nat.gcd p q = 1 ∧ (z.1 = -1 ∨ H p q * z.2.1 < z.2.2 * q ∨ (H p q * z.2.1 = z.2.2 * q ∧ (p : Int) * z.2.1 < z.1 * q)) then ((p : Int), (q : Int), H p q) else z) := by
      conv => lhs; unfold FRp
      split <;> rfl
    rw [e9, e10]
    obtain ⟨k1, k2, k3⟩ := this
    refine ⟨k1, fun e x hx => k2 e x ?_, fun x hx => k3 x ?_⟩
    all_goals
      rcases hx with hx | ⟨i, a, b, c⟩
      · exact Or.inl (Or.inl hx)
      · by_cases e : i = p
        · subst e; exact Or.inl (Or.inr c)
        · exact Or.inr ⟨i, by omega, by omega, c⟩
theorem FI_q {G : Int → Int} {H : Int → Int → Int} {unit by_ : Int} {tp : Nat} (hu : 1 ≤ unit) (hdv : ∀ q : Nat, 1 ≤ q → q ≤ 12 → (q : Int) ∣ unit) (hb : 1 ≤ by_) (hG : ∀ x, 0 ≤ G x) (hGH : ∀ p q : Nat, 1 ≤ q → q ≤ 12 → G (p * unit.tdiv q) * (by_ * q) = H p q * unit) : ∀ (n q : Nat) (y : FR) (z : F3), 1 ≤ q → q + n ≤ 13 → FI G unit by_ (fun x => ∃ r i : Nat, 1 ≤ r ∧ r < q ∧ i ≤ tp * r ∧ x = i * unit.tdiv r) y z → FI G unit by_ (fun x => ∃ r i : Nat, 1 ≤ r ∧ r < q + n ∧ i ≤ tp * r ∧ x = i * unit.tdiv r) (FCq G unit tp n q y) (FRq H tp n q z) := by
  have key : ∀ r : Nat, 1 ≤ r → r ≤ 12 → ∃ k : Int, 1 ≤ k ∧ unit = (r : Int) * k ∧ unit.tdiv r = k := fun r r1 r2 => by
    obtain ⟨k, hk⟩ := hdv r r1 r2
    refine ⟨k, ?_, hk, by rw [hk]; exact Int.mul_tdiv_cancel_left _ (by omega)⟩
    apply Classical.byContradiction
    intro hn
    have : (r : Int) * k ≤ 0 := Int.mul_nonpos_of_nonneg_of_nonpos (by omega) (by omega)
    omega
  intro n
  induction n with
  | zero => intro q y z _ _ h; exact h
  | succ n ih =>
    intro q y z hq hn h
    obtain ⟨k, k1, k2, k3⟩ := key q hq (by omega)
    have st := FI_p (G := G) (H := H) (unit := unit) (by_ := by_) (k := k) (q := q) k2 (by omega) k1 hb hG (fun p => by rw [← k3]; exact hGH p q hq (by omega)) (tp * q + 1) 0 _ y z (fun i i0 i1 i2 => by
      have hg : 0 < Nat.gcd i q := Nat.gcd_pos_of_pos_right _ (by omega)
      obtain ⟨a, ha⟩ := Nat.gcd_dvd_left i q
      obtain ⟨r, hr⟩ := Nat.gcd_dvd_right i q
      generalize Nat.gcd i q = g at *
      have r1 : 1 ≤ r := by
        rcases Nat.eq_zero_or_pos r with e | e
        · rw [e] at hr; omega
        · exact e
      have r2 : r < q := by
        have : 2 * r ≤ g * r := Nat.mul_le_mul_right r (by omega)
        omega
      obtain ⟨k', k1', k2', k3'⟩ := key r r1 (by omega)
      refine ⟨r, a, r1, r2, ?_, ?_⟩
      · have : g * a ≤ g * (tp * r) := by
          calc g * a = i := ha.symm
            _ ≤ tp * q := by omega
            _ = g * (tp * r) := by rw [hr, ← Nat.mul_assoc, Nat.mul_comm tp g, Nat.mul_assoc]
        exact Nat.le_of_mul_le_mul_left this hg
      · rw [k3', ha, Int.natCast_mul]
        have : (r : Int) * k' = (r : Int) * ((g : Int) * k) := by
          rw [← k2', k2, hr, Int.natCast_mul]; grind
        have := Int.eq_of_mul_eq_mul_left (by omega) this
        rw [this]
        grind) h
    rw [show q + (n + 1) = q + 1 + n by omega]
    unfold FCq FRq
    rw [k3]
    refine ih (q + 1) _ _ (by omega) (by omega) ?_
    obtain ⟨s1, s2, s3⟩ := st
    refine ⟨s1, fun e x hx => s2 e x ?_, fun x hx => s3 x ?_⟩
    all_goals
      obtain ⟨r, i, a1, a2, a3, a4⟩ := hx
      by_cases e : r = q
      · subst e; exact Or.inr ⟨i, by omega, by omega, by rw [a4, k3]⟩
      · exact Or.inl ⟨r, i, a1, by omega, a3, a4⟩
/-! memory: the class -/
theorem unitL9 {F : Nat} (hF : 1000 ≤ F) {s : List Sh} {m : Mem} {n tc t : Nat} {V W : Nat → Int} (r4 : m.2.2 0 4 = some n) (t9 : T9 s m n tc V W) (h6 : tc ≤ 6) (ht : t < tc) {w : Nat → Nat} (hw : ∀ u, u < tc → W u = w u ∧ 1 ≤ w u ∧ w u ≤ 99) : ∀ (k fuel : Nat), k < fuel → ∀ (u x : Nat), 1 ≤ x → x * 99 ^ k ≤ 30000000000000000 → u + k = tc → nl_X9_fairUnit_7 F s m fuel 0 (q32 t) (q64 x) (q32 u) = some (q64 (LCF w t k u x : Nat)) := by
  obtain ⟨a15, ⟨r16, r17⟩, ⟨l8, l9⟩, hv⟩ := t9
  intro k
  induction k with
  | zero =>
    intro fuel hf u x hx hb hi
    obtain ⟨fuel, rfl⟩ : ∃ f, fuel = f + 1 := ⟨fuel - 1, by omega⟩
    show nb_X9_fairUnit_7 F s (nl_X9_fairUnit_7 F s m fuel) m 0 _ _ _ = _
    unfold nb_X9_fairUnit_7 LCF
    simp (disch := omega) only [Option.bind_some, bindv, bindv0, bind2_s, bind3_s, ↓reduceIte, Bool.false_eq_true, rZM_0, rZM_1, rZP_0, rZP_1, ptZ_0, ptZ_1, c32i, c64i, ncI, Int.natCast_add, Int.natCast_mul, q32_neg, q64_neg, q32_add, q32_sub, q32_mul, q64_add, q64_sub, q64_mul, q32_64i, q64_32, q32_lt_t, q32_lt_f, q32_le_t, q32_le_f, q32_eq_t, q32_eq_f, q64_lt_t, q64_lt_f, q64_le_t, q64_le_f, q64_eq_t, q64_eq_f, rdI_i, rdL_i, rdR_i, rdN_i, stI_i, stL_i, stR_i, wI_s, wI_n, wL_s, wL_n, wI_2, wI_3, wL_1, wL_3, wR_1, wR_2, Int.toNat_natCast, tnO, tn_add, tn_sub, tn_mul, Nat.add_sub_cancel, Nat.add_zero, Nat.zero_add, lnO, win_t, win_f, r4, a15]
  | succ k ih =>
    intro fuel hf u x hx hb hi
    obtain ⟨fuel, rfl⟩ : ∃ f, fuel = f + 1 := ⟨fuel - 1, by omega⟩
    obtain ⟨w1, w2, w3⟩ := hw u (by omega)
    have v2 := (hv u (by omega)).2
    rw [w1] at v2
    rw [Nat.pow_succ, Nat.mul_comm (99 ^ k) 99, ← Nat.mul_assoc] at hb
    have pk : 1 ≤ 99 ^ k := Nat.pos_of_ne_zero (by simp)
    have hb2 : x * 99 * 1 ≤ x * 99 * 99 ^ k := Nat.mul_le_mul_left _ pk
    obtain ⟨l1, l2, l3, l4⟩ := LC_p hx w2
    have l5 : x * w u ≤ x * 99 := Nat.mul_le_mul_left x w3
    show nb_X9_fairUnit_7 F s (nl_X9_fairUnit_7 F s m fuel) m 0 _ _ _ = _
    unfold nb_X9_fairUnit_7 LCF nb_X9_fairUnit_61
    by_cases c : u = t
    · rw [if_pos c]
      have ih := ih fuel (by omega) (u + 1) x hx (Nat.le_trans (Nat.mul_le_mul_right _ (by omega)) hb) (by omega)
      rw [Int.natCast_add] at ih
      subst c
      simp (disch := omega) only [Option.bind_some, bindv, bindv0, bind2_s, bind3_s, ↓reduceIte, Bool.false_eq_true, rZM_0, rZM_1, rZP_0, rZP_1, ptZ_0, ptZ_1, c32i, c64i, ncI, Int.natCast_add, Int.natCast_mul, q32_neg, q64_neg, q32_add, q32_sub, q32_mul, q64_add, q64_sub, q64_mul, q32_64i, q64_32, q32_lt_t, q32_lt_f, q32_le_t, q32_le_f, q32_eq_t, q32_eq_f, q64_lt_t, q64_lt_f, q64_le_t, q64_le_f, q64_eq_t, q64_eq_f, rdI_i, rdL_i, rdR_i, rdN_i, stI_i, stL_i, stR_i, wI_s, wI_n, wL_s, wL_n, wI_2, wI_3, wL_1, wL_3, wR_1, wR_2, Int.toNat_natCast, tnO, tn_add, tn_sub, tn_mul, Nat.add_sub_cancel, Nat.add_zero, Nat.zero_add, lnO, win_t, win_f, r4, a15]
      exact ih
    · rw [if_neg c]
      have ih := ih fuel (by omega) (u + 1) (LC x (w u)) l1 (Nat.le_trans (Nat.mul_le_mul_right _ (by omega)) hb) (by omega)
      rw [Int.natCast_add] at ih
      have cf := m_cf (F := F) (by omega) (p := (x : Int)) (q := (w u : Int)) (by omega) (by omega)
      rw [show Int.gcd (x : Int) (w u : Int) = Nat.gcd x (w u) from rfl] at cf
      have hg1 : 0 < Nat.gcd x (w u) := Nat.gcd_pos_of_pos_left _ (by omega)
      have hg2 : Nat.gcd x (w u) ≤ x := Nat.le_of_dvd (by omega) (Nat.gcd_dvd_left _ _)
      have dv : q64 (x : Int) / q64 ((Nat.gcd x (w u) : Nat) : Int) * q64 (w u : Int) = q64 (LC x (w u) : Nat) := by
        rw [q64_div_n (by omega), tdn, q64_mul, ← Int.natCast_mul]
        rfl
      simp (disch := omega) only [Option.bind_some, bindv, bindv0, c32i, c64i, r4, a15, q32_le_f, ↓reduceIte, q32_eq_f, r17, rdI_i, Int.toNat_natCast, v2, q32_64i, cf, q64_le_f, q64_eq_f, dv, q32_add]
      exact ih
theorem farL9 {F : Nat} {s : List Sh} {m : Mem} {n tc t : Nat} {V W : Nat → Int} (r4 : m.2.2 0 4 = some n) (t9 : T9 s m n tc V W) (h6 : tc ≤ 6) (ht : t < tc) {unit x B : Int} (hu : 1 ≤ unit ∧ unit ≤ 30000000000000000) (hB : 0 ≤ B ∧ B ≤ 300000000000000000) (hx : 0 ≤ x ∧ x ≤ B) (hV : ∀ u, u < tc → 1 ≤ W u ∧ W u ≤ 99 ∧ 0 ≤ V u ∧ V u ≤ 891 ∧ 0 ≤ unit.tdiv (W u) * V u ∧ unit.tdiv (W u) * V u ≤ B) : ∀ (k fuel : Nat), k < fuel → ∀ (u : Nat) (a : Int), 0 ≤ a → a ≤ u * B → u + k = tc → nl_X9_farFromOthers_6 F s m fuel 0 (q32 t) (q64 x) (q64 unit) (q64 a) (q32 u) = some (q64 (GF V W t unit x k u a)) := by
  obtain ⟨a15, ⟨r16, r17⟩, ⟨l8, l9⟩, hv⟩ := t9
  intro k
  induction k with
  | zero =>
    intro fuel hf u a h1 h2 hi
    obtain ⟨fuel, rfl⟩ : ∃ f, fuel = f + 1 := ⟨fuel - 1, by omega⟩
    show nb_X9_farFromOthers_6 F s (nl_X9_farFromOthers_6 F s m fuel) m 0 _ _ _ _ _ = _
    unfold nb_X9_farFromOthers_6 GF
    simp (disch := omega) only [Option.bind_some, bindv, bindv0, bind2_s, bind3_s, ↓reduceIte, Bool.false_eq_true, rZM_0, rZM_1, rZP_0, rZP_1, ptZ_0, ptZ_1, c32i, c64i, ncI, Int.natCast_add, Int.natCast_mul, q32_neg, q64_neg, q32_add, q32_sub, q32_mul, q64_add, q64_sub, q64_mul, q32_64i, q64_32, q32_lt_t, q32_lt_f, q32_le_t, q32_le_f, q32_eq_t, q32_eq_f, q64_lt_t, q64_lt_f, q64_le_t, q64_le_f, q64_eq_t, q64_eq_f, rdI_i, rdL_i, rdR_i, rdN_i, stI_i, stL_i, stR_i, wI_s, wI_n, wL_s, wL_n, wI_2, wI_3, wL_1, wL_3, wR_1, wR_2, Int.toNat_natCast, tnO, tn_add, tn_sub, tn_mul, Nat.add_sub_cancel, Nat.add_zero, Nat.zero_add, lnO, win_t, win_f, r4, a15]
  | succ k ih =>
    intro fuel hf u a h1 h2 hi
    obtain ⟨fuel, rfl⟩ : ∃ f, fuel = f + 1 := ⟨fuel - 1, by omega⟩
    obtain ⟨w1, w2, w3, w4, w5, w6⟩ := hV u (by omega)
    obtain ⟨v1, v2⟩ := hv u (by omega)
    have e : ((u + 1 : Nat) : Int) * B = (u : Int) * B + B := by rw [Int.natCast_add, Int.add_mul]; simp
    have ub : (u : Int) * B ≤ 6 * 300000000000000000 := Int.mul_le_mul (by omega) (by omega) (by omega) (by omega)
    have dv : q64 unit / q64 (W u) * q64 (V u) = q64 (unit.tdiv (W u) * V u) := by rw [q64_div_n (by omega), q64_mul]
    show nb_X9_farFromOthers_6 F s (nl_X9_farFromOthers_6 F s m fuel) m 0 _ _ _ _ _ = _
    unfold nb_X9_farFromOthers_6 GF nb_X9_farFromOthers_71
    by_cases c : u = t
    · rw [if_pos c]
      have ih := ih fuel (by omega) (u + 1) a h1 (by omega) (by omega)
      rw [Int.natCast_add] at ih
      subst c
      simp (disch := omega) only [Option.bind_some, bindv, bindv0, bind2_s, bind3_s, ↓reduceIte, Bool.false_eq_true, rZM_0, rZM_1, rZP_0, rZP_1, ptZ_0, ptZ_1, c32i, c64i, ncI, Int.natCast_add, Int.natCast_mul, q32_neg, q64_neg, q32_add, q32_sub, q32_mul, q64_add, q64_sub, q64_mul, q32_64i, q64_32, q32_lt_t, q32_lt_f, q32_le_t, q32_le_f, q32_eq_t, q32_eq_f, q64_lt_t, q64_lt_f, q64_le_t, q64_le_f, q64_eq_t, q64_eq_f, rdI_i, rdL_i, rdR_i, rdN_i, stI_i, stL_i, stR_i, wI_s, wI_n, wL_s, wL_n, wI_2, wI_3, wL_1, wL_3, wR_1, wR_2, Int.toNat_natCast, tnO, tn_add, tn_sub, tn_mul, Nat.add_sub_cancel, Nat.add_zero, Nat.zero_add, lnO, win_t, win_f, r4, a15, r17, v2]
      exact ih
    · rw [if_neg c]
      generalize unit.tdiv (W u) * V u = y at *
      have ih := ih fuel (by omega) (u + 1) (a + ((x - y).natAbs : Int)) (by omega) (by omega) (by omega)
      rw [Int.natCast_add] at ih
      have jb := jabs (x := x - y) (by omega)
      simp (disch := omega) only [Option.bind_some, bindv, bindv0, c32i, c64i, r4, a15, q32_le_f, ↓reduceIte, q32_eq_f, r16, r17, rdI_i, Int.toNat_natCast, v1, v2, q32_64i, q64_le_f, q64_eq_f, dv, q64_sub, jb, q64_add, q32_add]
      exact ih
theorem pL9 {F : Nat} (hF : 1000 ≤ F) {s : List Sh} {m : Mem} {n tp : Nat} (r4 : m.2.2 0 4 = some n) (g0 : m.1 n 0 = q32 tp) (htp : tp ≤ 9) {t : Nat} {G : Int → Int} {unit k : Int} {q : Nat} (hq : 1 ≤ q ∧ q ≤ 12) (hk : 1 ≤ k ∧ k ≤ 30000000000000000) (hG : ∀ p : Nat, p ≤ tp * q → n_X9_farFromOthers F s m 0 (q32 t) (q64 (p * k)) (q64 unit) = some (q64 (G (p * k))) ∧ 0 ≤ G (p * k) ∧ G (p * k) ≤ 2000000000000000000) {self : Mem → Nat → Int32 → Int64 → Int64 → Int64 → Int32 → Option (Unit × Mem)} : ∀ (j fuel : Nat), j < fuel → ∀ (p : Nat) (y : FR), p + j = tp * q + 1 → -1 ≤ y.1 → y.1 ≤ 2000000000000000000 → 0 ≤ y.2 → y.2 ≤ 4000000000000000000 → nl_X9_seekFairest_34 F s self fuel m 0 (q32 t) (q64 unit) (q64 y.1) (q64 y.2) (q32 q) (q64 k) (q32 p) = self m 0 (q32 t) (q64 unit) (q64 (FCp G k j p y).1) (q64 (FCp G k j p y).2) (q32 (q + 1 : Nat)) ∧ -1 ≤ (FCp G k j p y).1 ∧ (FCp G k j p y).1 ≤ 2000000000000000000 ∧ 0 ≤ (FCp G k j p y).2 ∧ (FCp G k j p y).2 ≤ 4000000000000000000 := by
  have tq : tp * q ≤ 9 * 12 := Nat.mul_le_mul htp hq.2
  have tqi : (tp : Int) * q = ((tp * q : Nat) : Int) := (Int.natCast_mul tp q).symm
  intro j
  induction j with
  | zero =>
    intro fuel hf p y hi y1 y2 y3 y4
    obtain ⟨fuel, rfl⟩ : ∃ f, fuel = f + 1 := ⟨fuel - 1, by omega⟩
    refine ⟨?_, y1, y2, y3, y4⟩
    show nb_X9_seekFairest_34 F s self (nl_X9_seekFairest_34 F s self fuel) m 0 _ _ _ _ _ _ _ = _
    unfold nb_X9_seekFairest_34 FCp
    generalize tp * q = z at *
    simp (disch := omega) only [Option.bind_some, bindv, bindv0, bind2_s, bind3_s, ↓reduceIte, Bool.false_eq_true, rZM_0, rZM_1, rZP_0, rZP_1, ptZ_0, ptZ_1, c32i, c64i, ncI, Int.natCast_add, Int.natCast_mul, q32_neg, q64_neg, q32_add, q32_sub, q32_mul, q64_add, q64_sub, q64_mul, q32_64i, q64_32, q32_lt_t, q32_lt_f, q32_le_t, q32_le_f, q32_eq_t, q32_eq_f, q64_lt_t, q64_lt_f, q64_le_t, q64_le_f, q64_eq_t, q64_eq_f, rdI_i, rdL_i, rdR_i, rdN_i, stI_i, stL_i, stR_i, wI_s, wI_n, wL_s, wL_n, wI_2, wI_3, wL_1, wL_3, wR_1, wR_2, Int.toNat_natCast, tnO, tn_add, tn_sub, tn_mul, Nat.add_sub_cancel, Nat.add_zero, Nat.zero_add, lnO, win_t, win_f, r4, g0, tqi]
  | succ j ih =>
    intro fuel hf p y hi y1 y2 y3 y4
    obtain ⟨fuel, rfl⟩ : ∃ f, fuel = f + 1 := ⟨fuel - 1, by omega⟩
    obtain ⟨g1, g2, g3⟩ := hG p (by omega)
    have pk : (p : Int) * k ≤ 108 * 30000000000000000 := Int.mul_le_mul (by omega) (by omega) (by omega) (by omega)
    have pk0 : 0 ≤ (p : Int) * k := Int.mul_nonneg (by omega) (by omega)
    show nb_X9_seekFairest_34 F s self (nl_X9_seekFairest_34 F s self fuel) m 0 _ _ _ _ _ _ _ = _ ∧ _
    unfold nb_X9_seekFairest_34 FCp nb_X9_seekFairest_100 nb_X9_seekFairest_112
    generalize hx : (p : Int) * k = x at *
    generalize tp * q = z at *
    by_cases c : y.1 = -1 ∨ G x < y.1 ∨ (G x = y.1 ∧ x < y.2)
    · rw [if_pos c]
      obtain ⟨i1, i2⟩ := ih fuel (by omega) (p + 1) (G x, x) (by omega) (by first | omega | (dsimp only; omega)) (by first | omega | (dsimp only; omega)) pk0 (by first | omega | (dsimp only; omega))
      refine ⟨?_, i2⟩
      rw [← i1]
      dsimp only
      rw [Int.natCast_add]
      generalize G x = gx at *
      by_cases c1 : y.1 = -1
      · simp (disch := omega) only [Option.bind_some, bindv, bindv0, bind2_s, bind3_s, ↓reduceIte, Bool.false_eq_true, rZM_0, rZM_1, rZP_0, rZP_1, ptZ_0, ptZ_1, c32i, c64i, ncI, Int.natCast_add, Int.natCast_mul, q32_neg, q64_neg, q32_add, q32_sub, q32_mul, q64_add, q64_sub, q64_mul, q32_64i, q64_32, q32_lt_t, q32_lt_f, q32_le_t, q32_le_f, q32_eq_t, q32_eq_f, q64_lt_t, q64_lt_f, q64_le_t, q64_le_f, q64_eq_t, q64_eq_f, rdI_i, rdL_i, rdR_i, rdN_i, stI_i, stL_i, stR_i, wI_s, wI_n, wL_s, wL_n, wI_2, wI_3, wL_1, wL_3, wR_1, wR_2, Int.toNat_natCast, tnO, tn_add, tn_sub, tn_mul, Nat.add_sub_cancel, Nat.add_zero, Nat.zero_add, lnO, win_t, win_f, r4, g0, tqi, hx, g1]
      · by_cases c2 : gx < y.1
        · simp (disch := omega) only [Option.bind_some, bindv, bindv0, bind2_s, bind3_s, ↓reduceIte, Bool.false_eq_true, rZM_0, rZM_1, rZP_0, rZP_1, ptZ_0, ptZ_1, c32i, c64i, ncI, Int.natCast_add, Int.natCast_mul, q32_neg, q64_neg, q32_add, q32_sub, q32_mul, q64_add, q64_sub, q64_mul, q32_64i, q64_32, q32_lt_t, q32_lt_f, q32_le_t, q32_le_f, q32_eq_t, q32_eq_f, q64_lt_t, q64_lt_f, q64_le_t, q64_le_f, q64_eq_t, q64_eq_f, rdI_i, rdL_i, rdR_i, rdN_i, stI_i, stL_i, stR_i, wI_s, wI_n, wL_s, wL_n, wI_2, wI_3, wL_1, wL_3, wR_1, wR_2, Int.toNat_natCast, tnO, tn_add, tn_sub, tn_mul, Nat.add_sub_cancel, Nat.add_zero, Nat.zero_add, lnO, win_t, win_f, r4, g0, tqi, hx, g1]
        · simp (disch := omega) only [Option.bind_some, bindv, bindv0, bind2_s, bind3_s, ↓reduceIte, Bool.false_eq_true, rZM_0, rZM_1, rZP_0, rZP_1, ptZ_0, ptZ_1, c32i, c64i, ncI, Int.natCast_add, Int.natCast_mul, q32_neg, q64_neg, q32_add, q32_sub, q32_mul, q64_add, q64_sub, q64_mul, q32_64i, q64_32, q32_lt_t, q32_lt_f, q32_le_t, q32_le_f, q32_eq_t, q32_eq_f, q64_lt_t, q64_lt_f, q64_le_t, q64_le_f, q64_eq_t, q64_eq_f, rdI_i, rdL_i, rdR_i, rdN_i, stI_i, stL_i, stR_i, wI_s, wI_n, wL_s, wL_n, wI_2, wI_3, wL_1, wL_3, wR_1, wR_2, Int.toNat_natCast, tnO, tn_add, tn_sub, tn_mul, Nat.add_sub_cancel, Nat.add_zero, Nat.zero_add, lnO, win_t, win_f, r4, g0, tqi, hx, g1]
    · rw [if_neg c]
      obtain ⟨i1, i2⟩ := ih fuel (by omega) (p + 1) y (by omega) y1 y2 y3 y4
      refine ⟨?_, i2⟩
      rw [← i1, Int.natCast_add]
      generalize G x = gx at *
      by_cases c2 : gx = y.1
      · simp (disch := omega) only [Option.bind_some, bindv, bindv0, bind2_s, bind3_s, ↓reduceIte, Bool.false_eq_true, rZM_0, rZM_1, rZP_0, rZP_1, ptZ_0, ptZ_1, c32i, c64i, ncI, Int.natCast_add, Int.natCast_mul, q32_neg, q64_neg, q32_add, q32_sub, q32_mul, q64_add, q64_sub, q64_mul, q32_64i, q64_32, q32_lt_t, q32_lt_f, q32_le_t, q32_le_f, q32_eq_t, q32_eq_f, q64_lt_t, q64_lt_f, q64_le_t, q64_le_f, q64_eq_t, q64_eq_f, rdI_i, rdL_i, rdR_i, rdN_i, stI_i, stL_i, stR_i, wI_s, wI_n, wL_s, wL_n, wI_2, wI_3, wL_1, wL_3, wR_1, wR_2, Int.toNat_natCast, tnO, tn_add, tn_sub, tn_mul, Nat.add_sub_cancel, Nat.add_zero, Nat.zero_add, lnO, win_t, win_f, r4, g0, tqi, hx, g1]
      · simp (disch := omega) only [Option.bind_some, bindv, bindv0, bind2_s, bind3_s, ↓reduceIte, Bool.false_eq_true, rZM_0, rZM_1, rZP_0, rZP_1, ptZ_0, ptZ_1, c32i, c64i, ncI, Int.natCast_add, Int.natCast_mul, q32_neg, q64_neg, q32_add, q32_sub, q32_mul, q64_add, q64_sub, q64_mul, q32_64i, q64_32, q32_lt_t, q32_lt_f, q32_le_t, q32_le_f, q32_eq_t, q32_eq_f, q64_lt_t, q64_lt_f, q64_le_t, q64_le_f, q64_eq_t, q64_eq_f, rdI_i, rdL_i, rdR_i, rdN_i, stI_i, stL_i, stR_i, wI_s, wI_n, wL_s, wL_n, wI_2, wI_3, wL_1, wL_3, wR_1, wR_2, Int.toNat_natCast, tnO, tn_add, tn_sub, tn_mul, Nat.add_sub_cancel, Nat.add_zero, Nat.zero_add, lnO, win_t, win_f, r4, g0, tqi, hx, g1]
theorem qL9 {F : Nat} (hF : 1000 ≤ F) {s : List Sh} {m : Mem} {n tp : Nat} (r4 : m.2.2 0 4 = some n) (g0 : m.1 n 0 = q32 tp) (htp : tp ≤ 9) {t : Nat} {G : Int → Int} {unit : Int} (hu : 1 ≤ unit ∧ unit ≤ 30000000000000000) (hk : ∀ q : Nat, 1 ≤ q → q ≤ 12 → 1 ≤ unit.tdiv q ∧ unit.tdiv q ≤ 30000000000000000) (hG : ∀ q p : Nat, 1 ≤ q → q ≤ 12 → p ≤ tp * q → n_X9_farFromOthers F s m 0 (q32 t) (q64 (p * unit.tdiv q)) (q64 unit) = some (q64 (G (p * unit.tdiv q))) ∧ 0 ≤ G (p * unit.tdiv q) ∧ G (p * unit.tdiv q) ≤ 2000000000000000000) : ∀ (j fuel : Nat), j < fuel → ∀ (q : Nat) (y : FR), 1 ≤ q → q + j = 13 → -1 ≤ y.1 → y.1 ≤ 2000000000000000000 → 0 ≤ y.2 → y.2 ≤ 4000000000000000000 → ∃ fuel', nl_X9_seekFairest_17 F s fuel m 0 (q32 t) (q64 unit) (q64 y.1) (q64 y.2) (q32 q) = nb_X9_seekFairest_17 F s (nl_X9_seekFairest_17 F s fuel') m 0 (q32 t) (q64 unit) (q64 (FCq G unit tp j q y).1) (q64 (FCq G unit tp j q y).2) (q32 13) ∧ -1 ≤ (FCq G unit tp j q y).1 ∧ (FCq G unit tp j q y).1 ≤ 2000000000000000000 ∧ 0 ≤ (FCq G unit tp j q y).2 ∧ (FCq G unit tp j q y).2 ≤ 4000000000000000000 := by
  intro j
  induction j with
  | zero =>
    intro fuel hf q y hq hi y1 y2 y3 y4
    obtain ⟨fuel, rfl⟩ : ∃ f, fuel = f + 1 := ⟨fuel - 1, by omega⟩
    obtain rfl : q = 13 := by omega
    exact ⟨fuel, rfl, y1, y2, y3, y4⟩
  | succ j ih =>
    intro fuel hf q y hq hi y1 y2 y3 y4
    obtain ⟨fuel, rfl⟩ : ∃ f, fuel = f + 1 := ⟨fuel - 1, by omega⟩
    have tq : tp * q ≤ 9 * 12 := Nat.mul_le_mul htp (by omega)
    obtain ⟨e1, e2, e3, e4, e5⟩ := pL9 (F := F) (s := s) (m := m) (t := t) hF r4 g0 htp (G := G) (unit := unit) (k := unit.tdiv q) (q := q) (by omega) (hk q hq (by omega)) (fun p hp => hG q p hq (by omega) hp) (self := nl_X9_seekFairest_17 F s fuel) (tp * q + 1) F (by omega) 0 y (by omega) y1 y2 y3 y4
    obtain ⟨f', i1, i2⟩ := ih fuel (by omega) (q + 1) (FCp G (unit.tdiv q) (tp * q + 1) 0 y) (by omega) (by omega) e2 e3 e4 e5
    refine ⟨f', ?_, i2⟩
    refine Eq.trans ?_ i1
    rw [← e1]
    have dv : q64 unit / q64 (q : Int) = q64 (unit.tdiv q) := q64_div_n (by omega)
    show nb_X9_seekFairest_17 F s (nl_X9_seekFairest_17 F s fuel) m 0 _ _ _ _ _ = _
    conv => lhs; unfold nb_X9_seekFairest_17
    simp (disch := omega) only [Option.bind_some, bindv, bindv0, bind2_s, bind3_s, ↓reduceIte, Bool.false_eq_true, rZM_0, rZM_1, rZP_0, rZP_1, ptZ_0, ptZ_1, c32i, c64i, ncI, Int.natCast_add, Int.natCast_mul, q32_neg, q64_neg, q32_add, q32_sub, q32_mul, q64_add, q64_sub, q64_mul, q32_64i, q64_32, q32_lt_t, q32_lt_f, q32_le_t, q32_le_f, q32_eq_t, q32_eq_f, q64_lt_t, q64_lt_f, q64_le_t, q64_le_f, q64_eq_t, q64_eq_f, rdI_i, rdL_i, rdR_i, rdN_i, stI_i, stL_i, stR_i, wI_s, wI_n, wL_s, wL_n, wI_2, wI_3, wL_1, wL_3, wR_1, wR_2, Int.toNat_natCast, tnO, tn_add, tn_sub, tn_mul, Nat.add_sub_cancel, Nat.add_zero, Nat.zero_add, lnO, win_t, win_f, dv]
/-! memory: the reference -/
theorem agG {a b c d : Int} (h1 : (a * d).natAbs < 4000000000000000000) (h2 : (c * b).natAbs < 4000000000000000000) : m_X10_against (q64 a) (q64 b) (q64 c) (q64 d) = some (if a * d < c * b then q32 (-1) else if c * b < a * d then q32 1 else q32 0) := by
  unfold m_X10_against b_X10_against_0
  by_cases c1 : a * d < c * b
  · rw [if_pos c1]; simp (disch := omega) only [Option.bind_some, bindv, bindv0, bind2_s, bind3_s, ↓reduceIte, Bool.false_eq_true, rZM_0, rZM_1, rZP_0, rZP_1, ptZ_0, ptZ_1, c32i, c64i, ncI, Int.natCast_add, Int.natCast_mul, q32_neg, q64_neg, q32_add, q32_sub, q32_mul, q64_add, q64_sub, q64_mul, q32_64i, q64_32, q32_lt_t, q32_lt_f, q32_le_t, q32_le_f, q32_eq_t, q32_eq_f, q64_lt_t, q64_lt_f, q64_le_t, q64_le_f, q64_eq_t, q64_eq_f, rdI_i, rdL_i, rdR_i, rdN_i, stI_i, stL_i, stR_i, wI_s, wI_n, wL_s, wL_n, wI_2, wI_3, wL_1, wL_3, wR_1, wR_2, Int.toNat_natCast, tnO, tn_add, tn_sub, tn_mul, Nat.add_sub_cancel, Nat.add_zero, Nat.zero_add, lnO, win_t, win_f]
  · rw [if_neg c1]
    by_cases c2 : c * b < a * d
    · rw [if_pos c2]; simp (disch := omega) only [Option.bind_some, bindv, bindv0, bind2_s, bind3_s, ↓reduceIte, Bool.false_eq_true, rZM_0, rZM_1, rZP_0, rZP_1, ptZ_0, ptZ_1, c32i, c64i, ncI, Int.natCast_add, Int.natCast_mul, q32_neg, q64_neg, q32_add, q32_sub, q32_mul, q64_add, q64_sub, q64_mul, q32_64i, q64_32, q32_lt_t, q32_lt_f, q32_le_t, q32_le_f, q32_eq_t, q32_eq_f, q64_lt_t, q64_lt_f, q64_le_t, q64_le_f, q64_eq_t, q64_eq_f, rdI_i, rdL_i, rdR_i, rdN_i, stI_i, stL_i, stR_i, wI_s, wI_n, wL_s, wL_n, wI_2, wI_3, wL_1, wL_3, wR_1, wR_2, Int.toNat_natCast, tnO, tn_add, tn_sub, tn_mul, Nat.add_sub_cancel, Nat.add_zero, Nat.zero_add, lnO, win_t, win_f]
    · rw [if_neg c2]; simp (disch := omega) only [Option.bind_some, bindv, bindv0, bind2_s, bind3_s, ↓reduceIte, Bool.false_eq_true, rZM_0, rZM_1, rZP_0, rZP_1, ptZ_0, ptZ_1, c32i, c64i, ncI, Int.natCast_add, Int.natCast_mul, q32_neg, q64_neg, q32_add, q32_sub, q32_mul, q64_add, q64_sub, q64_mul, q32_64i, q64_32, q32_lt_t, q32_lt_f, q32_le_t, q32_le_f, q32_eq_t, q32_eq_f, q64_lt_t, q64_lt_f, q64_le_t, q64_le_f, q64_eq_t, q64_eq_f, rdI_i, rdL_i, rdR_i, rdN_i, stI_i, stL_i, stR_i, wI_s, wI_n, wL_s, wL_n, wI_2, wI_3, wL_1, wL_3, wR_1, wR_2, Int.toNat_natCast, tnO, tn_add, tn_sub, tn_mul, Nat.add_sub_cancel, Nat.add_zero, Nat.zero_add, lnO, win_t, win_f]
theorem byL10 {F : Nat} {s : List Sh} (hp : ∃ t, s = sB ++ t) {m : Mem} {tc t : Nat} {V W : Nat → Int} (t10 : T10 m tc V W) (h6 : tc ≤ 6) (ht : t < tc) {w : Nat → Nat} (hw : ∀ u, u < tc → W u = w u ∧ 1 ≤ w u ∧ w u ≤ 99) (w2 : Int32) : ∀ (k fuel : Nat), k < fuel → ∀ (u x : Nat), 1 ≤ x → x * 99 ^ k ≤ 30000000000000000 → u + k = tc → nl_X10_fairest_48 F s fuel m 23 (q32 t) w2 (q64 x) (q32 u) = nl_X10_fairest_115 F s F m 23 (q32 t) w2 (q64 (LCF w t k u x : Nat)) (-1 : Int64) (1 : Int64) (0 : Int64) (1 : Int64) := by
  obtain ⟨hr, b4, hv⟩ := t10
  have r1 := rf23_1 hr
  have l24 := ln24 hp
  intro k
  induction k with
  | zero =>
    intro fuel hf u x hx hb hi
    obtain ⟨fuel, rfl⟩ : ∃ f, fuel = f + 1 := ⟨fuel - 1, by omega⟩
    show nb_X10_fairest_48 F s (nl_X10_fairest_48 F s fuel) m 23 _ _ _ _ = _
    unfold nb_X10_fairest_48 LCF
    simp (disch := omega) only [Option.bind_some, bindv, bindv0, bind2_s, bind3_s, ↓reduceIte, Bool.false_eq_true, rZM_0, rZM_1, rZP_0, rZP_1, ptZ_0, ptZ_1, c32i, c64i, ncI, Int.natCast_add, Int.natCast_mul, q32_neg, q64_neg, q32_add, q32_sub, q32_mul, q64_add, q64_sub, q64_mul, q32_64i, q64_32, q32_lt_t, q32_lt_f, q32_le_t, q32_le_f, q32_eq_t, q32_eq_f, q64_lt_t, q64_lt_f, q64_le_t, q64_le_f, q64_eq_t, q64_eq_f, rdI_i, rdL_i, rdR_i, rdN_i, stI_i, stL_i, stR_i, wI_s, wI_n, wL_s, wL_n, wI_2, wI_3, wL_1, wL_3, wR_1, wR_2, Int.toNat_natCast, tnO, tn_add, tn_sub, tn_mul, Nat.add_sub_cancel, Nat.add_zero, Nat.zero_add, lnO, win_t, win_f, r1, b4]
  | succ k ih =>
    intro fuel hf u x hx hb hi
    obtain ⟨fuel, rfl⟩ : ∃ f, fuel = f + 1 := ⟨fuel - 1, by omega⟩
    obtain ⟨w1, w2', w3⟩ := hw u (by omega)
    have v2 := (hv u (by omega)).2
    rw [w1] at v2
    rw [Nat.pow_succ, Nat.mul_comm (99 ^ k) 99, ← Nat.mul_assoc] at hb
    have pk : 1 ≤ 99 ^ k := Nat.pos_of_ne_zero (by simp)
    have hb2 : x * 99 * 1 ≤ x * 99 * 99 ^ k := Nat.mul_le_mul_left _ pk
    obtain ⟨l1, l2, l3, l4⟩ := LC_p hx w2'
    have l5 : x * w u ≤ x * 99 := Nat.mul_le_mul_left x w3
    show nb_X10_fairest_48 F s (nl_X10_fairest_48 F s fuel) m 23 _ _ _ _ = _
    unfold nb_X10_fairest_48 LCF nb_X10_fairest_95
    by_cases c : u = t
    · rw [if_pos c]
      have ih := ih fuel (by omega) (u + 1) x hx (Nat.le_trans (Nat.mul_le_mul_right _ (by omega)) hb) (by omega)
      rw [Int.natCast_add] at ih
      subst c
      simp (disch := omega) only [Option.bind_some, bindv, bindv0, bind2_s, bind3_s, ↓reduceIte, Bool.false_eq_true, rZM_0, rZM_1, rZP_0, rZP_1, ptZ_0, ptZ_1, c32i, c64i, ncI, Int.natCast_add, Int.natCast_mul, q32_neg, q64_neg, q32_add, q32_sub, q32_mul, q64_add, q64_sub, q64_mul, q32_64i, q64_32, q32_lt_t, q32_lt_f, q32_le_t, q32_le_f, q32_eq_t, q32_eq_f, q64_lt_t, q64_lt_f, q64_le_t, q64_le_f, q64_eq_t, q64_eq_f, rdI_i, rdL_i, rdR_i, rdN_i, stI_i, stL_i, stR_i, wI_s, wI_n, wL_s, wL_n, wI_2, wI_3, wL_1, wL_3, wR_1, wR_2, Int.toNat_natCast, tnO, tn_add, tn_sub, tn_mul, Nat.add_sub_cancel, Nat.add_zero, Nat.zero_add, lnO, win_t, win_f, r1, b4]
      exact ih
    · rw [if_neg c]
      have ih := ih fuel (by omega) (u + 1) (LC x (w u)) l1 (Nat.le_trans (Nat.mul_le_mul_right _ (by omega)) hb) (by omega)
      rw [Int.natCast_add] at ih
      have cf := m_cm (p := (x : Int)) (q := (w u : Int)) (by omega) (by omega)
      rw [show Int.gcd (x : Int) (w u : Int) = Nat.gcd x (w u) from rfl] at cf
      have hg1 : 0 < Nat.gcd x (w u) := Nat.gcd_pos_of_pos_left _ (by omega)
      have hg2 : Nat.gcd x (w u) ≤ x := Nat.le_of_dvd (by omega) (Nat.gcd_dvd_left _ _)
      have dv : q64 (x : Int) / q64 ((Nat.gcd x (w u) : Nat) : Int) * q64 (w u : Int) = q64 (LC x (w u) : Nat) := by
        rw [q64_div_n (by omega), tdn, q64_mul, ← Int.natCast_mul]
        rfl
      have e55 : ((55 : Int) + (u : Int)).toNat = 55 + u := by omega
      simp (disch := omega) only [Option.bind_some, bindv, bindv0, c32i, c64i, r1, b4, q32_le_f, ↓reduceIte, q32_eq_f, rdI_i, Int.toNat_natCast, tnO, e55, v2, q32_64i, cf, q64_le_f, q64_eq_f, dv, q32_add]
      exact ih
theorem farL10 {F : Nat} {s : List Sh} (hp : ∃ t, s = sB ++ t) {m : Mem} {tc t : Nat} {V W : Nat → Int} (t10 : T10 m tc V W) (h6 : tc ≤ 6) (ht : t < tc) {p q by_ B : Int} (hb : 1 ≤ by_ ∧ by_ ≤ 1000000000000) (hB : 0 ≤ B ∧ B ≤ 200000000000000) (hp' : 0 ≤ p ∧ p ≤ 108) (hq : 1 ≤ q ∧ q ≤ 12) (hV : ∀ u, u < tc → 1 ≤ W u ∧ W u ≤ 99 ∧ 0 ≤ V u ∧ V u ≤ 891 ∧ 0 ≤ ((p * W u - V u * q).natAbs : Int) * by_.tdiv (W u) ∧ ((p * W u - V u * q).natAbs : Int) * by_.tdiv (W u) ≤ B) : ∀ (k fuel : Nat), k < fuel → ∀ (u : Nat) (a : Int), 0 ≤ a → a ≤ u * B → u + k = tc → nl_X10_farOf_6 F s m fuel 23 (q32 t) (q64 p) (q64 q) (q64 by_) (q64 a) (q32 u) = some (q64 (HF V W t p q by_ k u a)) := by
  obtain ⟨hr, b4, hv⟩ := t10
  have r1 := rf23_1 hr
  have l24 := ln24 hp
  intro k
  induction k with
  | zero =>
    intro fuel hf u a h1 h2 hi
    obtain ⟨fuel, rfl⟩ : ∃ f, fuel = f + 1 := ⟨fuel - 1, by omega⟩
    show nb_X10_farOf_6 F s (nl_X10_farOf_6 F s m fuel) m 23 _ _ _ _ _ _ = _
    unfold nb_X10_farOf_6 HF
    simp (disch := omega) only [Option.bind_some, bindv, bindv0, bind2_s, bind3_s, ↓reduceIte, Bool.false_eq_true, rZM_0, rZM_1, rZP_0, rZP_1, ptZ_0, ptZ_1, c32i, c64i, ncI, Int.natCast_add, Int.natCast_mul, q32_neg, q64_neg, q32_add, q32_sub, q32_mul, q64_add, q64_sub, q64_mul, q32_64i, q64_32, q32_lt_t, q32_lt_f, q32_le_t, q32_le_f, q32_eq_t, q32_eq_f, q64_lt_t, q64_lt_f, q64_le_t, q64_le_f, q64_eq_t, q64_eq_f, rdI_i, rdL_i, rdR_i, rdN_i, stI_i, stL_i, stR_i, wI_s, wI_n, wL_s, wL_n, wI_2, wI_3, wL_1, wL_3, wR_1, wR_2, Int.toNat_natCast, tnO, tn_add, tn_sub, tn_mul, Nat.add_sub_cancel, Nat.add_zero, Nat.zero_add, lnO, win_t, win_f, r1, b4]
  | succ k ih =>
    intro fuel hf u a h1 h2 hi
    obtain ⟨fuel, rfl⟩ : ∃ f, fuel = f + 1 := ⟨fuel - 1, by omega⟩
    obtain ⟨w1, w2, w3, w4, w5, w6⟩ := hV u (by omega)
    obtain ⟨v1, v2⟩ := hv u (by omega)
    have e : ((u + 1 : Nat) : Int) * B = (u : Int) * B + B := by rw [Int.natCast_add, Int.add_mul]; simp
    have ub : (u : Int) * B ≤ 6 * 200000000000000 := Int.mul_le_mul (by omega) (by omega) (by omega) (by omega)
    show nb_X10_farOf_6 F s (nl_X10_farOf_6 F s m fuel) m 23 _ _ _ _ _ _ = _
    unfold nb_X10_farOf_6 HF nb_X10_farOf_73 nb_X10_farOf_91
    have e55 : ((55 : Int) + (u : Int)).toNat = 55 + u := by omega
    have e49 : ((49 : Int) + (u : Int)).toNat = 49 + u := by omega
    by_cases c : u = t
    · rw [if_pos c]
      have ih := ih fuel (by omega) (u + 1) a h1 (by omega) (by omega)
      rw [Int.natCast_add] at ih
      subst c
      simp (disch := omega) only [Option.bind_some, bindv, bindv0, bind2_s, bind3_s, ↓reduceIte, Bool.false_eq_true, rZM_0, rZM_1, rZP_0, rZP_1, ptZ_0, ptZ_1, c32i, c64i, ncI, Int.natCast_add, Int.natCast_mul, q32_neg, q64_neg, q32_add, q32_sub, q32_mul, q64_add, q64_sub, q64_mul, q32_64i, q64_32, q32_lt_t, q32_lt_f, q32_le_t, q32_le_f, q32_eq_t, q32_eq_f, q64_lt_t, q64_lt_f, q64_le_t, q64_le_f, q64_eq_t, q64_eq_f, rdI_i, rdL_i, rdR_i, rdN_i, stI_i, stL_i, stR_i, wI_s, wI_n, wL_s, wL_n, wI_2, wI_3, wL_1, wL_3, wR_1, wR_2, Int.toNat_natCast, tnO, tn_add, tn_sub, tn_mul, Nat.add_sub_cancel, Nat.add_zero, Nat.zero_add, lnO, win_t, win_f, r1, b4]
      exact ih
    · rw [if_neg c]
      have x1 : (p * W u).natAbs ≤ 108 * 99 := mulB (by omega) (by omega)
      have x2 : (V u * q).natAbs ≤ 891 * 12 := mulB (by omega) (by omega)
      have dv : q64 by_ / q64 (W u) = q64 (by_.tdiv (W u)) := q64_div_n (by omega)
      have m1 : q64 p * q64 (W u) = q64 (p * W u) := q64_mul _ _
      have m2 : q64 (V u) * q64 q = q64 (V u * q) := q64_mul _ _
      generalize p * W u = y1 at *
      generalize V u * q = y2 at *
      have dn : ((y1 - y2).natAbs : Int) * by_.tdiv (W u) = if 0 ≤ y1 - y2 then (y1 - y2) * by_.tdiv (W u) else (-(y1 - y2)) * by_.tdiv (W u) := by
        by_cases g : 0 ≤ y1 - y2
        · rw [if_pos g, show ((y1 - y2).natAbs : Int) = y1 - y2 by omega]
        · rw [if_neg g, show ((y1 - y2).natAbs : Int) = -(y1 - y2) by omega]
      generalize hz : ((y1 - y2).natAbs : Int) * by_.tdiv (W u) = z at *
      have ih := ih fuel (by omega) (u + 1) (a + z) (by omega) (by omega) (by omega)
      rw [Int.natCast_add] at ih
      by_cases g : 0 ≤ y1 - y2
      · rw [if_pos g] at dn
        have ml : q64 (y1 - y2) * q64 (by_.tdiv (W u)) = q64 z := by rw [q64_mul, dn]
        simp (disch := omega) only [Option.bind_some, bindv, bindv0, c32i, c64i, r1, b4, q32_le_f, ↓reduceIte, q32_eq_f, rdI_i, Int.toNat_natCast, tnO, e55, e49, v1, v2, q32_64i, q32_add, q64_le_t, q64_le_f, q64_eq_f, m1, m2, q64_sub, dv, ml, q64_add]
        exact ih
      · rw [if_neg g] at dn
        have ml : q64 (-(y1 - y2)) * q64 (by_.tdiv (W u)) = q64 z := by rw [q64_mul, dn]
        simp (disch := omega) only [Option.bind_some, bindv, bindv0, c32i, c64i, r1, b4, q32_le_f, ↓reduceIte, q32_eq_f, rdI_i, Int.toNat_natCast, tnO, e55, e49, v1, v2, q32_64i, q32_add, q64_le_t, q64_le_f, q64_eq_f, m1, m2, q64_sub, q64_neg, dv, ml, q64_add]
        exact ih
def ZB (z : F3) : Prop := -1 ≤ z.1 ∧ z.1 ≤ 108 ∧ 1 ≤ z.2.1 ∧ z.2.1 ≤ 12 ∧ 0 ≤ z.2.2 ∧ z.2.2 ≤ 2000000000000000
theorem pL10 {F : Nat} {s : List Sh} (hp : ∃ t, s = sB ++ t) {m : Mem} (hr : RF m) {tp : Nat} (b1 : m.1 24 1 = q32 tp) (htp : tp ≤ 9) {t : Nat} {H : Int → Int → Int} {by_ : Int} {q : Nat} (hq : 1 ≤ q ∧ q ≤ 12) (w2 : Int32) (hH : ∀ p : Nat, p ≤ tp * q → n_X10_farOf F s m 23 (q32 t) (q64 p) (q64 q) (q64 by_) = some (q64 (H p q)) ∧ 0 ≤ H p q ∧ H p q ≤ 2000000000000000) {self : Mem → Nat → Int32 → Int32 → Int64 → Int64 → Int64 → Int64 → Int64 → Option (Int64 × Mem)} : ∀ (j fuel : Nat), j < fuel → ∀ (p : Nat) (z : F3), p + j = tp * q + 1 → ZB z → nl_X10_fairest_127 F s self fuel m 23 (q32 t) w2 (q64 by_) (q64 z.1) (q64 z.2.1) (q64 z.2.2) (q64 q) (q64 p) = self m 23 (q32 t) w2 (q64 by_) (q64 (FRp H q j p z).1) (q64 (FRp H q j p z).2.1) (q64 (FRp H q j p z).2.2) (q64 (q + 1 : Nat)) ∧ ZB (FRp H q j p z) := by
  have r1 := rf23_1 hr
  have l24 := ln24 hp
  have tq : tp * q ≤ 9 * 12 := Nat.mul_le_mul htp hq.2
  have tqi : (tp : Int) * q = ((tp * q : Nat) : Int) := (Int.natCast_mul tp q).symm
  intro j
  induction j with
  | zero =>
    intro fuel hf p z hi hz
    obtain ⟨fuel, rfl⟩ : ∃ f, fuel = f + 1 := ⟨fuel - 1, by omega⟩
    refine ⟨?_, hz⟩
    show nb_X10_fairest_127 F s self (nl_X10_fairest_127 F s self fuel) m 23 _ _ _ _ _ _ _ _ = _
    unfold nb_X10_fairest_127 FRp
    generalize tp * q = z at *
    simp (disch := omega) only [Option.bind_some, bindv, bindv0, bind2_s, bind3_s, ↓reduceIte, Bool.false_eq_true, rZM_0, rZM_1, rZP_0, rZP_1, ptZ_0, ptZ_1, c32i, c64i, ncI, Int.natCast_add, Int.natCast_mul, q32_neg, q64_neg, q32_add, q32_sub, q32_mul, q64_add, q64_sub, q64_mul, q32_64i, q64_32, q32_lt_t, q32_lt_f, q32_le_t, q32_le_f, q32_eq_t, q32_eq_f, q64_lt_t, q64_lt_f, q64_le_t, q64_le_f, q64_eq_t, q64_eq_f, rdI_i, rdL_i, rdR_i, rdN_i, stI_i, stL_i, stR_i, wI_s, wI_n, wL_s, wL_n, wI_2, wI_3, wL_1, wL_3, wR_1, wR_2, Int.toNat_natCast, tnO, tn_add, tn_sub, tn_mul, Nat.add_sub_cancel, Nat.add_zero, Nat.zero_add, lnO, win_t, win_f, r1, b1, tqi]
  | succ j ih =>
    intro fuel hf p z hi hz
    obtain ⟨fuel, rfl⟩ : ∃ f, fuel = f + 1 := ⟨fuel - 1, by omega⟩
    obtain ⟨g1, g2, g3⟩ := hH p (by omega)
    have hz' := hz
    obtain ⟨z1, z2, z3, z4, z5, z6⟩ := hz
    have cm := m_cm (p := (p : Int)) (q := (q : Int)) (by omega) (by omega)
    rw [show Int.gcd (p : Int) (q : Int) = Nat.gcd p q from rfl] at cm
    have hg1 : 0 < Nat.gcd p q := Nat.gcd_pos_of_pos_right _ (by omega)
    have hg2 : Nat.gcd p q ≤ q := Nat.le_of_dvd (by omega) (Nat.gcd_dvd_right _ _)
    have a1 := agG (a := H p q) (b := (q : Int)) (c := z.2.2) (d := z.2.1) (Nat.lt_of_le_of_lt (mulB (a := 2000000000000000) (b := 12) (by omega) (by omega)) (by omega)) (Nat.lt_of_le_of_lt (mulB (a := 2000000000000000) (b := 12) (by omega) (by omega)) (by omega))
    have a2 := agG (a := (p : Int)) (b := (q : Int)) (c := z.1) (d := z.2.1) (Nat.lt_of_le_of_lt (mulB (a := 108) (b := 12) (by omega) (by omega)) (by omega)) (Nat.lt_of_le_of_lt (mulB (a := 108) (b := 12) (by omega) (by omega)) (by omega))
    show nb_X10_fairest_127 F s self (nl_X10_fairest_127 F s self fuel) m 23 _ _ _ _ _ _ _ _ = _ ∧ _
    unfold nb_X10_fairest_127 FRp nb_X10_fairest_194 nb_X10_fairest_223 nb_X10_fairest_235
    generalize tp * q = tpq at *
    by_cases c : Nat.gcd p q = 1 ∧ (z.1 = -1 ∨ H p q * z.2.1 < z.2.2 * q ∨ (H p q * z.2.1 = z.2.2 * q ∧ (p : Int) * z.2.1 < z.1 * q))
    · rw [if_pos c]
      obtain ⟨i1, i2⟩ := ih fuel (by omega) (p + 1) ((p : Int), (q : Int), H p q) (by omega) ⟨by first | omega | (dsimp only; omega), by first | omega | (dsimp only; omega), by first | omega | (dsimp only; omega), by first | omega | (dsimp only; omega), by first | omega | (dsimp only; omega), by first | omega | (dsimp only; omega)⟩
      refine ⟨?_, i2⟩
      rw [← i1]
      dsimp only
      rw [Int.natCast_add]
      obtain ⟨c0, c⟩ := c
      rw [c0] at cm
      generalize H p q = hh at *
      by_cases c1 : z.1 = -1
      · simp (disch := omega) only [Option.bind_some, bindv, bindv0, bind2_s, bind3_s, ↓reduceIte, Bool.false_eq_true, rZM_0, rZM_1, rZP_0, rZP_1, ptZ_0, ptZ_1, c32i, c64i, ncI, Int.natCast_add, Int.natCast_mul, q32_neg, q64_neg, q32_add, q32_sub, q32_mul, q64_add, q64_sub, q64_mul, q32_64i, q64_32, q32_lt_t, q32_lt_f, q32_le_t, q32_le_f, q32_eq_t, q32_eq_f, q64_lt_t, q64_lt_f, q64_le_t, q64_le_f, q64_eq_t, q64_eq_f, rdI_i, rdL_i, rdR_i, rdN_i, stI_i, stL_i, stR_i, wI_s, wI_n, wL_s, wL_n, wI_2, wI_3, wL_1, wL_3, wR_1, wR_2, Int.toNat_natCast, tnO, tn_add, tn_sub, tn_mul, Nat.add_sub_cancel, Nat.add_zero, Nat.zero_add, lnO, win_t, win_f, r1, b1, tqi, cm, g1]
      · by_cases c2 : hh * z.2.1 < z.2.2 * q
        · rw [if_pos c2] at a1
          simp (disch := omega) only [Option.bind_some, bindv, bindv0, bind2_s, bind3_s, ↓reduceIte, Bool.false_eq_true, rZM_0, rZM_1, rZP_0, rZP_1, ptZ_0, ptZ_1, c32i, c64i, ncI, Int.natCast_add, Int.natCast_mul, q32_neg, q64_neg, q32_add, q32_sub, q32_mul, q64_add, q64_sub, q64_mul, q32_64i, q64_32, q32_lt_t, q32_lt_f, q32_le_t, q32_le_f, q32_eq_t, q32_eq_f, q64_lt_t, q64_lt_f, q64_le_t, q64_le_f, q64_eq_t, q64_eq_f, rdI_i, rdL_i, rdR_i, rdN_i, stI_i, stL_i, stR_i, wI_s, wI_n, wL_s, wL_n, wI_2, wI_3, wL_1, wL_3, wR_1, wR_2, Int.toNat_natCast, tnO, tn_add, tn_sub, tn_mul, Nat.add_sub_cancel, Nat.add_zero, Nat.zero_add, lnO, win_t, win_f, r1, b1, tqi, cm, g1, a1]
        · rw [if_neg c2, if_neg (by omega)] at a1
          rw [if_pos (by omega)] at a2
          simp (disch := omega) only [Option.bind_some, bindv, bindv0, bind2_s, bind3_s, ↓reduceIte, Bool.false_eq_true, rZM_0, rZM_1, rZP_0, rZP_1, ptZ_0, ptZ_1, c32i, c64i, ncI, Int.natCast_add, Int.natCast_mul, q32_neg, q64_neg, q32_add, q32_sub, q32_mul, q64_add, q64_sub, q64_mul, q32_64i, q64_32, q32_lt_t, q32_lt_f, q32_le_t, q32_le_f, q32_eq_t, q32_eq_f, q64_lt_t, q64_lt_f, q64_le_t, q64_le_f, q64_eq_t, q64_eq_f, rdI_i, rdL_i, rdR_i, rdN_i, stI_i, stL_i, stR_i, wI_s, wI_n, wL_s, wL_n, wI_2, wI_3, wL_1, wL_3, wR_1, wR_2, Int.toNat_natCast, tnO, tn_add, tn_sub, tn_mul, Nat.add_sub_cancel, Nat.add_zero, Nat.zero_add, lnO, win_t, win_f, r1, b1, tqi, cm, g1, a1, a2]
    · rw [if_neg c]
      obtain ⟨i1, i2⟩ := ih fuel (by omega) (p + 1) z (by omega) hz'
      refine ⟨?_, i2⟩
      rw [← i1, Int.natCast_add]
      by_cases c0 : Nat.gcd p q = 1
      · rw [c0] at cm
        have c := fun h => c ⟨c0, h⟩
        generalize H p q = hh at *
        have c1 : ¬ z.1 = -1 := fun e => c (Or.inl e)
        have c2 : ¬ hh * z.2.1 < z.2.2 * q := fun e => c (Or.inr (Or.inl e))
        rw [if_neg c2] at a1
        by_cases c3 : z.2.2 * q < hh * z.2.1
        · rw [if_pos c3] at a1
          simp (disch := omega) only [Option.bind_some, bindv, bindv0, bind2_s, bind3_s, ↓reduceIte, Bool.false_eq_true, rZM_0, rZM_1, rZP_0, rZP_1, ptZ_0, ptZ_1, c32i, c64i, ncI, Int.natCast_add, Int.natCast_mul, q32_neg, q64_neg, q32_add, q32_sub, q32_mul, q64_add, q64_sub, q64_mul, q32_64i, q64_32, q32_lt_t, q32_lt_f, q32_le_t, q32_le_f, q32_eq_t, q32_eq_f, q64_lt_t, q64_lt_f, q64_le_t, q64_le_f, q64_eq_t, q64_eq_f, rdI_i, rdL_i, rdR_i, rdN_i, stI_i, stL_i, stR_i, wI_s, wI_n, wL_s, wL_n, wI_2, wI_3, wL_1, wL_3, wR_1, wR_2, Int.toNat_natCast, tnO, tn_add, tn_sub, tn_mul, Nat.add_sub_cancel, Nat.add_zero, Nat.zero_add, lnO, win_t, win_f, r1, b1, tqi, cm, g1, a1]
        · rw [if_neg c3] at a1
          have c4 : ¬ (p : Int) * z.2.1 < z.1 * q := fun e => c (Or.inr (Or.inr ⟨by omega, e⟩))
          rw [if_neg c4] at a2
          by_cases c5 : z.1 * q < (p : Int) * z.2.1
          · rw [if_pos c5] at a2
            simp (disch := omega) only [Option.bind_some, bindv, bindv0, bind2_s, bind3_s, ↓reduceIte, Bool.false_eq_true, rZM_0, rZM_1, rZP_0, rZP_1, ptZ_0, ptZ_1, c32i, c64i, ncI, Int.natCast_add, Int.natCast_mul, q32_neg, q64_neg, q32_add, q32_sub, q32_mul, q64_add, q64_sub, q64_mul, q32_64i, q64_32, q32_lt_t, q32_lt_f, q32_le_t, q32_le_f, q32_eq_t, q32_eq_f, q64_lt_t, q64_lt_f, q64_le_t, q64_le_f, q64_eq_t, q64_eq_f, rdI_i, rdL_i, rdR_i, rdN_i, stI_i, stL_i, stR_i, wI_s, wI_n, wL_s, wL_n, wI_2, wI_3, wL_1, wL_3, wR_1, wR_2, Int.toNat_natCast, tnO, tn_add, tn_sub, tn_mul, Nat.add_sub_cancel, Nat.add_zero, Nat.zero_add, lnO, win_t, win_f, r1, b1, tqi, cm, g1, a1, a2]
          · rw [if_neg c5] at a2
            simp (disch := omega) only [Option.bind_some, bindv, bindv0, bind2_s, bind3_s, ↓reduceIte, Bool.false_eq_true, rZM_0, rZM_1, rZP_0, rZP_1, ptZ_0, ptZ_1, c32i, c64i, ncI, Int.natCast_add, Int.natCast_mul, q32_neg, q64_neg, q32_add, q32_sub, q32_mul, q64_add, q64_sub, q64_mul, q32_64i, q64_32, q32_lt_t, q32_lt_f, q32_le_t, q32_le_f, q32_eq_t, q32_eq_f, q64_lt_t, q64_lt_f, q64_le_t, q64_le_f, q64_eq_t, q64_eq_f, rdI_i, rdL_i, rdR_i, rdN_i, stI_i, stL_i, stR_i, wI_s, wI_n, wL_s, wL_n, wI_2, wI_3, wL_1, wL_3, wR_1, wR_2, Int.toNat_natCast, tnO, tn_add, tn_sub, tn_mul, Nat.add_sub_cancel, Nat.add_zero, Nat.zero_add, lnO, win_t, win_f, r1, b1, tqi, cm, g1, a1, a2]
      · simp (disch := omega) only [Option.bind_some, bindv, bindv0, bind2_s, bind3_s, ↓reduceIte, Bool.false_eq_true, rZM_0, rZM_1, rZP_0, rZP_1, ptZ_0, ptZ_1, c32i, c64i, ncI, Int.natCast_add, Int.natCast_mul, q32_neg, q64_neg, q32_add, q32_sub, q32_mul, q64_add, q64_sub, q64_mul, q32_64i, q64_32, q32_lt_t, q32_lt_f, q32_le_t, q32_le_f, q32_eq_t, q32_eq_f, q64_lt_t, q64_lt_f, q64_le_t, q64_le_f, q64_eq_t, q64_eq_f, rdI_i, rdL_i, rdR_i, rdN_i, stI_i, stL_i, stR_i, wI_s, wI_n, wL_s, wL_n, wI_2, wI_3, wL_1, wL_3, wR_1, wR_2, Int.toNat_natCast, tnO, tn_add, tn_sub, tn_mul, Nat.add_sub_cancel, Nat.add_zero, Nat.zero_add, lnO, win_t, win_f, r1, b1, tqi, cm]
theorem qL10 {F : Nat} (hF : 1000 ≤ F) {s : List Sh} (hp : ∃ t, s = sB ++ t) {m : Mem} (hr : RF m) {tp : Nat} (b1 : m.1 24 1 = q32 tp) (htp : tp ≤ 9) {t : Nat} {H : Int → Int → Int} {by_ : Int} (w2 : Int32) (hH : ∀ q p : Nat, 1 ≤ q → q ≤ 12 → p ≤ tp * q → n_X10_farOf F s m 23 (q32 t) (q64 p) (q64 q) (q64 by_) = some (q64 (H p q)) ∧ 0 ≤ H p q ∧ H p q ≤ 2000000000000000) : ∀ (j fuel : Nat), j < fuel → ∀ (q : Nat) (z : F3), 1 ≤ q → q + j = 13 → ZB z → ∃ fuel', nl_X10_fairest_115 F s fuel m 23 (q32 t) w2 (q64 by_) (q64 z.1) (q64 z.2.1) (q64 z.2.2) (q64 q) = nb_X10_fairest_115 F s (nl_X10_fairest_115 F s fuel') m 23 (q32 t) w2 (q64 by_) (q64 (FRq H tp j q z).1) (q64 (FRq H tp j q z).2.1) (q64 (FRq H tp j q z).2.2) (q64 13) ∧ ZB (FRq H tp j q z) := by
  intro j
  induction j with
  | zero =>
    intro fuel hf q z hq hi hz
    obtain ⟨fuel, rfl⟩ : ∃ f, fuel = f + 1 := ⟨fuel - 1, by omega⟩
    obtain rfl : q = 13 := by omega
    exact ⟨fuel, rfl, hz⟩
  | succ j ih =>
    intro fuel hf q z hq hi hz
    obtain ⟨fuel, rfl⟩ : ∃ f, fuel = f + 1 := ⟨fuel - 1, by omega⟩
    have tq : tp * q ≤ 9 * 12 := Nat.mul_le_mul htp (by omega)
    obtain ⟨e1, e2⟩ := pL10 (F := F) (s := s) (m := m) (t := t) hp hr b1 htp (H := H) (by_ := by_) (q := q) (by omega) w2 (fun p hp => hH q p hq (by omega) hp) (self := nl_X10_fairest_115 F s fuel) (tp * q + 1) F (by omega) 0 z (by omega) hz
    obtain ⟨f', i1, i2⟩ := ih fuel (by omega) (q + 1) (FRp H q (tp * q + 1) 0 z) (by omega) (by omega) e2
    refine ⟨f', ?_, i2⟩
    refine Eq.trans ?_ i1
    rw [← e1]
    show nb_X10_fairest_115 F s (nl_X10_fairest_115 F s fuel) m 23 _ _ _ _ _ _ _ = _
    conv => lhs; unfold nb_X10_fairest_115
    simp (disch := omega) only [Option.bind_some, bindv, bindv0, bind2_s, bind3_s, ↓reduceIte, Bool.false_eq_true, rZM_0, rZM_1, rZP_0, rZP_1, ptZ_0, ptZ_1, c32i, c64i, ncI, Int.natCast_add, Int.natCast_mul, q32_neg, q64_neg, q32_add, q32_sub, q32_mul, q64_add, q64_sub, q64_mul, q32_64i, q64_32, q32_lt_t, q32_lt_f, q32_le_t, q32_le_f, q32_eq_t, q32_eq_f, q64_lt_t, q64_lt_f, q64_le_t, q64_le_f, q64_eq_t, q64_eq_f, rdI_i, rdL_i, rdR_i, rdN_i, stI_i, stL_i, stR_i, wI_s, wI_n, wL_s, wL_n, wI_2, wI_3, wL_1, wL_3, wR_1, wR_2, Int.toNat_natCast, tnO, tn_add, tn_sub, tn_mul, Nat.add_sub_cancel, Nat.add_zero, Nat.zero_add, lnO, win_t, win_f]
theorem GF_0 {V W : Nat → Int} {t : Nat} {unit x : Int} : ∀ (n u : Nat) (s : Int), 0 ≤ s → 0 ≤ GF V W t unit x n u s := by
  intro n
  induction n with
  | zero => intro u s h; exact h
  | succ n ih =>
    intro u s h
    unfold GF
    refine ih _ _ ?_
    split
    · exact h
    · omega
theorem fair_both {F : Nat} (hF : 1000 ≤ F) {s : List Sh} (hp : ∃ t, s = sB ++ t) {tp tc t n : Nat} {V W : Nat → Int} (hT : TN tc tp V W) (ht : t < tc) (htp : tp ≤ 9) : ∃ f g : FR, (∀ m : Mem, m.2.2 0 4 = some n → T9 s m n tc V W → m.1 n 0 = q32 tp → m.2.2 0 12 = some 19 → m.2.2 0 13 = some 20 → n_X9_seekFairest F s m 0 (q32 t) = some ((), PT (PT m 19 f) 20 g)) ∧ (∀ M : Mem, T10 M tc V W → M.1 24 1 = q32 tp → ∀ v : Nat, v ≤ 3 → nl_X10_fairest_48 F s F M 23 (q32 t) (q32 v) (1 : Int64) (0 : Int32) = some ((if v = 0 then q64 f.1 else if v = 1 then q64 f.2 else if v = 2 then q64 g.1 else q64 g.2), (if v < 2 then M else PS M g))) := by
  obtain ⟨h6, hT⟩ := hT
  have hw : ∀ u, u < tc → W u = ((W u).toNat : Int) ∧ 1 ≤ (W u).toNat ∧ (W u).toNat ≤ 99 := fun u hu => by
    obtain ⟨⟨h1, h2, h3, h4, h5, h6⟩, h7⟩ := hT u hu
    omega
  generalize hwd : (fun u => (W u).toNat) = w at *
  have hw : ∀ u, u < tc → W u = (w u : Int) ∧ 1 ≤ w u ∧ w u ≤ 99 := fun u hu => by rw [← hwd]; exact hw u hu
  have p99 : 99 ^ tc ≤ 99 ^ 6 := Nat.pow_le_pow_right (by omega) h6
  have p6 : 99 ^ 6 = 941480149401 := by rfl
  have un := LCF_p (W := w) (t := t) tc 0 27720 (by omega) (fun i _ h => (hw i (by omega)).2)
  have bn := LCF_p (W := w) (t := t) tc 0 1 (by omega) (fun i _ h => (hw i (by omega)).2)
  have un9 := fun (m : Mem) r4 t9 => unitL9 (F := F) (s := s) (m := m) (n := n) (V := V) (W := W) (t := t) (tc := tc) hF r4 t9 h6 ht hw tc F (by omega) 0 27720 (by omega) (by omega) (by omega)
  have bn10 := fun (M : Mem) (t10 : T10 M tc V W) w2 => byL10 (F := F) (s := s) (m := M) (V := V) (W := W) (t := t) (tc := tc) hp t10 h6 ht hw w2 tc F (by omega) 0 1 (by omega) (by omega) (by omega)
  generalize LCF w t tc 0 27720 = unit at *
  generalize LCF w t tc 0 1 = by_ at *
  obtain ⟨u1, u2, u3, u4⟩ := un
  obtain ⟨y1, y2, y3, y4⟩ := bn
  have kk : ∀ q : Nat, 1 ≤ q → q ≤ 12 → ∃ k : Nat, unit = q * k ∧ 1 ≤ k ∧ k ≤ unit ∧ (unit : Int).tdiv q = k := fun q q1 q2 => by
    have : q ∣ 27720 := by
      rcases (show q = 1 ∨ q = 2 ∨ q = 3 ∨ q = 4 ∨ q = 5 ∨ q = 6 ∨ q = 7 ∨ q = 8 ∨ q = 9 ∨ q = 10 ∨ q = 11 ∨ q = 12 by omega) with h | h | h | h | h | h | h | h | h | h | h | h <;> subst h <;> decide
    obtain ⟨k, hk⟩ := Nat.dvd_trans this u3
    refine ⟨k, hk, ?_, ?_, ?_⟩
    · rcases Nat.eq_zero_or_pos k with e | e
      · rw [e] at hk; omega
      · exact e
    · rw [hk]; exact Nat.le_mul_of_pos_left k (by omega)
    · rw [tdn, hk, Nat.mul_div_cancel_left _ (by omega)]
  have jj : ∀ u, u < tc → 1 ≤ W u ∧ W u ≤ 99 ∧ 0 ≤ V u ∧ V u ≤ 891 ∧ V u ≤ tp * W u ∧ (u ≠ t → ∃ j i : Nat, unit = w u * j ∧ by_ = w u * i ∧ (unit : Int).tdiv (W u) = j ∧ (by_ : Int).tdiv (W u) = i) ∧ 0 ≤ (unit : Int).tdiv (W u) * V u ∧ (unit : Int).tdiv (W u) * V u ≤ 9 * unit := fun u hu => by
    obtain ⟨⟨h1, h2, h3, h4, h5, h6⟩, h7⟩ := hT u hu
    obtain ⟨e1, e2, e3⟩ := hw u hu
    have hb : (tp : Int) * W u ≤ 9 * 99 := Int.mul_le_mul (by omega) (by omega) (by omega) (by omega)
    refine ⟨by omega, h7, h1, by omega, h5, fun hne => ?_, ?_, ?_⟩
    · obtain ⟨j, hj⟩ := u4 u (by omega) (by omega) hne
      obtain ⟨i, hi⟩ := y4 u (by omega) (by omega) hne
      refine ⟨j, i, hj, hi, ?_, ?_⟩
      · rw [e1, tdn, hj, Nat.mul_div_cancel_left _ (by omega)]
      · rw [e1, tdn, hi, Nat.mul_div_cancel_left _ (by omega)]
    · rw [e1, tdn]
      exact Int.mul_nonneg (Int.natCast_nonneg _) h1
    · rw [e1, tdn]
      have q0 : ((unit / w u : Nat) : Int) * w u ≤ unit := by exact_mod_cast Nat.div_mul_le_self unit (w u)
      have q1 : ((unit / w u : Nat) : Int) * V u ≤ ((unit / w u : Nat) : Int) * (tp * W u) := Int.mul_le_mul_of_nonneg_left h5 (Int.natCast_nonneg _)
      have q2 : ((unit / w u : Nat) : Int) * (tp * W u) = tp * (((unit / w u : Nat) : Int) * w u) := by rw [e1]; grind
      have q3 : (tp : Int) * (((unit / w u : Nat) : Int) * w u) ≤ 9 * unit := Int.mul_le_mul (by omega) q0 (Int.mul_nonneg (Int.natCast_nonneg _) (Int.natCast_nonneg _)) (by omega)
      omega
  -- the two measures
  have hGH : ∀ p q : Nat, 1 ≤ q → q ≤ 12 → GF V W t unit (p * (unit : Int).tdiv q) tc 0 0 * ((by_ : Int) * q) = HF V W t p q by_ tc 0 0 * unit := fun p q q1 q2 => by
    obtain ⟨k, k1, k2, k3, k4⟩ := kk q q1 q2
    rw [k4]
    refine GH (by exact_mod_cast k1) (by omega) (by omega) (by omega) tc 0 0 0 (fun i _ hi hne => ?_) (by simp)
    obtain ⟨a1, a2, a3, a4, a5, a6, -⟩ := jj i (by omega)
    obtain ⟨j, i', b1, b2, -⟩ := a6 hne
    obtain ⟨e1, e2, e3⟩ := hw i (by omega)
    rw [e1]
    exact ⟨by omega, ⟨(j : Int), by exact_mod_cast b1⟩, ⟨(i' : Int), by exact_mod_cast b2⟩⟩
  have hG9 : ∀ m : Mem, m.2.2 0 4 = some n → T9 s m n tc V W → ∀ q p : Nat, 1 ≤ q → q ≤ 12 → p ≤ tp * q → n_X9_farFromOthers F s m 0 (q32 t) (q64 (p * (unit : Int).tdiv q)) (q64 unit) = some (q64 (GF V W t unit (p * (unit : Int).tdiv q) tc 0 0)) ∧ 0 ≤ GF V W t unit (p * (unit : Int).tdiv q) tc 0 0 ∧ GF V W t unit (p * (unit : Int).tdiv q) tc 0 0 ≤ 2000000000000000000 := fun m r4 t9 q p q1 q2 hpq => by
    obtain ⟨k, k1, k2, k3, k4⟩ := kk q q1 q2
    rw [k4]
    have x1 : (p : Int) * k ≤ 9 * unit := by
      have : p * k ≤ tp * q * k := Nat.mul_le_mul_right k hpq
      rw [Nat.mul_assoc, ← k1] at this
      have : p * k ≤ 9 * unit := Nat.le_trans this (Nat.mul_le_mul_right _ htp)
      exact_mod_cast this
    have x0 : 0 ≤ (p : Int) * k := Int.mul_nonneg (by omega) (by omega)
    refine ⟨?_, GF_0 _ _ _ (by omega), ?_⟩
    · unfold n_X9_farFromOthers nb_X9_farFromOthers_0
      exact farL9 (F := F) r4 t9 h6 ht (unit := unit) (B := 9 * unit) (by omega) (by omega) ⟨x0, x1⟩ (fun u hu => by
        obtain ⟨a1, a2, a3, a4, a5, a6, a7, a8⟩ := jj u hu
        exact ⟨a1, a2, a3, a4, a7, a8⟩) tc F (by omega) 0 0 (by omega) (by omega) (by omega)
    · have := (GF_b (V := V) (W := W) (t := t) (unit := unit) (x := (p : Int) * k) (B := 9 * unit) (by omega) ⟨x0, x1⟩ tc 0 0 (fun u _ hu => by
        obtain ⟨a1, a2, a3, a4, a5, a6, a7, a8⟩ := jj u (by omega)
        exact ⟨a7, a8⟩)).2
      have : (tc : Int) * (9 * unit) ≤ 6 * (9 * 30000000000000000) := Int.mul_le_mul (by omega) (by omega) (by omega) (by omega)
      omega
  have hH10 : ∀ M : Mem, T10 M tc V W → ∀ q p : Nat, 1 ≤ q → q ≤ 12 → p ≤ tp * q → n_X10_farOf F s M 23 (q32 t) (q64 p) (q64 q) (q64 by_) = some (q64 (HF V W t p q by_ tc 0 0)) ∧ 0 ≤ HF V W t p q by_ tc 0 0 ∧ HF V W t p q by_ tc 0 0 ≤ 2000000000000000 := fun M t10 q p q1 q2 hpq => by
    have tq : tp * q ≤ 9 * 12 := Nat.mul_le_mul htp q2
    have bb : ∀ u, u < tc → 0 ≤ (((p : Int) * W u - V u * q).natAbs : Int) * (by_ : Int).tdiv (W u) ∧ (((p : Int) * W u - V u * q).natAbs : Int) * (by_ : Int).tdiv (W u) ≤ 108 * by_ := fun u hu => by
      obtain ⟨a1, a2, a3, a4, a5, a6, a7, a8⟩ := jj u hu
      obtain ⟨e1, e2, e3⟩ := hw u hu
      rw [e1, tdn]
      have q0 : ((by_ / w u : Nat) : Int) * w u ≤ by_ := by exact_mod_cast Nat.div_mul_le_self by_ (w u)
      have z1 : 0 ≤ (p : Int) * w u := Int.mul_nonneg (by omega) (by omega)
      have z2 : (p : Int) * w u ≤ 108 * w u := Int.mul_le_mul_of_nonneg_right (by omega) (by omega)
      have z3 : 0 ≤ V u * (q : Int) := Int.mul_nonneg a3 (by omega)
      have z4 : V u * (q : Int) ≤ 108 * w u := by
        have : V u * (q : Int) ≤ (9 * w u) * 12 := Int.mul_le_mul (by
          have : (tp : Int) * W u ≤ 9 * W u := Int.mul_le_mul_of_nonneg_right (by omega) (by omega)
          omega) (by omega) (by omega) (by omega)
        omega
      refine ⟨Int.mul_nonneg (Int.natCast_nonneg _) (Int.natCast_nonneg _), ?_⟩
      have z5 : ((((p : Int) * w u - V u * q).natAbs : Nat) : Int) * ((by_ / w u : Nat) : Int) ≤ (108 * w u) * ((by_ / w u : Nat) : Int) := Int.mul_le_mul_of_nonneg_right (by omega) (Int.natCast_nonneg _)
      have z6 : (108 * (w u : Int)) * ((by_ / w u : Nat) : Int) = 108 * (((by_ / w u : Nat) : Int) * w u) := by grind
      omega
    have hb := HF_b (V := V) (W := W) (t := t) (p := p) (q := q) (by_ := by_) (B := 108 * by_) (by omega) tc 0 0 (fun u _ hu => bb u (by omega))
    have hm : (tc : Int) * (108 * by_) ≤ 6 * (108 * 1000000000000) := Int.mul_le_mul (by omega) (by omega) (by omega) (by omega)
    refine ⟨?_, hb.1, by omega⟩
    unfold n_X10_farOf nb_X10_farOf_0
    exact farL10 (F := F) hp t10 h6 ht (p := p) (q := q) (by_ := by_) (B := 108 * by_) (by omega) (by omega) (by omega) (by omega) (fun u hu => by
      obtain ⟨a1, a2, a3, a4, a5, a6, a7, a8⟩ := jj u hu
      exact ⟨a1, a2, a3, a4, bb u hu⟩) tc F (by omega) 0 0 (by omega) (by omega) (by omega)
  have fi := FI_q (G := fun x => GF V W t unit x tc 0 0) (H := fun p q => HF V W t p q by_ tc 0 0) (unit := unit) (by_ := by_) (tp := tp) (by omega) (fun q q1 q2 => by
    obtain ⟨k, k1, -⟩ := kk q q1 q2
    exact ⟨(k : Int), by exact_mod_cast k1⟩) (by omega) (fun x => GF_0 _ _ _ (by omega)) hGH 12 1 (-1, 0) (-1, 1, 0) (by omega) (by omega) ⟨Or.inl ⟨rfl, rfl⟩, fun _ x ⟨r, i, a1, a2, _⟩ => by omega, fun x ⟨r, i, a1, a2, _⟩ => by omega⟩
  have c9 := fun (m : Mem) r4 (t9 : T9 s m n tc V W) g0 => qL9 (F := F) hF (s := s) (m := m) (n := n) (tp := tp) (t := t) (G := fun x => GF V W t unit x tc 0 0) (unit := unit) r4 g0 htp (by omega) (fun q q1 q2 => by
    obtain ⟨k, k1, k2, k3, k4⟩ := kk q q1 q2
    rw [k4]; omega) (hG9 m r4 t9) 12 F (by omega) 1 (-1, 0) (by omega) (by omega) (by first | omega | (dsimp only; omega)) (by first | omega | (dsimp only; omega)) (by first | omega | (dsimp only; omega)) (by first | omega | (dsimp only; omega))
  have c10 := fun (M : Mem) (t10 : T10 M tc V W) b1 w2 => qL10 (F := F) hF (s := s) hp (m := M) t10.1 (tp := tp) (t := t) (H := fun p q => HF V W t p q by_ tc 0 0) (by_ := by_) b1 htp w2 (hH10 M t10) 12 F (by omega) 1 (-1, 1, 0) (by omega) (by omega) ⟨by dsimp only; omega, by dsimp only; omega, by dsimp only; omega, by dsimp only; omega, by dsimp only; omega, by dsimp only; omega⟩
  generalize FCq (fun x => GF V W t unit x tc 0 0) unit tp 12 1 (-1, 0) = Y at *
  generalize FRq (fun p q => HF V W t p q by_ tc 0 0) tp 12 1 (-1, 1, 0) = Z at *
  obtain ⟨f1, f2, -⟩ := fi
  have ny : Y.1 ≠ -1 := fun e => f2 e 0 ⟨1, 0, by omega, by omega, by omega, by simp⟩
  rcases f1 with ⟨a, -⟩ | ⟨k1, k2, k3, k4, k5, k6, k7, k8⟩
  · exact absurd a ny
  have n1 : nrm Y.2 unit = (Z.1, Z.2.1) := by
    rw [nrm_eq (p' := Z.1) (q' := Z.2.1) (by omega) (by omega) k6, nrm_low (by omega) k8]
  have n2 : nrm Y.1 unit = nrm Z.2.2 (Z.2.1 * by_) := nrm_eq (by omega) (by
    have : 0 < Z.2.1 * (by_ : Int) := Int.mul_pos (by omega) (by omega)
    omega) (by rw [Int.mul_comm Z.2.1]; exact k7)
  refine ⟨nrm Y.2 unit, nrm Y.1 unit, fun m r4 t9 g0 r12 r13 => ?_, fun M t10 b1 v hv => ?_⟩
  · obtain ⟨f', e1, e2, e3, e4, e5⟩ := c9 m r4 t9 g0
    have p1 := put9 (F := F) (s := s) (m := m) (r := 19) (by omega) (p := Y.2) (q := unit) (by omega) (by omega) (by omega)
    have p2 := put9 (F := F) (s := s) (m := PT m 19 (nrm Y.2 unit)) (r := 20) (by omega) (p := Y.1) (q := unit) (by omega) (by omega) (by omega)
    have fu : n_X9_fairUnit F s m 0 (q32 t) = some (q64 unit) := by
      unfold n_X9_fairUnit nb_X9_fairUnit_0
      exact un9 m r4 t9
    unfold n_X9_seekFairest nb_X9_seekFairest_0
    rw [fu]
    refine Eq.trans e1 ?_
    unfold nb_X9_seekFairest_17
    simp (disch := omega) only [Option.bind_some, bindv, bindv0, bind2_s, bind3_s, ↓reduceIte, Bool.false_eq_true, rZM_0, rZM_1, rZP_0, rZP_1, ptZ_0, ptZ_1, c32i, c64i, ncI, Int.natCast_add, Int.natCast_mul, q32_neg, q64_neg, q32_add, q32_sub, q32_mul, q64_add, q64_sub, q64_mul, q32_64i, q64_32, q32_lt_t, q32_lt_f, q32_le_t, q32_le_f, q32_eq_t, q32_eq_f, q64_lt_t, q64_lt_f, q64_le_t, q64_le_f, q64_eq_t, q64_eq_f, rdI_i, rdL_i, rdR_i, rdN_i, stI_i, stL_i, stR_i, wI_s, wI_n, wL_s, wL_n, wI_2, wI_3, wL_1, wL_3, wR_1, wR_2, Int.toNat_natCast, tnO, tn_add, tn_sub, tn_mul, Nat.add_sub_cancel, Nat.add_zero, Nat.zero_add, lnO, win_t, win_f, r12, p1, PT_3, r13, p2]
  · obtain ⟨f', e1, e2⟩ := c10 M t10 b1 (q32 v)
    obtain ⟨z1, z2, z3, z4, z5, z6⟩ := e2
    rw [show (1 : Int64) = q64 ((1 : Nat) : Int) from rfl, show (0 : Int32) = q32 ((0 : Nat) : Int) from rfl, bn10 M t10 (q32 v)]
    refine Eq.trans e1 ?_
    have zb : 0 < Z.2.1 * (by_ : Int) := Int.mul_pos (by omega) (by omega)
    have zb2 : Z.2.1 * (by_ : Int) ≤ 12 * 1000000000000 := Int.mul_le_mul (by omega) (by omega) (by omega) (by omega)
    have ly := lays10e (s := s) (m := M) (p := Z.2.2) (q := Z.2.1 * by_) (by omega) (by omega) (by omega)
    rw [← n2] at ly
    rw [n1]
    unfold nb_X10_fairest_115
    rcases (show v = 0 ∨ v = 1 ∨ v = 2 ∨ v = 3 by omega) with rfl | rfl | rfl | rfl
    · simp (disch := omega) only [Option.bind_some, bindv, bindv0, bind2_s, bind3_s, ↓reduceIte, Bool.false_eq_true, rZM_0, rZM_1, rZP_0, rZP_1, ptZ_0, ptZ_1, c32i, c64i, ncI, Int.natCast_add, Int.natCast_mul, q32_neg, q64_neg, q32_add, q32_sub, q32_mul, q64_add, q64_sub, q64_mul, q32_64i, q64_32, q32_lt_t, q32_lt_f, q32_le_t, q32_le_f, q32_eq_t, q32_eq_f, q64_lt_t, q64_lt_f, q64_le_t, q64_le_f, q64_eq_t, q64_eq_f, rdI_i, rdL_i, rdR_i, rdN_i, stI_i, stL_i, stR_i, wI_s, wI_n, wL_s, wL_n, wI_2, wI_3, wL_1, wL_3, wR_1, wR_2, Int.toNat_natCast, tnO, tn_add, tn_sub, tn_mul, Nat.add_sub_cancel, Nat.add_zero, Nat.zero_add, lnO, win_t, win_f]
      rfl
    · simp (disch := omega) only [Option.bind_some, bindv, bindv0, bind2_s, bind3_s, ↓reduceIte, Bool.false_eq_true, rZM_0, rZM_1, rZP_0, rZP_1, ptZ_0, ptZ_1, c32i, c64i, ncI, Int.natCast_add, Int.natCast_mul, q32_neg, q64_neg, q32_add, q32_sub, q32_mul, q64_add, q64_sub, q64_mul, q32_64i, q64_32, q32_lt_t, q32_lt_f, q32_le_t, q32_le_f, q32_eq_t, q32_eq_f, q64_lt_t, q64_lt_f, q64_le_t, q64_le_f, q64_eq_t, q64_eq_f, rdI_i, rdL_i, rdR_i, rdN_i, stI_i, stL_i, stR_i, wI_s, wI_n, wL_s, wL_n, wI_2, wI_3, wL_1, wL_3, wR_1, wR_2, Int.toNat_natCast, tnO, tn_add, tn_sub, tn_mul, Nat.add_sub_cancel, Nat.add_zero, Nat.zero_add, lnO, win_t, win_f]
      rfl
    · simp (disch := omega) only [Option.bind_some, bindv, bindv0, bind2_s, bind3_s, ↓reduceIte, Bool.false_eq_true, rZM_0, rZM_1, rZP_0, rZP_1, ptZ_0, ptZ_1, c32i, c64i, ncI, Int.natCast_add, Int.natCast_mul, q32_neg, q64_neg, q32_add, q32_sub, q32_mul, q64_add, q64_sub, q64_mul, q32_64i, q64_32, q32_lt_t, q32_lt_f, q32_le_t, q32_le_f, q32_eq_t, q32_eq_f, q64_lt_t, q64_lt_f, q64_le_t, q64_le_f, q64_eq_t, q64_eq_f, rdI_i, rdL_i, rdR_i, rdN_i, stI_i, stL_i, stR_i, wI_s, wI_n, wL_s, wL_n, wI_2, wI_3, wL_1, wL_3, wR_1, wR_2, Int.toNat_natCast, tnO, tn_add, tn_sub, tn_mul, Nat.add_sub_cancel, Nat.add_zero, Nat.zero_add, lnO, win_t, win_f, ly, PS_0, PS_l]
      rfl
    · simp (disch := omega) only [Option.bind_some, bindv, bindv0, bind2_s, bind3_s, ↓reduceIte, Bool.false_eq_true, rZM_0, rZM_1, rZP_0, rZP_1, ptZ_0, ptZ_1, c32i, c64i, ncI, Int.natCast_add, Int.natCast_mul, q32_neg, q64_neg, q32_add, q32_sub, q32_mul, q64_add, q64_sub, q64_mul, q32_64i, q64_32, q32_lt_t, q32_lt_f, q32_le_t, q32_le_f, q32_eq_t, q32_eq_f, q64_lt_t, q64_lt_f, q64_le_t, q64_le_f, q64_eq_t, q64_eq_f, rdI_i, rdL_i, rdR_i, rdN_i, stI_i, stL_i, stR_i, wI_s, wI_n, wL_s, wL_n, wI_2, wI_3, wL_1, wL_3, wR_1, wR_2, Int.toNat_natCast, tnO, tn_add, tn_sub, tn_mul, Nat.add_sub_cancel, Nat.add_zero, Nat.zero_add, lnO, win_t, win_f, ly, PS_0, PS_l]
      rfl
theorem opk_fairest {F : Nat} (hF : 1000 ≤ F) {s : List Sh} {m : Mem} (h : INV s m) (w1 w2 : Int32) : OPK s m (n_X9_fairest F s m 0 w1 w2) (fun m1 => n_X10_fairest F s m1 23 w1 w2) := by
  have h0 := h
  obtain ⟨hg, ow, nw, hst⟩ := h
  have hl := hst.1
  have hp := hl.hp
  have hr := hl.rf
  have hn := hl.hn
  have rn := hl.nw
  have r1 := rf23_1 hr
  have l24 := ln24 hp
  obtain ⟨t, ht, rfl⟩ := q32_of w1
  obtain ⟨v, hv, rfl⟩ := q32_of w2
  have r12 := rf0_12 hr
  have r13 := rf0_13 hr
  obtain ⟨tp, t1, t2, t3, t4, -⟩ := hst.2.1.wa.at
  have g0 : m.1 nw 0 = q32 tp := by obtain ⟨tp, sk, nl, bc, fc, tc, au, aw, S, U, L, V, W, X, O, h1, ⟨a0, a1, a2, a4, a5, a6, a9, a15⟩, ⟨b0, b1, b2, b3, b4, b5, b6, b7, b8⟩, h4, ⟨s1, s2, s3, s4, s5, s6, s7⟩, h6, ⟨h7, h7b⟩, h8⟩ := hst.2.1; rw [a0, ← b1]; exact t3
  obtain ⟨tc, V, W, hn6, t9, t10⟩ := hst.tn t4
  have h6 := hn6.1
  have a15 := t9.1
  have fin : ∀ r m1 m2, n_X9_fairest F s m 0 (q32 t) (q32 v) = some (r, m1) → n_X10_fairest F s m1 23 (q32 t) (q32 v) = some (r, m2) → SC m m2 → OPK s m (n_X9_fairest F s m 0 (q32 t) (q32 v)) (fun m1 => n_X10_fairest F s m1 23 (q32 t) (q32 v)) := fun r m1 m2 e1 e2 sc =>
    opk_fin h0 e1 e2 (un_X10_fairest (un_X9_fairest hg (okB hp).1 e1).2 (okB hp).2 e2).2 sc
  have t10k : ∀ M : Mem, SC m M → T10 (wI M 23 0 (q32 0)) tc V W := fun M hM => t10.k (fun j _ => by simp (disch := omega) only [Option.bind_some, bindv, bindv0, bind2_s, bind3_s, ↓reduceIte, Bool.false_eq_true, rZM_0, rZM_1, rZP_0, rZP_1, ptZ_0, ptZ_1, c32i, c64i, ncI, Int.natCast_add, Int.natCast_mul, q32_neg, q64_neg, q32_add, q32_sub, q32_mul, q64_add, q64_sub, q64_mul, q32_64i, q64_32, q32_lt_t, q32_lt_f, q32_le_t, q32_le_f, q32_eq_t, q32_eq_f, q64_lt_t, q64_lt_f, q64_le_t, q64_le_f, q64_eq_t, q64_eq_f, rdI_i, rdL_i, rdR_i, rdN_i, stI_i, stL_i, stR_i, wI_s, wI_n, wL_s, wL_n, wI_2, wI_3, wL_1, wL_3, wR_1, wR_2, Int.toNat_natCast, tnO, tn_add, tn_sub, tn_mul, Nat.add_sub_cancel, Nat.add_zero, Nat.zero_add, lnO, win_t, win_f]; exact hM.i _ _ (by omega)) hM.r h6
  by_cases ct : 0 ≤ t ∧ t < tc
  · have it : ∀ mm, T10 mm tc V W → n_X10_isTenant s mm 23 (q32 t) = some (q32 1) := fun mm hm => by rw [isTen10 hp hm h6 ht, if_pos ct]
    obtain ⟨n, rfl⟩ := Int.eq_ofNat_of_zero_le ct.1
    by_cases cv : 0 ≤ v ∧ v ≤ 3
    · obtain ⟨vn, rfl⟩ := Int.eq_ofNat_of_zero_le cv.1
      by_cases c1 : tc = 1
      · have it' := it _ (t10k m (SC.rf m))
        have b4 := t10.2.1
        refine fin (q64 (-1)) m (wI m 23 0 (q32 0)) ?_ ?_ (SC.k0 m)
        · unfold n_X9_fairest nb_X9_fairest_0
          simp (disch := omega) only [Option.bind_some, bindv, bindv0, bind2_s, bind3_s, ↓reduceIte, Bool.false_eq_true, rZM_0, rZM_1, rZP_0, rZP_1, ptZ_0, ptZ_1, c32i, c64i, ncI, Int.natCast_add, Int.natCast_mul, q32_neg, q64_neg, q32_add, q32_sub, q32_mul, q64_add, q64_sub, q64_mul, q32_64i, q64_32, q32_lt_t, q32_lt_f, q32_le_t, q32_le_f, q32_eq_t, q32_eq_f, q64_lt_t, q64_lt_f, q64_le_t, q64_le_f, q64_eq_t, q64_eq_f, rdI_i, rdL_i, rdR_i, rdN_i, stI_i, stL_i, stR_i, wI_s, wI_n, wL_s, wL_n, wI_2, wI_3, wL_1, wL_3, wR_1, wR_2, Int.toNat_natCast, tnO, tn_add, tn_sub, tn_mul, Nat.add_sub_cancel, Nat.add_zero, Nat.zero_add, lnO, win_t, win_f, rn, a15]
        · unfold n_X10_fairest nb_X10_fairest_0
          simp (disch := omega) only [Option.bind_some, bindv, bindv0, bind2_s, bind3_s, ↓reduceIte, Bool.false_eq_true, rZM_0, rZM_1, rZP_0, rZP_1, ptZ_0, ptZ_1, c32i, c64i, ncI, Int.natCast_add, Int.natCast_mul, q32_neg, q64_neg, q32_add, q32_sub, q32_mul, q64_add, q64_sub, q64_mul, q32_64i, q64_32, q32_lt_t, q32_lt_f, q32_le_t, q32_le_f, q32_eq_t, q32_eq_f, q64_lt_t, q64_lt_f, q64_le_t, q64_le_f, q64_eq_t, q64_eq_f, rdI_i, rdL_i, rdR_i, rdN_i, stI_i, stL_i, stR_i, wI_s, wI_n, wL_s, wL_n, wI_2, wI_3, wL_1, wL_3, wR_1, wR_2, Int.toNat_natCast, tnO, tn_add, tn_sub, tn_mul, Nat.add_sub_cancel, Nat.add_zero, Nat.zero_add, lnO, win_t, win_f, it', r1, b4]
      · obtain ⟨f, g, k1, k2⟩ := fair_both hF hp (n := nw) hn6 (t := n) (by omega) t2
        have k1 := k1 m rn t9 g0 r12 r13
        have sc : SC m (PT (PT m 19 f) 20 g) := ((SC.rf m).pt (by omega)).pt (by omega)
        have tk := t10k _ sc
        have it' := it _ tk
        have k2 := k2 _ tk (by simp (disch := omega) only [Option.bind_some, bindv, bindv0, bind2_s, bind3_s, ↓reduceIte, Bool.false_eq_true, rZM_0, rZM_1, rZP_0, rZP_1, ptZ_0, ptZ_1, c32i, c64i, ncI, Int.natCast_add, Int.natCast_mul, q32_neg, q64_neg, q32_add, q32_sub, q32_mul, q64_add, q64_sub, q64_mul, q32_64i, q64_32, q32_lt_t, q32_lt_f, q32_le_t, q32_le_f, q32_eq_t, q32_eq_f, q64_lt_t, q64_lt_f, q64_le_t, q64_le_f, q64_eq_t, q64_eq_f, rdI_i, rdL_i, rdR_i, rdN_i, stI_i, stL_i, stR_i, wI_s, wI_n, wL_s, wL_n, wI_2, wI_3, wL_1, wL_3, wR_1, wR_2, Int.toNat_natCast, tnO, tn_add, tn_sub, tn_mul, Nat.add_sub_cancel, Nat.add_zero, Nat.zero_add, lnO, win_t, win_f]; exact t3) vn (by omega)
        have b4 : (PT (PT m 19 f) 20 g).1 24 4 = q32 tc := t10.2.1
        have r1' : (wI (PT (PT m 19 f) 20 g) 23 0 (q32 0)).2.2 23 1 = some 24 := r1
        refine fin (if vn = 0 then q64 f.1 else if vn = 1 then q64 f.2 else if vn = 2 then q64 g.1 else q64 g.2) (PT (PT m 19 f) 20 g) (if vn < 2 then wI (PT (PT m 19 f) 20 g) 23 0 (q32 0) else PS (wI (PT (PT m 19 f) 20 g) 23 0 (q32 0)) g) ?_ ?_ ?_
        · have o0 : (PT (PT m 19 f) 20 g).2.1 19 0 = q64 f.1 := by rw [PT_n (by omega), PT_0]
          have o1 : (PT (PT m 19 f) 20 g).2.1 19 1 = q64 f.2 := by rw [PT_n (by omega), PT_l]
          unfold n_X9_fairest nb_X9_fairest_0 n_X2_part nb_X2_part_0
          rcases (show vn = 0 ∨ vn = 1 ∨ vn = 2 ∨ vn = 3 by omega) with rfl | rfl | rfl | rfl
          · simp (disch := omega) only [Option.bind_some, bindv, bindv0, bind2_s, bind3_s, ↓reduceIte, Bool.false_eq_true, rZM_0, rZM_1, rZP_0, rZP_1, ptZ_0, ptZ_1, c32i, c64i, ncI, Int.natCast_add, Int.natCast_mul, q32_neg, q64_neg, q32_add, q32_sub, q32_mul, q64_add, q64_sub, q64_mul, q32_64i, q64_32, q32_lt_t, q32_lt_f, q32_le_t, q32_le_f, q32_eq_t, q32_eq_f, q64_lt_t, q64_lt_f, q64_le_t, q64_le_f, q64_eq_t, q64_eq_f, rdI_i, rdL_i, rdR_i, rdN_i, stI_i, stL_i, stR_i, wI_s, wI_n, wL_s, wL_n, wI_2, wI_3, wL_1, wL_3, wR_1, wR_2, Int.toNat_natCast, tnO, tn_add, tn_sub, tn_mul, Nat.add_sub_cancel, Nat.add_zero, Nat.zero_add, lnO, win_t, win_f, rn, a15, k1, PT_3, r12, r13, PT_0, PT_l, o0, o1]
            first | rfl | skip
          · simp (disch := omega) only [Option.bind_some, bindv, bindv0, bind2_s, bind3_s, ↓reduceIte, Bool.false_eq_true, rZM_0, rZM_1, rZP_0, rZP_1, ptZ_0, ptZ_1, c32i, c64i, ncI, Int.natCast_add, Int.natCast_mul, q32_neg, q64_neg, q32_add, q32_sub, q32_mul, q64_add, q64_sub, q64_mul, q32_64i, q64_32, q32_lt_t, q32_lt_f, q32_le_t, q32_le_f, q32_eq_t, q32_eq_f, q64_lt_t, q64_lt_f, q64_le_t, q64_le_f, q64_eq_t, q64_eq_f, rdI_i, rdL_i, rdR_i, rdN_i, stI_i, stL_i, stR_i, wI_s, wI_n, wL_s, wL_n, wI_2, wI_3, wL_1, wL_3, wR_1, wR_2, Int.toNat_natCast, tnO, tn_add, tn_sub, tn_mul, Nat.add_sub_cancel, Nat.add_zero, Nat.zero_add, lnO, win_t, win_f, rn, a15, k1, PT_3, r12, r13, PT_0, PT_l, o0, o1]
            first | rfl | skip
          · simp (disch := omega) only [Option.bind_some, bindv, bindv0, bind2_s, bind3_s, ↓reduceIte, Bool.false_eq_true, rZM_0, rZM_1, rZP_0, rZP_1, ptZ_0, ptZ_1, c32i, c64i, ncI, Int.natCast_add, Int.natCast_mul, q32_neg, q64_neg, q32_add, q32_sub, q32_mul, q64_add, q64_sub, q64_mul, q32_64i, q64_32, q32_lt_t, q32_lt_f, q32_le_t, q32_le_f, q32_eq_t, q32_eq_f, q64_lt_t, q64_lt_f, q64_le_t, q64_le_f, q64_eq_t, q64_eq_f, rdI_i, rdL_i, rdR_i, rdN_i, stI_i, stL_i, stR_i, wI_s, wI_n, wL_s, wL_n, wI_2, wI_3, wL_1, wL_3, wR_1, wR_2, Int.toNat_natCast, tnO, tn_add, tn_sub, tn_mul, Nat.add_sub_cancel, Nat.add_zero, Nat.zero_add, lnO, win_t, win_f, rn, a15, k1, PT_3, r12, r13, PT_0, PT_l, o0, o1]
            first | rfl | skip
          · simp (disch := omega) only [Option.bind_some, bindv, bindv0, bind2_s, bind3_s, ↓reduceIte, Bool.false_eq_true, rZM_0, rZM_1, rZP_0, rZP_1, ptZ_0, ptZ_1, c32i, c64i, ncI, Int.natCast_add, Int.natCast_mul, q32_neg, q64_neg, q32_add, q32_sub, q32_mul, q64_add, q64_sub, q64_mul, q32_64i, q64_32, q32_lt_t, q32_lt_f, q32_le_t, q32_le_f, q32_eq_t, q32_eq_f, q64_lt_t, q64_lt_f, q64_le_t, q64_le_f, q64_eq_t, q64_eq_f, rdI_i, rdL_i, rdR_i, rdN_i, stI_i, stL_i, stR_i, wI_s, wI_n, wL_s, wL_n, wI_2, wI_3, wL_1, wL_3, wR_1, wR_2, Int.toNat_natCast, tnO, tn_add, tn_sub, tn_mul, Nat.add_sub_cancel, Nat.add_zero, Nat.zero_add, lnO, win_t, win_f, rn, a15, k1, PT_3, r12, r13, PT_0, PT_l, o0, o1]
            first | rfl | skip
        · unfold n_X10_fairest nb_X10_fairest_0
          simp (disch := omega) only [Option.bind_some, bindv, bindv0, bind2_s, bind3_s, ↓reduceIte, Bool.false_eq_true, rZM_0, rZM_1, rZP_0, rZP_1, ptZ_0, ptZ_1, c32i, c64i, ncI, Int.natCast_add, Int.natCast_mul, q32_neg, q64_neg, q32_add, q32_sub, q32_mul, q64_add, q64_sub, q64_mul, q32_64i, q64_32, q32_lt_t, q32_lt_f, q32_le_t, q32_le_f, q32_eq_t, q32_eq_f, q64_lt_t, q64_lt_f, q64_le_t, q64_le_f, q64_eq_t, q64_eq_f, rdI_i, rdL_i, rdR_i, rdN_i, stI_i, stL_i, stR_i, wI_s, wI_n, wL_s, wL_n, wI_2, wI_3, wL_1, wL_3, wR_1, wR_2, Int.toNat_natCast, tnO, tn_add, tn_sub, tn_mul, Nat.add_sub_cancel, Nat.add_zero, Nat.zero_add, lnO, win_t, win_f, it', r1', b4]
          exact k2
        · split
          · exact sc.tr (SC.k0 _)
          · exact (sc.tr (SC.k0 _)).ps
    · have it' := it _ (t10k m (SC.rf m))
      refine fin (q64 (-2)) m (wI m 23 0 (q32 0)) ?_ ?_ (SC.k0 m)
      · unfold n_X9_fairest nb_X9_fairest_0
        by_cases c2 : v < 0
        · simp (disch := omega) only [Option.bind_some, bindv, bindv0, bind2_s, bind3_s, ↓reduceIte, Bool.false_eq_true, rZM_0, rZM_1, rZP_0, rZP_1, ptZ_0, ptZ_1, c32i, c64i, ncI, Int.natCast_add, Int.natCast_mul, q32_neg, q64_neg, q32_add, q32_sub, q32_mul, q64_add, q64_sub, q64_mul, q32_64i, q64_32, q32_lt_t, q32_lt_f, q32_le_t, q32_le_f, q32_eq_t, q32_eq_f, q64_lt_t, q64_lt_f, q64_le_t, q64_le_f, q64_eq_t, q64_eq_f, rdI_i, rdL_i, rdR_i, rdN_i, stI_i, stL_i, stR_i, wI_s, wI_n, wL_s, wL_n, wI_2, wI_3, wL_1, wL_3, wR_1, wR_2, Int.toNat_natCast, tnO, tn_add, tn_sub, tn_mul, Nat.add_sub_cancel, Nat.add_zero, Nat.zero_add, lnO, win_t, win_f, rn, a15]
        · simp (disch := omega) only [Option.bind_some, bindv, bindv0, bind2_s, bind3_s, ↓reduceIte, Bool.false_eq_true, rZM_0, rZM_1, rZP_0, rZP_1, ptZ_0, ptZ_1, c32i, c64i, ncI, Int.natCast_add, Int.natCast_mul, q32_neg, q64_neg, q32_add, q32_sub, q32_mul, q64_add, q64_sub, q64_mul, q32_64i, q64_32, q32_lt_t, q32_lt_f, q32_le_t, q32_le_f, q32_eq_t, q32_eq_f, q64_lt_t, q64_lt_f, q64_le_t, q64_le_f, q64_eq_t, q64_eq_f, rdI_i, rdL_i, rdR_i, rdN_i, stI_i, stL_i, stR_i, wI_s, wI_n, wL_s, wL_n, wI_2, wI_3, wL_1, wL_3, wR_1, wR_2, Int.toNat_natCast, tnO, tn_add, tn_sub, tn_mul, Nat.add_sub_cancel, Nat.add_zero, Nat.zero_add, lnO, win_t, win_f, rn, a15]
      · unfold n_X10_fairest nb_X10_fairest_0
        simp (disch := omega) only [Option.bind_some, bindv, bindv0, bind2_s, bind3_s, ↓reduceIte, Bool.false_eq_true, rZM_0, rZM_1, rZP_0, rZP_1, ptZ_0, ptZ_1, c32i, c64i, ncI, Int.natCast_add, Int.natCast_mul, q32_neg, q64_neg, q32_add, q32_sub, q32_mul, q64_add, q64_sub, q64_mul, q32_64i, q64_32, q32_lt_t, q32_lt_f, q32_le_t, q32_le_f, q32_eq_t, q32_eq_f, q64_lt_t, q64_lt_f, q64_le_t, q64_le_f, q64_eq_t, q64_eq_f, rdI_i, rdL_i, rdR_i, rdN_i, stI_i, stL_i, stR_i, wI_s, wI_n, wL_s, wL_n, wI_2, wI_3, wL_1, wL_3, wR_1, wR_2, Int.toNat_natCast, tnO, tn_add, tn_sub, tn_mul, Nat.add_sub_cancel, Nat.add_zero, Nat.zero_add, lnO, win_t, win_f, it']
  · have it : n_X10_isTenant s (wI m 23 0 (q32 0)) 23 (q32 t) = some (q32 0) := by rw [isTen10 hp (t10k m (SC.rf m)) h6 ht, if_neg ct]
    refine fin (q64 (-2)) m (wI m 23 0 (q32 0)) ?_ ?_ (SC.k0 m)
    · unfold n_X9_fairest nb_X9_fairest_0
      by_cases c2 : t < 0
      · simp (disch := omega) only [Option.bind_some, bindv, bindv0, bind2_s, bind3_s, ↓reduceIte, Bool.false_eq_true, rZM_0, rZM_1, rZP_0, rZP_1, ptZ_0, ptZ_1, c32i, c64i, ncI, Int.natCast_add, Int.natCast_mul, q32_neg, q64_neg, q32_add, q32_sub, q32_mul, q64_add, q64_sub, q64_mul, q32_64i, q64_32, q32_lt_t, q32_lt_f, q32_le_t, q32_le_f, q32_eq_t, q32_eq_f, q64_lt_t, q64_lt_f, q64_le_t, q64_le_f, q64_eq_t, q64_eq_f, rdI_i, rdL_i, rdR_i, rdN_i, stI_i, stL_i, stR_i, wI_s, wI_n, wL_s, wL_n, wI_2, wI_3, wL_1, wL_3, wR_1, wR_2, Int.toNat_natCast, tnO, tn_add, tn_sub, tn_mul, Nat.add_sub_cancel, Nat.add_zero, Nat.zero_add, lnO, win_t, win_f, rn, a15]
      · simp (disch := omega) only [Option.bind_some, bindv, bindv0, bind2_s, bind3_s, ↓reduceIte, Bool.false_eq_true, rZM_0, rZM_1, rZP_0, rZP_1, ptZ_0, ptZ_1, c32i, c64i, ncI, Int.natCast_add, Int.natCast_mul, q32_neg, q64_neg, q32_add, q32_sub, q32_mul, q64_add, q64_sub, q64_mul, q32_64i, q64_32, q32_lt_t, q32_lt_f, q32_le_t, q32_le_f, q32_eq_t, q32_eq_f, q64_lt_t, q64_lt_f, q64_le_t, q64_le_f, q64_eq_t, q64_eq_f, rdI_i, rdL_i, rdR_i, rdN_i, stI_i, stL_i, stR_i, wI_s, wI_n, wL_s, wL_n, wI_2, wI_3, wL_1, wL_3, wR_1, wR_2, Int.toNat_natCast, tnO, tn_add, tn_sub, tn_mul, Nat.add_sub_cancel, Nat.add_zero, Nat.zero_add, lnO, win_t, win_f, rn, a15]
    · unfold n_X10_fairest nb_X10_fairest_0
      simp (disch := omega) only [Option.bind_some, bindv, bindv0, bind2_s, bind3_s, ↓reduceIte, Bool.false_eq_true, rZM_0, rZM_1, rZP_0, rZP_1, ptZ_0, ptZ_1, c32i, c64i, ncI, Int.natCast_add, Int.natCast_mul, q32_neg, q64_neg, q32_add, q32_sub, q32_mul, q64_add, q64_sub, q64_mul, q32_64i, q64_32, q32_lt_t, q32_lt_f, q32_le_t, q32_le_f, q32_eq_t, q32_eq_f, q64_lt_t, q64_lt_f, q64_le_t, q64_le_f, q64_eq_t, q64_eq_f, rdI_i, rdL_i, rdR_i, rdN_i, stI_i, stL_i, stR_i, wI_s, wI_n, wL_s, wL_n, wI_2, wI_3, wL_1, wL_3, wR_1, wR_2, Int.toNat_natCast, tnO, tn_add, tn_sub, tn_mul, Nat.add_sub_cancel, Nat.add_zero, Nat.zero_add, lnO, win_t, win_f, it]
