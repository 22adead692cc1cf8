/-! PURE: how many floors there are -/
theorem Sm_add {g h : Nat → Nat} : ∀ n, Sm (fun i => g i + h i) n = Sm g n + Sm h n := by
  intro n
  induction n with
  | zero => rfl
  | succ n ih => unfold Sm; rw [ih]; omega
theorem Sm_swap {f : Nat → Nat → Nat} (n : Nat) : ∀ m, Sm (fun i => Sm (fun j => f i j) n) m = Sm (fun j => Sm (fun i => f i j) m) n := by
  intro m
  induction m with
  | zero => exact (Sm_0 n (fun i _ => rfl)).symm
  | succ m ih =>
    have e : (fun j => Sm (fun i => f i j) (m + 1)) = fun j => Sm (fun i => f i j) m + f m j := rfl
    rw [e, Sm_add, ← ih]
    rfl
/-- how many fractions by q are below u by l -/
def NQ (u l q : Nat) : Nat := (u * q + l - 1) / l
theorem NQ_t {u l q p : Nat} (hl : 1 ≤ l) : p < NQ u l q ↔ p * l < u * q := by
  unfold NQ
  show p + 1 ≤ _ ↔ _
  rw [Nat.le_div_iff_mul_le (by omega), Nat.add_mul]
  omega
/-- of these in lowest terms -/
def CQ (u l q : Nat) : Nat := Sm (fun p => if Nat.gcd p q = 1 then 1 else 0) (NQ u l q)
theorem cnt_mul {k : Nat} (hk : 1 ≤ k) (Q : Nat → Nat) : ∀ n, Sm (fun p => if p % k = 0 then Q (p / k) else 0) n = Sm Q ((n + k - 1) / k) := by
  intro n
  induction n with
  | zero =>
    rw [show (0 + k - 1) / k = 0 from Nat.div_eq_of_lt (by omega)]
    rfl
  | succ n ih =>
    rw [show Sm (fun p => if p % k = 0 then Q (p / k) else 0) (n + 1) = Sm (fun p => if p % k = 0 then Q (p / k) else 0) n + (if n % k = 0 then Q (n / k) else 0) from rfl, ih]
    by_cases c : n % k = 0
    · rw [if_pos c]
      obtain ⟨a, ha⟩ := Nat.dvd_of_mod_eq_zero c
      have e1 : (n + k - 1) / k = a := by
        rw [ha, show k * a + k - 1 = (k - 1) + k * a by omega, Nat.add_mul_div_left _ _ (by omega), Nat.div_eq_of_lt (by omega)]
        omega
      have e2 : (n + 1 + k - 1) / k = a + 1 := by
        rw [ha, show k * a + 1 + k - 1 = k * (a + 1) by rw [Nat.mul_add]; omega, Nat.mul_div_cancel_left _ (by omega)]
      have e3 : n / k = a := by rw [ha, Nat.mul_div_cancel_left _ (by omega)]
      rw [e1, e2, e3]
      first | rfl | skip
    · rw [if_neg c]
      have hd := Nat.div_add_mod n k
      have hm := Nat.mod_lt n (show 0 < k by omega)
      have e1 : (n + k - 1) / k = n / k + 1 := by
        have : n + k - 1 = (n % k - 1) + k * (n / k + 1) := by rw [Nat.mul_add]; omega
        rw [this, Nat.add_mul_div_left _ _ (by omega), Nat.div_eq_of_lt (by omega)]
        omega
      have e2 : (n + 1 + k - 1) / k = n / k + 1 := by
        have : n + 1 + k - 1 = (n % k) + k * (n / k + 1) := by rw [Nat.mul_add]; omega
        rw [this, Nat.add_mul_div_left _ _ (by omega), Nat.div_eq_of_lt (by omega)]
        omega
      rw [e1, e2]
      omega
/-- those that come to e in lowest terms -/
theorem cnt_e {u l q e : Nat} (hl : 1 ≤ l) (hq : 1 ≤ q) (he : 1 ≤ e) : Sm (fun p => if q / Nat.gcd p q = e then 1 else 0) (NQ u l q) = if q % e = 0 then CQ u l e else 0 := by
  by_cases c : q % e = 0
  · rw [if_pos c]
    obtain ⟨k, hk⟩ := Nat.dvd_of_mod_eq_zero c
    have hk1 : 1 ≤ k := by
      rcases Nat.eq_zero_or_pos k with h | h
      · rw [h] at hk; omega
      · exact h
    have key : ∀ p, (if q / Nat.gcd p q = e then 1 else 0) = if p % k = 0 then (fun x => if Nat.gcd x e = 1 then 1 else 0) (p / k) else 0 := by
      intro p
      have hg : 0 < Nat.gcd p q := Nat.gcd_pos_of_pos_right _ (by omega)
      have hgd : Nat.gcd p q ∣ q := Nat.gcd_dvd_right p q
      by_cases c1 : p % k = 0
      · rw [if_pos c1]
        obtain ⟨x, hx⟩ := Nat.dvd_of_mod_eq_zero c1
        have e1 : p / k = x := by rw [hx, Nat.mul_div_cancel_left _ (by omega)]
        have e2 : Nat.gcd p q = k * Nat.gcd x e := by rw [hx, hk, Nat.mul_comm e k, Nat.gcd_mul_left]
        have hge : 0 < Nat.gcd x e := Nat.gcd_pos_of_pos_right _ (by omega)
        have hde : Nat.gcd x e ∣ e := Nat.gcd_dvd_right x e
        have e3 : q / Nat.gcd p q = e / Nat.gcd x e := by rw [e2, hk, Nat.mul_comm e k, Nat.mul_div_mul_left _ _ (by omega)]
        rw [e1, e3]
        dsimp only
        by_cases c2 : Nat.gcd x e = 1
        · rw [if_pos c2, c2, Nat.div_one, if_pos rfl]
        · rw [if_neg c2, if_neg]
          intro h
          have := Nat.div_mul_cancel hde
          rw [h] at this
          have h2 : e * Nat.gcd x e = e * 1 := by omega
          exact c2 (Nat.eq_of_mul_eq_mul_left (by omega) h2)
      · rw [if_neg c1, if_neg]
        intro h
        have h1 := Nat.div_mul_cancel hgd
        rw [h] at h1
        have h2 : e * Nat.gcd p q = e * k := by omega
        have h3 := Nat.eq_of_mul_eq_mul_left (by omega) h2
        have h4 : Nat.gcd p q ∣ p := Nat.gcd_dvd_left p q
        rw [h3] at h4
        exact c1 (Nat.mod_eq_zero_of_dvd h4)
    rw [show (fun p => if q / Nat.gcd p q = e then 1 else 0) = fun p => if p % k = 0 then (fun x => if Nat.gcd x e = 1 then 1 else 0) (p / k) else 0 from funext key, cnt_mul hk1 (fun x => if Nat.gcd x e = 1 then 1 else 0)]
    unfold CQ
    congr 1
    -- how many multiples of k there are
    have h1 : ∀ x, x < (NQ u l q + k - 1) / k ↔ x < NQ u l e := by
      intro x
      rw [NQ_t hl]
      show x + 1 ≤ _ ↔ _
      rw [Nat.le_div_iff_mul_le (by omega), Nat.add_mul]
      have h2 : x * k < NQ u l q ↔ x * k * l < u * q := NQ_t hl
      have h3 : x * k * l < u * q ↔ x * l < u * e := by
        rw [hk, show x * k * l = k * (x * l) by rw [Nat.mul_comm x k, Nat.mul_assoc], show u * (e * k) = k * (u * e) by rw [← Nat.mul_assoc, Nat.mul_comm]]
        exact Nat.mul_lt_mul_left (by omega)
      rw [← h3, ← h2]
      omega
    rcases Nat.lt_trichotomy ((NQ u l q + k - 1) / k) (NQ u l e) with h | h | h
    · have := (h1 _).mpr h; omega
    · exact h
    · have := (h1 _).mp h; omega
  · rw [if_neg c]
    refine Sm_0 _ (fun p _ => if_neg (fun h => ?_))
    have h1 := Nat.div_mul_cancel (Nat.gcd_dvd_right p q)
    rw [h] at h1
    exact c (Nat.mod_eq_zero_of_dvd ⟨Nat.gcd p q, h1.symm⟩)
theorem NQ_sum {u l q : Nat} (hl : 1 ≤ l) (hq : 1 ≤ q) : NQ u l q = Sm (fun e => if q % (e + 1) = 0 then CQ u l (e + 1) else 0) q := by
  have h1 : NQ u l q = Sm (fun p => Sm (fun e => if q / Nat.gcd p q = e + 1 then 1 else 0) q) (NQ u l q) := by
    have : ∀ n, n = Sm (fun p => Sm (fun e => if q / Nat.gcd p q = e + 1 then 1 else 0) q) n := by
      intro n
      induction n with
      | zero => rfl
      | succ n ih =>
        unfold Sm
        rw [← ih]
        have hg : 0 < Nat.gcd n q := Nat.gcd_pos_of_pos_right _ (by omega)
        have hd1 : 1 ≤ q / Nat.gcd n q := Nat.div_pos (Nat.le_of_dvd (by omega) (Nat.gcd_dvd_right n q)) hg
        have hd2 := Nat.div_le_self q (Nat.gcd n q)
        have : Sm (fun e => if q / Nat.gcd n q = e + 1 then 1 else 0) q = Sm (fun e => if e = q / Nat.gcd n q - 1 then 1 else 0) q := Sm_eq q (fun i _ => by
          by_cases c : q / Nat.gcd n q = i + 1
          · rw [if_pos c, if_pos (by omega)]
          · rw [if_neg c, if_neg (by omega)])
        rw [this, Sm_one q (by omega)]
    exact this _
  rw [h1, Sm_swap]
  exact Sm_eq q (fun e _ => cnt_e hl hq (by omega))
/-- what is left of q when all below r have been taken off -/
def BQ (u l r t : Nat) : Int := (NQ u l t : Int) - (Sm (fun e => if t % (e + 1) = 0 ∧ e + 1 < t then CQ u l (e + 1) else 0) (r - 1) : Nat)
theorem BQ_1 {u l t : Nat} : BQ u l 1 t = NQ u l t := by
  unfold BQ
  rw [show 1 - 1 = 0 from rfl]
  show (NQ u l t : Int) - ((0 : Nat) : Int) = _
  omega
theorem BQ_q {u l q : Nat} (hl : 1 ≤ l) (hq : 1 ≤ q) : BQ u l q q = CQ u l q := by
  obtain ⟨r, rfl⟩ : ∃ r, q = r + 1 := ⟨q - 1, by omega⟩
  unfold BQ
  have h := NQ_sum (u := u) (l := l) (q := r + 1) hl hq
  unfold Sm at h
  rw [if_pos (Nat.mod_self _)] at h
  have e : Sm (fun e => if (r + 1) % (e + 1) = 0 ∧ e + 1 < r + 1 then CQ u l (e + 1) else 0) (r + 1 - 1) = Sm (fun e => if (r + 1) % (e + 1) = 0 then CQ u l (e + 1) else 0) r := Sm_eq r (fun i hi => by
    by_cases c : (r + 1) % (i + 1) = 0
    · rw [if_pos c, if_pos ⟨c, by omega⟩]
    · rw [if_neg c, if_neg (fun z => c z.1)])
  rw [e]
  omega
theorem BQ_s {u l r t : Nat} (hr : 1 ≤ r) : BQ u l (r + 1) t = if t % r = 0 ∧ r < t then BQ u l r t - CQ u l r else BQ u l r t := by
  unfold BQ
  obtain ⟨q, rfl⟩ : ∃ q, r = q + 1 := ⟨r - 1, by omega⟩
  rw [show q + 1 + 1 - 1 = q + 1 by omega, show q + 1 - 1 = q by omega]
  have : Sm (fun e => if t % (e + 1) = 0 ∧ e + 1 < t then CQ u l (e + 1) else 0) (q + 1) = Sm (fun e => if t % (e + 1) = 0 ∧ e + 1 < t then CQ u l (e + 1) else 0) q + (if t % (q + 1) = 0 ∧ q + 1 < t then CQ u l (q + 1) else 0) := rfl
  rw [this]
  by_cases c : t % (q + 1) = 0 ∧ q + 1 < t
  · rw [if_pos c, if_pos c]; omega
  · rw [if_neg c, if_neg c]; omega
theorem NQ_b {u l q tp : Nat} (hl : 1 ≤ l) (h : u ≤ tp * l) : NQ u l q ≤ tp * q := by
  apply Classical.byContradiction
  intro hn
  have := (NQ_t (u := u) (q := q) (p := tp * q) hl).mp (by omega)
  have k1 : u * q ≤ tp * l * q := Nat.mul_le_mul_right q h
  have k2 : tp * q * l = tp * l * q := by rw [Nat.mul_assoc, Nat.mul_comm q l, ← Nat.mul_assoc]
  omega
theorem Sm_le {g h : Nat → Nat} : ∀ n, (∀ i, i < n → g i ≤ h i) → Sm g n ≤ Sm h n := by
  intro n
  induction n with
  | zero => intro _; exact Nat.le_refl _
  | succ n ih => intro hh; unfold Sm; have := ih (fun i hi => hh i (by omega)); have := hh n (by omega); omega
theorem Sm_c (c : Nat) : ∀ n, Sm (fun _ => c) n = n * c := by
  intro n
  induction n with
  | zero => simp [Sm]
  | succ n ih => unfold Sm; rw [ih, Nat.add_mul]; omega
theorem CQ_le {u l q : Nat} : CQ u l q ≤ NQ u l q := by
  unfold CQ
  have := Sm_le (g := fun p => if Nat.gcd p q = 1 then 1 else 0) (h := fun _ => 1) (NQ u l q) (fun i _ => by split <;> omega)
  rw [Sm_c] at this
  omega
theorem BQ_b {u l r t : Nat} (hl : 1 ≤ l) (ht : 1 ≤ t) : 0 ≤ BQ u l r t ∧ BQ u l r t ≤ NQ u l t := by
  unfold BQ
  have h := NQ_sum (u := u) (l := l) (q := t) hl ht
  have : Sm (fun e => if t % (e + 1) = 0 ∧ e + 1 < t then CQ u l (e + 1) else 0) (r - 1) ≤ NQ u l t := by
    rw [h]
    have z : ∀ a b, Sm (fun e => if t % (e + 1) = 0 ∧ e + 1 < t then CQ u l (e + 1) else 0) a ≤ Sm (fun e => if t % (e + 1) = 0 ∧ e + 1 < t then CQ u l (e + 1) else 0) (t + b) ∨ t < a := by
      intro a b
      induction b with
      | zero =>
        by_cases c : t < a
        · exact Or.inr c
        · left
          have mono : ∀ d, Sm (fun e => if t % (e + 1) = 0 ∧ e + 1 < t then CQ u l (e + 1) else 0) a ≤ Sm (fun e => if t % (e + 1) = 0 ∧ e + 1 < t then CQ u l (e + 1) else 0) (a + d) := by
            intro d
            induction d with
            | zero => exact Nat.le_refl _
            | succ d ihd =>
              rw [show a + (d + 1) = (a + d) + 1 by omega]
              conv => rhs; unfold Sm
              omega
          have := mono (t - a)
          rwa [show a + (t - a) = t + 0 by omega] at this
      | succ b ihb =>
        rcases ihb with h | h
        · left
          rw [show t + (b + 1) = (t + b) + 1 by omega]
          conv => rhs; unfold Sm
          omega
        · exact Or.inr h
    have tail : ∀ b, Sm (fun e => if t % (e + 1) = 0 ∧ e + 1 < t then CQ u l (e + 1) else 0) (t + b) = Sm (fun e => if t % (e + 1) = 0 ∧ e + 1 < t then CQ u l (e + 1) else 0) t := by
      intro b
      induction b with
      | zero => rfl
      | succ b ihb =>
        rw [show t + (b + 1) = (t + b) + 1 by omega]
        conv => lhs; unfold Sm
        rw [ihb, if_neg (by omega)]
        omega
    have top : Sm (fun e => if t % (e + 1) = 0 ∧ e + 1 < t then CQ u l (e + 1) else 0) t ≤ Sm (fun e => if t % (e + 1) = 0 then CQ u l (e + 1) else 0) t := Sm_le t (fun i _ => by
      by_cases c : t % (i + 1) = 0
      · rw [if_pos c]; split <;> omega
      · rw [if_neg c, if_neg (fun z => c z.1)]; exact Nat.le_refl _)
    by_cases c : t < r - 1
    · have := tail (r - 1 - t)
      rw [show t + (r - 1 - t) = r - 1 by omega] at this
      omega
    · rcases z (r - 1) 0 with h | h
      · rw [show t + 0 = t from rfl] at h; omega
      · omega
  omega
/-! the class -/
def KC (m m' : Mem) : Prop := m'.2 = m.2 ∧ ∀ a k, a ≠ 22 → m'.1 a k = m.1 a k
theorem KC.tr {m m1 m2 : Mem} (h : KC m m1) (h2 : KC m1 m2) : KC m m2 := ⟨h2.1.trans h.1, fun a k p => (h2.2 a k p).trans (h.2 a k p)⟩
theorem KC.w {m : Mem} {k : Nat} {x : Int32} : KC m (wI m 22 k x) := ⟨rfl, fun a j h => wI_n (Or.inl h)⟩
theorem KC.sc {m m' : Mem} (h : KC m m') : SC m m' := SC.of (fun a k => by
  by_cases c : a = 22
  · omega
  · rw [h.2 a k c]; simp) (fun a k => by rw [h.1]; simp) (by rw [h.1])
theorem fillC9 {F : Nat} {s : List Sh} (hp : ∃ t, s = sB ++ t) {u l d tp : Nat} (hu : u ≤ 1000000) (hl : 1 ≤ l ∧ l ≤ 1000000) (hd : d ≤ 200) (htp : tp ≤ 9) (ht : u ≤ tp * l) : ∀ (n fuel : Nat), n < fuel → ∀ (m : Mem) (q : Nat), RF m → 1 ≤ q → q + n = d + 1 → (∀ t, 1 ≤ t → t < q → m.1 22 t = q32 (NQ u l t)) → ∃ m', nl_X9_countBelow_15 F s fuel m 0 (q64 u) (q64 l) (q32 d) (q32 0) (q32 q) = nb_X9_countBelow_57 F s m' 0 (q32 d) (q32 0) ∧ KC m m' ∧ ∀ t, 1 ≤ t → t ≤ d → m'.1 22 t = q32 (NQ u l t) := by
  have l22 := ln22 hp
  intro n
  induction n with
  | zero =>
    intro fuel hf m q hr h1 h2 h3
    obtain ⟨fuel, rfl⟩ : ∃ f, fuel = f + 1 := ⟨fuel - 1, by omega⟩
    obtain rfl : q = d + 1 := by omega
    refine ⟨m, ?_, ⟨rfl, fun _ _ _ => rfl⟩, fun t t1 t2 => h3 t t1 (by omega)⟩
    show nb_X9_countBelow_15 F s (nl_X9_countBelow_15 F s fuel) m 0 _ _ _ _ _ = _
    unfold nb_X9_countBelow_15
    simp (disch := omega) only [Option.bind_some, bindv, bindv0, bind2_s, bind3_s, ↓reduceIte, Bool.false_eq_true, rZM_0, rZM_1, rZP_0, rZP_1, ptZ_0, ptZ_1, c32i, c64i, ncI, Int.natCast_add, Int.natCast_mul, q32_neg, q64_neg, q32_add, q32_sub, q32_mul, q64_add, q64_sub, q64_mul, q32_64i, q64_32, q32_lt_t, q32_lt_f, q32_le_t, q32_le_f, q32_eq_t, q32_eq_f, q64_lt_t, q64_lt_f, q64_le_t, q64_le_f, q64_eq_t, q64_eq_f, rdI_i, rdL_i, rdR_i, rdN_i, stI_i, stL_i, stR_i, wI_s, wI_n, wL_s, wL_n, wI_2, wI_3, wL_1, wL_3, wR_1, wR_2, Int.toNat_natCast, tnO, tn_add, tn_sub, tn_mul, Nat.add_sub_cancel, Nat.add_zero, Nat.zero_add, lnO, win_t, win_f]
  | succ n ih =>
    intro fuel hf m q hr h1 h2 h3
    obtain ⟨fuel, rfl⟩ : ∃ f, fuel = f + 1 := ⟨fuel - 1, by omega⟩
    have r15 := rf0_15 hr
    have nb := NQ_b (u := u) (l := l) (q := q) (tp := tp) hl.1 ht
    have nb2 : tp * q ≤ 9 * 200 := Nat.mul_le_mul htp (by omega)
    have m3 := mulB (show (u : Int).natAbs ≤ 1000000 by omega) (show (q : Int).natAbs ≤ 200 by omega)
    have dv : q64 ((u : Int) * q + l - 1) / q64 l = q64 (NQ u l q : Int) := by
      rw [q64_div_n (by omega)]
      unfold NQ
      rw [show ((u : Int) * q + l - 1) = ((u * q + l - 1 : Nat) : Int) by rw [← Int.natCast_mul]; omega, tdn]
    obtain ⟨m', e1, e2, e3⟩ := ih fuel (by omega) (wI m 22 q (q32 (NQ u l q))) (q + 1) (hr.same rfl) (by omega) (by omega) (fun t t1 t2 => by
      by_cases c : t = q
      · subst c; simp (disch := omega) only [Option.bind_some, bindv, bindv0, bind2_s, bind3_s, ↓reduceIte, Bool.false_eq_true, rZM_0, rZM_1, rZP_0, rZP_1, ptZ_0, ptZ_1, c32i, c64i, ncI, Int.natCast_add, Int.natCast_mul, q32_neg, q64_neg, q32_add, q32_sub, q32_mul, q64_add, q64_sub, q64_mul, q32_64i, q64_32, q32_lt_t, q32_lt_f, q32_le_t, q32_le_f, q32_eq_t, q32_eq_f, q64_lt_t, q64_lt_f, q64_le_t, q64_le_f, q64_eq_t, q64_eq_f, rdI_i, rdL_i, rdR_i, rdN_i, stI_i, stL_i, stR_i, wI_s, wI_n, wL_s, wL_n, wI_2, wI_3, wL_1, wL_3, wR_1, wR_2, Int.toNat_natCast, tnO, tn_add, tn_sub, tn_mul, Nat.add_sub_cancel, Nat.add_zero, Nat.zero_add, lnO, win_t, win_f]
      · simp (disch := omega) only [Option.bind_some, bindv, bindv0, bind2_s, bind3_s, ↓reduceIte, Bool.false_eq_true, rZM_0, rZM_1, rZP_0, rZP_1, ptZ_0, ptZ_1, c32i, c64i, ncI, Int.natCast_add, Int.natCast_mul, q32_neg, q64_neg, q32_add, q32_sub, q32_mul, q64_add, q64_sub, q64_mul, q32_64i, q64_32, q32_lt_t, q32_lt_f, q32_le_t, q32_le_f, q32_eq_t, q32_eq_f, q64_lt_t, q64_lt_f, q64_le_t, q64_le_f, q64_eq_t, q64_eq_f, rdI_i, rdL_i, rdR_i, rdN_i, stI_i, stL_i, stR_i, wI_s, wI_n, wL_s, wL_n, wI_2, wI_3, wL_1, wL_3, wR_1, wR_2, Int.toNat_natCast, tnO, tn_add, tn_sub, tn_mul, Nat.add_sub_cancel, Nat.add_zero, Nat.zero_add, lnO, win_t, win_f]; exact h3 t t1 (by omega))
    refine ⟨m', ?_, KC.w.tr e2, e3⟩
    show nb_X9_countBelow_15 F s (nl_X9_countBelow_15 F s fuel) m 0 _ _ _ _ _ = _
    unfold nb_X9_countBelow_15
    rw [Int.natCast_add] at e1
    simp (disch := omega) only [Option.bind_some, bindv, bindv0, bind2_s, bind3_s, ↓reduceIte, Bool.false_eq_true, rZM_0, rZM_1, rZP_0, rZP_1, ptZ_0, ptZ_1, c32i, c64i, ncI, Int.natCast_add, Int.natCast_mul, q32_neg, q64_neg, q32_add, q32_sub, q32_mul, q64_add, q64_sub, q64_mul, q32_64i, q64_32, q32_lt_t, q32_lt_f, q32_le_t, q32_le_f, q32_eq_t, q32_eq_f, q64_lt_t, q64_lt_f, q64_le_t, q64_le_f, q64_eq_t, q64_eq_f, rdI_i, rdL_i, rdR_i, rdN_i, stI_i, stL_i, stR_i, wI_s, wI_n, wL_s, wL_n, wI_2, wI_3, wL_1, wL_3, wR_1, wR_2, Int.toNat_natCast, tnO, tn_add, tn_sub, tn_mul, Nat.add_sub_cancel, Nat.add_zero, Nat.zero_add, lnO, win_t, win_f, r15, l22, dv]
    exact e1
theorem sieveI9 {F : Nat} {s : List Sh} (hp : ∃ t, s = sB ++ t) {self : Mem → Nat → Int32 → Int32 → Int32 → Option (Int32 × Mem)} {u l d q tp : Nat} (hl : 1 ≤ l) (hd : d ≤ 200) (hq : 1 ≤ q ∧ q ≤ d) (htp : tp ≤ 9) (ht : u ≤ tp * l) {S : Int32} : ∀ (n fuel : Nat), n < fuel → ∀ (m : Mem) (v : Nat), RF m → d < v + n → q < v → v % q = 0 → v ≤ 400 → (∀ t, 1 ≤ t → t ≤ d → m.1 22 t = q32 (if t % q = 0 ∧ q < t ∧ t < v then BQ u l q t - CQ u l q else BQ u l q t)) → ∃ m', nl_X9_countBelow_95 F s self fuel m 0 (q32 d) S (q32 q) (q32 v) = self m' 0 (q32 d) S (q32 (q + 1 : Nat)) ∧ KC m m' ∧ ∀ t, 1 ≤ t → t ≤ d → m'.1 22 t = q32 (BQ u l (q + 1) t) := by
  have l22 := ln22 hp
  intro n
  induction n with
  | zero =>
    intro fuel hf m v hr h1 h2 h3 h4 h5
    obtain ⟨fuel, rfl⟩ : ∃ f, fuel = f + 1 := ⟨fuel - 1, by omega⟩
    refine ⟨m, ?_, ⟨rfl, fun _ _ _ => rfl⟩, fun t t1 t2 => ?_⟩
    · show nb_X9_countBelow_95 F s self (nl_X9_countBelow_95 F s self fuel) m 0 _ _ _ _ = _
      unfold nb_X9_countBelow_95 nb_X9_countBelow_139
      simp (disch := omega) only [Option.bind_some, bindv, bindv0, bind2_s, bind3_s, ↓reduceIte, Bool.false_eq_true, rZM_0, rZM_1, rZP_0, rZP_1, ptZ_0, ptZ_1, c32i, c64i, ncI, Int.natCast_add, Int.natCast_mul, q32_neg, q64_neg, q32_add, q32_sub, q32_mul, q64_add, q64_sub, q64_mul, q32_64i, q64_32, q32_lt_t, q32_lt_f, q32_le_t, q32_le_f, q32_eq_t, q32_eq_f, q64_lt_t, q64_lt_f, q64_le_t, q64_le_f, q64_eq_t, q64_eq_f, rdI_i, rdL_i, rdR_i, rdN_i, stI_i, stL_i, stR_i, wI_s, wI_n, wL_s, wL_n, wI_2, wI_3, wL_1, wL_3, wR_1, wR_2, Int.toNat_natCast, tnO, tn_add, tn_sub, tn_mul, Nat.add_sub_cancel, Nat.add_zero, Nat.zero_add, lnO, win_t, win_f]
    · rw [h5 t t1 t2, BQ_s hq.1]
      by_cases c : t % q = 0 ∧ q < t
      · rw [if_pos c, if_pos ⟨c.1, c.2, by omega⟩]
      · rw [if_neg c, if_neg (fun z => c ⟨z.1, z.2.1⟩)]
  | succ n ih =>
    intro fuel hf m v hr h1 h2 h3 h4 h5
    obtain ⟨fuel, rfl⟩ : ∃ f, fuel = f + 1 := ⟨fuel - 1, by omega⟩
    have r15 := rf0_15 hr
    by_cases cv : d < v
    · refine ⟨m, ?_, ⟨rfl, fun _ _ _ => rfl⟩, fun t t1 t2 => ?_⟩
      · show nb_X9_countBelow_95 F s self (nl_X9_countBelow_95 F s self fuel) m 0 _ _ _ _ = _
        unfold nb_X9_countBelow_95 nb_X9_countBelow_139
        simp (disch := omega) only [Option.bind_some, bindv, bindv0, bind2_s, bind3_s, ↓reduceIte, Bool.false_eq_true, rZM_0, rZM_1, rZP_0, rZP_1, ptZ_0, ptZ_1, c32i, c64i, ncI, Int.natCast_add, Int.natCast_mul, q32_neg, q64_neg, q32_add, q32_sub, q32_mul, q64_add, q64_sub, q64_mul, q32_64i, q64_32, q32_lt_t, q32_lt_f, q32_le_t, q32_le_f, q32_eq_t, q32_eq_f, q64_lt_t, q64_lt_f, q64_le_t, q64_le_f, q64_eq_t, q64_eq_f, rdI_i, rdL_i, rdR_i, rdN_i, stI_i, stL_i, stR_i, wI_s, wI_n, wL_s, wL_n, wI_2, wI_3, wL_1, wL_3, wR_1, wR_2, Int.toNat_natCast, tnO, tn_add, tn_sub, tn_mul, Nat.add_sub_cancel, Nat.add_zero, Nat.zero_add, lnO, win_t, win_f]
      · rw [h5 t t1 t2, BQ_s hq.1]
        by_cases c : t % q = 0 ∧ q < t
        · rw [if_pos c, if_pos ⟨c.1, c.2, by omega⟩]
        · rw [if_neg c, if_neg (fun z => c ⟨z.1, z.2.1⟩)]
    · have xv := h5 v (by omega) (by omega)
      rw [if_neg (by omega)] at xv
      have xq := h5 q (by omega) (by omega)
      rw [if_neg (by omega), BQ_q hl hq.1] at xq
      have bv := BQ_b (u := u) (l := l) (r := q) (t := v) hl (by omega)
      have nb := NQ_b (u := u) (l := l) (q := v) (tp := tp) hl ht
      have nb2 : tp * v ≤ 9 * 200 := Nat.mul_le_mul htp (by omega)
      have nq := NQ_b (u := u) (l := l) (q := q) (tp := tp) hl ht
      have nq2 : tp * q ≤ 9 * 200 := Nat.mul_le_mul htp (by omega)
      have cq := CQ_le (u := u) (l := l) (q := q)
      obtain ⟨a, ha⟩ := Nat.dvd_of_mod_eq_zero h3
      obtain ⟨m', e1, e2, e3⟩ := ih fuel (by omega) (wI m 22 v (q32 (BQ u l q v - CQ u l q))) (v + q) (hr.same rfl) (by omega) (by omega) (by rw [Nat.add_mod_right]; exact h3) (by omega) (fun t t1 t2 => by
        by_cases c : t = v
        · subst c
          rw [wI_s, if_pos ⟨h3, h2, by omega⟩]
        · rw [wI_n (by omega), h5 t t1 t2]
          by_cases c2 : t % q = 0 ∧ q < t ∧ t < v
          · rw [if_pos c2, if_pos ⟨c2.1, c2.2.1, by omega⟩]
          · rw [if_neg c2, if_neg]
            intro z
            obtain ⟨b, hb⟩ := Nat.dvd_of_mod_eq_zero z.1
            have : v ≤ t := by omega
            rw [ha, hb] at this
            have k1 : a ≤ b := Nat.le_of_mul_le_mul_left this (by omega)
            have k2 : q * b < q * (a + 1) := by rw [Nat.mul_add]; omega
            have k3 : b < a + 1 := Nat.lt_of_mul_lt_mul_left k2
            have : a = b := by omega
            subst this
            omega)
      refine ⟨m', ?_, KC.w.tr e2, e3⟩
      show nb_X9_countBelow_95 F s self (nl_X9_countBelow_95 F s self fuel) m 0 _ _ _ _ = _
      unfold nb_X9_countBelow_95
      rw [Int.natCast_add v q] at e1
      simp (disch := omega) only [Option.bind_some, bindv, bindv0, bind2_s, bind3_s, ↓reduceIte, Bool.false_eq_true, rZM_0, rZM_1, rZP_0, rZP_1, ptZ_0, ptZ_1, c32i, c64i, ncI, Int.natCast_add, Int.natCast_mul, q32_neg, q64_neg, q32_add, q32_sub, q32_mul, q64_add, q64_sub, q64_mul, q32_64i, q64_32, q32_lt_t, q32_lt_f, q32_le_t, q32_le_f, q32_eq_t, q32_eq_f, q64_lt_t, q64_lt_f, q64_le_t, q64_le_f, q64_eq_t, q64_eq_f, rdI_i, rdL_i, rdR_i, rdN_i, stI_i, stL_i, stR_i, wI_s, wI_n, wL_s, wL_n, wI_2, wI_3, wL_1, wL_3, wR_1, wR_2, Int.toNat_natCast, tnO, tn_add, tn_sub, tn_mul, Nat.add_sub_cancel, Nat.add_zero, Nat.zero_add, lnO, win_t, win_f, r15, l22, xv, xq]
      exact e1
theorem sieve9 {F : Nat} (hF : 2000 ≤ F) {s : List Sh} (hp : ∃ t, s = sB ++ t) {u l d tp : Nat} (hl : 1 ≤ l) (hd : d ≤ 200) (htp : tp ≤ 9) (ht : u ≤ tp * l) : ∀ (n fuel : Nat), n < fuel → ∀ (m : Mem) (q : Nat), RF m → 1 ≤ q → q + n = d + 1 → (∀ t, 1 ≤ t → t ≤ d → m.1 22 t = q32 (BQ u l q t)) → ∃ m', nl_X9_countBelow_60 F s fuel m 0 (q32 d) (q32 (Sm (fun e => CQ u l (e + 1)) (q - 1) : Nat)) (q32 q) = some (q32 (Sm (fun e => CQ u l (e + 1)) d : Nat), m') ∧ KC m m' := by
  have l22 := ln22 hp
  have sb : ∀ n, n ≤ 200 → Sm (fun e => CQ u l (e + 1)) n ≤ 400000 := fun n hn => by
    have := Sm_le (g := fun e => CQ u l (e + 1)) (h := fun _ => 1800) n (fun i hi => by
      have := CQ_le (u := u) (l := l) (q := i + 1)
      have := NQ_b (u := u) (l := l) (q := i + 1) (tp := tp) hl ht
      have : tp * (i + 1) ≤ 9 * 200 := Nat.mul_le_mul htp (by omega)
      omega)
    rw [Sm_c] at this
    have : n * 1800 ≤ 200 * 1800 := Nat.mul_le_mul_right _ hn
    omega
  intro n
  induction n with
  | zero =>
    intro fuel hf m q hr h1 h2 h3
    obtain ⟨fuel, rfl⟩ : ∃ f, fuel = f + 1 := ⟨fuel - 1, by omega⟩
    obtain rfl : q = d + 1 := by omega
    rw [show d + 1 - 1 = d by omega]
    refine ⟨m, ?_, ⟨rfl, fun _ _ _ => rfl⟩⟩
    show nb_X9_countBelow_60 F s (nl_X9_countBelow_60 F s fuel) m 0 _ _ _ = _
    unfold nb_X9_countBelow_60
    simp (disch := omega) only [Option.bind_some, bindv, bindv0, bind2_s, bind3_s, ↓reduceIte, Bool.false_eq_true, rZM_0, rZM_1, rZP_0, rZP_1, ptZ_0, ptZ_1, c32i, c64i, ncI, Int.natCast_add, Int.natCast_mul, q32_neg, q64_neg, q32_add, q32_sub, q32_mul, q64_add, q64_sub, q64_mul, q32_64i, q64_32, q32_lt_t, q32_lt_f, q32_le_t, q32_le_f, q32_eq_t, q32_eq_f, q64_lt_t, q64_lt_f, q64_le_t, q64_le_f, q64_eq_t, q64_eq_f, rdI_i, rdL_i, rdR_i, rdN_i, stI_i, stL_i, stR_i, wI_s, wI_n, wL_s, wL_n, wI_2, wI_3, wL_1, wL_3, wR_1, wR_2, Int.toNat_natCast, tnO, tn_add, tn_sub, tn_mul, Nat.add_sub_cancel, Nat.add_zero, Nat.zero_add, lnO, win_t, win_f]
  | succ n ih =>
    intro fuel hf m q hr h1 h2 h3
    obtain ⟨fuel, rfl⟩ : ∃ f, fuel = f + 1 := ⟨fuel - 1, by omega⟩
    have r15 := rf0_15 hr
    have xq := h3 q (by omega) (by omega)
    rw [BQ_q hl h1] at xq
    have es : Sm (fun e => CQ u l (e + 1)) q = Sm (fun e => CQ u l (e + 1)) (q - 1) + CQ u l q := by
      obtain ⟨r, rfl⟩ : ∃ r, q = r + 1 := ⟨q - 1, by omega⟩
      rfl
    have b1 := sb q (by omega)
    obtain ⟨m1, e1, e2, e3⟩ := sieveI9 (F := F) (s := s) hp (self := nl_X9_countBelow_60 F s fuel) (u := u) (l := l) (d := d) (q := q) (tp := tp) hl hd (by omega) htp ht (S := q32 (Sm (fun e => CQ u l (e + 1)) q : Nat)) (d + 1) F (by omega) m (2 * q) hr (by omega) (by omega) (by rw [Nat.mul_comm]; exact Nat.mul_mod_right q 2) (by omega) (fun t t1 t2 => by
      rw [h3 t t1 t2, if_neg]
      intro z
      obtain ⟨b, hb⟩ := Nat.dvd_of_mod_eq_zero z.1
      have k2 : q * b < q * 2 := by omega
      have k3 : b < 2 := Nat.lt_of_mul_lt_mul_left k2
      have k4 : q * 1 < q * b := by omega
      have k5 : 1 < b := Nat.lt_of_mul_lt_mul_left k4
      omega)
    obtain ⟨m', f1, f2⟩ := ih fuel (by omega) m1 (q + 1) (hr.same (by rw [e2.1])) (by omega) (by omega) e3
    rw [show q + 1 - 1 = q by omega] at f1
    refine ⟨m', ?_, e2.tr f2⟩
    rw [← f1, ← e1]
    show nb_X9_countBelow_60 F s (nl_X9_countBelow_60 F s fuel) m 0 _ _ _ = _
    unfold nb_X9_countBelow_60
    rw [es]
    simp (disch := omega) only [Option.bind_some, bindv, bindv0, bind2_s, bind3_s, ↓reduceIte, Bool.false_eq_true, rZM_0, rZM_1, rZP_0, rZP_1, ptZ_0, ptZ_1, c32i, c64i, ncI, Int.natCast_add, Int.natCast_mul, q32_neg, q64_neg, q32_add, q32_sub, q32_mul, q64_add, q64_sub, q64_mul, q32_64i, q64_32, q32_lt_t, q32_lt_f, q32_le_t, q32_le_f, q32_eq_t, q32_eq_f, q64_lt_t, q64_lt_f, q64_le_t, q64_le_f, q64_eq_t, q64_eq_f, rdI_i, rdL_i, rdR_i, rdN_i, stI_i, stL_i, stR_i, wI_s, wI_n, wL_s, wL_n, wI_2, wI_3, wL_1, wL_3, wR_1, wR_2, Int.toNat_natCast, tnO, tn_add, tn_sub, tn_mul, Nat.add_sub_cancel, Nat.add_zero, Nat.zero_add, lnO, win_t, win_f, r15, l22, xq]
theorem count9 {F : Nat} (hF : 2000 ≤ F) {s : List Sh} (hp : ∃ t, s = sB ++ t) {m : Mem} (hr : RF m) {u l d tp : Nat} (hu : u ≤ 1000000) (hl : 1 ≤ l ∧ l ≤ 1000000) (hd : 1 ≤ d ∧ d ≤ 200) (htp : tp ≤ 9) (ht : u ≤ tp * l) : ∃ m', n_X9_countBelow F s m 0 (q64 u) (q64 l) (q32 d) = some (q32 (Sm (fun e => CQ u l (e + 1)) d : Nat), m') ∧ KC m m' := by
  obtain ⟨m1, e1, e2, e3⟩ := fillC9 (F := F) hp hu hl hd.2 htp ht d F (by omega) m 1 hr (by omega) (by omega) (fun t t1 t2 => by omega)
  obtain ⟨m2, f1, f2⟩ := sieve9 (F := F) hF hp hl.1 hd.2 htp ht d F (by omega) m1 1 (hr.same (by rw [e2.1])) (by omega) (by omega) (fun t t1 t2 => by rw [e3 t t1 t2, BQ_1])
  refine ⟨m2, ?_, e2.tr f2⟩
  unfold n_X9_countBelow nb_X9_countBelow_0
  simp (disch := omega) only [Option.bind_some, bindv, bindv0, bind2_s, bind3_s, ↓reduceIte, Bool.false_eq_true, rZM_0, rZM_1, rZP_0, rZP_1, ptZ_0, ptZ_1, c32i, c64i, ncI, Int.natCast_add, Int.natCast_mul, q32_neg, q64_neg, q32_add, q32_sub, q32_mul, q64_add, q64_sub, q64_mul, q32_64i, q64_32, q32_lt_t, q32_lt_f, q32_le_t, q32_le_f, q32_eq_t, q32_eq_f, q64_lt_t, q64_lt_f, q64_le_t, q64_le_f, q64_eq_t, q64_eq_f, rdI_i, rdL_i, rdR_i, rdN_i, stI_i, stL_i, stR_i, wI_s, wI_n, wL_s, wL_n, wI_2, wI_3, wL_1, wL_3, wR_1, wR_2, Int.toNat_natCast, tnO, tn_add, tn_sub, tn_mul, Nat.add_sub_cancel, Nat.add_zero, Nat.zero_add, lnO, win_t, win_f]
  exact e1.trans f1
/-! the reference -/
theorem belowI10 {F : Nat} {self : Int64 → Int64 → Int32 → Int32 → Int32 → Option Int32} {u l d q : Nat} (hu : u ≤ 1000000) (hl : 1 ≤ l ∧ l ≤ 1000000) (hd : d ≤ 200) (hq : 1 ≤ q ∧ q ≤ d) {S : Nat} (hS : S ≤ 1000000) (hN : NQ u l q ≤ 1800) : ∀ (n fuel : Nat), n < fuel → ∀ (p : Nat), p + n = NQ u l q → l_X10_below_16 F self fuel (q64 u) (q64 l) (q32 d) (q32 (S + Sm (fun p => if Nat.gcd p q = 1 then 1 else 0) p : Nat)) (q32 q) (q64 p) = self (q64 u) (q64 l) (q32 d) (q32 (S + CQ u l q : Nat)) (q32 (q + 1 : Nat)) := by
  intro n
  induction n with
  | zero =>
    intro fuel hf p hp
    obtain ⟨fuel, rfl⟩ : ∃ f, fuel = f + 1 := ⟨fuel - 1, by omega⟩
    obtain rfl : p = NQ u l q := by omega
    have hnot : ¬ (NQ u l q * l < u * q) := fun z => by have := (NQ_t (u := u) (q := q) (p := NQ u l q) hl.1).mpr z; omega
    have hnot' : ((u : Int) * q) ≤ (NQ u l q : Int) * l := by rw [← Int.natCast_mul, ← Int.natCast_mul]; omega
    have k1 := mulB (show (u : Int).natAbs ≤ 1000000 by omega) (show (q : Int).natAbs ≤ 200 by omega)
    have k2 := mulB (show (NQ u l q : Int).natAbs ≤ 1800 by omega) (show (l : Int).natAbs ≤ 1000000 by omega)
    show b_X10_below_16 F self (l_X10_below_16 F self fuel) _ _ _ _ _ _ = _
    unfold b_X10_below_16 CQ
    simp (disch := omega) only [Option.bind_some, bindv, bindv0, bind2_s, bind3_s, ↓reduceIte, Bool.false_eq_true, rZM_0, rZM_1, rZP_0, rZP_1, ptZ_0, ptZ_1, c32i, c64i, ncI, Int.natCast_add, Int.natCast_mul, q32_neg, q64_neg, q32_add, q32_sub, q32_mul, q64_add, q64_sub, q64_mul, q32_64i, q64_32, q32_lt_t, q32_lt_f, q32_le_t, q32_le_f, q32_eq_t, q32_eq_f, q64_lt_t, q64_lt_f, q64_le_t, q64_le_f, q64_eq_t, q64_eq_f, rdI_i, rdL_i, rdR_i, rdN_i, stI_i, stL_i, stR_i, wI_s, wI_n, wL_s, wL_n, wI_2, wI_3, wL_1, wL_3, wR_1, wR_2, Int.toNat_natCast, tnO, tn_add, tn_sub, tn_mul, Nat.add_sub_cancel, Nat.add_zero, Nat.zero_add, lnO, win_t, win_f]
  | succ n ih =>
    intro fuel hf p hp
    obtain ⟨fuel, rfl⟩ : ∃ f, fuel = f + 1 := ⟨fuel - 1, by omega⟩
    have hlt := (NQ_t (u := u) (q := q) (p := p) hl.1).mp (by omega)
    have hlt' : (p : Int) * l < ((u : Int) * q) := by rw [← Int.natCast_mul, ← Int.natCast_mul]; omega
    have k1 := mulB (show (u : Int).natAbs ≤ 1000000 by omega) (show (q : Int).natAbs ≤ 200 by omega)
    have k2 := mulB (show (p : Int).natAbs ≤ 1800 by omega) (show (l : Int).natAbs ≤ 1000000 by omega)
    have cm := m_cm (p := (p : Int)) (q := (q : Int)) (by omega) (by omega)
    have eg : Int.gcd (p : Int) (q : Int) = Nat.gcd p q := rfl
    rw [eg] at cm
    have hg : Nat.gcd p q ≤ q := Nat.le_of_dvd (by omega) (Nat.gcd_dvd_right p q)
    have sb := Sm_le (g := fun p => if Nat.gcd p q = 1 then 1 else 0) (h := fun _ => 1) p (fun i _ => by split <;> omega)
    rw [Sm_c] at sb
    have ih := ih fuel (by omega) (p + 1) (by omega)
    have es : Sm (fun p => if Nat.gcd p q = 1 then 1 else 0) (p + 1) = Sm (fun p => if Nat.gcd p q = 1 then 1 else 0) p + (if Nat.gcd p q = 1 then 1 else 0) := rfl
    rw [es] at ih
    rw [← ih]
    show b_X10_below_16 F self (l_X10_below_16 F self fuel) _ _ _ _ _ _ = _
    unfold b_X10_below_16 b_X10_below_49
    by_cases c : Nat.gcd p q = 1
    · rw [if_pos c]
      rw [c] at cm
      simp (disch := omega) only [Option.bind_some, bindv, bindv0, bind2_s, bind3_s, ↓reduceIte, Bool.false_eq_true, rZM_0, rZM_1, rZP_0, rZP_1, ptZ_0, ptZ_1, c32i, c64i, ncI, Int.natCast_add, Int.natCast_mul, q32_neg, q64_neg, q32_add, q32_sub, q32_mul, q64_add, q64_sub, q64_mul, q32_64i, q64_32, q32_lt_t, q32_lt_f, q32_le_t, q32_le_f, q32_eq_t, q32_eq_f, q64_lt_t, q64_lt_f, q64_le_t, q64_le_f, q64_eq_t, q64_eq_f, rdI_i, rdL_i, rdR_i, rdN_i, stI_i, stL_i, stR_i, wI_s, wI_n, wL_s, wL_n, wI_2, wI_3, wL_1, wL_3, wR_1, wR_2, Int.toNat_natCast, tnO, tn_add, tn_sub, tn_mul, Nat.add_sub_cancel, Nat.add_zero, Nat.zero_add, lnO, win_t, win_f, cm]
      rw [show ((S : Int) + (Sm (fun p => if Nat.gcd p q = 1 then 1 else 0) p : Nat) + 1) = (S : Int) + ((Sm (fun p => if Nat.gcd p q = 1 then 1 else 0) p : Nat) + 1) by omega]
    · rw [if_neg c]
      simp (disch := omega) only [Option.bind_some, bindv, bindv0, bind2_s, bind3_s, ↓reduceIte, Bool.false_eq_true, rZM_0, rZM_1, rZP_0, rZP_1, ptZ_0, ptZ_1, c32i, c64i, ncI, Int.natCast_add, Int.natCast_mul, q32_neg, q64_neg, q32_add, q32_sub, q32_mul, q64_add, q64_sub, q64_mul, q32_64i, q64_32, q32_lt_t, q32_lt_f, q32_le_t, q32_le_f, q32_eq_t, q32_eq_f, q64_lt_t, q64_lt_f, q64_le_t, q64_le_f, q64_eq_t, q64_eq_f, rdI_i, rdL_i, rdR_i, rdN_i, stI_i, stL_i, stR_i, wI_s, wI_n, wL_s, wL_n, wI_2, wI_3, wL_1, wL_3, wR_1, wR_2, Int.toNat_natCast, tnO, tn_add, tn_sub, tn_mul, Nat.add_sub_cancel, Nat.add_zero, Nat.zero_add, lnO, win_t, win_f, cm]
      simp only [Int.add_zero]
theorem below10 {F : Nat} (hF : 2000 ≤ F) {u l d tp : Nat} (hu : u ≤ 1000000) (hl : 1 ≤ l ∧ l ≤ 1000000) (hd : d ≤ 200) (htp : tp ≤ 9) (ht : u ≤ tp * l) : ∀ (n fuel : Nat), n < fuel → ∀ (q : Nat), 1 ≤ q → q + n = d + 1 → l_X10_below_6 F fuel (q64 u) (q64 l) (q32 d) (q32 (Sm (fun e => CQ u l (e + 1)) (q - 1) : Nat)) (q32 q) = some (q32 (Sm (fun e => CQ u l (e + 1)) d : Nat)) := by
  have nqb : ∀ i, i ≤ 200 → NQ u l i ≤ 1800 := fun i hi => by
    have := NQ_b (u := u) (l := l) (q := i) (tp := tp) hl.1 ht
    have : tp * i ≤ 9 * 200 := Nat.mul_le_mul htp hi
    omega
  have sb : ∀ n, n ≤ 200 → Sm (fun e => CQ u l (e + 1)) n ≤ 400000 := fun n hn => by
    have := Sm_le (g := fun e => CQ u l (e + 1)) (h := fun _ => 1800) n (fun i hi => by
      have := CQ_le (u := u) (l := l) (q := i + 1)
      have := nqb (i + 1) (by omega)
      omega)
    rw [Sm_c] at this
    have : n * 1800 ≤ 200 * 1800 := Nat.mul_le_mul_right _ hn
    omega
  intro n
  induction n with
  | zero =>
    intro fuel hf q h1 h2
    obtain ⟨fuel, rfl⟩ : ∃ f, fuel = f + 1 := ⟨fuel - 1, by omega⟩
    obtain rfl : q = d + 1 := by omega
    rw [show d + 1 - 1 = d by omega]
    show b_X10_below_6 F (l_X10_below_6 F fuel) _ _ _ _ _ = _
    unfold b_X10_below_6
    simp (disch := omega) only [Option.bind_some, bindv, bindv0, bind2_s, bind3_s, ↓reduceIte, Bool.false_eq_true, rZM_0, rZM_1, rZP_0, rZP_1, ptZ_0, ptZ_1, c32i, c64i, ncI, Int.natCast_add, Int.natCast_mul, q32_neg, q64_neg, q32_add, q32_sub, q32_mul, q64_add, q64_sub, q64_mul, q32_64i, q64_32, q32_lt_t, q32_lt_f, q32_le_t, q32_le_f, q32_eq_t, q32_eq_f, q64_lt_t, q64_lt_f, q64_le_t, q64_le_f, q64_eq_t, q64_eq_f, rdI_i, rdL_i, rdR_i, rdN_i, stI_i, stL_i, stR_i, wI_s, wI_n, wL_s, wL_n, wI_2, wI_3, wL_1, wL_3, wR_1, wR_2, Int.toNat_natCast, tnO, tn_add, tn_sub, tn_mul, Nat.add_sub_cancel, Nat.add_zero, Nat.zero_add, lnO, win_t, win_f]
  | succ n ih =>
    intro fuel hf q h1 h2
    obtain ⟨fuel, rfl⟩ : ∃ f, fuel = f + 1 := ⟨fuel - 1, by omega⟩
    have es : Sm (fun e => CQ u l (e + 1)) q = Sm (fun e => CQ u l (e + 1)) (q - 1) + CQ u l q := by
      obtain ⟨r, rfl⟩ : ∃ r, q = r + 1 := ⟨q - 1, by omega⟩
      rfl
    have b1 := sb (q - 1) (by omega)
    have ih := ih fuel (by omega) (q + 1) (by omega) (by omega)
    rw [show q + 1 - 1 = q by omega, es] at ih
    have bi := belowI10 (F := F) (self := l_X10_below_6 F fuel) (u := u) (l := l) (d := d) (q := q) hu hl hd (by omega) (S := Sm (fun e => CQ u l (e + 1)) (q - 1)) (by omega) (nqb q (by omega)) (NQ u l q) F (by have := nqb q (by omega); omega) 0 (by omega)
    rw [show Sm (fun p => if Nat.gcd p q = 1 then 1 else 0) 0 = 0 from rfl, Nat.add_zero] at bi
    show b_X10_below_6 F (l_X10_below_6 F fuel) _ _ _ _ _ = _
    unfold b_X10_below_6
    simp (disch := omega) only [Option.bind_some, bindv, bindv0, bind2_s, bind3_s, ↓reduceIte, Bool.false_eq_true, rZM_0, rZM_1, rZP_0, rZP_1, ptZ_0, ptZ_1, c32i, c64i, ncI, Int.natCast_add, Int.natCast_mul, q32_neg, q64_neg, q32_add, q32_sub, q32_mul, q64_add, q64_sub, q64_mul, q32_64i, q64_32, q32_lt_t, q32_lt_f, q32_le_t, q32_le_f, q32_eq_t, q32_eq_f, q64_lt_t, q64_lt_f, q64_le_t, q64_le_f, q64_eq_t, q64_eq_f, rdI_i, rdL_i, rdR_i, rdN_i, stI_i, stL_i, stR_i, wI_s, wI_n, wL_s, wL_n, wI_2, wI_3, wL_1, wL_3, wR_1, wR_2, Int.toNat_natCast, tnO, tn_add, tn_sub, tn_mul, Nat.add_sub_cancel, Nat.add_zero, Nat.zero_add, lnO, win_t, win_f]
    exact bi.trans ih
theorem bel10 {F : Nat} (hF : 2000 ≤ F) {u l d tp : Nat} (hu : u ≤ 1000000) (hl : 1 ≤ l ∧ l ≤ 1000000) (hd : d ≤ 200) (htp : tp ≤ 9) (ht : u ≤ tp * l) (x : Nat) : m_X10_below F x (q64 u) (q64 l) (q32 d) = some (q32 (Sm (fun e => CQ u l (e + 1)) d : Nat)) := below10 hF hu hl hd htp ht d F (by omega) 1 (by omega) (by omega)
theorem opk_floors {F : Nat} (hF : 2000 ≤ F) {s : List Sh} {m : Mem} (h : INV s m) (w : Int32) : OPK s m (n_X9_floors F s m 0 w) (fun m1 => n_X10_floors F s m1 23 w) := by
  have h0 := h
  obtain ⟨hg, ow, nw, hst⟩ := h
  have hl := hst.1
  have hp := hl.hp
  have hr := hl.rf
  have hn := hl.hn
  have rn := hl.nw
  have r1 := rf23_1 hr
  have l24 := ln24 hp
  obtain ⟨d, hd, rfl⟩ := q32_of w
  obtain ⟨tp, t1, t2, t3, t4, -⟩ := hst.2.1.wa.at
  have g0 : m.1 nw 0 = q32 tp := by obtain ⟨tp, sk, nl, bc, fc, tc, au, aw, S, U, L, V, W, X, O, h1, ⟨a0, a1, a2, a4, a5, a6, a9, a15⟩, ⟨b0, b1, b2, b3, b4, b5, b6, b7, b8⟩, h4, ⟨s1, s2, s3, s4, s5, s6, s7⟩, h6, ⟨h7, h7b⟩, h8⟩ := hst.2.1; rw [a0, ← b1]; exact t3
  by_cases c : 1 ≤ d ∧ d ≤ 200
  · obtain ⟨n, rfl⟩ := Int.eq_ofNat_of_zero_le (show 0 ≤ d by omega)
    obtain ⟨m1, p1, p2⟩ := count9 hF hp hr (u := tp) (l := 1) (d := n) (tp := tp) (by omega) (by omega) (by omega) t2 (by omega)
    have b10 := bel10 hF (u := tp) (l := 1) (d := n) (tp := tp) (by omega) (by omega) (by omega) t2 (by omega) 23
    have r1' : m1.2.2 23 1 = some 24 := by rw [p2.1]; exact r1
    have c1 : m1.1 24 1 = q32 tp := by rw [p2.2 _ _ (by omega)]; exact t3
    rw [show q64 ((1 : Nat) : Int) = q64 1 from rfl] at p1 b10
    have e1 : n_X9_floors F s m 0 (q32 n) = some (q32 ((Sm (fun e => CQ tp 1 (e + 1)) n : Nat) + 1), m1) := by
      unfold n_X9_floors nb_X9_floors_0
      simp (disch := omega) only [Option.bind_some, bindv, bindv0, bind2_s, bind3_s, ↓reduceIte, Bool.false_eq_true, rZM_0, rZM_1, rZP_0, rZP_1, ptZ_0, ptZ_1, c32i, c64i, ncI, Int.natCast_add, Int.natCast_mul, q32_neg, q64_neg, q32_add, q32_sub, q32_mul, q64_add, q64_sub, q64_mul, q32_64i, q64_32, q32_lt_t, q32_lt_f, q32_le_t, q32_le_f, q32_eq_t, q32_eq_f, q64_lt_t, q64_lt_f, q64_le_t, q64_le_f, q64_eq_t, q64_eq_f, rdI_i, rdL_i, rdR_i, rdN_i, stI_i, stL_i, stR_i, wI_s, wI_n, wL_s, wL_n, wI_2, wI_3, wL_1, wL_3, wR_1, wR_2, Int.toNat_natCast, tnO, tn_add, tn_sub, tn_mul, Nat.add_sub_cancel, Nat.add_zero, Nat.zero_add, lnO, win_t, win_f, rn, g0, p1]
    have e2 : n_X10_floors F s m1 23 (q32 n) = some (q32 ((Sm (fun e => CQ tp 1 (e + 1)) n : Nat) + 1), wI m1 23 0 (q32 0)) := by
      unfold n_X10_floors nb_X10_floors_0
      simp (disch := omega) only [Option.bind_some, bindv, bindv0, bind2_s, bind3_s, ↓reduceIte, Bool.false_eq_true, rZM_0, rZM_1, rZP_0, rZP_1, ptZ_0, ptZ_1, c32i, c64i, ncI, Int.natCast_add, Int.natCast_mul, q32_neg, q64_neg, q32_add, q32_sub, q32_mul, q64_add, q64_sub, q64_mul, q32_64i, q64_32, q32_lt_t, q32_lt_f, q32_le_t, q32_le_f, q32_eq_t, q32_eq_f, q64_lt_t, q64_lt_f, q64_le_t, q64_le_f, q64_eq_t, q64_eq_f, rdI_i, rdL_i, rdR_i, rdN_i, stI_i, stL_i, stR_i, wI_s, wI_n, wL_s, wL_n, wI_2, wI_3, wL_1, wL_3, wR_1, wR_2, Int.toNat_natCast, tnO, tn_add, tn_sub, tn_mul, Nat.add_sub_cancel, Nat.add_zero, Nat.zero_add, lnO, win_t, win_f, r1', c1, b10]
    exact opk_fin h0 e1 e2 (un_X10_floors (un_X9_floors hg (okB hp).1 e1).2 (okB hp).2 e2).2 (p2.sc.tr (SC.k0 m1))
  · have e1 : n_X9_floors F s m 0 (q32 d) = some (q32 (-3), m) := by
      unfold n_X9_floors nb_X9_floors_0
      by_cases c2 : d < 1
      · simp (disch := omega) only [Option.bind_some, bindv, bindv0, bind2_s, bind3_s, ↓reduceIte, Bool.false_eq_true, rZM_0, rZM_1, rZP_0, rZP_1, ptZ_0, ptZ_1, c32i, c64i, ncI, Int.natCast_add, Int.natCast_mul, q32_neg, q64_neg, q32_add, q32_sub, q32_mul, q64_add, q64_sub, q64_mul, q32_64i, q64_32, q32_lt_t, q32_lt_f, q32_le_t, q32_le_f, q32_eq_t, q32_eq_f, q64_lt_t, q64_lt_f, q64_le_t, q64_le_f, q64_eq_t, q64_eq_f, rdI_i, rdL_i, rdR_i, rdN_i, stI_i, stL_i, stR_i, wI_s, wI_n, wL_s, wL_n, wI_2, wI_3, wL_1, wL_3, wR_1, wR_2, Int.toNat_natCast, tnO, tn_add, tn_sub, tn_mul, Nat.add_sub_cancel, Nat.add_zero, Nat.zero_add, lnO, win_t, win_f]
      · simp (disch := omega) only [Option.bind_some, bindv, bindv0, bind2_s, bind3_s, ↓reduceIte, Bool.false_eq_true, rZM_0, rZM_1, rZP_0, rZP_1, ptZ_0, ptZ_1, c32i, c64i, ncI, Int.natCast_add, Int.natCast_mul, q32_neg, q64_neg, q32_add, q32_sub, q32_mul, q64_add, q64_sub, q64_mul, q32_64i, q64_32, q32_lt_t, q32_lt_f, q32_le_t, q32_le_f, q32_eq_t, q32_eq_f, q64_lt_t, q64_lt_f, q64_le_t, q64_le_f, q64_eq_t, q64_eq_f, rdI_i, rdL_i, rdR_i, rdN_i, stI_i, stL_i, stR_i, wI_s, wI_n, wL_s, wL_n, wI_2, wI_3, wL_1, wL_3, wR_1, wR_2, Int.toNat_natCast, tnO, tn_add, tn_sub, tn_mul, Nat.add_sub_cancel, Nat.add_zero, Nat.zero_add, lnO, win_t, win_f]
    have e2 : n_X10_floors F s m 23 (q32 d) = some (q32 (-3), wI m 23 0 (q32 0)) := by
      unfold n_X10_floors nb_X10_floors_0
      simp (disch := omega) only [Option.bind_some, bindv, bindv0, bind2_s, bind3_s, ↓reduceIte, Bool.false_eq_true, rZM_0, rZM_1, rZP_0, rZP_1, ptZ_0, ptZ_1, c32i, c64i, ncI, Int.natCast_add, Int.natCast_mul, q32_neg, q64_neg, q32_add, q32_sub, q32_mul, q64_add, q64_sub, q64_mul, q32_64i, q64_32, q32_lt_t, q32_lt_f, q32_le_t, q32_le_f, q32_eq_t, q32_eq_f, q64_lt_t, q64_lt_f, q64_le_t, q64_le_f, q64_eq_t, q64_eq_f, rdI_i, rdL_i, rdR_i, rdN_i, stI_i, stL_i, stR_i, wI_s, wI_n, wL_s, wL_n, wI_2, wI_3, wL_1, wL_3, wR_1, wR_2, Int.toNat_natCast, tnO, tn_add, tn_sub, tn_mul, Nat.add_sub_cancel, Nat.add_zero, Nat.zero_add, lnO, win_t, win_f]
    exact opk_fin h0 e1 e2 (un_X10_floors hg (okB hp).2 e2).2 (SC.k0 m)
theorem opk_rank {F : Nat} (hF : 2000 ≤ F) {s : List Sh} {m : Mem} (h : INV s m) (w1 w2 w3 : Int32) : OPK s m (n_X9_rank F s m 0 w1 w2 w3) (fun m1 => n_X10_rank F s m1 23 w1 w2 w3) := by
  have h0 := h
  obtain ⟨hg, ow, nw, hst⟩ := h
  have hl := hst.1
  have hp := hl.hp
  have hr := hl.rf
  have hn := hl.hn
  have rn := hl.nw
  have r1 := rf23_1 hr
  have l24 := ln24 hp
  obtain ⟨u, hu, rfl⟩ := q32_of w1
  obtain ⟨l, hll, rfl⟩ := q32_of w2
  obtain ⟨d, hd, rfl⟩ := q32_of w3
  have r12 := rf0_12 hr
  have fin : ∀ r m1 m2, n_X9_rank F s m 0 (q32 u) (q32 l) (q32 d) = some (r, m1) → n_X10_rank F s m1 23 (q32 u) (q32 l) (q32 d) = some (r, m2) → SC m m2 → OPK s m (n_X9_rank F s m 0 (q32 u) (q32 l) (q32 d)) (fun m1 => n_X10_rank F s m1 23 (q32 u) (q32 l) (q32 d)) := fun r m1 m2 e1 e2 sc =>
    opk_fin h0 e1 e2 (un_X10_rank (un_X9_rank hg (okB hp).1 e1).2 (okB hp).2 e2).2 sc
  by_cases c : 1 ≤ d ∧ d ≤ 200
  · obtain ⟨n, rfl⟩ := Int.eq_ofNat_of_zero_le (show 0 ≤ d by omega)
    rcases asks_cases (F := F) (by omega) hst hu hll with ⟨m1, k1, k2, k3⟩ | ⟨f, k1, k2, k3⟩
    · obtain ⟨m2, k4, k5⟩ := k3 (wI m1 23 0 (q32 0)) (hr.same k2.r) (by simp (disch := omega) only [Option.bind_some, bindv, bindv0, bind2_s, bind3_s, ↓reduceIte, Bool.false_eq_true, rZM_0, rZM_1, rZP_0, rZP_1, ptZ_0, ptZ_1, c32i, c64i, ncI, Int.natCast_add, Int.natCast_mul, q32_neg, q64_neg, q32_add, q32_sub, q32_mul, q64_add, q64_sub, q64_mul, q32_64i, q64_32, q32_lt_t, q32_lt_f, q32_le_t, q32_le_f, q32_eq_t, q32_eq_f, q64_lt_t, q64_lt_f, q64_le_t, q64_le_f, q64_eq_t, q64_eq_f, rdI_i, rdL_i, rdR_i, rdN_i, stI_i, stL_i, stR_i, wI_s, wI_n, wL_s, wL_n, wI_2, wI_3, wL_1, wL_3, wR_1, wR_2, Int.toNat_natCast, tnO, tn_add, tn_sub, tn_mul, Nat.add_sub_cancel, Nat.add_zero, Nat.zero_add, lnO, win_t, win_f]; exact k2.i _ _ (by omega))
      refine fin (q32 (-3)) m1 m2 ?_ ?_ (k2.tr ((SC.k0 m1).tr k5))
      · unfold n_X9_rank nb_X9_rank_0
        simp (disch := omega) only [Option.bind_some, bindv, bindv0, bind2_s, bind3_s, ↓reduceIte, Bool.false_eq_true, rZM_0, rZM_1, rZP_0, rZP_1, ptZ_0, ptZ_1, c32i, c64i, ncI, Int.natCast_add, Int.natCast_mul, q32_neg, q64_neg, q32_add, q32_sub, q32_mul, q64_add, q64_sub, q64_mul, q32_64i, q64_32, q32_lt_t, q32_lt_f, q32_le_t, q32_le_f, q32_eq_t, q32_eq_f, q64_lt_t, q64_lt_f, q64_le_t, q64_le_f, q64_eq_t, q64_eq_f, rdI_i, rdL_i, rdR_i, rdN_i, stI_i, stL_i, stR_i, wI_s, wI_n, wL_s, wL_n, wI_2, wI_3, wL_1, wL_3, wR_1, wR_2, Int.toNat_natCast, tnO, tn_add, tn_sub, tn_mul, Nat.add_sub_cancel, Nat.add_zero, Nat.zero_add, lnO, win_t, win_f, k1]
      · unfold n_X10_rank nb_X10_rank_0
        simp (disch := omega) only [Option.bind_some, bindv, bindv0, bind2_s, bind3_s, ↓reduceIte, Bool.false_eq_true, rZM_0, rZM_1, rZP_0, rZP_1, ptZ_0, ptZ_1, c32i, c64i, ncI, Int.natCast_add, Int.natCast_mul, q32_neg, q64_neg, q32_add, q32_sub, q32_mul, q64_add, q64_sub, q64_mul, q32_64i, q64_32, q32_lt_t, q32_lt_f, q32_le_t, q32_le_f, q32_eq_t, q32_eq_f, q64_lt_t, q64_lt_f, q64_le_t, q64_le_f, q64_eq_t, q64_eq_f, rdI_i, rdL_i, rdR_i, rdN_i, stI_i, stL_i, stR_i, wI_s, wI_n, wL_s, wL_n, wI_2, wI_3, wL_1, wL_3, wR_1, wR_2, Int.toNat_natCast, tnO, tn_add, tn_sub, tn_mul, Nat.add_sub_cancel, Nat.add_zero, Nat.zero_add, lnO, win_t, win_f, k4]
    · have kf := k1
      obtain ⟨tp, t1, t2, t3, t4, -⟩ := hst.2.1.wa.at
      rw [t4] at kf
      unfold FLR at kf
      have k2' : n_X9_asksFloor F s m 0 (q32 u) (q32 l) = some (q32 1, PT m 19 f) := k2
      obtain ⟨x, y⟩ := f
      obtain ⟨a, rfl⟩ := Int.eq_ofNat_of_zero_le kf.1
      obtain ⟨b, rfl⟩ := Int.eq_ofNat_of_zero_le (show 0 ≤ y by omega)
      dsimp only at kf
      have hab : a ≤ tp * b := by have := kf.2.2.2.2.1; exact_mod_cast this
      obtain ⟨m1, p1, p2⟩ := count9 (m := PT m 19 ((a : Int), (b : Int))) hF hp (hr.same rfl) (u := a) (l := b) (d := n) (tp := tp) (by omega) (by omega) (by omega) t2 hab
      have b10 := bel10 hF (u := a) (l := b) (d := n) (tp := tp) (by omega) (by omega) (by omega) t2 hab 23
      have k4 := k3 (wI m1 23 0 (q32 0)) (hr.same (by show m1.2.2 = _; rw [p2.1]; rfl)) (by simp (disch := omega) only [Option.bind_some, bindv, bindv0, bind2_s, bind3_s, ↓reduceIte, Bool.false_eq_true, rZM_0, rZM_1, rZP_0, rZP_1, ptZ_0, ptZ_1, c32i, c64i, ncI, Int.natCast_add, Int.natCast_mul, q32_neg, q64_neg, q32_add, q32_sub, q32_mul, q64_add, q64_sub, q64_mul, q32_64i, q64_32, q32_lt_t, q32_lt_f, q32_le_t, q32_le_f, q32_eq_t, q32_eq_f, q64_lt_t, q64_lt_f, q64_le_t, q64_le_f, q64_eq_t, q64_eq_f, rdI_i, rdL_i, rdR_i, rdN_i, stI_i, stL_i, stR_i, wI_s, wI_n, wL_s, wL_n, wI_2, wI_3, wL_1, wL_3, wR_1, wR_2, Int.toNat_natCast, tnO, tn_add, tn_sub, tn_mul, Nat.add_sub_cancel, Nat.add_zero, Nat.zero_add, lnO, win_t, win_f]; rw [p2.2 _ _ (by omega)]; rfl)
      refine fin (q32 (Sm (fun e => CQ a b (e + 1)) n : Nat)) m1 (PS (wI m1 23 0 (q32 0)) ((a : Int), (b : Int))) ?_ ?_ ((((SC.rf m).pt (by omega)).tr (p2.sc.tr (SC.k0 m1))).ps)
      · unfold n_X9_rank nb_X9_rank_0
        simp (disch := omega) only [Option.bind_some, bindv, bindv0, bind2_s, bind3_s, ↓reduceIte, Bool.false_eq_true, rZM_0, rZM_1, rZP_0, rZP_1, ptZ_0, ptZ_1, c32i, c64i, ncI, Int.natCast_add, Int.natCast_mul, q32_neg, q64_neg, q32_add, q32_sub, q32_mul, q64_add, q64_sub, q64_mul, q32_64i, q64_32, q32_lt_t, q32_lt_f, q32_le_t, q32_le_f, q32_eq_t, q32_eq_f, q64_lt_t, q64_lt_f, q64_le_t, q64_le_f, q64_eq_t, q64_eq_f, rdI_i, rdL_i, rdR_i, rdN_i, stI_i, stL_i, stR_i, wI_s, wI_n, wL_s, wL_n, wI_2, wI_3, wL_1, wL_3, wR_1, wR_2, Int.toNat_natCast, tnO, tn_add, tn_sub, tn_mul, Nat.add_sub_cancel, Nat.add_zero, Nat.zero_add, lnO, win_t, win_f, k2', PT_3, r12, PT_0, PT_l, p1]
      · unfold n_X10_rank nb_X10_rank_0
        simp (disch := omega) only [Option.bind_some, bindv, bindv0, bind2_s, bind3_s, ↓reduceIte, Bool.false_eq_true, rZM_0, rZM_1, rZP_0, rZP_1, ptZ_0, ptZ_1, c32i, c64i, ncI, Int.natCast_add, Int.natCast_mul, q32_neg, q64_neg, q32_add, q32_sub, q32_mul, q64_add, q64_sub, q64_mul, q32_64i, q64_32, q32_lt_t, q32_lt_f, q32_le_t, q32_le_f, q32_eq_t, q32_eq_f, q64_lt_t, q64_lt_f, q64_le_t, q64_le_f, q64_eq_t, q64_eq_f, rdI_i, rdL_i, rdR_i, rdN_i, stI_i, stL_i, stR_i, wI_s, wI_n, wL_s, wL_n, wI_2, wI_3, wL_1, wL_3, wR_1, wR_2, Int.toNat_natCast, tnO, tn_add, tn_sub, tn_mul, Nat.add_sub_cancel, Nat.add_zero, Nat.zero_add, lnO, win_t, win_f, k4, PS_0, PS_l, b10]
  · refine fin (q32 (-3)) m _ ?_ ?_ (SC.k0 m)
    · unfold n_X9_rank nb_X9_rank_0
      by_cases c2 : d < 1
      · simp (disch := omega) only [Option.bind_some, bindv, bindv0, bind2_s, bind3_s, ↓reduceIte, Bool.false_eq_true, rZM_0, rZM_1, rZP_0, rZP_1, ptZ_0, ptZ_1, c32i, c64i, ncI, Int.natCast_add, Int.natCast_mul, q32_neg, q64_neg, q32_add, q32_sub, q32_mul, q64_add, q64_sub, q64_mul, q32_64i, q64_32, q32_lt_t, q32_lt_f, q32_le_t, q32_le_f, q32_eq_t, q32_eq_f, q64_lt_t, q64_lt_f, q64_le_t, q64_le_f, q64_eq_t, q64_eq_f, rdI_i, rdL_i, rdR_i, rdN_i, stI_i, stL_i, stR_i, wI_s, wI_n, wL_s, wL_n, wI_2, wI_3, wL_1, wL_3, wR_1, wR_2, Int.toNat_natCast, tnO, tn_add, tn_sub, tn_mul, Nat.add_sub_cancel, Nat.add_zero, Nat.zero_add, lnO, win_t, win_f]
      · simp (disch := omega) only [Option.bind_some, bindv, bindv0, bind2_s, bind3_s, ↓reduceIte, Bool.false_eq_true, rZM_0, rZM_1, rZP_0, rZP_1, ptZ_0, ptZ_1, c32i, c64i, ncI, Int.natCast_add, Int.natCast_mul, q32_neg, q64_neg, q32_add, q32_sub, q32_mul, q64_add, q64_sub, q64_mul, q32_64i, q64_32, q32_lt_t, q32_lt_f, q32_le_t, q32_le_f, q32_eq_t, q32_eq_f, q64_lt_t, q64_lt_f, q64_le_t, q64_le_f, q64_eq_t, q64_eq_f, rdI_i, rdL_i, rdR_i, rdN_i, stI_i, stL_i, stR_i, wI_s, wI_n, wL_s, wL_n, wI_2, wI_3, wL_1, wL_3, wR_1, wR_2, Int.toNat_natCast, tnO, tn_add, tn_sub, tn_mul, Nat.add_sub_cancel, Nat.add_zero, Nat.zero_add, lnO, win_t, win_f]
    · unfold n_X10_rank nb_X10_rank_0
      simp (disch := omega) only [Option.bind_some, bindv, bindv0, bind2_s, bind3_s, ↓reduceIte, Bool.false_eq_true, rZM_0, rZM_1, rZP_0, rZP_1, ptZ_0, ptZ_1, c32i, c64i, ncI, Int.natCast_add, Int.natCast_mul, q32_neg, q64_neg, q32_add, q32_sub, q32_mul, q64_add, q64_sub, q64_mul, q32_64i, q64_32, q32_lt_t, q32_lt_f, q32_le_t, q32_le_f, q32_eq_t, q32_eq_f, q64_lt_t, q64_lt_f, q64_le_t, q64_le_f, q64_eq_t, q64_eq_f, rdI_i, rdL_i, rdR_i, rdN_i, stI_i, stL_i, stR_i, wI_s, wI_n, wL_s, wL_n, wI_2, wI_3, wL_1, wL_3, wR_1, wR_2, Int.toNat_natCast, tnO, tn_add, tn_sub, tn_mul, Nat.add_sub_cancel, Nat.add_zero, Nat.zero_add, lnO, win_t, win_f]
