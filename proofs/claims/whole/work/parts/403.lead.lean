/-! PURE: where a button leads, both ways -/
abbrev FR : Type := Int × Int
def nrm (p q : Int) : FR := if q < 0 then (-(p.tdiv (Int.gcd p q)), -(q.tdiv (Int.gcd p q))) else (p.tdiv (Int.gcd p q), q.tdiv (Int.gcd p q))
theorem tdiv_le {p : Int} {g : Nat} : (p.tdiv (g : Int)).natAbs ≤ p.natAbs := by rw [Int.natAbs_tdiv]; exact Nat.div_le_self _ _
theorem b63d {p : Int} {g : Nat} (h : p.natAbs < 9223372036854775808) : B63 (p.tdiv (g : Int)) := b63n (Nat.lt_of_le_of_lt tdiv_le h)
theorem gcd_b {p q : Int} (hq : q ≠ 0) (hb : q.natAbs < 9223372036854775808) : 0 < Int.gcd p q ∧ Int.gcd p q < 9223372036854775808 := by
  have h1 : 0 < Int.gcd p q := Int.gcd_pos_of_ne_zero_right _ hq
  have h2 : Int.gcd p q ≤ q.natAbs := Nat.le_of_dvd (by omega) (Int.gcd_dvd_natAbs_right p q)
  exact ⟨h1, by omega⟩
theorem gcd_negneg (p q : Int) : Int.gcd (-p) (-q) = Int.gcd p q := by rw [Int.gcd_neg, Int.neg_gcd]
theorem nrm_neg {p q : Int} (hq : q ≠ 0) : nrm (-p) (-q) = nrm p q := by
  unfold nrm
  rw [gcd_negneg]
  by_cases h : q < 0
  · rw [if_pos h, if_neg (by omega), Int.neg_tdiv, Int.neg_tdiv]
  · rw [if_neg h, if_pos (by omega), Int.neg_tdiv, Int.neg_tdiv, Int.neg_neg, Int.neg_neg]
theorem nrm_pos {p q : Int} (hq : 0 < q) : nrm p q = (p.tdiv (Int.gcd p q), q.tdiv (Int.gcd p q)) := if_neg (by omega)
theorem nrm_low {p q : Int} (hq : 0 < q) (h : Int.gcd p q = 1) : nrm p q = (p, q) := by
  rw [nrm_pos hq, h]
  simp
theorem nrm_ok0 {p q : Int} (hq : 0 < q) : Int.gcd (nrm p q).1 (nrm p q).2 = 1 ∧ 1 ≤ (nrm p q).2 ∧ (nrm p q).1 * q = p * (nrm p q).2 ∧ (nrm p q).2 ≤ q ∧ (nrm p q).1.natAbs ≤ p.natAbs := by
  have hg : 0 < Int.gcd p q := Int.gcd_pos_of_ne_zero_right _ (by omega)
  rw [nrm_pos hq]
  simp only
  have d1 : (Int.gcd p q : Int) ∣ p := Int.gcd_dvd_left p q
  have d2 : (Int.gcd p q : Int) ∣ q := Int.gcd_dvd_right p q
  refine ⟨?_, ?_, ?_, ?_, tdiv_le⟩
  · rw [Int.tdiv_eq_ediv_of_dvd d1, Int.tdiv_eq_ediv_of_dvd d2]
    obtain ⟨a, ha⟩ := d1
    obtain ⟨b, hb⟩ := d2
    have h0 : (Int.gcd p q : Int) ≠ 0 := by omega
    generalize hgg : Int.gcd p q = g at *
    have e : Int.gcd (g * a) (g * b) = g := by rw [← ha, ← hb, hgg]
    rw [Int.gcd_mul_left] at e
    rw [ha, hb, Int.mul_ediv_cancel_left _ h0, Int.mul_ediv_cancel_left _ h0]
    have : g * Int.gcd a b = g * 1 := by simpa using e
    exact Nat.eq_of_mul_eq_mul_left hg this
  · obtain ⟨b, hb⟩ := d2
    rw [Int.tdiv_eq_ediv_of_dvd (Int.gcd_dvd_right p q)]
    have h0 : (Int.gcd p q : Int) ≠ 0 := by omega
    have : q / (Int.gcd p q : Int) = b := by
      generalize Int.gcd p q = g at *
      rw [hb]
      exact Int.mul_ediv_cancel_left _ h0
    rw [this]
    have : 0 < (Int.gcd p q : Int) * b := by omega
    have := Int.pos_of_mul_pos_right this (by omega)
    omega
  · rw [Int.tdiv_eq_ediv_of_dvd d1, Int.tdiv_eq_ediv_of_dvd d2]
    obtain ⟨a, ha⟩ := d1
    obtain ⟨b, hb⟩ := d2
    have h0 : (Int.gcd p q : Int) ≠ 0 := by omega
    generalize Int.gcd p q = g at *
    rw [ha, hb, Int.mul_ediv_cancel_left _ h0, Int.mul_ediv_cancel_left _ h0]
    grind
  · have : (q.tdiv (Int.gcd p q : Int)).natAbs ≤ q.natAbs := tdiv_le
    omega
theorem nrm_ok {p q : Int} (hq : q ≠ 0) : Int.gcd (nrm p q).1 (nrm p q).2 = 1 ∧ 1 ≤ (nrm p q).2 ∧ (nrm p q).1 * q = p * (nrm p q).2 ∧ (nrm p q).2 ≤ q.natAbs ∧ (nrm p q).1.natAbs ≤ p.natAbs := by
  by_cases h : 0 < q
  · have := nrm_ok0 (p := p) h
    refine ⟨this.1, this.2.1, this.2.2.1, by omega, this.2.2.2.2⟩
  · have := nrm_ok0 (p := -p) (q := -q) (by omega)
    rw [nrm_neg hq] at this
    refine ⟨this.1, this.2.1, ?_, by omega, by omega⟩
    have e := this.2.2.1
    rw [Int.mul_neg, Int.neg_mul] at e
    omega
/-- lowest terms are one -/
theorem low_uniq {a b c d : Int} (hb : 0 < b) (hd : 0 < d) (h1 : Int.gcd a b = 1) (h2 : Int.gcd c d = 1) (e : a * d = c * b) : a = c ∧ b = d := by
  have key : ∀ x y z : Int, Int.gcd x y = 1 → y ∣ x * z → y ∣ z := fun x y z hg hd => by
    apply Int.natAbs_dvd_natAbs.mp
    have hd := Int.natAbs_dvd_natAbs.mpr hd
    rw [Int.natAbs_mul] at hd
    exact Nat.Coprime.dvd_of_dvd_mul_left (by rw [Nat.coprime_comm]; exact hg) hd
  have k1 : b ∣ d := key a b d h1 ⟨c, by rw [e, Int.mul_comm]⟩
  have k2 : d ∣ b := key c d b h2 ⟨a, by rw [← e, Int.mul_comm]⟩
  have hbd : b = d := Int.le_antisymm (Int.le_of_dvd hd k1) (Int.le_of_dvd hb k2)
  subst hbd
  exact ⟨Int.eq_of_mul_eq_mul_right (by omega) e, rfl⟩
def OKF (f : FR) : Prop := f.1.natAbs ≤ 1000000000 ∧ 1 ≤ f.2 ∧ f.2 ≤ 1000000000 ∧ Int.gcd f.1 f.2 = 1
def big (f : FR) : Bool := decide (1000000000 < f.1.natAbs ∨ 1000000000 < f.2)
theorem okf_nrm {p q : Int} (hq : q ≠ 0) (h : big (nrm p q) = false) : OKF (nrm p q) := by
  have := nrm_ok (p := p) hq
  have h' := of_decide_eq_false h
  exact ⟨by omega, this.2.1, by omega, this.1⟩
theorem mulb {x y : Int} (hx : x.natAbs ≤ 1000000000) (hy : y.natAbs ≤ 1000000000) : (x * y).natAbs ≤ 1000000000000000000 := by
  rw [Int.natAbs_mul]
  exact Nat.mul_le_mul hx hy
def up2 (P : Nat → FR) (k : Nat) (x : FR) : Nat → FR := fun j => if j = k then x else P j
theorem up2_s (P : Nat → FR) (k : Nat) (x : FR) : up2 P k x k = x := if_pos rfl
theorem up2_n {P : Nat → FR} {k j : Nat} {x : FR} (h : j ≠ k) : up2 P k x j = P j := if_neg h
/-! the evaluator, over the reference's row -/
def A (al : Nat → Int32) (k : Nat) : Int := (al k).toInt
theorem A_q {al : Nat → Int32} {k : Nat} {v : Int} (h : al k = q32 v) (b : B31 v) : A al k = v := by unfold A; rw [h, q32_toInt b]
def isF (tp : Int) (f : FR) : Bool := decide (0 ≤ f.1 ∧ 1 ≤ f.2 ∧ f.1 ≤ 1000000 ∧ f.2 ≤ 1000000 ∧ f.1 ≤ tp * f.2)
def jn (c : Int) (x y : FR) : Option FR := if c = 3000 then some (nrm (x.1 * y.2 + y.1 * x.2) (x.2 * y.2)) else if c = 3001 then some (nrm (x.1 * y.2 - y.1 * x.2) (x.2 * y.2)) else if c = 3002 then some (nrm (x.1 * y.1) (x.2 * y.2)) else if y.1 = 0 then none else some (nrm (x.1 * y.2) (x.2 * y.1))
theorem jn_ok {c : Int} {x y f : FR} (hx : OKF x) (hy : OKF y) (h : jn c x y = some f) (hb : big f = false) : OKF f := by
  have h1 : x.2 ≠ 0 := by have := hx.2.1; omega
  have h2 : y.2 ≠ 0 := by have := hy.2.1; omega
  have h3 : x.2 * y.2 ≠ 0 := Int.mul_ne_zero h1 h2
  unfold jn at h
  split at h
  · cases h; exact okf_nrm h3 hb
  · split at h
    · cases h; exact okf_nrm h3 hb
    · split at h
      · cases h; exact okf_nrm h3 hb
      · split at h
        · cases h
        · rename_i h0
          cases h; exact okf_nrm (Int.mul_ne_zero h1 h0) hb
def LDF (al : Nat → Int32) (x : FR) : Nat → Nat → Nat → (Nat → FR) → Int × FR
  | 0, _, _, P => (if isF (A al 1) (P 0) then 0 else 4, P 0)
  | n + 1, i, d, P => if A al (99 + i) < 1000 then LDF al x n (i + 1) (d + 1) (up2 P d (A al (99 + i), 1)) else if A al (99 + i) = 1000 then LDF al x n (i + 1) (d + 1) (up2 P d x) else if A al (99 + i) = 1001 then LDF al x n (i + 1) (d + 1) (up2 P d (A al 1, 1)) else match jn (A al (99 + i)) (P (d - 2)) (P (d - 1)) with
    | none => (2, P 0)
    | some f => if big f then (3, P 0) else LDF al x n (i + 1) (d - 1) (up2 P (d - 2) f)
def LE (al : Nat → Int32) (b : Int) (x : FR) : Int × FR := if 0 ≤ b ∧ b < A al 2 then LDF al x (A al (67 + b.toNat)).toNat (A al (61 + b.toNat)).toNat 0 (fun _ => (0, 1)) else (1, (0, 1))
/-! the class -/
def K9 (m m' : Mem) : Prop := (∀ a k, a ≠ 16 → m'.1 a k = m.1 a k) ∧ (∀ a k, a ≠ 17 ∧ a ≠ 18 → m'.2.1 a k = m.2.1 a k) ∧ m'.2.2 = m.2.2
theorem K9.rf (m : Mem) : K9 m m := ⟨fun _ _ _ => rfl, fun _ _ _ => rfl, rfl⟩
theorem K9.tr {m m1 m2 : Mem} (h : K9 m m1) (h2 : K9 m1 m2) : K9 m m2 := ⟨fun a k p => (h2.1 a k p).trans (h.1 a k p), fun a k p => (h2.2.1 a k p).trans (h.2.1 a k p), h2.2.2.trans h.2.2⟩
theorem K9.I {m m1 : Mem} {k : Nat} {x : Int32} (h : K9 m m1) : K9 m (wI m1 16 k x) := ⟨fun a j p => by rw [wI_n (Or.inl p)]; exact h.1 a j p, h.2.1, h.2.2⟩
theorem K9.L {m m1 : Mem} {a k : Nat} {x : Int64} (h : K9 m m1) (ha : a = 17 ∨ a = 18) : K9 m (wL m1 a k x) := ⟨h.1, fun b j p => by rw [wL_n (Or.inl (by omega))]; exact h.2.1 b j p, h.2.2⟩
theorem K9.sc {m m' : Mem} (h : K9 m m') : SC m m' := ⟨fun a p _ => funext fun k => h.1 a k (fun e => p (by unfold Fx; omega)), ⟨h.1 _ _ (by omega), h.1 _ _ (by omega), h.1 _ _ (by omega)⟩, fun a p _ => funext fun k => h.2.1 a k ⟨fun e => p (by unfold Fx; omega), fun e => p (by unfold Fx; omega)⟩, h.2.2⟩
theorem RF.same {m m' : Mem} (hr : RF m) (h : m'.2.2 = m.2.2) : RF m' := fun q hq => by rw [h]; exact hr q hq
/-- what is piled, by the class -/
def PL9 (m : Mem) (d : Nat) (P : Nat → FR) : Prop := m.1 16 4 = q32 d ∧ ∀ k, k < d → m.2.1 17 k = q64 (P k).1 ∧ m.2.1 18 k = q64 (P k).2
theorem pile9 {s : List Sh} {m : Mem} (hp : ∃ t, s = sB ++ t) (hr : RF m) {d : Nat} (hd : d < 60) {P : Nat → FR} (h : PL9 m d P) (x : FR) : ∃ m', n_X4_pile s m 16 (q64 x.1) (q64 x.2) = some ((), m') ∧ PL9 m' (d + 1) (up2 P d x) ∧ K9 m m' := by
  have r2 := rf16_2 hr
  have r3 := rf16_3 hr
  have l17 := ln17 hp
  have l18 := ln18 hp
  refine ⟨wI (wL (wL m 17 d (q64 x.1)) 18 d (q64 x.2)) 16 4 (q32 (d + 1)), ?_, ⟨?_, fun k hk => ?_⟩, (((K9.rf m).L (Or.inl rfl)).L (Or.inr rfl)).I⟩
  · unfold n_X4_pile nb_X4_pile_0
    simp (disch := omega) only [Option.bind_some, bindv, bindv0, bind2_s, bind3_s, ↓reduceIte, Bool.false_eq_true, rZM_0, rZM_1, rZP_0, rZP_1, ptZ_0, ptZ_1, c32i, c64i, ncI, Int.natCast_add, Int.natCast_mul, q32_neg, q64_neg, q32_add, q32_sub, q32_mul, q64_add, q64_sub, q64_mul, q32_64i, q64_32, q32_lt_t, q32_lt_f, q32_le_t, q32_le_f, q32_eq_t, q32_eq_f, q64_lt_t, q64_lt_f, q64_le_t, q64_le_f, q64_eq_t, q64_eq_f, rdI_i, rdL_i, rdR_i, rdN_i, stI_i, stL_i, stR_i, wI_s, wI_n, wL_s, wL_n, wI_2, wI_3, wL_1, wL_3, wR_1, wR_2, Int.toNat_natCast, h.1, r2, r3]
  · rw [wI_s]; rfl
  · unfold up2
    by_cases e : k = d
    · subst e
      simp (disch := omega) only [Option.bind_some, bindv, bindv0, bind2_s, bind3_s, ↓reduceIte, Bool.false_eq_true, rZM_0, rZM_1, rZP_0, rZP_1, ptZ_0, ptZ_1, c32i, c64i, ncI, Int.natCast_add, Int.natCast_mul, q32_neg, q64_neg, q32_add, q32_sub, q32_mul, q64_add, q64_sub, q64_mul, q32_64i, q64_32, q32_lt_t, q32_lt_f, q32_le_t, q32_le_f, q32_eq_t, q32_eq_f, q64_lt_t, q64_lt_f, q64_le_t, q64_le_f, q64_eq_t, q64_eq_f, rdI_i, rdL_i, rdR_i, rdN_i, stI_i, stL_i, stR_i, wI_s, wI_n, wL_s, wL_n, wI_2, wI_3, wL_1, wL_3, wR_1, wR_2, Int.toNat_natCast, if_pos]
      simp
    · have hk2 : k < d := by omega
      rw [if_neg e]
      simp (disch := omega) only [Option.bind_some, bindv, bindv0, bind2_s, bind3_s, ↓reduceIte, Bool.false_eq_true, rZM_0, rZM_1, rZP_0, rZP_1, ptZ_0, ptZ_1, c32i, c64i, ncI, Int.natCast_add, Int.natCast_mul, q32_neg, q64_neg, q32_add, q32_sub, q32_mul, q64_add, q64_sub, q64_mul, q32_64i, q64_32, q32_lt_t, q32_lt_f, q32_le_t, q32_le_f, q32_eq_t, q32_eq_f, q64_lt_t, q64_lt_f, q64_le_t, q64_le_f, q64_eq_t, q64_eq_f, rdI_i, rdL_i, rdR_i, rdN_i, stI_i, stL_i, stR_i, wI_s, wI_n, wL_s, wL_n, wI_2, wI_3, wL_1, wL_3, wR_1, wR_2, Int.toNat_natCast, h.2 k hk2]
      simp
theorem jabs {x : Int} (h : x.natAbs < 9223372036854775808) : jabsL (q64 x) = q64 (x.natAbs : Int) := by
  unfold jabsL
  by_cases h0 : 0 < x
  · rw [show (x.natAbs : Int) = x by omega]
    simp (disch := omega) only [Option.bind_some, bindv, bindv0, bind2_s, bind3_s, ↓reduceIte, Bool.false_eq_true, rZM_0, rZM_1, rZP_0, rZP_1, ptZ_0, ptZ_1, c32i, c64i, ncI, Int.natCast_add, Int.natCast_mul, q32_neg, q64_neg, q32_add, q32_sub, q32_mul, q64_add, q64_sub, q64_mul, q32_64i, q64_32, q32_lt_t, q32_lt_f, q32_le_t, q32_le_f, q32_eq_t, q32_eq_f, q64_lt_t, q64_lt_f, q64_le_t, q64_le_f, q64_eq_t, q64_eq_f, rdI_i, rdL_i, rdR_i, rdN_i, stI_i, stL_i, stR_i, wI_s, wI_n, wL_s, wL_n, wI_2, wI_3, wL_1, wL_3, wR_1, wR_2, Int.toNat_natCast]
  · rw [show (x.natAbs : Int) = -x by omega]
    simp (disch := omega) only [Option.bind_some, bindv, bindv0, bind2_s, bind3_s, ↓reduceIte, Bool.false_eq_true, rZM_0, rZM_1, rZP_0, rZP_1, ptZ_0, ptZ_1, c32i, c64i, ncI, Int.natCast_add, Int.natCast_mul, q32_neg, q64_neg, q32_add, q32_sub, q32_mul, q64_add, q64_sub, q64_mul, q32_64i, q64_32, q32_lt_t, q32_lt_f, q32_le_t, q32_le_f, q32_eq_t, q32_eq_f, q64_lt_t, q64_lt_f, q64_le_t, q64_le_f, q64_eq_t, q64_eq_f, rdI_i, rdL_i, rdR_i, rdN_i, stI_i, stL_i, stR_i, wI_s, wI_n, wL_s, wL_n, wI_2, wI_3, wL_1, wL_3, wR_1, wR_2, Int.toNat_natCast]
theorem q64_div_n {a b : Int} (h : a.natAbs < 9223372036854775808 ∧ b.natAbs < 9223372036854775808) : q64 a / q64 b = q64 (a.tdiv b) := q64_divU (b63n h.1) (b63n h.2)
/-- the class settles p by q, q above 0 -/
theorem settle9 {F : Nat} (hF : 200 ≤ F) {s : List Sh} {m : Mem} (hp : ∃ t, s = sB ++ t) (hr : RF m) {d : Nat} (hd : d < 60) {P : Nat → FR} (h : PL9 m (d + 1) P) {p q : Int} (hq : 1 ≤ q) (bp : p.natAbs < 9223372036854775808) (bq : q.natAbs < 9223372036854775808) : ∃ m', n_X4_settle F s m 16 (q64 p) (q64 q) = some (if big (nrm p q) then 3 else 0, m') ∧ PL9 m' (d + 1) (up2 P d (nrm p q)) ∧ K9 m m' := by
  obtain ⟨h1, h2⟩ := h
  have r2 := rf16_2 hr
  have r3 := rf16_3 hr
  have l17 := ln17 hp
  have l18 := ln18 hp
  have hg := gcd_b (p := p) (q := q) (by omega) bq
  have hn : nrm p q = (p.tdiv (Int.gcd p q), q.tdiv (Int.gcd p q)) := if_neg (by omega)
  have hcore : n_X4_settle F s m 16 (q64 p) (q64 q) = nb_X4_settle_15 F s m 16 (q64 p) (q64 q) (q64 (Int.gcd p q : Int)) := by
    unfold n_X4_settle nb_X4_settle_0
    by_cases h1q : q = 1
    · subst h1q
      simp (disch := omega) only [Option.bind_some, bindv, bindv0, bind2_s, bind3_s, ↓reduceIte, Bool.false_eq_true, rZM_0, rZM_1, rZP_0, rZP_1, ptZ_0, ptZ_1, c32i, c64i, ncI, Int.natCast_add, Int.natCast_mul, q32_neg, q64_neg, q32_add, q32_sub, q32_mul, q64_add, q64_sub, q64_mul, q32_64i, q64_32, q32_lt_t, q32_lt_f, q32_le_t, q32_le_f, q32_eq_t, q32_eq_f, q64_lt_t, q64_lt_f, q64_le_t, q64_le_f, q64_eq_t, q64_eq_f, rdI_i, rdL_i, rdR_i, rdN_i, stI_i, stL_i, stR_i, wI_s, wI_n, wL_s, wL_n, wI_2, wI_3, wL_1, wL_3, wR_1, wR_2, Int.toNat_natCast, Int.gcd_one_right]
    · simp (disch := omega) only [Option.bind_some, bindv, bindv0, bind2_s, bind3_s, ↓reduceIte, Bool.false_eq_true, rZM_0, rZM_1, rZP_0, rZP_1, ptZ_0, ptZ_1, c32i, c64i, ncI, Int.natCast_add, Int.natCast_mul, q32_neg, q64_neg, q32_add, q32_sub, q32_mul, q64_add, q64_sub, q64_mul, q32_64i, q64_32, q32_lt_t, q32_lt_f, q32_le_t, q32_le_f, q32_eq_t, q32_eq_f, q64_lt_t, q64_lt_f, q64_le_t, q64_le_f, q64_eq_t, q64_eq_f, rdI_i, rdL_i, rdR_i, rdN_i, stI_i, stL_i, stR_i, wI_s, wI_n, wL_s, wL_n, wI_2, wI_3, wL_1, wL_3, wR_1, wR_2, Int.toNat_natCast, m_cf hF bp bq]
  have bu : (p.tdiv (Int.gcd p q : Int)).natAbs < 9223372036854775808 := Nat.lt_of_le_of_lt tdiv_le bp
  have bv : (q.tdiv (Int.gcd p q : Int)).natAbs < 9223372036854775808 := Nat.lt_of_le_of_lt tdiv_le bq
  have e1 : ((d : Int) + 1 - 1).toNat = d := by omega
  refine ⟨wL (wL m 17 d (q64 (nrm p q).1)) 18 d (q64 (nrm p q).2), ?_, ⟨?_, fun k hk => ?_⟩, ((K9.rf m).L (Or.inl rfl)).L (Or.inr rfl)⟩
  · rw [hcore, hn]
    unfold nb_X4_settle_15 big
    generalize hgg : Int.gcd p q = g at *
    simp only []
    by_cases c1 : 1000000000 < (p.tdiv (g : Int)).natAbs
    · rw [decide_eq_true (Or.inl c1)]
      simp (disch := omega) only [Option.bind_some, bindv, bindv0, bind2_s, bind3_s, ↓reduceIte, Bool.false_eq_true, rZM_0, rZM_1, rZP_0, rZP_1, ptZ_0, ptZ_1, c32i, c64i, ncI, Int.natCast_add, Int.natCast_mul, q32_neg, q64_neg, q32_add, q32_sub, q32_mul, q64_add, q64_sub, q64_mul, q32_64i, q64_32, q32_lt_t, q32_lt_f, q32_le_t, q32_le_f, q32_eq_t, q32_eq_f, q64_lt_t, q64_lt_f, q64_le_t, q64_le_f, q64_eq_t, q64_eq_f, rdI_i, rdL_i, rdR_i, rdN_i, stI_i, stL_i, stR_i, wI_s, wI_n, wL_s, wL_n, wI_2, wI_3, wL_1, wL_3, wR_1, wR_2, Int.toNat_natCast, q64_div_n, h1, r2, r3, jabs bu, e1]
    · by_cases c2 : 1000000000 < q.tdiv (g : Int)
      · rw [decide_eq_true (Or.inr c2)]
        simp (disch := omega) only [Option.bind_some, bindv, bindv0, bind2_s, bind3_s, ↓reduceIte, Bool.false_eq_true, rZM_0, rZM_1, rZP_0, rZP_1, ptZ_0, ptZ_1, c32i, c64i, ncI, Int.natCast_add, Int.natCast_mul, q32_neg, q64_neg, q32_add, q32_sub, q32_mul, q64_add, q64_sub, q64_mul, q32_64i, q64_32, q32_lt_t, q32_lt_f, q32_le_t, q32_le_f, q32_eq_t, q32_eq_f, q64_lt_t, q64_lt_f, q64_le_t, q64_le_f, q64_eq_t, q64_eq_f, rdI_i, rdL_i, rdR_i, rdN_i, stI_i, stL_i, stR_i, wI_s, wI_n, wL_s, wL_n, wI_2, wI_3, wL_1, wL_3, wR_1, wR_2, Int.toNat_natCast, q64_div_n, h1, r2, r3, jabs bu, e1]
      · rw [decide_eq_false (by omega)]
        simp (disch := omega) only [Option.bind_some, bindv, bindv0, bind2_s, bind3_s, ↓reduceIte, Bool.false_eq_true, rZM_0, rZM_1, rZP_0, rZP_1, ptZ_0, ptZ_1, c32i, c64i, ncI, Int.natCast_add, Int.natCast_mul, q32_neg, q64_neg, q32_add, q32_sub, q32_mul, q64_add, q64_sub, q64_mul, q32_64i, q64_32, q32_lt_t, q32_lt_f, q32_le_t, q32_le_f, q32_eq_t, q32_eq_f, q64_lt_t, q64_lt_f, q64_le_t, q64_le_f, q64_eq_t, q64_eq_f, rdI_i, rdL_i, rdR_i, rdN_i, stI_i, stL_i, stR_i, wI_s, wI_n, wL_s, wL_n, wI_2, wI_3, wL_1, wL_3, wR_1, wR_2, Int.toNat_natCast, q64_div_n, h1, r2, r3, jabs bu, e1]
  · rw [wL_1, wL_1]; exact h1
  · unfold up2
    by_cases e : k = d
    · subst e
      simp (disch := omega) only [Option.bind_some, bindv, bindv0, bind2_s, bind3_s, ↓reduceIte, Bool.false_eq_true, rZM_0, rZM_1, rZP_0, rZP_1, ptZ_0, ptZ_1, c32i, c64i, ncI, Int.natCast_add, Int.natCast_mul, q32_neg, q64_neg, q32_add, q32_sub, q32_mul, q64_add, q64_sub, q64_mul, q32_64i, q64_32, q32_lt_t, q32_lt_f, q32_le_t, q32_le_f, q32_eq_t, q32_eq_f, q64_lt_t, q64_lt_f, q64_le_t, q64_le_f, q64_eq_t, q64_eq_f, rdI_i, rdL_i, rdR_i, rdN_i, stI_i, stL_i, stR_i, wI_s, wI_n, wL_s, wL_n, wI_2, wI_3, wL_1, wL_3, wR_1, wR_2, Int.toNat_natCast, if_pos]
      simp
    · rw [if_neg e]
      simp (disch := omega) only [Option.bind_some, bindv, bindv0, bind2_s, bind3_s, ↓reduceIte, Bool.false_eq_true, rZM_0, rZM_1, rZP_0, rZP_1, ptZ_0, ptZ_1, c32i, c64i, ncI, Int.natCast_add, Int.natCast_mul, q32_neg, q64_neg, q32_add, q32_sub, q32_mul, q64_add, q64_sub, q64_mul, q32_64i, q64_32, q32_lt_t, q32_lt_f, q32_le_t, q32_le_f, q32_eq_t, q32_eq_f, q64_lt_t, q64_lt_f, q64_le_t, q64_le_f, q64_eq_t, q64_eq_f, rdI_i, rdL_i, rdR_i, rdN_i, stI_i, stL_i, stR_i, wI_s, wI_n, wL_s, wL_n, wI_2, wI_3, wL_1, wL_3, wR_1, wR_2, Int.toNat_natCast, h2 k hk]
      simp

theorem join9 {F : Nat} (hF : 200 ≤ F) {s : List Sh} {m : Mem} (hp : ∃ t, s = sB ++ t) (hr : RF m) {d : Nat} (hd : d < 60) {P : Nat → FR} (h : PL9 m (d + 2) P) (hx : OKF (P d)) (hy : OKF (P (d + 1))) {c e : Int} (hc : (c = -3 ∧ e = 3000) ∨ (c = -4 ∧ e = 3001) ∨ (c = -5 ∧ e = 3002) ∨ (c = -6 ∧ e = 3003)) : ∃ m', K9 m m' ∧ match jn e (P d) (P (d + 1)) with
    | none => n_X4_join F s m 16 (q32 c) = some (2, m')
    | some f => n_X4_join F s m 16 (q32 c) = some (if big f then 3 else 0, m') ∧ PL9 m' (d + 1) (up2 P d f) := by
  obtain ⟨h1, h2⟩ := h
  have r2 := rf16_2 hr
  have r3 := rf16_3 hr
  have l17 := ln17 hp
  have l18 := ln18 hp
  obtain ⟨x1, x2⟩ := h2 d (by omega)
  obtain ⟨y1, y2⟩ := h2 (d + 1) (by omega)
  generalize hX : P d = X at *
  generalize hY : P (d + 1) = Y at *
  obtain ⟨a, b⟩ := X
  obtain ⟨p, q⟩ := Y
  obtain ⟨ha, hb, hb2, -⟩ := hx
  obtain ⟨hp2, hq, hq2, -⟩ := hy
  simp only at ha hb hb2 hp2 hq hq2 x1 x2 y1 y2
  have m1 := mulb ha (show q.natAbs ≤ 1000000000 by omega)
  have m2 := mulb hp2 (show b.natAbs ≤ 1000000000 by omega)
  have m3 := mulb (show b.natAbs ≤ 1000000000 by omega) (show q.natAbs ≤ 1000000000 by omega)
  have m4 := mulb ha hp2
  have hbq : 1 ≤ b * q := Int.mul_pos (by omega) (by omega)
  let M := wI m 16 4 (q32 (d + 1))
  have hM : PL9 M (d + 1) P := ⟨by show (wI m 16 4 (q32 (d + 1))).1 16 4 = _; rw [wI_s]; rfl, fun k hk => h2 k (by omega)⟩
  have kM : K9 m M := (K9.rf m).I
  have e1 : ((d : Int) + 1 - 1).toNat = d := by omega
  have e2 : ((d : Int) + 1).toNat = d + 1 := by omega
  have hrM : RF M := hr.same rfl
  have pre : ∀ v : Int32, n_X4_join F s m 16 v = swN v (-5) [bind2 (n_X4_settle F s M 16 (q64 (a * p)) (q64 (b * q))) fun x10 m11 => (some (x10, m11)), bind2 (n_X4_settle F s M 16 (q64 (a * q - p * b)) (q64 (b * q))) fun x12 m13 => (some (x12, m13)), bind2 (n_X4_settle F s M 16 (q64 (a * q + p * b)) (q64 (b * q))) fun x14 m15 => (some (x14, m15))] (if q64 p = (0 : Int64) then (some ((2 : Int32), M)) else (if (0 : Int64) ≤ q64 p then (bind2 (n_X4_settle F s M 16 (q64 (a * q)) (q64 (p * b))) fun x16 m17 => (some (x16, m17))) else (bind2 (n_X4_settle F s M 16 (q64 (-a * q)) (q64 (-p * b))) fun x18 m19 => (some (x18, m19))))) := by
    intro v
    unfold n_X4_join nb_X4_join_0
    have e3 : q32 ((d : Int) + 2 - 1) = q32 (d + 1) := by congr 1; omega
    simp (disch := omega) only [Option.bind_some, bindv, bindv0, bind2_s, bind3_s, ↓reduceIte, Bool.false_eq_true, rZM_0, rZM_1, rZP_0, rZP_1, ptZ_0, ptZ_1, c32i, c64i, ncI, Int.natCast_add, Int.natCast_mul, q32_neg, q64_neg, q32_add, q32_sub, q32_mul, q64_add, q64_sub, q64_mul, q32_64i, q64_32, q32_lt_t, q32_lt_f, q32_le_t, q32_le_f, q32_eq_t, q32_eq_f, q64_lt_t, q64_lt_f, q64_le_t, q64_le_f, q64_eq_t, q64_eq_f, rdI_i, rdL_i, rdR_i, rdN_i, stI_i, stL_i, stR_i, wI_s, wI_n, wL_s, wL_n, wI_2, wI_3, wL_1, wL_3, wR_1, wR_2, Int.toNat_natCast, h1, r2, r3, e1, e2, e3, x1, x2, y1, y2]
    rfl
  rcases hc with ⟨rfl, rfl⟩ | ⟨rfl, rfl⟩ | ⟨rfl, rfl⟩ | ⟨rfl, rfl⟩
  · obtain ⟨m', k1, k2, k3⟩ := settle9 hF hp hrM hd hM (p := a * q + p * b) (q := b * q) hbq (by omega) (by omega)
    refine ⟨m', kM.tr k3, ?_⟩
    show n_X4_join F s m 16 (q32 (-3)) = some (if big (nrm (a * q + p * b) (b * q)) then 3 else 0, m') ∧ _
    refine ⟨?_, k2⟩
    rw [pre]
    show bind2 (n_X4_settle F s M 16 (q64 (a * q + p * b)) (q64 (b * q))) _ = _
    rw [k1]
    rfl
  · obtain ⟨m', k1, k2, k3⟩ := settle9 hF hp hrM hd hM (p := a * q - p * b) (q := b * q) hbq (by omega) (by omega)
    refine ⟨m', kM.tr k3, ?_⟩
    show n_X4_join F s m 16 (q32 (-4)) = some (if big (nrm (a * q - p * b) (b * q)) then 3 else 0, m') ∧ _
    refine ⟨?_, k2⟩
    rw [pre]
    show bind2 (n_X4_settle F s M 16 (q64 (a * q - p * b)) (q64 (b * q))) _ = _
    rw [k1]
    rfl
  · obtain ⟨m', k1, k2, k3⟩ := settle9 hF hp hrM hd hM (p := a * p) (q := b * q) hbq (by omega) (by omega)
    refine ⟨m', kM.tr k3, ?_⟩
    show n_X4_join F s m 16 (q32 (-5)) = some (if big (nrm (a * p) (b * q)) then 3 else 0, m') ∧ _
    refine ⟨?_, k2⟩
    rw [pre]
    show bind2 (n_X4_settle F s M 16 (q64 (a * p)) (q64 (b * q))) _ = _
    rw [k1]
    rfl
  · have hj : jn 3003 (a, b) (p, q) = if p = 0 then none else some (nrm (a * q) (b * p)) := rfl
    rw [hj, pre]
    by_cases h0 : p = 0
    · rw [if_pos h0]
      refine ⟨M, kM, ?_⟩
      subst h0
      rfl
    · rw [if_neg h0]
      simp only []
      by_cases hpp : 0 ≤ p
      · obtain ⟨m', k1, k2, k3⟩ := settle9 hF hp hrM hd hM (p := a * q) (q := p * b) (Int.mul_pos (by omega) (by omega)) (by omega) (by omega)
        refine ⟨m', kM.tr k3, ?_⟩
        rw [Int.mul_comm p b] at k1 k2
        refine ⟨?_, k2⟩
        show (if q64 p = (0 : Int64) then _ else _) = _
        rw [Int.mul_comm p b]
        simp (disch := omega) only [Option.bind_some, bindv, bindv0, bind2_s, bind3_s, ↓reduceIte, Bool.false_eq_true, rZM_0, rZM_1, rZP_0, rZP_1, ptZ_0, ptZ_1, c32i, c64i, ncI, Int.natCast_add, Int.natCast_mul, q32_neg, q64_neg, q32_add, q32_sub, q32_mul, q64_add, q64_sub, q64_mul, q32_64i, q64_32, q32_lt_t, q32_lt_f, q32_le_t, q32_le_f, q32_eq_t, q32_eq_f, q64_lt_t, q64_lt_f, q64_le_t, q64_le_f, q64_eq_t, q64_eq_f, rdI_i, rdL_i, rdR_i, rdN_i, stI_i, stL_i, stR_i, wI_s, wI_n, wL_s, wL_n, wI_2, wI_3, wL_1, wL_3, wR_1, wR_2, Int.toNat_natCast, k1]
      · obtain ⟨m', k1, k2, k3⟩ := settle9 hF hp hrM hd hM (p := -a * q) (q := -p * b) (Int.mul_pos (by omega) (by omega)) (by rw [Int.neg_mul]; omega) (by rw [Int.neg_mul]; omega)
        refine ⟨m', kM.tr k3, ?_⟩
        have en : nrm (-a * q) (-p * b) = nrm (a * q) (b * p) := by
          rw [Int.neg_mul, Int.neg_mul, Int.mul_comm p b]
          exact nrm_neg (Int.mul_ne_zero (by omega) h0)
        rw [en] at k1 k2
        refine ⟨?_, k2⟩
        show (if q64 p = (0 : Int64) then _ else _) = _
        simp (disch := omega) only [Option.bind_some, bindv, bindv0, bind2_s, bind3_s, ↓reduceIte, Bool.false_eq_true, rZM_0, rZM_1, rZP_0, rZP_1, ptZ_0, ptZ_1, c32i, c64i, ncI, Int.natCast_add, Int.natCast_mul, q32_neg, q64_neg, q32_add, q32_sub, q32_mul, q64_add, q64_sub, q64_mul, q32_64i, q64_32, q32_lt_t, q32_lt_f, q32_le_t, q32_le_f, q32_eq_t, q32_eq_f, q64_lt_t, q64_lt_f, q64_le_t, q64_le_f, q64_eq_t, q64_eq_f, rdI_i, rdL_i, rdR_i, rdN_i, stI_i, stL_i, stR_i, wI_s, wI_n, wL_s, wL_n, wI_2, wI_3, wL_1, wL_3, wR_1, wR_2, Int.toNat_natCast, k1]
/-- what a lead reads of the house, by the class -/
def C9 (s : List Sh) (m : Mem) (nw : Nat) (al cd : Nat → Int32) (e : Nat) : Prop := RF m ∧ m.2.2 nw 8 = some (nw + 2) ∧ m.1 nw 0 = al 1 ∧ ∀ i, i < e → m.1 (nw + 2) i = cd i ∧ CT (cd i) (al (99 + i))
theorem C9.k {s : List Sh} {m m' : Mem} {nw : Nat} {al cd : Nat → Int32} {e : Nat} (h : C9 s m nw al cd e) (k : K9 m m') (hn : nw = 2 ∨ 53 ≤ nw) : C9 s m' nw al cd e :=
  ⟨h.1.same k.2.2, by rw [k.2.2]; exact h.2.1, by rw [k.1 _ _ (by omega)]; exact h.2.2.1, fun i hi => by rw [k.1 _ _ (by omega)]; exact h.2.2.2 i hi⟩
theorem isF9 {s : List Sh} {m : Mem} {n tp : Nat} (h : m.1 n 0 = q32 tp) (ht : tp ≤ 9) {u l : Int} (hu : u.natAbs < 4000000000000000000) (hl : l.natAbs ≤ 1000000000000000000) : n_X0_isFloor s m n (q64 u) (q64 l) = some (if isF tp (u, l) then 1 else 0) := by
  unfold n_X0_isFloor nb_X0_isFloor_0 isF
  simp only []
  by_cases c1 : u < 0
  · rw [decide_eq_false (by omega)]; simp (disch := omega) only [Option.bind_some, bindv, bindv0, bind2_s, bind3_s, ↓reduceIte, Bool.false_eq_true, rZM_0, rZM_1, rZP_0, rZP_1, ptZ_0, ptZ_1, c32i, c64i, ncI, Int.natCast_add, Int.natCast_mul, q32_neg, q64_neg, q32_add, q32_sub, q32_mul, q64_add, q64_sub, q64_mul, q32_64i, q64_32, q32_lt_t, q32_lt_f, q32_le_t, q32_le_f, q32_eq_t, q32_eq_f, q64_lt_t, q64_lt_f, q64_le_t, q64_le_f, q64_eq_t, q64_eq_f, rdI_i, rdL_i, rdR_i, rdN_i, stI_i, stL_i, stR_i, wI_s, wI_n, wL_s, wL_n, wI_2, wI_3, wL_1, wL_3, wR_1, wR_2, Int.toNat_natCast, h]
  by_cases c2 : l < 1
  · rw [decide_eq_false (by omega)]; simp (disch := omega) only [Option.bind_some, bindv, bindv0, bind2_s, bind3_s, ↓reduceIte, Bool.false_eq_true, rZM_0, rZM_1, rZP_0, rZP_1, ptZ_0, ptZ_1, c32i, c64i, ncI, Int.natCast_add, Int.natCast_mul, q32_neg, q64_neg, q32_add, q32_sub, q32_mul, q64_add, q64_sub, q64_mul, q32_64i, q64_32, q32_lt_t, q32_lt_f, q32_le_t, q32_le_f, q32_eq_t, q32_eq_f, q64_lt_t, q64_lt_f, q64_le_t, q64_le_f, q64_eq_t, q64_eq_f, rdI_i, rdL_i, rdR_i, rdN_i, stI_i, stL_i, stR_i, wI_s, wI_n, wL_s, wL_n, wI_2, wI_3, wL_1, wL_3, wR_1, wR_2, Int.toNat_natCast, h]
  by_cases c3 : 1000000 < u
  · rw [decide_eq_false (by omega)]; simp (disch := omega) only [Option.bind_some, bindv, bindv0, bind2_s, bind3_s, ↓reduceIte, Bool.false_eq_true, rZM_0, rZM_1, rZP_0, rZP_1, ptZ_0, ptZ_1, c32i, c64i, ncI, Int.natCast_add, Int.natCast_mul, q32_neg, q64_neg, q32_add, q32_sub, q32_mul, q64_add, q64_sub, q64_mul, q32_64i, q64_32, q32_lt_t, q32_lt_f, q32_le_t, q32_le_f, q32_eq_t, q32_eq_f, q64_lt_t, q64_lt_f, q64_le_t, q64_le_f, q64_eq_t, q64_eq_f, rdI_i, rdL_i, rdR_i, rdN_i, stI_i, stL_i, stR_i, wI_s, wI_n, wL_s, wL_n, wI_2, wI_3, wL_1, wL_3, wR_1, wR_2, Int.toNat_natCast, h]
  by_cases c4 : 1000000 < l
  · rw [decide_eq_false (by omega)]; simp (disch := omega) only [Option.bind_some, bindv, bindv0, bind2_s, bind3_s, ↓reduceIte, Bool.false_eq_true, rZM_0, rZM_1, rZP_0, rZP_1, ptZ_0, ptZ_1, c32i, c64i, ncI, Int.natCast_add, Int.natCast_mul, q32_neg, q64_neg, q32_add, q32_sub, q32_mul, q64_add, q64_sub, q64_mul, q32_64i, q64_32, q32_lt_t, q32_lt_f, q32_le_t, q32_le_f, q32_eq_t, q32_eq_f, q64_lt_t, q64_lt_f, q64_le_t, q64_le_f, q64_eq_t, q64_eq_f, rdI_i, rdL_i, rdR_i, rdN_i, stI_i, stL_i, stR_i, wI_s, wI_n, wL_s, wL_n, wI_2, wI_3, wL_1, wL_3, wR_1, wR_2, Int.toNat_natCast, h]
  have hm : (tp : Int) * l ≤ 9 * 1000000 := Int.mul_le_mul (by omega) (by omega) (by omega) (by omega)
  have hm0 : 0 ≤ (tp : Int) * l := Int.mul_nonneg (by omega) (by omega)
  by_cases c5 : u ≤ tp * l
  · rw [decide_eq_true (by omega)]; simp (disch := omega) only [Option.bind_some, bindv, bindv0, bind2_s, bind3_s, ↓reduceIte, Bool.false_eq_true, rZM_0, rZM_1, rZP_0, rZP_1, ptZ_0, ptZ_1, c32i, c64i, ncI, Int.natCast_add, Int.natCast_mul, q32_neg, q64_neg, q32_add, q32_sub, q32_mul, q64_add, q64_sub, q64_mul, q32_64i, q64_32, q32_lt_t, q32_lt_f, q32_le_t, q32_le_f, q32_eq_t, q32_eq_f, q64_lt_t, q64_lt_f, q64_le_t, q64_le_f, q64_eq_t, q64_eq_f, rdI_i, rdL_i, rdR_i, rdN_i, stI_i, stL_i, stR_i, wI_s, wI_n, wL_s, wL_n, wI_2, wI_3, wL_1, wL_3, wR_1, wR_2, Int.toNat_natCast, h]
  · rw [decide_eq_false (by omega)]; simp (disch := omega) only [Option.bind_some, bindv, bindv0, bind2_s, bind3_s, ↓reduceIte, Bool.false_eq_true, rZM_0, rZM_1, rZP_0, rZP_1, ptZ_0, ptZ_1, c32i, c64i, ncI, Int.natCast_add, Int.natCast_mul, q32_neg, q64_neg, q32_add, q32_sub, q32_mul, q64_add, q64_sub, q64_mul, q32_64i, q64_32, q32_lt_t, q32_lt_f, q32_le_t, q32_le_f, q32_eq_t, q32_eq_f, q64_lt_t, q64_lt_f, q64_le_t, q64_le_f, q64_eq_t, q64_eq_f, rdI_i, rdL_i, rdR_i, rdN_i, stI_i, stL_i, stR_i, wI_s, wI_n, wL_s, wL_n, wI_2, wI_3, wL_1, wL_3, wR_1, wR_2, Int.toNat_natCast, h]
/-- the class's loop over the steps of a button -/
theorem leadL9 {F : Nat} (hF : 200 ≤ F) {s : List Sh} (hp : ∃ t, s = sB ++ t) {nw : Nat} (hn : nw = 2 ∨ 53 ≤ nw) (hl2 : ln s (nw + 2) = 900) {al cd : Nat → Int32} {tp e : Nat} (htp : 1 ≤ tp ∧ tp ≤ 9) (ha1 : al 1 = q32 tp) (he : e ≤ 900) {x : FR} (hx : OKF x) : ∀ (n fuel : Nat), n < fuel → ∀ (m : Mem) (i d : Nat) (P : Nat → FR), C9 s m nw al cd e → PL9 m d P → (∀ k, k < d → OKF (P k)) → d ≤ 60 → WFC cd n i d → i + n = e → ∃ m', nl_X4_lead_37 F s fuel m 16 nw (q64 x.1) (q64 x.2) (q32 e) (q32 i) = some (q32 (LDF al x n i d P).1, m') ∧ K9 m m' ∧ ((LDF al x n i d P).1 = 0 → m'.1 16 0 = q32 (LDF al x n i d P).2.1 ∧ m'.1 16 1 = q32 (LDF al x n i d P).2.2 ∧ FLR tp (LDF al x n i d P).2.1 (LDF al x n i d P).2.2) := by
  have l17 := ln17 hp
  have l18 := ln18 hp
  have hA1 : A al 1 = tp := A_q ha1 (by omega)
  intro n
  induction n with
  | zero =>
    intro fuel hfu m i d P hc hP hO hd60 hW hie
    obtain ⟨fuel, rfl⟩ : ∃ f, fuel = f + 1 := ⟨fuel - 1, by omega⟩
    have hd : d = 1 := hW
    subst hd
    have r2 := rf16_2 hc.1
    have r3 := rf16_3 hc.1
    obtain ⟨h1, h2⟩ := hP
    obtain ⟨u1, v1⟩ := h2 0 (by omega)
    have hO0 := hO 0 (by omega)
    unfold OKF at hO0
    have hF0 := isF9 (s := s) (m := m) (n := nw) (by rw [hc.2.2.1]; exact ha1) htp.2 (u := (P 0).1) (l := (P 0).2) (by omega) (by omega)
    unfold nl_X4_lead_37 nb_X4_lead_37 LDF
    rw [hA1]
    have ez : (0 : Int).toNat = 0 := rfl
    cases hb : isF tp (P 0) with
    | false =>
      refine ⟨m, ?_, K9.rf m, ?_⟩
      · rw [hb] at hF0
        simp (disch := omega) only [Option.bind_some, bindv, bindv0, bind2_s, bind3_s, ↓reduceIte, Bool.false_eq_true, rZM_0, rZM_1, rZP_0, rZP_1, ptZ_0, ptZ_1, c32i, c64i, ncI, Int.natCast_add, Int.natCast_mul, q32_neg, q64_neg, q32_add, q32_sub, q32_mul, q64_add, q64_sub, q64_mul, q32_64i, q64_32, q32_lt_t, q32_lt_f, q32_le_t, q32_le_f, q32_eq_t, q32_eq_f, q64_lt_t, q64_lt_f, q64_le_t, q64_le_f, q64_eq_t, q64_eq_f, rdI_i, rdL_i, rdR_i, rdN_i, stI_i, stL_i, stR_i, wI_s, wI_n, wL_s, wL_n, wI_2, wI_3, wL_1, wL_3, wR_1, wR_2, Int.toNat_natCast, h1, r2, r3, ez, u1, v1, hF0]
      · simp
    | true =>
      rw [hb] at hF0
      have hb' := of_decide_eq_true hb
      refine ⟨wI (wI m 16 0 (q32 (P 0).1)) 16 1 (q32 (P 0).2), ?_, (K9.rf m).I.I, fun _ => ?_⟩
      · simp (disch := omega) only [Option.bind_some, bindv, bindv0, bind2_s, bind3_s, ↓reduceIte, Bool.false_eq_true, rZM_0, rZM_1, rZP_0, rZP_1, ptZ_0, ptZ_1, c32i, c64i, ncI, Int.natCast_add, Int.natCast_mul, q32_neg, q64_neg, q32_add, q32_sub, q32_mul, q64_add, q64_sub, q64_mul, q32_64i, q64_32, q32_lt_t, q32_lt_f, q32_le_t, q32_le_f, q32_eq_t, q32_eq_f, q64_lt_t, q64_lt_f, q64_le_t, q64_le_f, q64_eq_t, q64_eq_f, rdI_i, rdL_i, rdR_i, rdN_i, stI_i, stL_i, stR_i, wI_s, wI_n, wL_s, wL_n, wI_2, wI_3, wL_1, wL_3, wR_1, wR_2, Int.toNat_natCast, h1, r2, r3, ez, u1, v1, hF0]
      · refine ⟨by simp (disch := omega) only [Option.bind_some, bindv, bindv0, bind2_s, bind3_s, ↓reduceIte, Bool.false_eq_true, rZM_0, rZM_1, rZP_0, rZP_1, ptZ_0, ptZ_1, c32i, c64i, ncI, Int.natCast_add, Int.natCast_mul, q32_neg, q64_neg, q32_add, q32_sub, q32_mul, q64_add, q64_sub, q64_mul, q32_64i, q64_32, q32_lt_t, q32_lt_f, q32_le_t, q32_le_f, q32_eq_t, q32_eq_f, q64_lt_t, q64_lt_f, q64_le_t, q64_le_f, q64_eq_t, q64_eq_f, rdI_i, rdL_i, rdR_i, rdN_i, stI_i, stL_i, stR_i, wI_s, wI_n, wL_s, wL_n, wI_2, wI_3, wL_1, wL_3, wR_1, wR_2, Int.toNat_natCast], by simp (disch := omega) only [Option.bind_some, bindv, bindv0, bind2_s, bind3_s, ↓reduceIte, Bool.false_eq_true, rZM_0, rZM_1, rZP_0, rZP_1, ptZ_0, ptZ_1, c32i, c64i, ncI, Int.natCast_add, Int.natCast_mul, q32_neg, q64_neg, q32_add, q32_sub, q32_mul, q64_add, q64_sub, q64_mul, q32_64i, q64_32, q32_lt_t, q32_lt_f, q32_le_t, q32_le_f, q32_eq_t, q32_eq_f, q64_lt_t, q64_lt_f, q64_le_t, q64_le_f, q64_eq_t, q64_eq_f, rdI_i, rdL_i, rdR_i, rdN_i, stI_i, stL_i, stR_i, wI_s, wI_n, wL_s, wL_n, wI_2, wI_3, wL_1, wL_3, wR_1, wR_2, Int.toNat_natCast], ?_⟩
        show FLR tp (P 0).1 (P 0).2
        exact ⟨by omega, by omega, by omega, by omega, hb'.2.2.2.2, hO0.2.2.2⟩
  | succ n ih =>
    intro fuel hfu m i d P hc hP hO hd60 hW hie
    obtain ⟨fuel, rfl⟩ : ∃ f, fuel = f + 1 := ⟨fuel - 1, by omega⟩
    obtain ⟨hcd, hct⟩ := hc.2.2.2 i (by omega)
    have r8 := hc.2.1
    have push : ∀ y : FR, OKF y → d < 60 → WFC cd n (i + 1) (d + 1) → ∃ m1, n_X4_pile s m 16 (q64 y.1) (q64 y.2) = some ((), m1) ∧ ∃ m', nl_X4_lead_37 F s fuel m1 16 nw (q64 x.1) (q64 x.2) (q32 e) (q32 (i + 1)) = some (q32 (LDF al x n (i + 1) (d + 1) (up2 P d y)).1, m') ∧ K9 m m' ∧ ((LDF al x n (i + 1) (d + 1) (up2 P d y)).1 = 0 → m'.1 16 0 = q32 (LDF al x n (i + 1) (d + 1) (up2 P d y)).2.1 ∧ m'.1 16 1 = q32 (LDF al x n (i + 1) (d + 1) (up2 P d y)).2.2 ∧ FLR tp (LDF al x n (i + 1) (d + 1) (up2 P d y)).2.1 (LDF al x n (i + 1) (d + 1) (up2 P d y)).2.2) := fun y hy hd hw => by
      obtain ⟨m1, p1, p2, p3⟩ := pile9 hp hc.1 hd hP y
      obtain ⟨m', q1, q2, q3⟩ := ih fuel (by omega) m1 (i + 1) (d + 1) (up2 P d y) (hc.k p3 hn) p2 (fun k hk => by
        by_cases ek : k = d
        · subst ek; rw [up2_s]; exact hy
        · rw [up2_n ek]; exact hO k (by omega)) (by omega) hw (by omega)
      exact ⟨m1, p1, m', q1, p3.tr q2, q3⟩
    have ei : ((i : Int)).toNat = i := by omega
    rcases hct with ⟨v, hv, hc1, hc2⟩ | ⟨hc1, hc2⟩ | ⟨hc1, hc2⟩ | hcj
    · have hA : A al (99 + i) = v := A_q hc2 (by omega)
      have hW' : d < 60 ∧ WFC cd n (i + 1) (d + 1) := by
        unfold WFC at hW
        rwa [if_pos (by rw [hc1, q32_toInt (by omega)]; omega)] at hW
      obtain ⟨m1, p1, m', q1, q2, q3⟩ := push (v, 1) ⟨by simp only; omega, by simp only; omega, by simp only; omega, by simp⟩ hW'.1 hW'.2
      unfold LDF
      rw [hA, if_pos (by omega)]
      refine ⟨m', ?_, q2, q3⟩
      unfold nl_X4_lead_37 nb_X4_lead_37 nb_X4_lead_116
      simp (disch := omega) only [Option.bind_some, bindv, bindv0, bind2_s, bind3_s, ↓reduceIte, Bool.false_eq_true, rZM_0, rZM_1, rZP_0, rZP_1, ptZ_0, ptZ_1, c32i, c64i, ncI, Int.natCast_add, Int.natCast_mul, q32_neg, q64_neg, q32_add, q32_sub, q32_mul, q64_add, q64_sub, q64_mul, q32_64i, q64_32, q32_lt_t, q32_lt_f, q32_le_t, q32_le_f, q32_eq_t, q32_eq_f, q64_lt_t, q64_lt_f, q64_le_t, q64_le_f, q64_eq_t, q64_eq_f, rdI_i, rdL_i, rdR_i, rdN_i, stI_i, stL_i, stR_i, wI_s, wI_n, wL_s, wL_n, wI_2, wI_3, wL_1, wL_3, wR_1, wR_2, Int.toNat_natCast, r8, hcd, hc1, p1, q1]
    · have hA : A al (99 + i) = 1000 := A_q hc2 (by omega)
      have hW' : d < 60 ∧ WFC cd n (i + 1) (d + 1) := by
        unfold WFC at hW
        rwa [if_pos (by rw [hc1, q32_toInt (by omega)]; omega)] at hW
      obtain ⟨m1, p1, m', q1, q2, q3⟩ := push x hx hW'.1 hW'.2
      unfold LDF
      rw [hA, if_neg (by omega), if_pos rfl]
      refine ⟨m', ?_, q2, q3⟩
      unfold nl_X4_lead_37 nb_X4_lead_37 nb_X4_lead_116
      simp (disch := omega) only [Option.bind_some, bindv, bindv0, bind2_s, bind3_s, ↓reduceIte, Bool.false_eq_true, rZM_0, rZM_1, rZP_0, rZP_1, ptZ_0, ptZ_1, c32i, c64i, ncI, Int.natCast_add, Int.natCast_mul, q32_neg, q64_neg, q32_add, q32_sub, q32_mul, q64_add, q64_sub, q64_mul, q32_64i, q64_32, q32_lt_t, q32_lt_f, q32_le_t, q32_le_f, q32_eq_t, q32_eq_f, q64_lt_t, q64_lt_f, q64_le_t, q64_le_f, q64_eq_t, q64_eq_f, rdI_i, rdL_i, rdR_i, rdN_i, stI_i, stL_i, stR_i, wI_s, wI_n, wL_s, wL_n, wI_2, wI_3, wL_1, wL_3, wR_1, wR_2, Int.toNat_natCast, r8, hcd, hc1, p1, q1]
    · have hA : A al (99 + i) = 1001 := A_q hc2 (by omega)
      have hW' : d < 60 ∧ WFC cd n (i + 1) (d + 1) := by
        unfold WFC at hW
        rwa [if_pos (by rw [hc1, q32_toInt (by omega)]; omega)] at hW
      obtain ⟨m1, p1, m', q1, q2, q3⟩ := push (tp, 1) ⟨by simp only; omega, by simp only; omega, by simp only; omega, by simp⟩ hW'.1 hW'.2
      unfold LDF
      rw [hA, if_neg (by omega), if_neg (by omega), if_pos rfl, hA1]
      refine ⟨m', ?_, q2, q3⟩
      have h0 : m.1 nw 0 = q32 tp := by rw [hc.2.2.1]; exact ha1
      unfold nl_X4_lead_37 nb_X4_lead_37 nb_X4_lead_116
      simp (disch := omega) only [Option.bind_some, bindv, bindv0, bind2_s, bind3_s, ↓reduceIte, Bool.false_eq_true, rZM_0, rZM_1, rZP_0, rZP_1, ptZ_0, ptZ_1, c32i, c64i, ncI, Int.natCast_add, Int.natCast_mul, q32_neg, q64_neg, q32_add, q32_sub, q32_mul, q64_add, q64_sub, q64_mul, q32_64i, q64_32, q32_lt_t, q32_lt_f, q32_le_t, q32_le_f, q32_eq_t, q32_eq_f, q64_lt_t, q64_lt_f, q64_le_t, q64_le_f, q64_eq_t, q64_eq_f, rdI_i, rdL_i, rdR_i, rdN_i, stI_i, stL_i, stR_i, wI_s, wI_n, wL_s, wL_n, wI_2, wI_3, wL_1, wL_3, wR_1, wR_2, Int.toNat_natCast, r8, hcd, hc1, h0, p1, q1]
    · obtain ⟨c, e', hce, hc1, hc2⟩ : ∃ c e' : Int, ((c = -3 ∧ e' = 3000) ∨ (c = -4 ∧ e' = 3001) ∨ (c = -5 ∧ e' = 3002) ∨ (c = -6 ∧ e' = 3003)) ∧ cd i = q32 c ∧ al (99 + i) = q32 e' := by
        rcases hcj with h | h | h | h
        · exact ⟨-3, 3000, by omega, h.1, h.2⟩
        · exact ⟨-4, 3001, by omega, h.1, h.2⟩
        · exact ⟨-5, 3002, by omega, h.1, h.2⟩
        · exact ⟨-6, 3003, by omega, h.1, h.2⟩
      have hA : A al (99 + i) = e' := A_q hc2 (by omega)
      have hW' : 2 ≤ d ∧ WFC cd n (i + 1) (d - 1) := by
        unfold WFC at hW
        rwa [if_neg (by rw [hc1, q32_toInt (by omega)]; omega)] at hW
      obtain ⟨d, rfl⟩ : ∃ d', d = d' + 2 := ⟨d - 2, by omega⟩
      have hX := hO d (by omega)
      have hY := hO (d + 1) (by omega)
      obtain ⟨m1, k1, hm⟩ := join9 hF hp hc.1 (by omega) hP hX hY hce
      have h37 : nl_X4_lead_37 F s (fuel + 1) m 16 nw (q64 x.1) (q64 x.2) (q32 e) (q32 i) = bind2 (n_X4_join F s m 16 (q32 c)) fun x14 m15 => (nb_X4_lead_116 F s (nl_X4_lead_37 F s fuel) m15 16 nw (q64 x.1) (q64 x.2) (q32 e) (q32 i) x14) := by
        show nb_X4_lead_37 F s (nl_X4_lead_37 F s fuel) m 16 nw (q64 x.1) (q64 x.2) (q32 e) (q32 i) = _
        unfold nb_X4_lead_37
        simp (disch := omega) only [Option.bind_some, bindv, bindv0, bind2_s, bind3_s, ↓reduceIte, Bool.false_eq_true, rZM_0, rZM_1, rZP_0, rZP_1, ptZ_0, ptZ_1, c32i, c64i, ncI, Int.natCast_add, Int.natCast_mul, q32_neg, q64_neg, q32_add, q32_sub, q32_mul, q64_add, q64_sub, q64_mul, q32_64i, q64_32, q32_lt_t, q32_lt_f, q32_le_t, q32_le_f, q32_eq_t, q32_eq_f, q64_lt_t, q64_lt_f, q64_le_t, q64_le_f, q64_eq_t, q64_eq_f, rdI_i, rdL_i, rdR_i, rdN_i, stI_i, stL_i, stR_i, wI_s, wI_n, wL_s, wL_n, wI_2, wI_3, wL_1, wL_3, wR_1, wR_2, Int.toNat_natCast, r8, hcd, hc1]
      rw [h37]
      unfold LDF
      rw [hA, if_neg (by omega), if_neg (by omega), if_neg (by omega), show d + 2 - 2 = d from rfl, show d + 2 - 1 = d + 1 from rfl]
      cases hj : jn e' (P d) (P (d + 1)) with
      | none =>
        rw [hj] at hm
        dsimp only
        refine ⟨m1, ?_, k1, ?_⟩
        · unfold nb_X4_lead_116
          simp (disch := omega) only [Option.bind_some, bindv, bindv0, bind2_s, bind3_s, ↓reduceIte, Bool.false_eq_true, rZM_0, rZM_1, rZP_0, rZP_1, ptZ_0, ptZ_1, c32i, c64i, ncI, Int.natCast_add, Int.natCast_mul, q32_neg, q64_neg, q32_add, q32_sub, q32_mul, q64_add, q64_sub, q64_mul, q32_64i, q64_32, q32_lt_t, q32_lt_f, q32_le_t, q32_le_f, q32_eq_t, q32_eq_f, q64_lt_t, q64_lt_f, q64_le_t, q64_le_f, q64_eq_t, q64_eq_f, rdI_i, rdL_i, rdR_i, rdN_i, stI_i, stL_i, stR_i, wI_s, wI_n, wL_s, wL_n, wI_2, wI_3, wL_1, wL_3, wR_1, wR_2, Int.toNat_natCast, hm]
        · intro h; exact absurd h (show ¬ (2 : Int) = 0 by decide)
      | some f =>
        rw [hj] at hm
        dsimp only at hm ⊢
        obtain ⟨hm1, hm2⟩ := hm
        cases hbf : big f with
        | true =>
          rw [hbf] at hm1
          rw [if_pos rfl]
          refine ⟨m1, ?_, k1, ?_⟩
          · unfold nb_X4_lead_116
            simp (disch := omega) only [Option.bind_some, bindv, bindv0, bind2_s, bind3_s, ↓reduceIte, Bool.false_eq_true, rZM_0, rZM_1, rZP_0, rZP_1, ptZ_0, ptZ_1, c32i, c64i, ncI, Int.natCast_add, Int.natCast_mul, q32_neg, q64_neg, q32_add, q32_sub, q32_mul, q64_add, q64_sub, q64_mul, q32_64i, q64_32, q32_lt_t, q32_lt_f, q32_le_t, q32_le_f, q32_eq_t, q32_eq_f, q64_lt_t, q64_lt_f, q64_le_t, q64_le_f, q64_eq_t, q64_eq_f, rdI_i, rdL_i, rdR_i, rdN_i, stI_i, stL_i, stR_i, wI_s, wI_n, wL_s, wL_n, wI_2, wI_3, wL_1, wL_3, wR_1, wR_2, Int.toNat_natCast, hm1]
          · intro h; exact absurd h (show ¬ (3 : Int) = 0 by decide)
        | false =>
          rw [hbf] at hm1
          rw [if_neg (by decide)]
          have hf := jn_ok hX hY hj hbf
          obtain ⟨m', q1, q2, q3⟩ := ih fuel (by omega) m1 (i + 1) (d + 1) (up2 P d f) (hc.k k1 hn) hm2 (fun k hk => by
            by_cases ek : k = d
            · subst ek; rw [up2_s]; exact hf
            · rw [up2_n ek]; exact hO k (by omega)) (by omega) hW'.2 (by omega)
          refine ⟨m', ?_, k1.tr q2, q3⟩
          unfold nb_X4_lead_116
          rw [Int.natCast_add] at q1
          simp (disch := omega) only [Option.bind_some, bindv, bindv0, bind2_s, bind3_s, ↓reduceIte, Bool.false_eq_true, rZM_0, rZM_1, rZP_0, rZP_1, ptZ_0, ptZ_1, c32i, c64i, ncI, Int.natCast_add, Int.natCast_mul, q32_neg, q64_neg, q32_add, q32_sub, q32_mul, q64_add, q64_sub, q64_mul, q32_64i, q64_32, q32_lt_t, q32_lt_f, q32_le_t, q32_le_f, q32_eq_t, q32_eq_f, q64_lt_t, q64_lt_f, q64_le_t, q64_le_f, q64_eq_t, q64_eq_f, rdI_i, rdL_i, rdR_i, rdN_i, stI_i, stL_i, stR_i, wI_s, wI_n, wL_s, wL_n, wI_2, wI_3, wL_1, wL_3, wR_1, wR_2, Int.toNat_natCast, hm1, q1]
          exact q1
theorem okf_of {tp : Nat} {x : FR} (h : FLR tp x.1 x.2) : OKF x := ⟨by have := h.1; have := h.2.1; omega, h.2.2.1, by have := h.2.2.2.1; omega, h.2.2.2.2.2⟩
theorem S_mono {S : Nat → Nat} {bc : Nat} (h : ∀ b, b < bc → S b ≤ S (b + 1)) : ∀ k b, b + k ≤ bc → S b ≤ S (b + k) := by
  intro k
  induction k with
  | zero => intro b _; exact Nat.le_refl _
  | succ k ih => intro b hb; exact Nat.le_trans (ih b (by omega)) (h (b + k) (by omega))
theorem lead9 {F : Nat} (hF : 1000 ≤ F) {s : List Sh} {m : Mem} {ow : Nat → Nat} {nw : Nat} (hl : LAY s m ow nw) {al : Nat → Int32} (hrel : HREL m nw al) {x : FR} (hx : OKF x) {b : Int} (hb : B31 b) : ∃ m', n_X4_lead F s m 16 nw (q32 b) (q64 x.1) (q64 x.2) = some (q32 (LE al b x).1, m') ∧ K9 m m' ∧ ((LE al b x).1 = 0 → m'.1 16 0 = q32 (LE al b x).2.1 ∧ m'.1 16 1 = q32 (LE al b x).2.2 ∧ FLR (A al 1) (LE al b x).2.1 (LE al b x).2.2) := by
  have hp := hl.1
  have hr := hl.2.1
  obtain ⟨hn, -, ⟨r7, r8, -⟩, l1, l2, -⟩ := hl.2.2.2.1
  obtain ⟨tp, sk, nl, bc, fc, tc, au, aw, S, U, L, V, W, X, O, h1, h2, h3, h4, ⟨s1, s2, s3, s4, s5, s6, s7⟩, -⟩ := hrel
  have hA2 : A al 2 = bc := A_q h3.2.2.1 (by omega)
  have hA1 : A al 1 = tp := A_q h3.2.1 (by omega)
  have hbc := h2.2.2.2.2.2.1
  unfold LE
  rw [hA1, hA2]
  by_cases hbb : 0 ≤ b ∧ b < bc
  · rw [if_pos hbb]
    obtain ⟨k, rfl⟩ := Int.eq_ofNat_of_zero_le hbb.1
    have hk : k < bc := by omega
    have m1 := S_mono s2 (bc - (k + 1)) (k + 1) (by omega)
    rw [show k + 1 + (bc - (k + 1)) = bc by omega] at m1
    have m0 := s2 k hk
    rw [show (k : Int).toNat = k from rfl, A_q (s5 k hk).1 (by omega), A_q (s5 k hk).2 (by omega), show ((S k : Int)).toNat = S k from rfl, show (((S (k + 1) - S k : Nat) : Int)).toNat = S (k + 1) - S k from rfl]
    have t1 := s4 k (by omega) (by omega)
    have t2 := s4 (k + 1) (by omega) (by omega)
    have hC : C9 s (wI m 16 4 (q32 0)) nw al (m.1 (nw + 2)) (S (k + 1)) := ⟨hr.same rfl, r8, by rw [wI_n (by omega), h2.1, h3.2.1], fun i hi => ⟨by rw [wI_n (by omega)], s6 i (by omega)⟩⟩
    obtain ⟨m', q1, q2, q3⟩ := leadL9 (F := F) (by omega) hp hn l2 (by omega) h3.2.1 (by omega) hx (S (k + 1) - S k) F (by omega) (wI m 16 4 (q32 0)) (S k) 0 (fun _ => (0, 1)) hC ⟨by rw [wI_s]; rfl, fun k hk => absurd hk (by omega)⟩ (fun k hk => absurd hk (by omega)) (by omega) (s7 k hk) (by omega)
    refine ⟨m', ?_, (K9.rf m).I.tr q2, q3⟩
    have e1 : ((k : Int) + 1).toNat = k + 1 := by omega
    have e2 : ((k : Int)).toNat = k := by omega
    unfold n_X4_lead nb_X4_lead_0
    simp (disch := omega) only [Option.bind_some, bindv, bindv0, bind2_s, bind3_s, ↓reduceIte, Bool.false_eq_true, rZM_0, rZM_1, rZP_0, rZP_1, ptZ_0, ptZ_1, c32i, c64i, ncI, Int.natCast_add, Int.natCast_mul, q32_neg, q64_neg, q32_add, q32_sub, q32_mul, q64_add, q64_sub, q64_mul, q32_64i, q64_32, q32_lt_t, q32_lt_f, q32_le_t, q32_le_f, q32_eq_t, q32_eq_f, q64_lt_t, q64_lt_f, q64_le_t, q64_le_f, q64_eq_t, q64_eq_f, rdI_i, rdL_i, rdR_i, rdN_i, stI_i, stL_i, stR_i, wI_s, wI_n, wL_s, wL_n, wI_2, wI_3, wL_1, wL_3, wR_1, wR_2, Int.toNat_natCast, hbc, r7, l1, e1, e2, t1, t2, q1]
  · rw [if_neg hbb]
    refine ⟨m, ?_, K9.rf m, fun h => absurd h (by decide)⟩
    unfold n_X4_lead nb_X4_lead_0
    by_cases c : b < 0
    · simp (disch := omega) only [Option.bind_some, bindv, bindv0, bind2_s, bind3_s, ↓reduceIte, Bool.false_eq_true, rZM_0, rZM_1, rZP_0, rZP_1, ptZ_0, ptZ_1, c32i, c64i, ncI, Int.natCast_add, Int.natCast_mul, q32_neg, q64_neg, q32_add, q32_sub, q32_mul, q64_add, q64_sub, q64_mul, q32_64i, q64_32, q32_lt_t, q32_lt_f, q32_le_t, q32_le_f, q32_eq_t, q32_eq_f, q64_lt_t, q64_lt_f, q64_le_t, q64_le_f, q64_eq_t, q64_eq_f, rdI_i, rdL_i, rdR_i, rdN_i, stI_i, stL_i, stR_i, wI_s, wI_n, wL_s, wL_n, wI_2, wI_3, wL_1, wL_3, wR_1, wR_2, Int.toNat_natCast]
    · simp (disch := omega) only [Option.bind_some, bindv, bindv0, bind2_s, bind3_s, ↓reduceIte, Bool.false_eq_true, rZM_0, rZM_1, rZP_0, rZP_1, ptZ_0, ptZ_1, c32i, c64i, ncI, Int.natCast_add, Int.natCast_mul, q32_neg, q64_neg, q32_add, q32_sub, q32_mul, q64_add, q64_sub, q64_mul, q32_64i, q64_32, q32_lt_t, q32_lt_f, q32_le_t, q32_le_f, q32_eq_t, q32_eq_f, q64_lt_t, q64_lt_f, q64_le_t, q64_le_f, q64_eq_t, q64_eq_f, rdI_i, rdL_i, rdR_i, rdN_i, stI_i, stL_i, stR_i, wI_s, wI_n, wL_s, wL_n, wI_2, wI_3, wL_1, wL_3, wR_1, wR_2, Int.toNat_natCast, hbc]
/-! the reference -/
def K10 (m m' : Mem) : Prop := (∀ a k, a ≠ 23 ∨ k ≠ 21 → m'.1 a k = m.1 a k) ∧ (∀ a k, (a ≠ 23 ∨ (k ≠ 15 ∧ k ≠ 16)) ∧ a ≠ 28 ∧ a ≠ 29 → m'.2.1 a k = m.2.1 a k) ∧ m'.2.2 = m.2.2
theorem K10.rf (m : Mem) : K10 m m := ⟨fun _ _ _ => rfl, fun _ _ _ => rfl, rfl⟩
theorem K10.tr {m m1 m2 : Mem} (h : K10 m m1) (h2 : K10 m1 m2) : K10 m m2 := ⟨fun a k p => (h2.1 a k p).trans (h.1 a k p), fun a k p => (h2.2.1 a k p).trans (h.2.1 a k p), h2.2.2.trans h.2.2⟩
theorem K10.I {m m1 : Mem} {x : Int32} (h : K10 m m1) : K10 m (wI m1 23 21 x) := ⟨fun a j p => by rw [wI_n p]; exact h.1 a j p, h.2.1, h.2.2⟩
theorem K10.L {m m1 : Mem} {a k : Nat} {x : Int64} (h : K10 m m1) (ha : (a = 23 ∧ (k = 15 ∨ k = 16)) ∨ a = 28 ∨ a = 29) : K10 m (wL m1 a k x) := ⟨h.1, fun b j p => by rw [wL_n (by omega)]; exact h.2.1 b j p, h.2.2⟩
theorem K10.sc {m m' : Mem} (h : K10 m m') : SC m m' := ⟨fun a p q => funext fun k => h.1 a k (Or.inl q), ⟨h.1 _ _ (by omega), h.1 _ _ (by omega), h.1 _ _ (by omega)⟩, fun a p q => funext fun k => h.2.1 a k ⟨Or.inl q, fun e => p (by unfold Fx; omega), fun e => p (by unfold Fx; omega)⟩, h.2.2⟩
/-- the reference lays p by q in lowest terms -/
theorem lays10 {s : List Sh} {m : Mem} {p q : Int} (hq : q ≠ 0) (bp : p.natAbs < 9223372036854775808) (bq : q.natAbs < 9223372036854775808) : ∃ m', n_X10_lays s m 23 (q64 p) (q64 q) = some ((), m') ∧ m'.2.1 23 15 = q64 (nrm p q).1 ∧ m'.2.1 23 16 = q64 (nrm p q).2 ∧ m'.1 = m.1 ∧ m'.2.2 = m.2.2 ∧ (∀ a k, a ≠ 23 ∨ (k ≠ 15 ∧ k ≠ 16) → m'.2.1 a k = m.2.1 a k) := by
  have hg := gcd_b (p := p) (q := q) hq bq
  have bu : (p.tdiv (Int.gcd p q : Int)).natAbs < 9223372036854775808 := Nat.lt_of_le_of_lt tdiv_le bp
  have bv : (q.tdiv (Int.gcd p q : Int)).natAbs < 9223372036854775808 := Nat.lt_of_le_of_lt tdiv_le bq
  have hok := nrm_ok (p := p) hq
  unfold n_X10_lays nb_X10_lays_0
  rw [m_cm bp bq]
  by_cases hneg : q < 0
  · have hn : nrm p q = (-(p.tdiv (Int.gcd p q)), -(q.tdiv (Int.gcd p q))) := if_pos hneg
    rw [hn] at hok ⊢
    simp only [] at hok ⊢
    generalize Int.gcd p q = g at *
    simp (disch := omega) only [Option.bind_some, bindv, bindv0, bind2_s, bind3_s, ↓reduceIte, Bool.false_eq_true, rZM_0, rZM_1, rZP_0, rZP_1, ptZ_0, ptZ_1, c32i, c64i, ncI, Int.natCast_add, Int.natCast_mul, q32_neg, q64_neg, q32_add, q32_sub, q32_mul, q64_add, q64_sub, q64_mul, q32_64i, q64_32, q32_lt_t, q32_lt_f, q32_le_t, q32_le_f, q32_eq_t, q32_eq_f, q64_lt_t, q64_lt_f, q64_le_t, q64_le_f, q64_eq_t, q64_eq_f, rdI_i, rdL_i, rdR_i, rdN_i, stI_i, stL_i, stR_i, wI_s, wI_n, wL_s, wL_n, wI_2, wI_3, wL_1, wL_3, wR_1, wR_2, Int.toNat_natCast, q64_div_n]
    exact ⟨_, rfl, by simp (disch := omega) only [Option.bind_some, bindv, bindv0, bind2_s, bind3_s, ↓reduceIte, Bool.false_eq_true, rZM_0, rZM_1, rZP_0, rZP_1, ptZ_0, ptZ_1, c32i, c64i, ncI, Int.natCast_add, Int.natCast_mul, q32_neg, q64_neg, q32_add, q32_sub, q32_mul, q64_add, q64_sub, q64_mul, q32_64i, q64_32, q32_lt_t, q32_lt_f, q32_le_t, q32_le_f, q32_eq_t, q32_eq_f, q64_lt_t, q64_lt_f, q64_le_t, q64_le_f, q64_eq_t, q64_eq_f, rdI_i, rdL_i, rdR_i, rdN_i, stI_i, stL_i, stR_i, wI_s, wI_n, wL_s, wL_n, wI_2, wI_3, wL_1, wL_3, wR_1, wR_2, Int.toNat_natCast], by simp (disch := omega) only [Option.bind_some, bindv, bindv0, bind2_s, bind3_s, ↓reduceIte, Bool.false_eq_true, rZM_0, rZM_1, rZP_0, rZP_1, ptZ_0, ptZ_1, c32i, c64i, ncI, Int.natCast_add, Int.natCast_mul, q32_neg, q64_neg, q32_add, q32_sub, q32_mul, q64_add, q64_sub, q64_mul, q32_64i, q64_32, q32_lt_t, q32_lt_f, q32_le_t, q32_le_f, q32_eq_t, q32_eq_f, q64_lt_t, q64_lt_f, q64_le_t, q64_le_f, q64_eq_t, q64_eq_f, rdI_i, rdL_i, rdR_i, rdN_i, stI_i, stL_i, stR_i, wI_s, wI_n, wL_s, wL_n, wI_2, wI_3, wL_1, wL_3, wR_1, wR_2, Int.toNat_natCast], rfl, rfl, fun a k h => by simp (disch := omega) only [Option.bind_some, bindv, bindv0, bind2_s, bind3_s, ↓reduceIte, Bool.false_eq_true, rZM_0, rZM_1, rZP_0, rZP_1, ptZ_0, ptZ_1, c32i, c64i, ncI, Int.natCast_add, Int.natCast_mul, q32_neg, q64_neg, q32_add, q32_sub, q32_mul, q64_add, q64_sub, q64_mul, q32_64i, q64_32, q32_lt_t, q32_lt_f, q32_le_t, q32_le_f, q32_eq_t, q32_eq_f, q64_lt_t, q64_lt_f, q64_le_t, q64_le_f, q64_eq_t, q64_eq_f, rdI_i, rdL_i, rdR_i, rdN_i, stI_i, stL_i, stR_i, wI_s, wI_n, wL_s, wL_n, wI_2, wI_3, wL_1, wL_3, wR_1, wR_2, Int.toNat_natCast]⟩
  · have hn : nrm p q = (p.tdiv (Int.gcd p q), q.tdiv (Int.gcd p q)) := if_neg hneg
    rw [hn] at hok ⊢
    simp only [] at hok ⊢
    generalize Int.gcd p q = g at *
    simp (disch := omega) only [Option.bind_some, bindv, bindv0, bind2_s, bind3_s, ↓reduceIte, Bool.false_eq_true, rZM_0, rZM_1, rZP_0, rZP_1, ptZ_0, ptZ_1, c32i, c64i, ncI, Int.natCast_add, Int.natCast_mul, q32_neg, q64_neg, q32_add, q32_sub, q32_mul, q64_add, q64_sub, q64_mul, q32_64i, q64_32, q32_lt_t, q32_lt_f, q32_le_t, q32_le_f, q32_eq_t, q32_eq_f, q64_lt_t, q64_lt_f, q64_le_t, q64_le_f, q64_eq_t, q64_eq_f, rdI_i, rdL_i, rdR_i, rdN_i, stI_i, stL_i, stR_i, wI_s, wI_n, wL_s, wL_n, wI_2, wI_3, wL_1, wL_3, wR_1, wR_2, Int.toNat_natCast, q64_div_n]
    exact ⟨_, rfl, by simp (disch := omega) only [Option.bind_some, bindv, bindv0, bind2_s, bind3_s, ↓reduceIte, Bool.false_eq_true, rZM_0, rZM_1, rZP_0, rZP_1, ptZ_0, ptZ_1, c32i, c64i, ncI, Int.natCast_add, Int.natCast_mul, q32_neg, q64_neg, q32_add, q32_sub, q32_mul, q64_add, q64_sub, q64_mul, q32_64i, q64_32, q32_lt_t, q32_lt_f, q32_le_t, q32_le_f, q32_eq_t, q32_eq_f, q64_lt_t, q64_lt_f, q64_le_t, q64_le_f, q64_eq_t, q64_eq_f, rdI_i, rdL_i, rdR_i, rdN_i, stI_i, stL_i, stR_i, wI_s, wI_n, wL_s, wL_n, wI_2, wI_3, wL_1, wL_3, wR_1, wR_2, Int.toNat_natCast], by simp (disch := omega) only [Option.bind_some, bindv, bindv0, bind2_s, bind3_s, ↓reduceIte, Bool.false_eq_true, rZM_0, rZM_1, rZP_0, rZP_1, ptZ_0, ptZ_1, c32i, c64i, ncI, Int.natCast_add, Int.natCast_mul, q32_neg, q64_neg, q32_add, q32_sub, q32_mul, q64_add, q64_sub, q64_mul, q32_64i, q64_32, q32_lt_t, q32_lt_f, q32_le_t, q32_le_f, q32_eq_t, q32_eq_f, q64_lt_t, q64_lt_f, q64_le_t, q64_le_f, q64_eq_t, q64_eq_f, rdI_i, rdL_i, rdR_i, rdN_i, stI_i, stL_i, stR_i, wI_s, wI_n, wL_s, wL_n, wI_2, wI_3, wL_1, wL_3, wR_1, wR_2, Int.toNat_natCast], rfl, rfl, fun a k h => by simp (disch := omega) only [Option.bind_some, bindv, bindv0, bind2_s, bind3_s, ↓reduceIte, Bool.false_eq_true, rZM_0, rZM_1, rZP_0, rZP_1, ptZ_0, ptZ_1, c32i, c64i, ncI, Int.natCast_add, Int.natCast_mul, q32_neg, q64_neg, q32_add, q32_sub, q32_mul, q64_add, q64_sub, q64_mul, q32_64i, q64_32, q32_lt_t, q32_lt_f, q32_le_t, q32_le_f, q32_eq_t, q32_eq_f, q64_lt_t, q64_lt_f, q64_le_t, q64_le_f, q64_eq_t, q64_eq_f, rdI_i, rdL_i, rdR_i, rdN_i, stI_i, stL_i, stR_i, wI_s, wI_n, wL_s, wL_n, wI_2, wI_3, wL_1, wL_3, wR_1, wR_2, Int.toNat_natCast]⟩
def PL10 (m : Mem) (d : Nat) (P : Nat → FR) : Prop := m.1 23 21 = q32 d ∧ ∀ k, k < d → m.2.1 28 k = q64 (P k).1 ∧ m.2.1 29 k = q64 (P k).2
theorem pushes10 {s : List Sh} {m : Mem} (hp : ∃ t, s = sB ++ t) (hr : RF m) {d : Nat} (hd : d < 800) {P : Nat → FR} (h : PL10 m d P) {p q : Int} (hq : q ≠ 0) (bp : p.natAbs < 9223372036854775808) (bq : q.natAbs < 9223372036854775808) : ∃ m', n_X10_pushes s m 23 (q64 p) (q64 q) = some (if big (nrm p q) then 3 else 0, m') ∧ PL10 m' (d + 1) (up2 P d (nrm p q)) ∧ K10 m m' := by
  obtain ⟨h1, h2⟩ := h
  have r19 := rf23_19 hr
  have r20 := rf23_20 hr
  have l28 := ln28 hp
  have l29 := ln29 hp
  obtain ⟨m1, a1, a2, a3, a4, a5, a6⟩ := lays10 (s := s) (m := m) hq bp bq
  have hok := nrm_ok (p := p) hq
  have k1 : K10 m m1 := ⟨fun a k _ => by rw [a4], fun a k h => a6 a k h.1, a5⟩
  have c21 : m1.1 23 21 = q32 d := by rw [a4]; exact h1
  refine ⟨wI (wL (wL m1 28 d (q64 (nrm p q).1)) 29 d (q64 (nrm p q).2)) 23 21 (q32 (d + 1)), ?_, ⟨by rw [wI_s]; rfl, fun k hk => ?_⟩, ((k1.L (by omega)).L (by omega)).I⟩
  · unfold n_X10_pushes nb_X10_pushes_0 big
    generalize hf : nrm p q = f at *
    by_cases b1 : 1000000000 < f.1
    · rw [decide_eq_true (by omega)]
      simp (disch := omega) only [Option.bind_some, bindv, bindv0, bind2_s, bind3_s, ↓reduceIte, Bool.false_eq_true, rZM_0, rZM_1, rZP_0, rZP_1, ptZ_0, ptZ_1, c32i, c64i, ncI, Int.natCast_add, Int.natCast_mul, q32_neg, q64_neg, q32_add, q32_sub, q32_mul, q64_add, q64_sub, q64_mul, q32_64i, q64_32, q32_lt_t, q32_lt_f, q32_le_t, q32_le_f, q32_eq_t, q32_eq_f, q64_lt_t, q64_lt_f, q64_le_t, q64_le_f, q64_eq_t, q64_eq_f, rdI_i, rdL_i, rdR_i, rdN_i, stI_i, stL_i, stR_i, wI_s, wI_n, wL_s, wL_n, wI_2, wI_3, wL_1, wL_3, wR_1, wR_2, Int.toNat_natCast, a1, a5, r19, r20, c21, a2, a3]
    · by_cases b2 : 1000000000 < -f.1
      · rw [decide_eq_true (by omega)]
        simp (disch := omega) only [Option.bind_some, bindv, bindv0, bind2_s, bind3_s, ↓reduceIte, Bool.false_eq_true, rZM_0, rZM_1, rZP_0, rZP_1, ptZ_0, ptZ_1, c32i, c64i, ncI, Int.natCast_add, Int.natCast_mul, q32_neg, q64_neg, q32_add, q32_sub, q32_mul, q64_add, q64_sub, q64_mul, q32_64i, q64_32, q32_lt_t, q32_lt_f, q32_le_t, q32_le_f, q32_eq_t, q32_eq_f, q64_lt_t, q64_lt_f, q64_le_t, q64_le_f, q64_eq_t, q64_eq_f, rdI_i, rdL_i, rdR_i, rdN_i, stI_i, stL_i, stR_i, wI_s, wI_n, wL_s, wL_n, wI_2, wI_3, wL_1, wL_3, wR_1, wR_2, Int.toNat_natCast, a1, a5, r19, r20, c21, a2, a3]
      · by_cases b3 : 1000000000 < f.2
        · rw [decide_eq_true (by omega)]
          simp (disch := omega) only [Option.bind_some, bindv, bindv0, bind2_s, bind3_s, ↓reduceIte, Bool.false_eq_true, rZM_0, rZM_1, rZP_0, rZP_1, ptZ_0, ptZ_1, c32i, c64i, ncI, Int.natCast_add, Int.natCast_mul, q32_neg, q64_neg, q32_add, q32_sub, q32_mul, q64_add, q64_sub, q64_mul, q32_64i, q64_32, q32_lt_t, q32_lt_f, q32_le_t, q32_le_f, q32_eq_t, q32_eq_f, q64_lt_t, q64_lt_f, q64_le_t, q64_le_f, q64_eq_t, q64_eq_f, rdI_i, rdL_i, rdR_i, rdN_i, stI_i, stL_i, stR_i, wI_s, wI_n, wL_s, wL_n, wI_2, wI_3, wL_1, wL_3, wR_1, wR_2, Int.toNat_natCast, a1, a5, r19, r20, c21, a2, a3]
        · rw [decide_eq_false (by omega)]
          simp (disch := omega) only [Option.bind_some, bindv, bindv0, bind2_s, bind3_s, ↓reduceIte, Bool.false_eq_true, rZM_0, rZM_1, rZP_0, rZP_1, ptZ_0, ptZ_1, c32i, c64i, ncI, Int.natCast_add, Int.natCast_mul, q32_neg, q64_neg, q32_add, q32_sub, q32_mul, q64_add, q64_sub, q64_mul, q32_64i, q64_32, q32_lt_t, q32_lt_f, q32_le_t, q32_le_f, q32_eq_t, q32_eq_f, q64_lt_t, q64_lt_f, q64_le_t, q64_le_f, q64_eq_t, q64_eq_f, rdI_i, rdL_i, rdR_i, rdN_i, stI_i, stL_i, stR_i, wI_s, wI_n, wL_s, wL_n, wI_2, wI_3, wL_1, wL_3, wR_1, wR_2, Int.toNat_natCast, a1, a5, r19, r20, c21, a2, a3]
  · by_cases e : k = d
    · subst e
      rw [up2_s]
      simp (disch := omega) only [Option.bind_some, bindv, bindv0, bind2_s, bind3_s, ↓reduceIte, Bool.false_eq_true, rZM_0, rZM_1, rZP_0, rZP_1, ptZ_0, ptZ_1, c32i, c64i, ncI, Int.natCast_add, Int.natCast_mul, q32_neg, q64_neg, q32_add, q32_sub, q32_mul, q64_add, q64_sub, q64_mul, q32_64i, q64_32, q32_lt_t, q32_lt_f, q32_le_t, q32_le_f, q32_eq_t, q32_eq_f, q64_lt_t, q64_lt_f, q64_le_t, q64_le_f, q64_eq_t, q64_eq_f, rdI_i, rdL_i, rdR_i, rdN_i, stI_i, stL_i, stR_i, wI_s, wI_n, wL_s, wL_n, wI_2, wI_3, wL_1, wL_3, wR_1, wR_2, Int.toNat_natCast]
      simp
    · rw [up2_n e]
      simp (disch := omega) only [Option.bind_some, bindv, bindv0, bind2_s, bind3_s, ↓reduceIte, Bool.false_eq_true, rZM_0, rZM_1, rZP_0, rZP_1, ptZ_0, ptZ_1, c32i, c64i, ncI, Int.natCast_add, Int.natCast_mul, q32_neg, q64_neg, q32_add, q32_sub, q32_mul, q64_add, q64_sub, q64_mul, q32_64i, q64_32, q32_lt_t, q32_lt_f, q32_le_t, q32_le_f, q32_eq_t, q32_eq_f, q64_lt_t, q64_lt_f, q64_le_t, q64_le_f, q64_eq_t, q64_eq_f, rdI_i, rdL_i, rdR_i, rdN_i, stI_i, stL_i, stR_i, wI_s, wI_n, wL_s, wL_n, wI_2, wI_3, wL_1, wL_3, wR_1, wR_2, Int.toNat_natCast, a6 28 k (by omega), a6 29 k (by omega), h2 k (by omega)]
      simp
theorem steps10 {s : List Sh} {m : Mem} (hp : ∃ t, s = sB ++ t) (hr : RF m) {d : Nat} (hd : d < 800) {P : Nat → FR} (h : PL10 m (d + 2) P) (hx : OKF (P d)) (hy : OKF (P (d + 1))) {e : Int} (hc : e = 3000 ∨ e = 3001 ∨ e = 3002 ∨ e = 3003) : ∃ m', K10 m m' ∧ match jn e (P d) (P (d + 1)) with
    | none => n_X10_steps s m 23 (q32 e) = some (2, m')
    | some f => n_X10_steps s m 23 (q32 e) = some (if big f then 3 else 0, m') ∧ PL10 m' (d + 1) (up2 P d f) := by
  obtain ⟨h1, h2⟩ := h
  have r19 := rf23_19 hr
  have r20 := rf23_20 hr
  have l28 := ln28 hp
  have l29 := ln29 hp
  obtain ⟨x1, x2⟩ := h2 d (by omega)
  obtain ⟨y1, y2⟩ := h2 (d + 1) (by omega)
  generalize hX : P d = X at *
  generalize hY : P (d + 1) = Y at *
  obtain ⟨a, b⟩ := X
  obtain ⟨p, q⟩ := Y
  obtain ⟨ha, hb, hb2, -⟩ := hx
  obtain ⟨hp2, hq, hq2, -⟩ := hy
  simp only at ha hb hb2 hp2 hq hq2 x1 x2 y1 y2
  have m1 := mulb ha (show q.natAbs ≤ 1000000000 by omega)
  have m2 := mulb hp2 (show b.natAbs ≤ 1000000000 by omega)
  have m2' := mulb (show b.natAbs ≤ 1000000000 by omega) hp2
  have m3 := mulb (show b.natAbs ≤ 1000000000 by omega) (show q.natAbs ≤ 1000000000 by omega)
  have m4 := mulb ha hp2
  have hbq : b * q ≠ 0 := Int.mul_ne_zero (by omega) (by omega)
  have e0 : q32 ((d : Int) + 2 - 2) = q32 d := by congr 1; omega
  have e2 : ((d : Int) + 1).toNat = d + 1 := by omega
  have hM : PL10 (wI m 23 21 (q32 d)) d P := ⟨by rw [wI_s], fun k hk => h2 k (by omega)⟩
  have kM : K10 m (wI m 23 21 (q32 d)) := (K10.rf m).I
  have hrM : RF (wI m 23 21 (q32 d)) := hr.same rfl
  unfold n_X10_steps nb_X10_steps_0
  rcases hc with rfl | rfl | rfl | rfl
  · obtain ⟨m', k1, k2, k3⟩ := pushes10 hp hrM (by omega) hM (p := a * q + p * b) (q := b * q) hbq (by omega) (by omega)
    refine ⟨m', kM.tr k3, ?_⟩
    rw [show jn 3000 (a, b) (p, q) = some (nrm (a * q + p * b) (b * q)) from rfl]
    refine ⟨?_, k2⟩
    simp (disch := omega) only [Option.bind_some, bindv, bindv0, bind2_s, bind3_s, ↓reduceIte, Bool.false_eq_true, rZM_0, rZM_1, rZP_0, rZP_1, ptZ_0, ptZ_1, c32i, c64i, ncI, Int.natCast_add, Int.natCast_mul, q32_neg, q64_neg, q32_add, q32_sub, q32_mul, q64_add, q64_sub, q64_mul, q32_64i, q64_32, q32_lt_t, q32_lt_f, q32_le_t, q32_le_f, q32_eq_t, q32_eq_f, q64_lt_t, q64_lt_f, q64_le_t, q64_le_f, q64_eq_t, q64_eq_f, rdI_i, rdL_i, rdR_i, rdN_i, stI_i, stL_i, stR_i, wI_s, wI_n, wL_s, wL_n, wI_2, wI_3, wL_1, wL_3, wR_1, wR_2, Int.toNat_natCast, h1, r19, r20, e0, e2, x1, x2, y1, y2, k1]
  · obtain ⟨m', k1, k2, k3⟩ := pushes10 hp hrM (by omega) hM (p := a * q - p * b) (q := b * q) hbq (by omega) (by omega)
    refine ⟨m', kM.tr k3, ?_⟩
    rw [show jn 3001 (a, b) (p, q) = some (nrm (a * q - p * b) (b * q)) from rfl]
    refine ⟨?_, k2⟩
    simp (disch := omega) only [Option.bind_some, bindv, bindv0, bind2_s, bind3_s, ↓reduceIte, Bool.false_eq_true, rZM_0, rZM_1, rZP_0, rZP_1, ptZ_0, ptZ_1, c32i, c64i, ncI, Int.natCast_add, Int.natCast_mul, q32_neg, q64_neg, q32_add, q32_sub, q32_mul, q64_add, q64_sub, q64_mul, q32_64i, q64_32, q32_lt_t, q32_lt_f, q32_le_t, q32_le_f, q32_eq_t, q32_eq_f, q64_lt_t, q64_lt_f, q64_le_t, q64_le_f, q64_eq_t, q64_eq_f, rdI_i, rdL_i, rdR_i, rdN_i, stI_i, stL_i, stR_i, wI_s, wI_n, wL_s, wL_n, wI_2, wI_3, wL_1, wL_3, wR_1, wR_2, Int.toNat_natCast, h1, r19, r20, e0, e2, x1, x2, y1, y2, k1]
  · obtain ⟨m', k1, k2, k3⟩ := pushes10 hp hrM (by omega) hM (p := a * p) (q := b * q) hbq (by omega) (by omega)
    refine ⟨m', kM.tr k3, ?_⟩
    rw [show jn 3002 (a, b) (p, q) = some (nrm (a * p) (b * q)) from rfl]
    refine ⟨?_, k2⟩
    simp (disch := omega) only [Option.bind_some, bindv, bindv0, bind2_s, bind3_s, ↓reduceIte, Bool.false_eq_true, rZM_0, rZM_1, rZP_0, rZP_1, ptZ_0, ptZ_1, c32i, c64i, ncI, Int.natCast_add, Int.natCast_mul, q32_neg, q64_neg, q32_add, q32_sub, q32_mul, q64_add, q64_sub, q64_mul, q32_64i, q64_32, q32_lt_t, q32_lt_f, q32_le_t, q32_le_f, q32_eq_t, q32_eq_f, q64_lt_t, q64_lt_f, q64_le_t, q64_le_f, q64_eq_t, q64_eq_f, rdI_i, rdL_i, rdR_i, rdN_i, stI_i, stL_i, stR_i, wI_s, wI_n, wL_s, wL_n, wI_2, wI_3, wL_1, wL_3, wR_1, wR_2, Int.toNat_natCast, h1, r19, r20, e0, e2, x1, x2, y1, y2, k1]
  · rw [show jn 3003 (a, b) (p, q) = if p = 0 then none else some (nrm (a * q) (b * p)) from rfl]
    by_cases h0 : p = 0
    · rw [if_pos h0]
      refine ⟨_, kM, ?_⟩
      subst h0
      simp (disch := omega) only [Option.bind_some, bindv, bindv0, bind2_s, bind3_s, ↓reduceIte, Bool.false_eq_true, rZM_0, rZM_1, rZP_0, rZP_1, ptZ_0, ptZ_1, c32i, c64i, ncI, Int.natCast_add, Int.natCast_mul, q32_neg, q64_neg, q32_add, q32_sub, q32_mul, q64_add, q64_sub, q64_mul, q32_64i, q64_32, q32_lt_t, q32_lt_f, q32_le_t, q32_le_f, q32_eq_t, q32_eq_f, q64_lt_t, q64_lt_f, q64_le_t, q64_le_f, q64_eq_t, q64_eq_f, rdI_i, rdL_i, rdR_i, rdN_i, stI_i, stL_i, stR_i, wI_s, wI_n, wL_s, wL_n, wI_2, wI_3, wL_1, wL_3, wR_1, wR_2, Int.toNat_natCast, h1, r19, r20, e0, e2, x1, x2, y1, y2]
    · rw [if_neg h0]
      obtain ⟨m', k1, k2, k3⟩ := pushes10 hp hrM (by omega) hM (p := a * q) (q := b * p) (Int.mul_ne_zero (by omega) h0) (by omega) (by omega)
      refine ⟨m', kM.tr k3, ?_, k2⟩
      simp (disch := omega) only [Option.bind_some, bindv, bindv0, bind2_s, bind3_s, ↓reduceIte, Bool.false_eq_true, rZM_0, rZM_1, rZP_0, rZP_1, ptZ_0, ptZ_1, c32i, c64i, ncI, Int.natCast_add, Int.natCast_mul, q32_neg, q64_neg, q32_add, q32_sub, q32_mul, q64_add, q64_sub, q64_mul, q32_64i, q64_32, q32_lt_t, q32_lt_f, q32_le_t, q32_le_f, q32_eq_t, q32_eq_f, q64_lt_t, q64_lt_f, q64_le_t, q64_le_f, q64_eq_t, q64_eq_f, rdI_i, rdL_i, rdR_i, rdN_i, stI_i, stL_i, stR_i, wI_s, wI_n, wL_s, wL_n, wI_2, wI_3, wL_1, wL_3, wR_1, wR_2, Int.toNat_natCast, h1, r19, r20, e0, e2, x1, x2, y1, y2, k1]
theorem isF10 {s : List Sh} {m : Mem} (hp : ∃ t, s = sB ++ t) (hr : RF m) {tp : Nat} (h : m.1 24 1 = q32 tp) (ht : tp ≤ 9) {u l : Int} (hu : u.natAbs < 4000000000000000000) (hl : l.natAbs ≤ 1000000000000000000) : n_X10_isFloor s m 23 (q64 u) (q64 l) = some (if isF tp (u, l) then 1 else 0) := by
  have r1 := rf23_1 hr
  have l24 := ln24 hp
  have e1 : (1 : Int).toNat = 1 := rfl
  unfold n_X10_isFloor nb_X10_isFloor_0 isF
  rw [c64i, c64i, c64i, win (by omega) (by omega) (by omega), win (by omega) (by omega) (by omega)]
  simp only []
  by_cases c1 : 0 ≤ u ∧ u ≤ 1000000
  · rw [if_pos c1]
    by_cases c2 : 1 ≤ l ∧ l ≤ 1000000
    · rw [if_pos c2]
      have hm : (tp : Int) * l ≤ 9 * 1000000 := Int.mul_le_mul (by omega) (by omega) (by omega) (by omega)
      have hm0 : 0 ≤ (tp : Int) * l := Int.mul_nonneg (by omega) (by omega)
      by_cases c5 : u ≤ tp * l
      · rw [decide_eq_true (by omega)]; simp (disch := omega) only [Option.bind_some, bindv, bindv0, bind2_s, bind3_s, ↓reduceIte, Bool.false_eq_true, rZM_0, rZM_1, rZP_0, rZP_1, ptZ_0, ptZ_1, c32i, c64i, ncI, Int.natCast_add, Int.natCast_mul, q32_neg, q64_neg, q32_add, q32_sub, q32_mul, q64_add, q64_sub, q64_mul, q32_64i, q64_32, q32_lt_t, q32_lt_f, q32_le_t, q32_le_f, q32_eq_t, q32_eq_f, q64_lt_t, q64_lt_f, q64_le_t, q64_le_f, q64_eq_t, q64_eq_f, rdI_i, rdL_i, rdR_i, rdN_i, stI_i, stL_i, stR_i, wI_s, wI_n, wL_s, wL_n, wI_2, wI_3, wL_1, wL_3, wR_1, wR_2, Int.toNat_natCast, r1, e1, h]
      · rw [decide_eq_false (by omega)]; simp (disch := omega) only [Option.bind_some, bindv, bindv0, bind2_s, bind3_s, ↓reduceIte, Bool.false_eq_true, rZM_0, rZM_1, rZP_0, rZP_1, ptZ_0, ptZ_1, c32i, c64i, ncI, Int.natCast_add, Int.natCast_mul, q32_neg, q64_neg, q32_add, q32_sub, q32_mul, q64_add, q64_sub, q64_mul, q32_64i, q64_32, q32_lt_t, q32_lt_f, q32_le_t, q32_le_f, q32_eq_t, q32_eq_f, q64_lt_t, q64_lt_f, q64_le_t, q64_le_f, q64_eq_t, q64_eq_f, rdI_i, rdL_i, rdR_i, rdN_i, stI_i, stL_i, stR_i, wI_s, wI_n, wL_s, wL_n, wI_2, wI_3, wL_1, wL_3, wR_1, wR_2, Int.toNat_natCast, r1, e1, h]
    · rw [if_neg c2, decide_eq_false (by omega)]; simp (disch := omega) only [Option.bind_some, bindv, bindv0, bind2_s, bind3_s, ↓reduceIte, Bool.false_eq_true, rZM_0, rZM_1, rZP_0, rZP_1, ptZ_0, ptZ_1, c32i, c64i, ncI, Int.natCast_add, Int.natCast_mul, q32_neg, q64_neg, q32_add, q32_sub, q32_mul, q64_add, q64_sub, q64_mul, q32_64i, q64_32, q32_lt_t, q32_lt_f, q32_le_t, q32_le_f, q32_eq_t, q32_eq_f, q64_lt_t, q64_lt_f, q64_le_t, q64_le_f, q64_eq_t, q64_eq_f, rdI_i, rdL_i, rdR_i, rdN_i, stI_i, stL_i, stR_i, wI_s, wI_n, wL_s, wL_n, wI_2, wI_3, wL_1, wL_3, wR_1, wR_2, Int.toNat_natCast, r1, e1, h]
  · rw [if_neg c1, decide_eq_false (by omega)]; simp (disch := omega) only [Option.bind_some, bindv, bindv0, bind2_s, bind3_s, ↓reduceIte, Bool.false_eq_true, rZM_0, rZM_1, rZP_0, rZP_1, ptZ_0, ptZ_1, c32i, c64i, ncI, Int.natCast_add, Int.natCast_mul, q32_neg, q64_neg, q32_add, q32_sub, q32_mul, q64_add, q64_sub, q64_mul, q32_64i, q64_32, q32_lt_t, q32_lt_f, q32_le_t, q32_le_f, q32_eq_t, q32_eq_f, q64_lt_t, q64_lt_f, q64_le_t, q64_le_f, q64_eq_t, q64_eq_f, rdI_i, rdL_i, rdR_i, rdN_i, stI_i, stL_i, stR_i, wI_s, wI_n, wL_s, wL_n, wI_2, wI_3, wL_1, wL_3, wR_1, wR_2, Int.toNat_natCast, r1, e1, h]
/-- what a lead reads, by the reference -/
def C10 (m : Mem) (al : Nat → Int32) : Prop := RF m ∧ ∀ k, k < 999 → m.1 24 k = al k
theorem C10.k {m m' : Mem} {al : Nat → Int32} (h : C10 m al) (k : K10 m m') : C10 m' al := ⟨h.1.same k.2.2, fun i hi => by rw [k.1 _ _ (by omega)]; exact h.2 i hi⟩
theorem leadL10 {F : Nat} {s : List Sh} (hp : ∃ t, s = sB ++ t) {al cd : Nat → Int32} {tp e b i0 : Nat} (htp : 1 ≤ tp ∧ tp ≤ 9) (ha1 : al 1 = q32 tp) (he : e ≤ 900) (hb : b < 6) (hi0 : i0 ≤ e) (a61 : al (61 + b) = q32 i0) (a67 : al (67 + b) = q32 ((e - i0 : Nat) : Int)) {x : FR} (hx : OKF x) (hct : ∀ i, i < e → CT (cd i) (al (99 + i))) : ∀ (n fuel : Nat), n < fuel → ∀ (m : Mem) (i d : Nat) (P : Nat → FR), C10 m al → PL10 m d P → (∀ k, k < d → OKF (P k)) → d ≤ 60 → WFC cd n i d → i + n = e → i0 ≤ i → ∃ m', nl_X10_leadsFrom_28 F s fuel m 23 (q32 b) (q64 x.1) (q64 x.2) (q32 (i - i0)) = some (q32 (LDF al x n i d P).1, m') ∧ K10 m m' ∧ ((LDF al x n i d P).1 = 0 → m'.2.1 23 15 = q64 (LDF al x n i d P).2.1 ∧ m'.2.1 23 16 = q64 (LDF al x n i d P).2.2) := by
  have l28 := ln28 hp
  have l29 := ln29 hp
  have l24 := ln24 hp
  have hA1 : A al 1 = tp := A_q ha1 (by omega)
  intro n
  induction n with
  | zero =>
    intro fuel hfu m i d P hc hP hO hd60 hW hie hii
    obtain ⟨fuel, rfl⟩ : ∃ f, fuel = f + 1 := ⟨fuel - 1, by omega⟩
    have hd : d = 1 := hW
    subst hd
    have r1 := rf23_1 hc.1
    have r19 := rf23_19 hc.1
    have r20 := rf23_20 hc.1
    obtain ⟨h1, h2⟩ := hP
    obtain ⟨u1, v1⟩ := h2 0 (by omega)
    have hO0 := hO 0 (by omega)
    unfold OKF at hO0
    let M := wL (wL m 23 15 (q64 (P 0).1)) 23 16 (q64 (P 0).2)
    have kM : K10 m M := ((K10.rf m).L (by omega)).L (by omega)
    have hF0 := isF10 (s := s) (m := M) hp (hc.1.same rfl) (by show m.1 24 1 = _; rw [hc.2 1 (by omega)]; exact ha1) htp.2 (u := (P 0).1) (l := (P 0).2) (by omega) (by omega)
    have ez : (0 : Int).toNat = 0 := rfl
    have e67 : (67 + (b : Int)).toNat = 67 + b := by omega
    have c67 : m.1 24 (67 + b) = q32 ((e - i0 : Nat) : Int) := by rw [hc.2 _ (by omega)]; exact a67
    have pre : nl_X10_leadsFrom_28 F s (fuel + 1) m 23 (q32 b) (q64 x.1) (q64 x.2) (q32 (i - i0)) = (n_X10_isFloor s M 23 (q64 (P 0).1) (q64 (P 0).2)).bind fun x9 => (if x9 = 0 then (some ((4 : Int32), M)) else (some ((0 : Int32), M))) := by
      show nb_X10_leadsFrom_28 F s (nl_X10_leadsFrom_28 F s fuel) m 23 (q32 b) (q64 x.1) (q64 x.2) (q32 (i - i0)) = _
      unfold nb_X10_leadsFrom_28
      simp (disch := omega) only [Option.bind_some, bindv, bindv0, bind2_s, bind3_s, ↓reduceIte, Bool.false_eq_true, rZM_0, rZM_1, rZP_0, rZP_1, ptZ_0, ptZ_1, c32i, c64i, ncI, Int.natCast_add, Int.natCast_mul, q32_neg, q64_neg, q32_add, q32_sub, q32_mul, q64_add, q64_sub, q64_mul, q32_64i, q64_32, q32_lt_t, q32_lt_f, q32_le_t, q32_le_f, q32_eq_t, q32_eq_f, q64_lt_t, q64_lt_f, q64_le_t, q64_le_f, q64_eq_t, q64_eq_f, rdI_i, rdL_i, rdR_i, rdN_i, stI_i, stL_i, stR_i, wI_s, wI_n, wL_s, wL_n, wI_2, wI_3, wL_1, wL_3, wR_1, wR_2, Int.toNat_natCast, r1, r19, r20, ez, e67, c67, u1, v1]
      rfl
    unfold LDF
    rw [hA1, pre, hF0]
    cases hb : isF tp (P 0) with
    | false =>
      refine ⟨M, ?_, kM, ?_⟩
      · simp (disch := omega) only [Option.bind_some, bindv, bindv0, bind2_s, bind3_s, ↓reduceIte, Bool.false_eq_true, rZM_0, rZM_1, rZP_0, rZP_1, ptZ_0, ptZ_1, c32i, c64i, ncI, Int.natCast_add, Int.natCast_mul, q32_neg, q64_neg, q32_add, q32_sub, q32_mul, q64_add, q64_sub, q64_mul, q32_64i, q64_32, q32_lt_t, q32_lt_f, q32_le_t, q32_le_f, q32_eq_t, q32_eq_f, q64_lt_t, q64_lt_f, q64_le_t, q64_le_f, q64_eq_t, q64_eq_f, rdI_i, rdL_i, rdR_i, rdN_i, stI_i, stL_i, stR_i, wI_s, wI_n, wL_s, wL_n, wI_2, wI_3, wL_1, wL_3, wR_1, wR_2, Int.toNat_natCast]
      · simp
    | true =>
      refine ⟨M, ?_, kM, fun _ => ⟨?_, ?_⟩⟩
      · simp (disch := omega) only [Option.bind_some, bindv, bindv0, bind2_s, bind3_s, ↓reduceIte, Bool.false_eq_true, rZM_0, rZM_1, rZP_0, rZP_1, ptZ_0, ptZ_1, c32i, c64i, ncI, Int.natCast_add, Int.natCast_mul, q32_neg, q64_neg, q32_add, q32_sub, q32_mul, q64_add, q64_sub, q64_mul, q32_64i, q64_32, q32_lt_t, q32_lt_f, q32_le_t, q32_le_f, q32_eq_t, q32_eq_f, q64_lt_t, q64_lt_f, q64_le_t, q64_le_f, q64_eq_t, q64_eq_f, rdI_i, rdL_i, rdR_i, rdN_i, stI_i, stL_i, stR_i, wI_s, wI_n, wL_s, wL_n, wI_2, wI_3, wL_1, wL_3, wR_1, wR_2, Int.toNat_natCast]
      · show (wL (wL m 23 15 (q64 (P 0).1)) 23 16 (q64 (P 0).2)).2.1 23 15 = _
        simp (disch := omega) only [Option.bind_some, bindv, bindv0, bind2_s, bind3_s, ↓reduceIte, Bool.false_eq_true, rZM_0, rZM_1, rZP_0, rZP_1, ptZ_0, ptZ_1, c32i, c64i, ncI, Int.natCast_add, Int.natCast_mul, q32_neg, q64_neg, q32_add, q32_sub, q32_mul, q64_add, q64_sub, q64_mul, q32_64i, q64_32, q32_lt_t, q32_lt_f, q32_le_t, q32_le_f, q32_eq_t, q32_eq_f, q64_lt_t, q64_lt_f, q64_le_t, q64_le_f, q64_eq_t, q64_eq_f, rdI_i, rdL_i, rdR_i, rdN_i, stI_i, stL_i, stR_i, wI_s, wI_n, wL_s, wL_n, wI_2, wI_3, wL_1, wL_3, wR_1, wR_2, Int.toNat_natCast]
      · show (wL (wL m 23 15 (q64 (P 0).1)) 23 16 (q64 (P 0).2)).2.1 23 16 = _
        simp (disch := omega) only [Option.bind_some, bindv, bindv0, bind2_s, bind3_s, ↓reduceIte, Bool.false_eq_true, rZM_0, rZM_1, rZP_0, rZP_1, ptZ_0, ptZ_1, c32i, c64i, ncI, Int.natCast_add, Int.natCast_mul, q32_neg, q64_neg, q32_add, q32_sub, q32_mul, q64_add, q64_sub, q64_mul, q32_64i, q64_32, q32_lt_t, q32_lt_f, q32_le_t, q32_le_f, q32_eq_t, q32_eq_f, q64_lt_t, q64_lt_f, q64_le_t, q64_le_f, q64_eq_t, q64_eq_f, rdI_i, rdL_i, rdR_i, rdN_i, stI_i, stL_i, stR_i, wI_s, wI_n, wL_s, wL_n, wI_2, wI_3, wL_1, wL_3, wR_1, wR_2, Int.toNat_natCast]
  | succ n ih =>
    intro fuel hfu m i d P hc hP hO hd60 hW hie hii
    obtain ⟨fuel, rfl⟩ : ∃ f, fuel = f + 1 := ⟨fuel - 1, by omega⟩
    have hct := hct i (by omega)
    have r1 := rf23_1 hc.1
    have e67 : (67 + (b : Int)).toNat = 67 + b := by omega
    have e61 : (61 + (b : Int)).toNat = 61 + b := by omega
    have e99 : (99 + (i0 : Int) + (i - i0)).toNat = 99 + i := by omega
    have ei : q32 ((i : Int) - i0 + 1) = q32 (((i + 1 : Nat) : Int) - i0) := by congr 1; omega
    have e1 : (1 : Int).toNat = 1 := rfl
    have c67 : m.1 24 (67 + b) = q32 ((e - i0 : Nat) : Int) := by rw [hc.2 _ (by omega)]; exact a67
    have c61 : m.1 24 (61 + b) = q32 i0 := by rw [hc.2 _ (by omega)]; exact a61
    have c1 : m.1 24 1 = q32 tp := by rw [hc.2 _ (by omega)]; exact ha1
    have push : ∀ y : FR, OKF y → d < 60 → WFC cd n (i + 1) (d + 1) → ∃ m1, n_X10_pushes s m 23 (q64 y.1) (q64 y.2) = some (0, m1) ∧ ∃ m', nl_X10_leadsFrom_28 F s fuel m1 23 (q32 b) (q64 x.1) (q64 x.2) (q32 ((i : Int) - i0 + 1)) = some (q32 (LDF al x n (i + 1) (d + 1) (up2 P d y)).1, m') ∧ K10 m m' ∧ ((LDF al x n (i + 1) (d + 1) (up2 P d y)).1 = 0 → m'.2.1 23 15 = q64 (LDF al x n (i + 1) (d + 1) (up2 P d y)).2.1 ∧ m'.2.1 23 16 = q64 (LDF al x n (i + 1) (d + 1) (up2 P d y)).2.2) := fun y hy hd hw => by
      obtain ⟨y1, y2, y3, y4⟩ := hy
      have hn : nrm y.1 y.2 = y := nrm_low (by omega) y4
      obtain ⟨m1, p1, p2, p3⟩ := pushes10 hp hc.1 (by omega) hP (p := y.1) (q := y.2) (by omega) (by omega) (by omega)
      rw [hn] at p1 p2
      have hbf : big y = false := decide_eq_false (by omega)
      rw [hbf] at p1
      obtain ⟨m', q1, q2, q3⟩ := ih fuel (by omega) m1 (i + 1) (d + 1) (up2 P d y) (hc.k p3) p2 (fun k hk => by
        by_cases ek : k = d
        · subst ek; rw [up2_s]; exact ⟨y1, y2, y3, y4⟩
        · rw [up2_n ek]; exact hO k (by omega)) (by omega) hw (by omega) (by omega)
      exact ⟨m1, p1, m', by rw [ei]; exact q1, p3.tr q2, q3⟩
    have go : ∀ v : Int32, v = al (99 + i) → nl_X10_leadsFrom_28 F s (fuel + 1) m 23 (q32 b) (q64 x.1) (q64 x.2) (q32 (i - i0)) = if (1000 : Int32) ≤ v then (if v = (1000 : Int32) then (bind2 (n_X10_pushes s m 23 (q64 x.1) (q64 x.2)) fun x20 m21 => (nb_X10_leadsFrom_130 F s (nl_X10_leadsFrom_28 F s fuel) m21 23 (q32 b) (q64 x.1) (q64 x.2) (q32 (i - i0)) x20)) else (if v = (1001 : Int32) then (bind2 (n_X10_pushes s m 23 (q64 tp) (q64 1)) fun x18 m19 => (nb_X10_leadsFrom_130 F s (nl_X10_leadsFrom_28 F s fuel) m19 23 (q32 b) (q64 x.1) (q64 x.2) (q32 (i - i0)) x18)) else (bind2 (n_X10_steps s m 23 v) fun x14 m15 => (nb_X10_leadsFrom_130 F s (nl_X10_leadsFrom_28 F s fuel) m15 23 (q32 b) (q64 x.1) (q64 x.2) (q32 (i - i0)) x14)))) else (bind2 (n_X10_pushes s m 23 (Int32.toInt64 v) (q64 1)) fun x22 m23 => (nb_X10_leadsFrom_130 F s (nl_X10_leadsFrom_28 F s fuel) m23 23 (q32 b) (q64 x.1) (q64 x.2) (q32 (i - i0)) x22)) := by
      intro v hv
      have cv : m.1 24 (99 + i) = v := by rw [hc.2 _ (by omega)]; exact hv.symm
      show nb_X10_leadsFrom_28 F s (nl_X10_leadsFrom_28 F s fuel) m 23 (q32 b) (q64 x.1) (q64 x.2) (q32 (i - i0)) = _
      unfold nb_X10_leadsFrom_28
      simp (disch := omega) only [Option.bind_some, bindv, bindv0, bind2_s, bind3_s, ↓reduceIte, Bool.false_eq_true, rZM_0, rZM_1, rZP_0, rZP_1, ptZ_0, ptZ_1, c32i, c64i, ncI, Int.natCast_add, Int.natCast_mul, q32_neg, q64_neg, q32_add, q32_sub, q32_mul, q64_add, q64_sub, q64_mul, q32_64i, q64_32, q32_lt_t, q32_lt_f, q32_le_t, q32_le_f, q32_eq_t, q32_eq_f, q64_lt_t, q64_lt_f, q64_le_t, q64_le_f, q64_eq_t, q64_eq_f, rdI_i, rdL_i, rdR_i, rdN_i, stI_i, stL_i, stR_i, wI_s, wI_n, wL_s, wL_n, wI_2, wI_3, wL_1, wL_3, wR_1, wR_2, Int.toNat_natCast, r1, e67, e61, e99, e1, c67, c61, c1, cv]
    rcases hct with ⟨v, hv, hc1, hc2⟩ | ⟨hc1, hc2⟩ | ⟨hc1, hc2⟩ | hcj
    · have hA : A al (99 + i) = v := A_q hc2 (by omega)
      have hW' : d < 60 ∧ WFC cd n (i + 1) (d + 1) := by
        unfold WFC at hW
        rwa [if_pos (by rw [hc1, q32_toInt (by omega)]; omega)] at hW
      obtain ⟨m1, p1, m', q1, q2, q3⟩ := push (v, 1) ⟨by simp only; omega, by simp only; omega, by simp only; omega, by simp⟩ hW'.1 hW'.2
      unfold LDF
      rw [hA, if_pos (by omega)]
      refine ⟨m', ?_, q2, q3⟩
      rw [go (q32 v) hc2.symm]
      unfold nb_X10_leadsFrom_130
      dsimp only at p1
      simp (disch := omega) only [Option.bind_some, bindv, bindv0, bind2_s, bind3_s, ↓reduceIte, Bool.false_eq_true, rZM_0, rZM_1, rZP_0, rZP_1, ptZ_0, ptZ_1, c32i, c64i, ncI, Int.natCast_add, Int.natCast_mul, q32_neg, q64_neg, q32_add, q32_sub, q32_mul, q64_add, q64_sub, q64_mul, q32_64i, q64_32, q32_lt_t, q32_lt_f, q32_le_t, q32_le_f, q32_eq_t, q32_eq_f, q64_lt_t, q64_lt_f, q64_le_t, q64_le_f, q64_eq_t, q64_eq_f, rdI_i, rdL_i, rdR_i, rdN_i, stI_i, stL_i, stR_i, wI_s, wI_n, wL_s, wL_n, wI_2, wI_3, wL_1, wL_3, wR_1, wR_2, Int.toNat_natCast, p1, q1]
    · have hA : A al (99 + i) = 1000 := A_q hc2 (by omega)
      have hW' : d < 60 ∧ WFC cd n (i + 1) (d + 1) := by
        unfold WFC at hW
        rwa [if_pos (by rw [hc1, q32_toInt (by omega)]; omega)] at hW
      obtain ⟨m1, p1, m', q1, q2, q3⟩ := push x hx hW'.1 hW'.2
      unfold LDF
      rw [hA, if_neg (by omega), if_pos rfl]
      refine ⟨m', ?_, q2, q3⟩
      rw [go (q32 1000) hc2.symm]
      unfold nb_X10_leadsFrom_130
      simp (disch := omega) only [Option.bind_some, bindv, bindv0, bind2_s, bind3_s, ↓reduceIte, Bool.false_eq_true, rZM_0, rZM_1, rZP_0, rZP_1, ptZ_0, ptZ_1, c32i, c64i, ncI, Int.natCast_add, Int.natCast_mul, q32_neg, q64_neg, q32_add, q32_sub, q32_mul, q64_add, q64_sub, q64_mul, q32_64i, q64_32, q32_lt_t, q32_lt_f, q32_le_t, q32_le_f, q32_eq_t, q32_eq_f, q64_lt_t, q64_lt_f, q64_le_t, q64_le_f, q64_eq_t, q64_eq_f, rdI_i, rdL_i, rdR_i, rdN_i, stI_i, stL_i, stR_i, wI_s, wI_n, wL_s, wL_n, wI_2, wI_3, wL_1, wL_3, wR_1, wR_2, Int.toNat_natCast, p1, q1]
    · have hA : A al (99 + i) = 1001 := A_q hc2 (by omega)
      have hW' : d < 60 ∧ WFC cd n (i + 1) (d + 1) := by
        unfold WFC at hW
        rwa [if_pos (by rw [hc1, q32_toInt (by omega)]; omega)] at hW
      obtain ⟨m1, p1, m', q1, q2, q3⟩ := push (tp, 1) ⟨by simp only; omega, by simp only; omega, by simp only; omega, by simp⟩ hW'.1 hW'.2
      unfold LDF
      rw [hA, if_neg (by omega), if_neg (by omega), if_pos rfl, hA1]
      refine ⟨m', ?_, q2, q3⟩
      rw [go (q32 1001) hc2.symm]
      unfold nb_X10_leadsFrom_130
      simp (disch := omega) only [Option.bind_some, bindv, bindv0, bind2_s, bind3_s, ↓reduceIte, Bool.false_eq_true, rZM_0, rZM_1, rZP_0, rZP_1, ptZ_0, ptZ_1, c32i, c64i, ncI, Int.natCast_add, Int.natCast_mul, q32_neg, q64_neg, q32_add, q32_sub, q32_mul, q64_add, q64_sub, q64_mul, q32_64i, q64_32, q32_lt_t, q32_lt_f, q32_le_t, q32_le_f, q32_eq_t, q32_eq_f, q64_lt_t, q64_lt_f, q64_le_t, q64_le_f, q64_eq_t, q64_eq_f, rdI_i, rdL_i, rdR_i, rdN_i, stI_i, stL_i, stR_i, wI_s, wI_n, wL_s, wL_n, wI_2, wI_3, wL_1, wL_3, wR_1, wR_2, Int.toNat_natCast, p1, q1]
    · obtain ⟨c, e', hce, hc1, hc2⟩ : ∃ c e' : Int, ((c = -3 ∧ e' = 3000) ∨ (c = -4 ∧ e' = 3001) ∨ (c = -5 ∧ e' = 3002) ∨ (c = -6 ∧ e' = 3003)) ∧ cd i = q32 c ∧ al (99 + i) = q32 e' := by
        rcases hcj with h | h | h | h
        · exact ⟨-3, 3000, by omega, h.1, h.2⟩
        · exact ⟨-4, 3001, by omega, h.1, h.2⟩
        · exact ⟨-5, 3002, by omega, h.1, h.2⟩
        · exact ⟨-6, 3003, by omega, h.1, h.2⟩
      have hA : A al (99 + i) = e' := A_q hc2 (by omega)
      have hW' : 2 ≤ d ∧ WFC cd n (i + 1) (d - 1) := by
        unfold WFC at hW
        rwa [if_neg (by rw [hc1, q32_toInt (by omega)]; omega)] at hW
      obtain ⟨d, rfl⟩ : ∃ d', d = d' + 2 := ⟨d - 2, by omega⟩
      have hX := hO d (by omega)
      have hY := hO (d + 1) (by omega)
      obtain ⟨m1, k1, hm⟩ := steps10 (e := e') hp hc.1 (by omega) hP hX hY (by omega)
      have h37 : nl_X10_leadsFrom_28 F s (fuel + 1) m 23 (q32 b) (q64 x.1) (q64 x.2) (q32 (i - i0)) = bind2 (n_X10_steps s m 23 (q32 e')) fun x14 m15 => (nb_X10_leadsFrom_130 F s (nl_X10_leadsFrom_28 F s fuel) m15 23 (q32 b) (q64 x.1) (q64 x.2) (q32 (i - i0)) x14) := by
        rw [go (q32 e') hc2.symm]
        simp (disch := omega) only [Option.bind_some, bindv, bindv0, bind2_s, bind3_s, ↓reduceIte, Bool.false_eq_true, rZM_0, rZM_1, rZP_0, rZP_1, ptZ_0, ptZ_1, c32i, c64i, ncI, Int.natCast_add, Int.natCast_mul, q32_neg, q64_neg, q32_add, q32_sub, q32_mul, q64_add, q64_sub, q64_mul, q32_64i, q64_32, q32_lt_t, q32_lt_f, q32_le_t, q32_le_f, q32_eq_t, q32_eq_f, q64_lt_t, q64_lt_f, q64_le_t, q64_le_f, q64_eq_t, q64_eq_f, rdI_i, rdL_i, rdR_i, rdN_i, stI_i, stL_i, stR_i, wI_s, wI_n, wL_s, wL_n, wI_2, wI_3, wL_1, wL_3, wR_1, wR_2, Int.toNat_natCast]
      rw [h37]
      unfold LDF
      rw [hA, if_neg (by omega), if_neg (by omega), if_neg (by omega), show d + 2 - 2 = d from rfl, show d + 2 - 1 = d + 1 from rfl]
      unfold nb_X10_leadsFrom_130
      cases hj : jn e' (P d) (P (d + 1)) with
      | none =>
        rw [hj] at hm
        dsimp only
        refine ⟨m1, ?_, k1, ?_⟩
        · simp (disch := omega) only [Option.bind_some, bindv, bindv0, bind2_s, bind3_s, ↓reduceIte, Bool.false_eq_true, rZM_0, rZM_1, rZP_0, rZP_1, ptZ_0, ptZ_1, c32i, c64i, ncI, Int.natCast_add, Int.natCast_mul, q32_neg, q64_neg, q32_add, q32_sub, q32_mul, q64_add, q64_sub, q64_mul, q32_64i, q64_32, q32_lt_t, q32_lt_f, q32_le_t, q32_le_f, q32_eq_t, q32_eq_f, q64_lt_t, q64_lt_f, q64_le_t, q64_le_f, q64_eq_t, q64_eq_f, rdI_i, rdL_i, rdR_i, rdN_i, stI_i, stL_i, stR_i, wI_s, wI_n, wL_s, wL_n, wI_2, wI_3, wL_1, wL_3, wR_1, wR_2, Int.toNat_natCast, hm]
        · intro h; exact absurd h (show ¬ (2 : Int) = 0 by decide)
      | some f =>
        rw [hj] at hm
        dsimp only at hm ⊢
        obtain ⟨hm1, hm2⟩ := hm
        cases hbf : big f with
        | true =>
          rw [hbf] at hm1
          rw [if_pos rfl]
          refine ⟨m1, ?_, k1, ?_⟩
          · simp (disch := omega) only [Option.bind_some, bindv, bindv0, bind2_s, bind3_s, ↓reduceIte, Bool.false_eq_true, rZM_0, rZM_1, rZP_0, rZP_1, ptZ_0, ptZ_1, c32i, c64i, ncI, Int.natCast_add, Int.natCast_mul, q32_neg, q64_neg, q32_add, q32_sub, q32_mul, q64_add, q64_sub, q64_mul, q32_64i, q64_32, q32_lt_t, q32_lt_f, q32_le_t, q32_le_f, q32_eq_t, q32_eq_f, q64_lt_t, q64_lt_f, q64_le_t, q64_le_f, q64_eq_t, q64_eq_f, rdI_i, rdL_i, rdR_i, rdN_i, stI_i, stL_i, stR_i, wI_s, wI_n, wL_s, wL_n, wI_2, wI_3, wL_1, wL_3, wR_1, wR_2, Int.toNat_natCast, hm1]
          · intro h; exact absurd h (show ¬ (3 : Int) = 0 by decide)
        | false =>
          rw [hbf] at hm1
          rw [if_neg (by decide)]
          have hf := jn_ok hX hY hj hbf
          obtain ⟨m', q1, q2, q3⟩ := ih fuel (by omega) m1 (i + 1) (d + 1) (up2 P d f) (hc.k k1) hm2 (fun k hk => by
            by_cases ek : k = d
            · subst ek; rw [up2_s]; exact hf
            · rw [up2_n ek]; exact hO k (by omega)) (by omega) hW'.2 (by omega) (by omega)
          refine ⟨m', ?_, k1.tr q2, q3⟩
          rw [← ei] at q1
          simp (disch := omega) only [Option.bind_some, bindv, bindv0, bind2_s, bind3_s, ↓reduceIte, Bool.false_eq_true, rZM_0, rZM_1, rZP_0, rZP_1, ptZ_0, ptZ_1, c32i, c64i, ncI, Int.natCast_add, Int.natCast_mul, q32_neg, q64_neg, q32_add, q32_sub, q32_mul, q64_add, q64_sub, q64_mul, q32_64i, q64_32, q32_lt_t, q32_lt_f, q32_le_t, q32_le_f, q32_eq_t, q32_eq_f, q64_lt_t, q64_lt_f, q64_le_t, q64_le_f, q64_eq_t, q64_eq_f, rdI_i, rdL_i, rdR_i, rdN_i, stI_i, stL_i, stR_i, wI_s, wI_n, wL_s, wL_n, wI_2, wI_3, wL_1, wL_3, wR_1, wR_2, Int.toNat_natCast, hm1, q1]
/-- a row of the reference that tells a house -/
def WA (al : Nat → Int32) : Prop := ∃ hs st cd fu fl sf od tu tl, HR hs st cd fu fl sf od tu tl al
theorem HREL.wa {m : Mem} {n : Nat} {al : Nat → Int32} (h : HREL m n al) : WA al := ⟨_, _, _, _, _, _, _, _, _, h⟩
theorem lead10 {F : Nat} (hF : 1000 ≤ F) {s : List Sh} {m : Mem} (hp : ∃ t, s = sB ++ t) (hr : RF m) {al : Nat → Int32} (hw : WA al) (hm : ∀ k, k < 999 → m.1 24 k = al k) {x : FR} (hx : OKF x) {b : Int} (hb : B31 b) : ∃ m', n_X10_leadsFrom F s m 23 (q32 b) (q64 x.1) (q64 x.2) = some (q32 (LE al b x).1, m') ∧ K10 m m' ∧ ((LE al b x).1 = 0 → m'.2.1 23 15 = q64 (LE al b x).2.1 ∧ m'.2.1 23 16 = q64 (LE al b x).2.2) := by
  obtain ⟨hs, st, cd, fu, fl, sf, od, tu, tl, hrel⟩ := hw
  obtain ⟨tp, sk, nl, bc, fc, tc, au, aw, S, U, L, V, W, X, O, h1, h2, h3, h4, ⟨s1, s2, s3, s4, s5, s6, s7⟩, -⟩ := hrel
  have hA2 : A al 2 = bc := A_q h3.2.2.1 (by omega)
  have l24 := ln24 hp
  have r1 := rf23_1 hr
  have e2 : (2 : Int).toNat = 2 := rfl
  have c2 : m.1 24 2 = q32 bc := by rw [hm 2 (by omega)]; exact h3.2.2.1
  unfold LE
  rw [hA2]
  have pre : n_X10_leadsFrom F s m 23 (q32 b) (q64 x.1) (q64 x.2) = if (if (0 : Int) ≤ b ∧ b ≤ (bc : Int) - 1 then (1 : Int32) else 0) = 0 then (some ((1 : Int32), m)) else nl_X10_leadsFrom_28 F s F (wI m 23 21 (q32 0)) 23 (q32 b) (q64 x.1) (q64 x.2) (q32 0) := by
    unfold n_X10_leadsFrom nb_X10_leadsFrom_0
    simp (disch := omega) only [Option.bind_some, bindv, bindv0, bind2_s, bind3_s, ↓reduceIte, Bool.false_eq_true, rZM_0, rZM_1, rZP_0, rZP_1, ptZ_0, ptZ_1, c32i, c64i, ncI, Int.natCast_add, Int.natCast_mul, q32_neg, q64_neg, q32_add, q32_sub, q32_mul, q64_add, q64_sub, q64_mul, q32_64i, q64_32, q32_lt_t, q32_lt_f, q32_le_t, q32_le_f, q32_eq_t, q32_eq_f, q64_lt_t, q64_lt_f, q64_le_t, q64_le_f, q64_eq_t, q64_eq_f, rdI_i, rdL_i, rdR_i, rdN_i, stI_i, stL_i, stR_i, wI_s, wI_n, wL_s, wL_n, wI_2, wI_3, wL_1, wL_3, wR_1, wR_2, Int.toNat_natCast, r1, e2, c2]
    rw [win (by omega) (by omega) (by omega)]
    simp (disch := omega) only [Option.bind_some, bindv, bindv0, bind2_s, bind3_s, ↓reduceIte, Bool.false_eq_true, rZM_0, rZM_1, rZP_0, rZP_1, ptZ_0, ptZ_1, c32i, c64i, ncI, Int.natCast_add, Int.natCast_mul, q32_neg, q64_neg, q32_add, q32_sub, q32_mul, q64_add, q64_sub, q64_mul, q32_64i, q64_32, q32_lt_t, q32_lt_f, q32_le_t, q32_le_f, q32_eq_t, q32_eq_f, q64_lt_t, q64_lt_f, q64_le_t, q64_le_f, q64_eq_t, q64_eq_f, rdI_i, rdL_i, rdR_i, rdN_i, stI_i, stL_i, stR_i, wI_s, wI_n, wL_s, wL_n, wI_2, wI_3, wL_1, wL_3, wR_1, wR_2, Int.toNat_natCast]
  rw [pre]
  by_cases hbb : 0 ≤ b ∧ b < bc
  · rw [if_pos hbb]
    obtain ⟨k, rfl⟩ := Int.eq_ofNat_of_zero_le hbb.1
    have hk : k < bc := by omega
    have m1 := S_mono s2 (bc - (k + 1)) (k + 1) (by omega)
    rw [show k + 1 + (bc - (k + 1)) = bc by omega] at m1
    have m0 := s2 k hk
    rw [show (k : Int).toNat = k from rfl, A_q (s5 k hk).1 (by omega), A_q (s5 k hk).2 (by omega), show ((S k : Int)).toNat = S k from rfl, show (((S (k + 1) - S k : Nat) : Int)).toNat = S (k + 1) - S k from rfl]
    obtain ⟨m', q1, q2, q3⟩ := leadL10 (F := F) hp (al := al) (cd := cd) (tp := tp) (e := S (k + 1)) (b := k) (i0 := S k) (by omega) h3.2.1 (by omega) (by omega) m0 (s5 k hk).1 (s5 k hk).2 hx (fun i hi => s6 i (by omega)) (S (k + 1) - S k) F (by omega) (wI m 23 21 (q32 0)) (S k) 0 (fun _ => (0, 1)) ⟨hr.same rfl, fun j hj => by rw [wI_n (by omega)]; exact hm j hj⟩ ⟨by rw [wI_s]; rfl, fun k hk => absurd hk (by omega)⟩ (fun k hk => absurd hk (by omega)) (by omega) (s7 k hk) (by omega) (by omega)
    refine ⟨m', ?_, (K10.rf m).I.tr q2, q3⟩
    rw [show (S k : Int) - S k = 0 by omega] at q1
    rw [if_neg, q1]
    rw [if_pos (by omega)]
    decide
  · rw [if_neg hbb, if_pos (by rw [if_neg (by omega)])]
    exact ⟨m, rfl, K10.rf m, fun h => absurd h (by decide)⟩
