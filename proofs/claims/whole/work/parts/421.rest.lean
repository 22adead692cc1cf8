/-! PURE: remainders -/
def IVF (md y : Nat) : Nat → Nat → Int
  | 0, _ => -1
  | n + 1, v => if y * v % md = 1 then (v : Int) else IVF md y n (v + 1)
def IV (md y : Nat) : Int := IVF md y (md - 1) 1
theorem IVF_b {md y : Nat} : ∀ n v, IVF md y n v = -1 ∨ ((v : Int) ≤ IVF md y n v ∧ IVF md y n v < v + n) := by
  intro n
  induction n with
  | zero => intro v; exact Or.inl rfl
  | succ n ih =>
    intro v
    unfold IVF
    by_cases c : y * v % md = 1
    · rw [if_pos c]; omega
    · rw [if_neg c]
      have := ih (v + 1)
      omega
theorem IV_b {md y : Nat} (hm : 2 ≤ md) : IV md y = -1 ∨ (1 ≤ IV md y ∧ IV md y < md) := by
  have := IVF_b (md := md) (y := y) (md - 1) 1
  unfold IV
  omega
theorem rem_n {a b : Nat} (ha : a ≤ 2000000000) (hb : 1 ≤ b ∧ b ≤ 100) : remI (q32 a) (q32 b) = q32 ((a % b : Nat) : Int) := by
  rw [q32_rem (by omega) (by omega) (by omega) (by omega), tmn]
theorem inv9 {F : Nat} (hF : 1000 ≤ F) {md y : Nat} (hm : 2 ≤ md ∧ md ≤ 30) (hy : y < md) : m_X9_inverseBy F (q32 y) (q32 md) = some (q32 (IV md y)) := by
  have L : ∀ (n fuel : Nat), n < fuel → ∀ v, v + n = md → l_X9_inverseBy_2 F fuel (q32 y) (q32 md) (q32 v) = some (q32 (IVF md y n v)) := by
    intro n
    induction n with
    | zero =>
      intro fuel hf v hv
      obtain ⟨fuel, rfl⟩ : ∃ f, fuel = f + 1 := ⟨fuel - 1, by omega⟩
      show b_X9_inverseBy_2 F (l_X9_inverseBy_2 F fuel) _ _ _ = _
      unfold b_X9_inverseBy_2 IVF
      simp (disch := omega) only [Option.bind_some, bindv, bindv0, bind2_s, bind3_s, ↓reduceIte, Bool.false_eq_true, rZM_0, rZM_1, rZP_0, rZP_1, ptZ_0, ptZ_1, c32i, c64i, ncI, Int.natCast_add, Int.natCast_mul, q32_neg, q64_neg, q32_add, q32_sub, q32_mul, q64_add, q64_sub, q64_mul, q32_64i, q64_32, q32_lt_t, q32_lt_f, q32_le_t, q32_le_f, q32_eq_t, q32_eq_f, q64_lt_t, q64_lt_f, q64_le_t, q64_le_f, q64_eq_t, q64_eq_f, rdI_i, rdL_i, rdR_i, rdN_i, stI_i, stL_i, stR_i, wI_s, wI_n, wL_s, wL_n, wI_2, wI_3, wL_1, wL_3, wR_1, wR_2, Int.toNat_natCast, tnO, tn_add, tn_sub, tn_mul, Nat.add_sub_cancel, Nat.add_zero, Nat.zero_add, lnO, win_t, win_f]
    | succ n ih =>
      intro fuel hf v hv
      obtain ⟨fuel, rfl⟩ : ∃ f, fuel = f + 1 := ⟨fuel - 1, by omega⟩
      have ih := ih fuel (by omega) (v + 1) (by omega)
      rw [Int.natCast_add] at ih
      have yv : y * v ≤ 30 * 30 := Nat.mul_le_mul (by omega) (by omega)
      have rm := rem_n (a := y * v) (b := md) (by omega) (by omega)
      have md1 : y * v % md < md := Nat.mod_lt _ (by omega)
      rw [Int.natCast_mul] at rm
      show b_X9_inverseBy_2 F (l_X9_inverseBy_2 F fuel) _ _ _ = _
      unfold b_X9_inverseBy_2 IVF
      generalize y * v % md = z at *
      by_cases c : z = 1
      · rw [if_pos c]
        simp (disch := omega) only [Option.bind_some, bindv, bindv0, bind2_s, bind3_s, ↓reduceIte, Bool.false_eq_true, rZM_0, rZM_1, rZP_0, rZP_1, ptZ_0, ptZ_1, c32i, c64i, ncI, Int.natCast_add, Int.natCast_mul, q32_neg, q64_neg, q32_add, q32_sub, q32_mul, q64_add, q64_sub, q64_mul, q32_64i, q64_32, q32_lt_t, q32_lt_f, q32_le_t, q32_le_f, q32_eq_t, q32_eq_f, q64_lt_t, q64_lt_f, q64_le_t, q64_le_f, q64_eq_t, q64_eq_f, rdI_i, rdL_i, rdR_i, rdN_i, stI_i, stL_i, stR_i, wI_s, wI_n, wL_s, wL_n, wI_2, wI_3, wL_1, wL_3, wR_1, wR_2, Int.toNat_natCast, tnO, tn_add, tn_sub, tn_mul, Nat.add_sub_cancel, Nat.add_zero, Nat.zero_add, lnO, win_t, win_f, rm]
      · rw [if_neg c]
        simp (disch := omega) only [Option.bind_some, bindv, bindv0, bind2_s, bind3_s, ↓reduceIte, Bool.false_eq_true, rZM_0, rZM_1, rZP_0, rZP_1, ptZ_0, ptZ_1, c32i, c64i, ncI, Int.natCast_add, Int.natCast_mul, q32_neg, q64_neg, q32_add, q32_sub, q32_mul, q64_add, q64_sub, q64_mul, q32_64i, q64_32, q32_lt_t, q32_lt_f, q32_le_t, q32_le_f, q32_eq_t, q32_eq_f, q64_lt_t, q64_lt_f, q64_le_t, q64_le_f, q64_eq_t, q64_eq_f, rdI_i, rdL_i, rdR_i, rdN_i, stI_i, stL_i, stR_i, wI_s, wI_n, wL_s, wL_n, wI_2, wI_3, wL_1, wL_3, wR_1, wR_2, Int.toNat_natCast, tnO, tn_add, tn_sub, tn_mul, Nat.add_sub_cancel, Nat.add_zero, Nat.zero_add, lnO, win_t, win_f, rm]
        exact ih
  unfold m_X9_inverseBy b_X9_inverseBy_0 IV
  exact L (md - 1) F (by omega) 1 (by omega)
theorem ivs10 {F : Nat} (a b : Int32) : m_X10_inverse F a b = m_X9_inverseBy F a b := by
  have L : ∀ fuel (v : Int32), l_X10_inverse_2 F fuel a b v = l_X9_inverseBy_2 F fuel a b v := by
    intro fuel
    induction fuel with
    | zero => intro v; rfl
    | succ fuel ih =>
      intro v
      show b_X10_inverse_2 F (l_X10_inverse_2 F fuel) _ _ _ = b_X9_inverseBy_2 F (l_X9_inverseBy_2 F fuel) _ _ _
      unfold b_X10_inverse_2 b_X9_inverseBy_2
      simp only [ih]
  exact L F 1
def RO (md u l : Nat) : Int := if IV md (l % md) = -1 then -1 else ((u % md * (IV md (l % md)).toNat % md : Nat) : Int)
theorem RO_b {md u l : Nat} (hm : 2 ≤ md) : RO md u l = -1 ∨ (0 ≤ RO md u l ∧ RO md u l < md) := by
  unfold RO
  by_cases c : IV md (l % md) = -1
  · rw [if_pos c]; exact Or.inl rfl
  · rw [if_neg c]
    have : u % md * (IV md (l % md)).toNat % md < md := Nat.mod_lt _ (by omega)
    omega
theorem rest_both {F : Nat} (hF : 1000 ≤ F) {md u l : Nat} (hm : 2 ≤ md ∧ md ≤ 30) (hu : u ≤ 1000000) (hl : l ≤ 1000000) : m_X9_remainderOf F (q64 u) (q64 l) (q32 md) = some (q32 (RO md u l)) ∧ m_X10_restOf F (q64 u) (q64 l) (q32 md) = some (q32 (RO md u l)) := by
  have lm : l % md < md := Nat.mod_lt _ (by omega)
  have um : u % md < md := Nat.mod_lt _ (by omega)
  have r1 : remL (q64 (l : Int)) (q64 (md : Int)) = q64 ((l % md : Nat) : Int) := by rw [q64_rem_n (by omega), tmn]
  have r2 : remL (q64 (u : Int)) (q64 (md : Int)) = q64 ((u % md : Nat) : Int) := by rw [q64_rem_n (by omega), tmn]
  have iv := inv9 hF hm lm
  have ib := IV_b (md := md) (y := l % md) hm.1
  unfold m_X9_remainderOf b_X9_remainderOf_0 m_X10_restOf b_X10_restOf_0 RO
  rw [ivs10]
  generalize l % md = lm' at *
  generalize u % md = um' at *
  by_cases c : IV md lm' = -1
  · rw [if_pos c]
    rw [c] at iv
    simp (disch := omega) only [Option.bind_some, bindv, bindv0, bind2_s, bind3_s, ↓reduceIte, Bool.false_eq_true, rZM_0, rZM_1, rZP_0, rZP_1, ptZ_0, ptZ_1, c32i, c64i, ncI, Int.natCast_add, Int.natCast_mul, q32_neg, q64_neg, q32_add, q32_sub, q32_mul, q64_add, q64_sub, q64_mul, q32_64i, q64_32, q32_lt_t, q32_lt_f, q32_le_t, q32_le_f, q32_eq_t, q32_eq_f, q64_lt_t, q64_lt_f, q64_le_t, q64_le_f, q64_eq_t, q64_eq_f, rdI_i, rdL_i, rdR_i, rdN_i, stI_i, stL_i, stR_i, wI_s, wI_n, wL_s, wL_n, wI_2, wI_3, wL_1, wL_3, wR_1, wR_2, Int.toNat_natCast, tnO, tn_add, tn_sub, tn_mul, Nat.add_sub_cancel, Nat.add_zero, Nat.zero_add, lnO, win_t, win_f, r1, iv]
    exact ⟨trivial, trivial⟩
  · rw [if_neg c]
    obtain ⟨v, hv⟩ := Int.eq_ofNat_of_zero_le (show 0 ≤ IV md lm' by omega)
    rw [hv] at iv ib ⊢
    have uv : um' * v ≤ 30 * 30 := Nat.mul_le_mul (by omega) (by omega)
    have rm := rem_n (a := um' * v) (b := md) (by omega) (by omega)
    rw [Int.natCast_mul] at rm
    have e : (v : Int).toNat = v := rfl
    rw [e]
    generalize um' * v % md = z at *
    simp (disch := omega) only [Option.bind_some, bindv, bindv0, bind2_s, bind3_s, ↓reduceIte, Bool.false_eq_true, rZM_0, rZM_1, rZP_0, rZP_1, ptZ_0, ptZ_1, c32i, c64i, ncI, Int.natCast_add, Int.natCast_mul, q32_neg, q64_neg, q32_add, q32_sub, q32_mul, q64_add, q64_sub, q64_mul, q32_64i, q64_32, q32_lt_t, q32_lt_f, q32_le_t, q32_le_f, q32_eq_t, q32_eq_f, q64_lt_t, q64_lt_f, q64_le_t, q64_le_f, q64_eq_t, q64_eq_f, rdI_i, rdL_i, rdR_i, rdN_i, stI_i, stL_i, stR_i, wI_s, wI_n, wL_s, wL_n, wI_2, wI_3, wL_1, wL_3, wR_1, wR_2, Int.toNat_natCast, tnO, tn_add, tn_sub, tn_mul, Nat.add_sub_cancel, Nat.add_zero, Nat.zero_add, lnO, win_t, win_f, r1, r2, iv, rm]
    exact ⟨trivial, trivial⟩
def upN (P : Nat → Nat) (k x : Nat) : Nat → Nat := fun j => if j = k then x else P j
theorem upN_s (P : Nat → Nat) (k x : Nat) : upN P k x k = x := if_pos rfl
theorem upN_n {P : Nat → Nat} {k j x : Nat} (h : j ≠ k) : upN P k x j = P j := if_neg h
def jm (md : Nat) (c : Int) (a b : Nat) : Option Nat := if c = 3000 then some ((a + b) % md) else if c = 3001 then some ((a + md - b) % md) else if c = 3002 then some (a * b % md) else if IV md b = -1 then none else some (a * (IV md b).toNat % md)
theorem jm_b {md : Nat} (hm : 2 ≤ md) {c : Int} {a b f : Nat} (h : jm md c a b = some f) : f < md := by
  unfold jm at h
  have ml : ∀ z, z % md < md := fun z => Nat.mod_lt _ (by omega)
  split at h
  · cases h; exact ml _
  · split at h
    · cases h; exact ml _
    · split at h
      · cases h; exact ml _
      · split at h
        · cases h
        · cases h; exact ml _
def RLF (al : Nat → Int32) (md x : Nat) : Nat → Nat → Nat → (Nat → Nat) → Option Nat
  | 0, _, _, P => some (P 0)
  | n + 1, i, d, P => if A al (99 + i) < 1000 then RLF al md x n (i + 1) (d + 1) (upN P d ((A al (99 + i)).toNat % md)) else if A al (99 + i) = 1000 then RLF al md x n (i + 1) (d + 1) (upN P d x) else if A al (99 + i) = 1001 then RLF al md x n (i + 1) (d + 1) (upN P d ((A al 1).toNat % md)) else match jm md (A al (99 + i)) (P (d - 2)) (P (d - 1)) with
    | none => none
    | some f => RLF al md x n (i + 1) (d - 1) (upN P (d - 2) f)
def RQ (o : Option Nat) : Int := match o with
  | none => -1
  | some y => y
def RLB (al : Nat → Int32) (md b x : Nat) : Option Nat := RLF al md x (A al (67 + b)).toNat (A al (61 + b)).toNat 0 (fun _ => 0)
/-! the class -/
def PR9 (m : Mem) (d : Nat) (P : Nat → Nat) : Prop := m.1 16 4 = q32 d ∧ ∀ k, k < d → m.2.1 17 k = q64 (P k)
theorem pileR {s : List Sh} {m : Mem} (hp : ∃ t, s = sB ++ t) (hr : RF m) {d : Nat} (hd : d < 60) {P : Nat → Nat} (h : PR9 m d P) (x : Nat) : ∃ m', n_X4_pile s m 16 (q64 x) (q64 1) = some ((), m') ∧ PR9 m' (d + 1) (upN P d x) ∧ K9 m m' := by
  have r2 := rf16_2 hr
  have r3 := rf16_3 hr
  have l17 := ln17 hp
  have l18 := ln18 hp
  refine ⟨wI (wL (wL m 17 d (q64 x)) 18 d (q64 1)) 16 4 (q32 (d + 1)), ?_, ⟨?_, fun k hk => ?_⟩, (((K9.rf m).L (Or.inl rfl)).L (Or.inr rfl)).I⟩
  · unfold n_X4_pile nb_X4_pile_0
    simp (disch := omega) only [Option.bind_some, bindv, bindv0, bind2_s, bind3_s, ↓reduceIte, Bool.false_eq_true, rZM_0, rZM_1, rZP_0, rZP_1, ptZ_0, ptZ_1, c32i, c64i, ncI, Int.natCast_add, Int.natCast_mul, q32_neg, q64_neg, q32_add, q32_sub, q32_mul, q64_add, q64_sub, q64_mul, q32_64i, q64_32, q32_lt_t, q32_lt_f, q32_le_t, q32_le_f, q32_eq_t, q32_eq_f, q64_lt_t, q64_lt_f, q64_le_t, q64_le_f, q64_eq_t, q64_eq_f, rdI_i, rdL_i, rdR_i, rdN_i, stI_i, stL_i, stR_i, wI_s, wI_n, wL_s, wL_n, wI_2, wI_3, wL_1, wL_3, wR_1, wR_2, Int.toNat_natCast, h.1, r2, r3]
  · rw [wI_s]; rfl
  · unfold upN
    by_cases e : k = d
    · subst e
      rw [if_pos rfl]
      simp (disch := omega) only [Option.bind_some, bindv, bindv0, bind2_s, bind3_s, ↓reduceIte, Bool.false_eq_true, rZM_0, rZM_1, rZP_0, rZP_1, ptZ_0, ptZ_1, c32i, c64i, ncI, Int.natCast_add, Int.natCast_mul, q32_neg, q64_neg, q32_add, q32_sub, q32_mul, q64_add, q64_sub, q64_mul, q32_64i, q64_32, q32_lt_t, q32_lt_f, q32_le_t, q32_le_f, q32_eq_t, q32_eq_f, q64_lt_t, q64_lt_f, q64_le_t, q64_le_f, q64_eq_t, q64_eq_f, rdI_i, rdL_i, rdR_i, rdN_i, stI_i, stL_i, stR_i, wI_s, wI_n, wL_s, wL_n, wI_2, wI_3, wL_1, wL_3, wR_1, wR_2, Int.toNat_natCast]
    · have hk2 : k < d := by omega
      rw [if_neg e]
      simp (disch := omega) only [Option.bind_some, bindv, bindv0, bind2_s, bind3_s, ↓reduceIte, Bool.false_eq_true, rZM_0, rZM_1, rZP_0, rZP_1, ptZ_0, ptZ_1, c32i, c64i, ncI, Int.natCast_add, Int.natCast_mul, q32_neg, q64_neg, q32_add, q32_sub, q32_mul, q64_add, q64_sub, q64_mul, q32_64i, q64_32, q32_lt_t, q32_lt_f, q32_le_t, q32_le_f, q32_eq_t, q32_eq_f, q64_lt_t, q64_lt_f, q64_le_t, q64_le_f, q64_eq_t, q64_eq_f, rdI_i, rdL_i, rdR_i, rdN_i, stI_i, stL_i, stR_i, wI_s, wI_n, wL_s, wL_n, wI_2, wI_3, wL_1, wL_3, wR_1, wR_2, Int.toNat_natCast, h.2 k hk2]
theorem joinR {F : Nat} (hF : 1000 ≤ F) {s : List Sh} {m : Mem} (hp : ∃ t, s = sB ++ t) (hr : RF m) {d md : Nat} (hd : d < 60) (hm : 2 ≤ md ∧ md ≤ 30) {P : Nat → Nat} (h : PR9 m (d + 2) P) (hx : P d < md) (hy : P (d + 1) < md) {c e : Int} (hc : (c = -3 ∧ e = 3000) ∨ (c = -4 ∧ e = 3001) ∨ (c = -5 ∧ e = 3002) ∨ (c = -6 ∧ e = 3003)) : ∃ m', K9 m m' ∧ match jm md e (P d) (P (d + 1)) with
    | none => n_X4_joinBy F s m 16 (q32 c) (q32 md) = some (q32 0, m')
    | some f => n_X4_joinBy F s m 16 (q32 c) (q32 md) = some (q32 1, m') ∧ PR9 m' (d + 1) (upN P d f) := by
  obtain ⟨h1, h2⟩ := h
  have r2 := rf16_2 hr
  have l17 := ln17 hp
  have x1 := h2 d (by omega)
  have y1 := h2 (d + 1) (by omega)
  have iv := inv9 hF hm hy
  have ib := IV_b (md := md) (y := P (d + 1)) hm.1
  generalize hX : P d = a at *
  generalize hY : P (d + 1) = b at *
  have ab : a * b ≤ 30 * 30 := Nat.mul_le_mul (by omega) (by omega)
  have q1 := rem_n (a := a + b) (b := md) (by omega) (by omega)
  have q2 := rem_n (a := a + md - b) (b := md) (by omega) (by omega)
  have q3 := rem_n (a := a * b) (b := md) (by omega) (by omega)
  rw [show ((a + md - b : Nat) : Int) = (a : Int) - b + md by omega] at q2
  rw [Int.natCast_mul] at q3
  rw [Int.natCast_add] at q1
  have e1 : ((d : Int) + 1 - 1).toNat = d := by omega
  have e2 : ((d : Int) + 1).toNat = d + 1 := by omega
  have e3 : q32 ((d : Int) + 2 - 1) = q32 (d + 1) := by congr 1; omega
  have e4 : (((d + 2 : Nat) : Int) - 1) = (d : Int) + 1 := by omega
  have ml : ∀ z, z % md < md := fun z => Nat.mod_lt _ (by omega)
  have fin : ∀ f : Nat, f < md → nb_X4_joinBy_135 F s (wI m 16 4 (q32 (d + 1))) 16 (q32 f) = some (q32 1, wL (wI m 16 4 (q32 (d + 1))) 17 d (q64 f)) ∧ PR9 (wL (wI m 16 4 (q32 (d + 1))) 17 d (q64 f)) (d + 1) (upN P d f) := fun f hf => by
    refine ⟨?_, ⟨by simp (disch := omega) only [Option.bind_some, bindv, bindv0, bind2_s, bind3_s, ↓reduceIte, Bool.false_eq_true, rZM_0, rZM_1, rZP_0, rZP_1, ptZ_0, ptZ_1, c32i, c64i, ncI, Int.natCast_add, Int.natCast_mul, q32_neg, q64_neg, q32_add, q32_sub, q32_mul, q64_add, q64_sub, q64_mul, q32_64i, q64_32, q32_lt_t, q32_lt_f, q32_le_t, q32_le_f, q32_eq_t, q32_eq_f, q64_lt_t, q64_lt_f, q64_le_t, q64_le_f, q64_eq_t, q64_eq_f, rdI_i, rdL_i, rdR_i, rdN_i, stI_i, stL_i, stR_i, wI_s, wI_n, wL_s, wL_n, wI_2, wI_3, wL_1, wL_3, wR_1, wR_2, Int.toNat_natCast], fun k hk => ?_⟩⟩
    · unfold nb_X4_joinBy_135
      simp (disch := omega) only [Option.bind_some, bindv, bindv0, bind2_s, bind3_s, ↓reduceIte, Bool.false_eq_true, rZM_0, rZM_1, rZP_0, rZP_1, ptZ_0, ptZ_1, c32i, c64i, ncI, Int.natCast_add, Int.natCast_mul, q32_neg, q64_neg, q32_add, q32_sub, q32_mul, q64_add, q64_sub, q64_mul, q32_64i, q64_32, q32_lt_t, q32_lt_f, q32_le_t, q32_le_f, q32_eq_t, q32_eq_f, q64_lt_t, q64_lt_f, q64_le_t, q64_le_f, q64_eq_t, q64_eq_f, rdI_i, rdL_i, rdR_i, rdN_i, stI_i, stL_i, stR_i, wI_s, wI_n, wL_s, wL_n, wI_2, wI_3, wL_1, wL_3, wR_1, wR_2, Int.toNat_natCast, tnO, tn_add, tn_sub, tn_mul, Nat.add_sub_cancel, Nat.add_zero, Nat.zero_add, lnO, win_t, win_f, r2, e1]
    · by_cases ek : k = d
      · subst ek
        rw [upN_s, wL_s]
      · rw [upN_n ek, wL_n (by omega)]
        exact h2 k (by omega)
  have kM : ∀ f : Nat, K9 m (wL (wI m 16 4 (q32 (d + 1))) 17 d (q64 f)) := fun f => (K9.rf m).I.L (Or.inl rfl)
  have pre : ∀ v : Int32, n_X4_joinBy F s m 16 v (q32 md) = swN v (-5) [nb_X4_joinBy_135 F s (wI m 16 4 (q32 (d + 1))) 16 (q32 ((a * b % md : Nat) : Int)), nb_X4_joinBy_135 F s (wI m 16 4 (q32 (d + 1))) 16 (q32 (((a + md - b) % md : Nat) : Int)), nb_X4_joinBy_135 F s (wI m 16 4 (q32 (d + 1))) 16 (q32 (((a + b) % md : Nat) : Int))] (if q32 (IV md b) = q32 (-1) then some (q32 0, wI m 16 4 (q32 (d + 1))) else bindv (remI (q32 a * q32 (IV md b)) (q32 md)) fun x12 => nb_X4_joinBy_135 F s (wI m 16 4 (q32 (d + 1))) 16 x12) := by
    intro v
    unfold n_X4_joinBy nb_X4_joinBy_0
    generalize a * b % md = z1 at *
    generalize (a + md - b) % md = z2 at *
    generalize (a + b) % md = z3 at *
    simp (disch := omega) only [Option.bind_some, bindv, bindv0, bind2_s, bind3_s, ↓reduceIte, Bool.false_eq_true, rZM_0, rZM_1, rZP_0, rZP_1, ptZ_0, ptZ_1, c32i, c64i, ncI, Int.natCast_add, Int.natCast_mul, q32_neg, q64_neg, q32_add, q32_sub, q32_mul, q64_add, q64_sub, q64_mul, q32_64i, q64_32, q32_lt_t, q32_lt_f, q32_le_t, q32_le_f, q32_eq_t, q32_eq_f, q64_lt_t, q64_lt_f, q64_le_t, q64_le_f, q64_eq_t, q64_eq_f, rdI_i, rdL_i, rdR_i, rdN_i, stI_i, stL_i, stR_i, wI_s, wI_n, wL_s, wL_n, wI_2, wI_3, wL_1, wL_3, wR_1, wR_2, Int.toNat_natCast, tnO, tn_add, tn_sub, tn_mul, Nat.add_sub_cancel, Nat.add_zero, Nat.zero_add, lnO, win_t, win_f, h1, r2, e1, e2, e3, x1, y1, q1, q2, q3, iv]
  rcases hc with ⟨rfl, rfl⟩ | ⟨rfl, rfl⟩ | ⟨rfl, rfl⟩ | ⟨rfl, rfl⟩
  · obtain ⟨f1, f2⟩ := fin _ (ml (a + b))
    refine ⟨_, kM ((a + b) % md), ?_⟩
    rw [show jm md 3000 a b = some ((a + b) % md) from rfl, pre]
    exact ⟨f1, f2⟩
  · obtain ⟨f1, f2⟩ := fin _ (ml (a + md - b))
    refine ⟨_, kM ((a + md - b) % md), ?_⟩
    rw [show jm md 3001 a b = some ((a + md - b) % md) from rfl, pre]
    exact ⟨f1, f2⟩
  · obtain ⟨f1, f2⟩ := fin _ (ml (a * b))
    refine ⟨_, kM ((a * b) % md), ?_⟩
    rw [show jm md 3002 a b = some (a * b % md) from rfl, pre]
    exact ⟨f1, f2⟩
  · rw [show jm md 3003 a b = if IV md b = -1 then none else some (a * (IV md b).toNat % md) from rfl]
    by_cases h0 : IV md b = -1
    · rw [if_pos h0]
      refine ⟨wI m 16 4 (q32 (d + 1)), (K9.rf m).I, ?_⟩
      show n_X4_joinBy F s m 16 (q32 (-6)) (q32 md) = some (q32 0, _)
      rw [pre, h0]
      rfl
    · rw [if_neg h0]
      obtain ⟨v, hv⟩ := Int.eq_ofNat_of_zero_le (show 0 ≤ IV md b by omega)
      have av : a * v ≤ 30 * 30 := Nat.mul_le_mul (by omega) (by omega)
      have q4 := rem_n (a := a * v) (b := md) (by omega) (by omega)
      rw [Int.natCast_mul] at q4
      obtain ⟨f1, f2⟩ := fin _ (ml (a * v))
      refine ⟨_, kM ((a * v) % md), ?_⟩
      rw [hv, show ((v : Int)).toNat = v from rfl]
      refine ⟨?_, f2⟩
      rw [pre, hv]
      refine Eq.trans ?_ f1
      show (if q32 (v : Int) = q32 (-1) then _ else _) = _
      simp (disch := omega) only [Option.bind_some, bindv, bindv0, bind2_s, bind3_s, ↓reduceIte, Bool.false_eq_true, rZM_0, rZM_1, rZP_0, rZP_1, ptZ_0, ptZ_1, c32i, c64i, ncI, Int.natCast_add, Int.natCast_mul, q32_neg, q64_neg, q32_add, q32_sub, q32_mul, q64_add, q64_sub, q64_mul, q32_64i, q64_32, q32_lt_t, q32_lt_f, q32_le_t, q32_le_f, q32_eq_t, q32_eq_f, q64_lt_t, q64_lt_f, q64_le_t, q64_le_f, q64_eq_t, q64_eq_f, rdI_i, rdL_i, rdR_i, rdN_i, stI_i, stL_i, stR_i, wI_s, wI_n, wL_s, wL_n, wI_2, wI_3, wL_1, wL_3, wR_1, wR_2, Int.toNat_natCast, tnO, tn_add, tn_sub, tn_mul, Nat.add_sub_cancel, Nat.add_zero, Nat.zero_add, lnO, win_t, win_f, q4]
theorem ledL9 {F : Nat} (hF : 1000 ≤ F) {s : List Sh} (hp : ∃ t, s = sB ++ t) {nw : Nat} (hn : nw = 2 ∨ 53 ≤ nw) (hl2 : ln s (nw + 2) = 900) {al cd : Nat → Int32} {tp e md x : Nat} (htp : 1 ≤ tp ∧ tp ≤ 9) (ha1 : al 1 = q32 tp) (he : e ≤ 900) (hm : 2 ≤ md ∧ md ≤ 30) (hx : x < md) : ∀ (n fuel : Nat), n < fuel → ∀ (m : Mem) (i d : Nat) (P : Nat → Nat), C9 s m nw al cd e → PR9 m d P → (∀ k, k < d → P k < md) → d ≤ 60 → WFC cd n i d → i + n = e → ∃ m', nl_X4_remainderLed_43 F s fuel m 16 nw (q32 x) (q32 md) (q32 e) (q32 i) = some (q32 (RQ (RLF al md x n i d P)), m') ∧ K9 m m' ∧ ∀ y, RLF al md x n i d P = some y → y < md := by
  have l17 := ln17 hp
  have hA1 : A al 1 = tp := A_q ha1 (by omega)
  have ml : ∀ z, z % md < md := fun z => Nat.mod_lt _ (by omega)
  intro n
  induction n with
  | zero =>
    intro fuel hfu m i d P hc hP hO hd60 hW hie
    obtain ⟨fuel, rfl⟩ : ∃ f, fuel = f + 1 := ⟨fuel - 1, by omega⟩
    have hd : d = 1 := hW
    subst hd
    have r2 := rf16_2 hc.1
    obtain ⟨h1, h2⟩ := hP
    have u1 := h2 0 (by omega)
    have hO0 := hO 0 (by omega)
    refine ⟨m, ?_, K9.rf m, fun y hy => by cases hy; exact hO0⟩
    show nb_X4_remainderLed_43 F s (nl_X4_remainderLed_43 F s fuel) m 16 _ _ _ _ _ = _
    unfold nb_X4_remainderLed_43 RLF RQ
    simp (disch := omega) only [Option.bind_some, bindv, bindv0, bind2_s, bind3_s, ↓reduceIte, Bool.false_eq_true, rZM_0, rZM_1, rZP_0, rZP_1, ptZ_0, ptZ_1, c32i, c64i, ncI, Int.natCast_add, Int.natCast_mul, q32_neg, q64_neg, q32_add, q32_sub, q32_mul, q64_add, q64_sub, q64_mul, q32_64i, q64_32, q32_lt_t, q32_lt_f, q32_le_t, q32_le_f, q32_eq_t, q32_eq_f, q64_lt_t, q64_lt_f, q64_le_t, q64_le_f, q64_eq_t, q64_eq_f, rdI_i, rdL_i, rdR_i, rdN_i, stI_i, stL_i, stR_i, wI_s, wI_n, wL_s, wL_n, wI_2, wI_3, wL_1, wL_3, wR_1, wR_2, Int.toNat_natCast, tnO, tn_add, tn_sub, tn_mul, Nat.add_sub_cancel, Nat.add_zero, Nat.zero_add, lnO, win_t, win_f, h1, r2, u1]
  | succ n ih =>
    intro fuel hfu m i d P hc hP hO hd60 hW hie
    obtain ⟨fuel, rfl⟩ : ∃ f, fuel = f + 1 := ⟨fuel - 1, by omega⟩
    obtain ⟨hcd, hct⟩ := hc.2.2.2 i (by omega)
    have r8 := hc.2.1
    have push : ∀ y : Nat, y < md → d < 60 → WFC cd n (i + 1) (d + 1) → ∃ m1, n_X4_pile s m 16 (q64 y) (q64 1) = some ((), m1) ∧ ∃ m', nl_X4_remainderLed_43 F s fuel m1 16 nw (q32 x) (q32 md) (q32 e) (q32 (i + 1)) = some (q32 (RQ (RLF al md x n (i + 1) (d + 1) (upN P d y))), m') ∧ K9 m m' ∧ ∀ z, RLF al md x n (i + 1) (d + 1) (upN P d y) = some z → z < md := fun y hy hd hw => by
      obtain ⟨m1, p1, p2, p3⟩ := pileR hp hc.1 hd hP y
      obtain ⟨m', q1, q2, q3⟩ := ih fuel (by omega) m1 (i + 1) (d + 1) (upN P d y) (hc.k p3 hn) p2 (fun k hk => by
        by_cases ek : k = d
        · subst ek; rw [upN_s]; exact hy
        · rw [upN_n ek]; exact hO k (by omega)) (by omega) hw (by omega)
      exact ⟨m1, p1, m', q1, p3.tr q2, q3⟩
    have ei : ((i : Int)).toNat = i := by omega
    rcases hct with ⟨v, hv, hc1, hc2⟩ | ⟨hc1, hc2⟩ | ⟨hc1, hc2⟩ | hcj
    · have hA : A al (99 + i) = v := A_q hc2 (by omega)
      have hW' : d < 60 ∧ WFC cd n (i + 1) (d + 1) := by
        unfold WFC at hW
        rwa [if_pos (by rw [hc1, q32_toInt (by omega)]; omega)] at hW
      obtain ⟨m1, p1, m', q1, q2, q3⟩ := push (v % md) (ml v) hW'.1 hW'.2
      have rm := rem_n (a := v) (b := md) (by omega) (by omega)
      unfold RLF
      rw [hA, if_pos (by omega), show ((v : Int)).toNat = v from rfl]
      refine ⟨m', ?_, q2, q3⟩
      show nb_X4_remainderLed_43 F s (nl_X4_remainderLed_43 F s fuel) m 16 _ _ _ _ _ = _
      unfold nb_X4_remainderLed_43 nb_X4_remainderLed_130
      have := ml v
      generalize v % md = z at *
      simp (disch := omega) only [Option.bind_some, bindv, bindv0, bind2_s, bind3_s, ↓reduceIte, Bool.false_eq_true, rZM_0, rZM_1, rZP_0, rZP_1, ptZ_0, ptZ_1, c32i, c64i, ncI, Int.natCast_add, Int.natCast_mul, q32_neg, q64_neg, q32_add, q32_sub, q32_mul, q64_add, q64_sub, q64_mul, q32_64i, q64_32, q32_lt_t, q32_lt_f, q32_le_t, q32_le_f, q32_eq_t, q32_eq_f, q64_lt_t, q64_lt_f, q64_le_t, q64_le_f, q64_eq_t, q64_eq_f, rdI_i, rdL_i, rdR_i, rdN_i, stI_i, stL_i, stR_i, wI_s, wI_n, wL_s, wL_n, wI_2, wI_3, wL_1, wL_3, wR_1, wR_2, Int.toNat_natCast, r8, hcd, hc1, rm, p1, q1]
    · have hA : A al (99 + i) = 1000 := A_q hc2 (by omega)
      have hW' : d < 60 ∧ WFC cd n (i + 1) (d + 1) := by
        unfold WFC at hW
        rwa [if_pos (by rw [hc1, q32_toInt (by omega)]; omega)] at hW
      obtain ⟨m1, p1, m', q1, q2, q3⟩ := push x hx hW'.1 hW'.2
      unfold RLF
      rw [hA, if_neg (by omega), if_pos rfl]
      refine ⟨m', ?_, q2, q3⟩
      show nb_X4_remainderLed_43 F s (nl_X4_remainderLed_43 F s fuel) m 16 _ _ _ _ _ = _
      unfold nb_X4_remainderLed_43 nb_X4_remainderLed_130
      simp (disch := omega) only [Option.bind_some, bindv, bindv0, bind2_s, bind3_s, ↓reduceIte, Bool.false_eq_true, rZM_0, rZM_1, rZP_0, rZP_1, ptZ_0, ptZ_1, c32i, c64i, ncI, Int.natCast_add, Int.natCast_mul, q32_neg, q64_neg, q32_add, q32_sub, q32_mul, q64_add, q64_sub, q64_mul, q32_64i, q64_32, q32_lt_t, q32_lt_f, q32_le_t, q32_le_f, q32_eq_t, q32_eq_f, q64_lt_t, q64_lt_f, q64_le_t, q64_le_f, q64_eq_t, q64_eq_f, rdI_i, rdL_i, rdR_i, rdN_i, stI_i, stL_i, stR_i, wI_s, wI_n, wL_s, wL_n, wI_2, wI_3, wL_1, wL_3, wR_1, wR_2, Int.toNat_natCast, r8, hcd, hc1, p1, q1]
    · have hA : A al (99 + i) = 1001 := A_q hc2 (by omega)
      have hW' : d < 60 ∧ WFC cd n (i + 1) (d + 1) := by
        unfold WFC at hW
        rwa [if_pos (by rw [hc1, q32_toInt (by omega)]; omega)] at hW
      obtain ⟨m1, p1, m', q1, q2, q3⟩ := push (tp % md) (ml tp) hW'.1 hW'.2
      have rm := rem_n (a := tp) (b := md) (by omega) (by omega)
      unfold RLF
      rw [hA, if_neg (by omega), if_neg (by omega), if_pos rfl, hA1, show ((tp : Int)).toNat = tp from rfl]
      refine ⟨m', ?_, q2, q3⟩
      have h0 : m.1 nw 0 = q32 tp := by rw [hc.2.2.1]; exact ha1
      show nb_X4_remainderLed_43 F s (nl_X4_remainderLed_43 F s fuel) m 16 _ _ _ _ _ = _
      unfold nb_X4_remainderLed_43 nb_X4_remainderLed_130
      have := ml tp
      generalize tp % md = z at *
      simp (disch := omega) only [Option.bind_some, bindv, bindv0, bind2_s, bind3_s, ↓reduceIte, Bool.false_eq_true, rZM_0, rZM_1, rZP_0, rZP_1, ptZ_0, ptZ_1, c32i, c64i, ncI, Int.natCast_add, Int.natCast_mul, q32_neg, q64_neg, q32_add, q32_sub, q32_mul, q64_add, q64_sub, q64_mul, q32_64i, q64_32, q32_lt_t, q32_lt_f, q32_le_t, q32_le_f, q32_eq_t, q32_eq_f, q64_lt_t, q64_lt_f, q64_le_t, q64_le_f, q64_eq_t, q64_eq_f, rdI_i, rdL_i, rdR_i, rdN_i, stI_i, stL_i, stR_i, wI_s, wI_n, wL_s, wL_n, wI_2, wI_3, wL_1, wL_3, wR_1, wR_2, Int.toNat_natCast, r8, hcd, hc1, h0, rm, p1, q1]
    · obtain ⟨c, e', hce, hc1, hc2⟩ : ∃ c e' : Int, ((c = -3 ∧ e' = 3000) ∨ (c = -4 ∧ e' = 3001) ∨ (c = -5 ∧ e' = 3002) ∨ (c = -6 ∧ e' = 3003)) ∧ cd i = q32 c ∧ al (99 + i) = q32 e' := by
        rcases hcj with h | h | h | h
        · exact ⟨-3, 3000, by omega, h.1, h.2⟩
        · exact ⟨-4, 3001, by omega, h.1, h.2⟩
        · exact ⟨-5, 3002, by omega, h.1, h.2⟩
        · exact ⟨-6, 3003, by omega, h.1, h.2⟩
      have hA : A al (99 + i) = e' := A_q hc2 (by omega)
      have hW' : 2 ≤ d ∧ WFC cd n (i + 1) (d - 1) := by
        unfold WFC at hW
        rwa [if_neg (by rw [hc1, q32_toInt (by omega)]; omega)] at hW
      obtain ⟨d, rfl⟩ : ∃ d', d = d' + 2 := ⟨d - 2, by omega⟩
      have hX := hO d (by omega)
      have hY := hO (d + 1) (by omega)
      obtain ⟨m1, k1, hmm⟩ := joinR hF hp hc.1 (by omega) hm hP hX hY hce
      have h37 : nl_X4_remainderLed_43 F s (fuel + 1) m 16 nw (q32 x) (q32 md) (q32 e) (q32 i) = bind2 (n_X4_joinBy F s m 16 (q32 c) (q32 md)) fun x5 m6 => (if x5 = 0 then (some ((-1 : Int32), m6)) else (nb_X4_remainderLed_130 F s (nl_X4_remainderLed_43 F s fuel) m6 16 nw (q32 x) (q32 md) (q32 e) (q32 i))) := by
        show nb_X4_remainderLed_43 F s (nl_X4_remainderLed_43 F s fuel) m 16 _ _ _ _ _ = _
        unfold nb_X4_remainderLed_43
        simp (disch := omega) only [Option.bind_some, bindv, bindv0, bind2_s, bind3_s, ↓reduceIte, Bool.false_eq_true, rZM_0, rZM_1, rZP_0, rZP_1, ptZ_0, ptZ_1, c32i, c64i, ncI, Int.natCast_add, Int.natCast_mul, q32_neg, q64_neg, q32_add, q32_sub, q32_mul, q64_add, q64_sub, q64_mul, q32_64i, q64_32, q32_lt_t, q32_lt_f, q32_le_t, q32_le_f, q32_eq_t, q32_eq_f, q64_lt_t, q64_lt_f, q64_le_t, q64_le_f, q64_eq_t, q64_eq_f, rdI_i, rdL_i, rdR_i, rdN_i, stI_i, stL_i, stR_i, wI_s, wI_n, wL_s, wL_n, wI_2, wI_3, wL_1, wL_3, wR_1, wR_2, Int.toNat_natCast, r8, hcd, hc1]
      rw [h37]
      unfold RLF
      rw [hA, if_neg (by omega), if_neg (by omega), if_neg (by omega), show d + 2 - 2 = d from rfl, show d + 2 - 1 = d + 1 from rfl]
      cases hj : jm md e' (P d) (P (d + 1)) with
      | none =>
        rw [hj] at hmm
        dsimp only at hmm ⊢
        refine ⟨m1, ?_, k1, fun y hy => by cases hy⟩
        unfold RQ
        simp (disch := omega) only [Option.bind_some, bindv, bindv0, bind2_s, bind3_s, ↓reduceIte, Bool.false_eq_true, rZM_0, rZM_1, rZP_0, rZP_1, ptZ_0, ptZ_1, c32i, c64i, ncI, Int.natCast_add, Int.natCast_mul, q32_neg, q64_neg, q32_add, q32_sub, q32_mul, q64_add, q64_sub, q64_mul, q32_64i, q64_32, q32_lt_t, q32_lt_f, q32_le_t, q32_le_f, q32_eq_t, q32_eq_f, q64_lt_t, q64_lt_f, q64_le_t, q64_le_f, q64_eq_t, q64_eq_f, rdI_i, rdL_i, rdR_i, rdN_i, stI_i, stL_i, stR_i, wI_s, wI_n, wL_s, wL_n, wI_2, wI_3, wL_1, wL_3, wR_1, wR_2, Int.toNat_natCast, hmm]
      | some f =>
        rw [hj] at hmm
        dsimp only at hmm ⊢
        obtain ⟨hm1, hm2⟩ := hmm
        have hf := jm_b hm.1 hj
        obtain ⟨m', q1, q2, q3⟩ := ih fuel (by omega) m1 (i + 1) (d + 1) (upN P d f) (hc.k k1 hn) hm2 (fun k hk => by
          by_cases ek : k = d
          · subst ek; rw [upN_s]; exact hf
          · rw [upN_n ek]; exact hO k (by omega)) (by omega) hW'.2 (by omega)
        refine ⟨m', ?_, k1.tr q2, q3⟩
        unfold nb_X4_remainderLed_130
        rw [Int.natCast_add] at q1
        simp (disch := omega) only [Option.bind_some, bindv, bindv0, bind2_s, bind3_s, ↓reduceIte, Bool.false_eq_true, rZM_0, rZM_1, rZP_0, rZP_1, ptZ_0, ptZ_1, c32i, c64i, ncI, Int.natCast_add, Int.natCast_mul, q32_neg, q64_neg, q32_add, q32_sub, q32_mul, q64_add, q64_sub, q64_mul, q32_64i, q64_32, q32_lt_t, q32_lt_f, q32_le_t, q32_le_f, q32_eq_t, q32_eq_f, q64_lt_t, q64_lt_f, q64_le_t, q64_le_f, q64_eq_t, q64_eq_f, rdI_i, rdL_i, rdR_i, rdN_i, stI_i, stL_i, stR_i, wI_s, wI_n, wL_s, wL_n, wI_2, wI_3, wL_1, wL_3, wR_1, wR_2, Int.toNat_natCast, hm1, q1]
        exact q1
theorem led9 {F : Nat} (hF : 1000 ≤ F) {s : List Sh} {m : Mem} {ow : Nat → Nat} {nw : Nat} (hl : LAY s m ow nw) {al : Nat → Int32} (hrel : HREL m nw al) {md x : Nat} (hm : 2 ≤ md ∧ md ≤ 30) (hx : x < md) {b : Nat} (hb : (b : Int) < A al 2) : ∃ m', n_X4_remainderLed F s m 16 nw (q32 b) (q32 x) (q32 md) = some (q32 (RQ (RLB al md b x)), m') ∧ K9 m m' ∧ ∀ y, RLB al md b x = some y → y < md := by
  have hp := hl.1
  have hr := hl.2.1
  obtain ⟨hn, -, ⟨r7, r8, -⟩, l1, l2, -⟩ := hl.2.2.2.1
  obtain ⟨tp, sk, nl, bc, fc, tc, au, aw, S, U, L, V, W, X, O, h1, h2, h3, h4, ⟨s1, s2, s3, s4, s5, s6, s7⟩, -⟩ := hrel
  have hA2 : A al 2 = bc := A_q h3.2.2.1 (by omega)
  have hbc := h2.2.2.2.2.2.1
  rw [hA2] at hb
  have hk : b < bc := by omega
  have m1 := S_mono s2 (bc - (b + 1)) (b + 1) (by omega)
  rw [show b + 1 + (bc - (b + 1)) = bc by omega] at m1
  have m0 := s2 b hk
  unfold RLB
  rw [A_q (s5 b hk).1 (by omega), A_q (s5 b hk).2 (by omega), show ((S b : Int)).toNat = S b from rfl, show (((S (b + 1) - S b : Nat) : Int)).toNat = S (b + 1) - S b from rfl]
  have t1 := s4 b (by omega) (by omega)
  have t2 := s4 (b + 1) (by omega) (by omega)
  have hC : C9 s (wI m 16 4 (q32 0)) nw al (m.1 (nw + 2)) (S (b + 1)) := ⟨hr.same rfl, r8, by rw [wI_n (by omega), h2.1, h3.2.1], fun i hi => ⟨by rw [wI_n (by omega)], s6 i (by omega)⟩⟩
  obtain ⟨m', q1, q2, q3⟩ := ledL9 (F := F) hF hp hn l2 (tp := tp) (by omega) h3.2.1 (by omega) hm hx (S (b + 1) - S b) F (by omega) (wI m 16 4 (q32 0)) (S b) 0 (fun _ => 0) hC ⟨by rw [wI_s]; rfl, fun k hk => absurd hk (by omega)⟩ (fun k hk => absurd hk (by omega)) (by omega) (s7 b hk) (by omega)
  refine ⟨m', ?_, (K9.rf m).I.tr q2, q3⟩
  have e1 : ((b : Int) + 1).toNat = b + 1 := by omega
  have e2 : ((b : Int)).toNat = b := by omega
  unfold n_X4_remainderLed nb_X4_remainderLed_0
  simp (disch := omega) only [Option.bind_some, bindv, bindv0, bind2_s, bind3_s, ↓reduceIte, Bool.false_eq_true, rZM_0, rZM_1, rZP_0, rZP_1, ptZ_0, ptZ_1, c32i, c64i, ncI, Int.natCast_add, Int.natCast_mul, q32_neg, q64_neg, q32_add, q32_sub, q32_mul, q64_add, q64_sub, q64_mul, q32_64i, q64_32, q32_lt_t, q32_lt_f, q32_le_t, q32_le_f, q32_eq_t, q32_eq_f, q64_lt_t, q64_lt_f, q64_le_t, q64_le_f, q64_eq_t, q64_eq_f, rdI_i, rdL_i, rdR_i, rdN_i, stI_i, stL_i, stR_i, wI_s, wI_n, wL_s, wL_n, wI_2, wI_3, wL_1, wL_3, wR_1, wR_2, Int.toNat_natCast, hbc, r7, l1, e1, e2, t1, t2, q1]
/-! the reference -/
def KgS (m m' : Mem) : Prop := (∀ a k, a ≠ 39 → m'.1 a k = m.1 a k) ∧ m'.2 = m.2
theorem KgS.rf (m : Mem) : KgS m m := ⟨fun _ _ _ => rfl, rfl⟩
theorem KgS.tr {m m1 m2 : Mem} (h : KgS m m1) (h2 : KgS m1 m2) : KgS m m2 := ⟨fun a k p => (h2.1 a k p).trans (h.1 a k p), h2.2.trans h.2⟩
theorem KgS.I {m m1 : Mem} {k : Nat} {x : Int32} (h : KgS m m1) : KgS m (wI m1 39 k x) := ⟨fun a j p => by rw [wI_n (Or.inl p)]; exact h.1 a j p, h.2⟩
theorem KgS.sc {m m' : Mem} (h : KgS m m') : SC m m' := SC.of (fun a k => by
  by_cases c : a = 39
  · omega
  · exact Or.inr (Or.inr (Or.inr (h.1 a k c)))) (fun a k => Or.inr (Or.inr (by rw [h.2]))) (by rw [h.2])
theorem C10.kgs {m m' : Mem} {al : Nat → Int32} (h : C10 m al) (k : KgS m m') : C10 m' al := ⟨h.1.same (by rw [k.2]), fun i hi => by rw [k.1 _ _ (by omega)]; exact h.2 i hi⟩
def PR10 (m : Mem) (d : Nat) (P : Nat → Nat) : Prop := ∀ k, k < d → m.1 39 k = q32 (P k)
theorem PR10.up {m : Mem} {d : Nat} {P : Nat → Nat} (h : PR10 m d P) (y : Nat) : PR10 (wI m 39 d (q32 y)) (d + 1) (upN P d y) := fun k hk => by
  by_cases e : k = d
  · subst e; rw [wI_s, upN_s]
  · rw [wI_n (by omega), upN_n e]; exact h k (by omega)
theorem j147 {F : Nat} {s : List Sh} (hp : ∃ t, s = sB ++ t) {m : Mem} (hr : RF m) {d md f : Nat} (hd : d < 60) (hm : 2 ≤ md ∧ md ≤ 30) {self : Mem → Nat → Int32 → Int32 → Int32 → Int32 → Int32 → Option (Int32 × Mem)} {vb vx v5 v7 v8 : Int32} {e : Int} (he : (e = 3000 ∧ remI (v7 + v8) (q32 md) = q32 f) ∨ (e = 3001 ∧ remI (v7 - v8 + q32 md) (q32 md) = q32 f) ∨ ((e = 3002 ∨ e = 3003) ∧ remI (v7 * v8) (q32 md) = q32 f)) : nb_X10_leadsRest_147 F s self m 23 vb vx (q32 md) (q32 ((d : Int) + 1)) v5 (q32 e) v7 v8 = self (wI m 39 d (q32 f)) 23 vb vx (q32 md) (q32 ((d : Int) + 1)) (v5 + 1) := by
  have l39 := ln39 hp
  have r36 := rf23_36 hr
  have d4 : (((d : Int) + 1 - 1)).toNat = d := by omega
  unfold nb_X10_leadsRest_147 nb_X10_leadsRest_200 nb_X10_leadsRest_201
  rcases he with ⟨rfl, h⟩ | ⟨rfl, h⟩ | ⟨rfl | rfl, h⟩
  · rw [h]; simp (disch := omega) only [Option.bind_some, bindv, bindv0, bind2_s, bind3_s, ↓reduceIte, Bool.false_eq_true, rZM_0, rZM_1, rZP_0, rZP_1, ptZ_0, ptZ_1, c32i, c64i, ncI, Int.natCast_add, Int.natCast_mul, q32_neg, q64_neg, q32_add, q32_sub, q32_mul, q64_add, q64_sub, q64_mul, q32_64i, q64_32, q32_lt_t, q32_lt_f, q32_le_t, q32_le_f, q32_eq_t, q32_eq_f, q64_lt_t, q64_lt_f, q64_le_t, q64_le_f, q64_eq_t, q64_eq_f, rdI_i, rdL_i, rdR_i, rdN_i, stI_i, stL_i, stR_i, wI_s, wI_n, wL_s, wL_n, wI_2, wI_3, wL_1, wL_3, wR_1, wR_2, Int.toNat_natCast, r36, d4]
  · rw [h]; simp (disch := omega) only [Option.bind_some, bindv, bindv0, bind2_s, bind3_s, ↓reduceIte, Bool.false_eq_true, rZM_0, rZM_1, rZP_0, rZP_1, ptZ_0, ptZ_1, c32i, c64i, ncI, Int.natCast_add, Int.natCast_mul, q32_neg, q64_neg, q32_add, q32_sub, q32_mul, q64_add, q64_sub, q64_mul, q32_64i, q64_32, q32_lt_t, q32_lt_f, q32_le_t, q32_le_f, q32_eq_t, q32_eq_f, q64_lt_t, q64_lt_f, q64_le_t, q64_le_f, q64_eq_t, q64_eq_f, rdI_i, rdL_i, rdR_i, rdN_i, stI_i, stL_i, stR_i, wI_s, wI_n, wL_s, wL_n, wI_2, wI_3, wL_1, wL_3, wR_1, wR_2, Int.toNat_natCast, r36, d4]
  · rw [h]; simp (disch := omega) only [Option.bind_some, bindv, bindv0, bind2_s, bind3_s, ↓reduceIte, Bool.false_eq_true, rZM_0, rZM_1, rZP_0, rZP_1, ptZ_0, ptZ_1, c32i, c64i, ncI, Int.natCast_add, Int.natCast_mul, q32_neg, q64_neg, q32_add, q32_sub, q32_mul, q64_add, q64_sub, q64_mul, q32_64i, q64_32, q32_lt_t, q32_lt_f, q32_le_t, q32_le_f, q32_eq_t, q32_eq_f, q64_lt_t, q64_lt_f, q64_le_t, q64_le_f, q64_eq_t, q64_eq_f, rdI_i, rdL_i, rdR_i, rdN_i, stI_i, stL_i, stR_i, wI_s, wI_n, wL_s, wL_n, wI_2, wI_3, wL_1, wL_3, wR_1, wR_2, Int.toNat_natCast, r36, d4]
  · rw [h]; simp (disch := omega) only [Option.bind_some, bindv, bindv0, bind2_s, bind3_s, ↓reduceIte, Bool.false_eq_true, rZM_0, rZM_1, rZP_0, rZP_1, ptZ_0, ptZ_1, c32i, c64i, ncI, Int.natCast_add, Int.natCast_mul, q32_neg, q64_neg, q32_add, q32_sub, q32_mul, q64_add, q64_sub, q64_mul, q32_64i, q64_32, q32_lt_t, q32_lt_f, q32_le_t, q32_le_f, q32_eq_t, q32_eq_f, q64_lt_t, q64_lt_f, q64_le_t, q64_le_f, q64_eq_t, q64_eq_f, rdI_i, rdL_i, rdR_i, rdN_i, stI_i, stL_i, stR_i, wI_s, wI_n, wL_s, wL_n, wI_2, wI_3, wL_1, wL_3, wR_1, wR_2, Int.toNat_natCast, r36, d4]
theorem j6 {F : Nat} {s : List Sh} (hp : ∃ t, s = sB ++ t) {m : Mem} (hr : RF m) {b i i0 d e : Nat} {e' : Int} (hb : b < 6) (hd : d < 60) (hi : i0 ≤ i ∧ i < e ∧ e ≤ 900) (c67 : m.1 24 (67 + b) = q32 ((e - i0 : Nat) : Int)) (c61 : m.1 24 (61 + b) = q32 i0) (cv : m.1 24 (99 + i) = q32 e') (he : 3000 ≤ e' ∧ e' ≤ 3003) {self : Mem → Nat → Int32 → Int32 → Int32 → Int32 → Int32 → Option (Int32 × Mem)} {vx v3 a y : Int32} (x1 : m.1 39 d = a) (y1 : m.1 39 (d + 1) = y) : nb_X10_leadsRest_6 F s self m 23 (q32 b) vx v3 (q32 ((d + 2 : Nat) : Int)) (q32 (i - i0)) = if e' = 3003 then ((m_X10_inverse F y v3).bind fun x14 => (if x14 = (-1 : Int32) then (some ((-1 : Int32), m)) else (nb_X10_leadsRest_147 F s self m 23 (q32 b) vx v3 (q32 ((d : Int) + 1)) (q32 (i - i0)) (q32 e') a x14))) else nb_X10_leadsRest_147 F s self m 23 (q32 b) vx v3 (q32 ((d : Int) + 1)) (q32 (i - i0)) (q32 e') a y := by
  have l39 := ln39 hp
  have l24 := ln24 hp
  have r1 := rf23_1 hr
  have r36 := rf23_36 hr
  have e67 : (67 + (b : Int)).toNat = 67 + b := by omega
  have e61 : (61 + (b : Int)).toNat = 61 + b := by omega
  have e99 : (99 + (i0 : Int) + (i - i0)).toNat = 99 + i := by omega
  have d1 : (((d : Int) + 1)).toNat = d + 1 := by omega
  have d3 : q32 ((d : Int) + 2 + -1) = q32 (d + 1) := by congr 1; omega
  have d4 : (((d : Int) + 1 - 1)).toNat = d := by omega
  unfold nb_X10_leadsRest_6
  by_cases c : e' = 3003
  · rw [if_pos c]
    simp (disch := omega) only [Option.bind_some, bindv, bindv0, bind2_s, bind3_s, ↓reduceIte, Bool.false_eq_true, rZM_0, rZM_1, rZP_0, rZP_1, ptZ_0, ptZ_1, c32i, c64i, ncI, Int.natCast_add, Int.natCast_mul, q32_neg, q64_neg, q32_add, q32_sub, q32_mul, q64_add, q64_sub, q64_mul, q32_64i, q64_32, q32_lt_t, q32_lt_f, q32_le_t, q32_le_f, q32_eq_t, q32_eq_f, q64_lt_t, q64_lt_f, q64_le_t, q64_le_f, q64_eq_t, q64_eq_f, rdI_i, rdL_i, rdR_i, rdN_i, stI_i, stL_i, stR_i, wI_s, wI_n, wL_s, wL_n, wI_2, wI_3, wL_1, wL_3, wR_1, wR_2, Int.toNat_natCast, r1, r36, e67, e61, e99, c67, c61, cv, d1, d3, d4, x1, y1]
  · rw [if_neg c]
    simp (disch := omega) only [Option.bind_some, bindv, bindv0, bind2_s, bind3_s, ↓reduceIte, Bool.false_eq_true, rZM_0, rZM_1, rZP_0, rZP_1, ptZ_0, ptZ_1, c32i, c64i, ncI, Int.natCast_add, Int.natCast_mul, q32_neg, q64_neg, q32_add, q32_sub, q32_mul, q64_add, q64_sub, q64_mul, q32_64i, q64_32, q32_lt_t, q32_lt_f, q32_le_t, q32_le_f, q32_eq_t, q32_eq_f, q64_lt_t, q64_lt_f, q64_le_t, q64_le_f, q64_eq_t, q64_eq_f, rdI_i, rdL_i, rdR_i, rdN_i, stI_i, stL_i, stR_i, wI_s, wI_n, wL_s, wL_n, wI_2, wI_3, wL_1, wL_3, wR_1, wR_2, Int.toNat_natCast, r1, r36, e67, e61, e99, c67, c61, cv, d1, d3, d4, x1, y1]
theorem ledL10 {F : Nat} (hF : 1000 ≤ F) {s : List Sh} (hp : ∃ t, s = sB ++ t) {al cd : Nat → Int32} {tp e b i0 md x : Nat} (htp : 1 ≤ tp ∧ tp ≤ 9) (ha1 : al 1 = q32 tp) (he : e ≤ 900) (hb : b < 6) (hi0 : i0 ≤ e) (a61 : al (61 + b) = q32 i0) (a67 : al (67 + b) = q32 ((e - i0 : Nat) : Int)) (hm : 2 ≤ md ∧ md ≤ 30) (hx : x < md) (hct : ∀ i, i < e → CT (cd i) (al (99 + i))) : ∀ (n fuel : Nat), n < fuel → ∀ (m : Mem) (i d : Nat) (P : Nat → Nat), C10 m al → PR10 m d P → (∀ k, k < d → P k < md) → d ≤ 60 → WFC cd n i d → i + n = e → i0 ≤ i → ∃ m', nl_X10_leadsRest_6 F s fuel m 23 (q32 b) (q32 x) (q32 md) (q32 d) (q32 (i - i0)) = some (q32 (RQ (RLF al md x n i d P)), m') ∧ KgS m m' := by
  have l39 := ln39 hp
  have l24 := ln24 hp
  have hA1 : A al 1 = tp := A_q ha1 (by omega)
  have ml : ∀ z, z % md < md := fun z => Nat.mod_lt _ (by omega)
  intro n
  induction n with
  | zero =>
    intro fuel hfu m i d P hc hP hO hd60 hW hie hii
    obtain ⟨fuel, rfl⟩ : ∃ f, fuel = f + 1 := ⟨fuel - 1, by omega⟩
    have hd : d = 1 := hW
    subst hd
    have r1 := rf23_1 hc.1
    have r36 := rf23_36 hc.1
    have u1 := hP 0 (by omega)
    have e67 : (67 + (b : Int)).toNat = 67 + b := by omega
    have c67 : m.1 24 (67 + b) = q32 ((e - i0 : Nat) : Int) := by rw [hc.2 _ (by omega)]; exact a67
    refine ⟨m, ?_, KgS.rf m⟩
    show nb_X10_leadsRest_6 F s (nl_X10_leadsRest_6 F s fuel) m 23 _ _ _ _ _ = _
    unfold nb_X10_leadsRest_6 RLF RQ
    simp (disch := omega) only [Option.bind_some, bindv, bindv0, bind2_s, bind3_s, ↓reduceIte, Bool.false_eq_true, rZM_0, rZM_1, rZP_0, rZP_1, ptZ_0, ptZ_1, c32i, c64i, ncI, Int.natCast_add, Int.natCast_mul, q32_neg, q64_neg, q32_add, q32_sub, q32_mul, q64_add, q64_sub, q64_mul, q32_64i, q64_32, q32_lt_t, q32_lt_f, q32_le_t, q32_le_f, q32_eq_t, q32_eq_f, q64_lt_t, q64_lt_f, q64_le_t, q64_le_f, q64_eq_t, q64_eq_f, rdI_i, rdL_i, rdR_i, rdN_i, stI_i, stL_i, stR_i, wI_s, wI_n, wL_s, wL_n, wI_2, wI_3, wL_1, wL_3, wR_1, wR_2, Int.toNat_natCast, tnO, tn_add, tn_sub, tn_mul, Nat.add_sub_cancel, Nat.add_zero, Nat.zero_add, lnO, win_t, win_f, r1, r36, e67, c67, u1]
  | succ n ih =>
    intro fuel hfu m i d P hc hP hO hd60 hW hie hii
    obtain ⟨fuel, rfl⟩ : ∃ f, fuel = f + 1 := ⟨fuel - 1, by omega⟩
    have hct := hct i (by omega)
    have r1 := rf23_1 hc.1
    have r36 := rf23_36 hc.1
    have e67 : (67 + (b : Int)).toNat = 67 + b := by omega
    have e61 : (61 + (b : Int)).toNat = 61 + b := by omega
    have e99 : (99 + (i0 : Int) + (i - i0)).toNat = 99 + i := by omega
    have ei : q32 ((i : Int) - i0 + 1) = q32 (((i + 1 : Nat) : Int) - i0) := by congr 1; omega
    have e1 : (1 : Int).toNat = 1 := rfl
    have c67 : m.1 24 (67 + b) = q32 ((e - i0 : Nat) : Int) := by rw [hc.2 _ (by omega)]; exact a67
    have c61 : m.1 24 (61 + b) = q32 i0 := by rw [hc.2 _ (by omega)]; exact a61
    have c1 : m.1 24 1 = q32 tp := by rw [hc.2 _ (by omega)]; exact ha1
    have push : ∀ y : Nat, y < md → d < 60 → WFC cd n (i + 1) (d + 1) → ∃ m', nl_X10_leadsRest_6 F s fuel (wI m 39 d (q32 y)) 23 (q32 b) (q32 x) (q32 md) (q32 ((d : Int) + 1)) (q32 ((i : Int) - i0 + 1)) = some (q32 (RQ (RLF al md x n (i + 1) (d + 1) (upN P d y))), m') ∧ KgS m m' := fun y hy hd hw => by
      obtain ⟨m', q1, q2⟩ := ih fuel (by omega) (wI m 39 d (q32 y)) (i + 1) (d + 1) (upN P d y) (hc.kgs (KgS.rf m).I) (hP.up y) (fun k hk => by
        by_cases ek : k = d
        · subst ek; rw [upN_s]; exact hy
        · rw [upN_n ek]; exact hO k (by omega)) (by omega) hw (by omega) (by omega)
      rw [Int.natCast_add d] at q1
      exact ⟨m', by rw [ei]; exact q1, (KgS.rf m).I.tr q2⟩
    have ed : ((d : Int)).toNat = d := by omega
    rcases hct with ⟨v, hv, hc1, hc2⟩ | ⟨hc1, hc2⟩ | ⟨hc1, hc2⟩ | hcj
    · have hA : A al (99 + i) = v := A_q hc2 (by omega)
      have cv : m.1 24 (99 + i) = q32 v := by rw [hc.2 _ (by omega)]; exact hc2
      have hW' : d < 60 ∧ WFC cd n (i + 1) (d + 1) := by
        unfold WFC at hW
        rwa [if_pos (by rw [hc1, q32_toInt (by omega)]; omega)] at hW
      obtain ⟨m', q1, q2⟩ := push (v % md) (ml v) hW'.1 hW'.2
      have rm := rem_n (a := v) (b := md) (by omega) (by omega)
      unfold RLF
      rw [hA, if_pos (by omega), show ((v : Int)).toNat = v from rfl]
      refine ⟨m', ?_, q2⟩
      show nb_X10_leadsRest_6 F s (nl_X10_leadsRest_6 F s fuel) m 23 _ _ _ _ _ = _
      unfold nb_X10_leadsRest_6 nb_X10_leadsRest_87 nb_X10_leadsRest_201
      have := ml v
      generalize v % md = z at *
      simp (disch := omega) only [Option.bind_some, bindv, bindv0, bind2_s, bind3_s, ↓reduceIte, Bool.false_eq_true, rZM_0, rZM_1, rZP_0, rZP_1, ptZ_0, ptZ_1, c32i, c64i, ncI, Int.natCast_add, Int.natCast_mul, q32_neg, q64_neg, q32_add, q32_sub, q32_mul, q64_add, q64_sub, q64_mul, q32_64i, q64_32, q32_lt_t, q32_lt_f, q32_le_t, q32_le_f, q32_eq_t, q32_eq_f, q64_lt_t, q64_lt_f, q64_le_t, q64_le_f, q64_eq_t, q64_eq_f, rdI_i, rdL_i, rdR_i, rdN_i, stI_i, stL_i, stR_i, wI_s, wI_n, wL_s, wL_n, wI_2, wI_3, wL_1, wL_3, wR_1, wR_2, Int.toNat_natCast, r1, r36, e67, e61, e99, e1, c67, c61, c1, cv, rm, q1]
    · have hA : A al (99 + i) = 1000 := A_q hc2 (by omega)
      have cv : m.1 24 (99 + i) = q32 1000 := by rw [hc.2 _ (by omega)]; exact hc2
      have hW' : d < 60 ∧ WFC cd n (i + 1) (d + 1) := by
        unfold WFC at hW
        rwa [if_pos (by rw [hc1, q32_toInt (by omega)]; omega)] at hW
      obtain ⟨m', q1, q2⟩ := push x hx hW'.1 hW'.2
      have rm := rem_n (a := x) (b := md) (by omega) (by omega)
      rw [Nat.mod_eq_of_lt hx] at rm
      unfold RLF
      rw [hA, if_neg (by omega), if_pos rfl]
      refine ⟨m', ?_, q2⟩
      show nb_X10_leadsRest_6 F s (nl_X10_leadsRest_6 F s fuel) m 23 _ _ _ _ _ = _
      unfold nb_X10_leadsRest_6 nb_X10_leadsRest_87 nb_X10_leadsRest_201
      simp (disch := omega) only [Option.bind_some, bindv, bindv0, bind2_s, bind3_s, ↓reduceIte, Bool.false_eq_true, rZM_0, rZM_1, rZP_0, rZP_1, ptZ_0, ptZ_1, c32i, c64i, ncI, Int.natCast_add, Int.natCast_mul, q32_neg, q64_neg, q32_add, q32_sub, q32_mul, q64_add, q64_sub, q64_mul, q32_64i, q64_32, q32_lt_t, q32_lt_f, q32_le_t, q32_le_f, q32_eq_t, q32_eq_f, q64_lt_t, q64_lt_f, q64_le_t, q64_le_f, q64_eq_t, q64_eq_f, rdI_i, rdL_i, rdR_i, rdN_i, stI_i, stL_i, stR_i, wI_s, wI_n, wL_s, wL_n, wI_2, wI_3, wL_1, wL_3, wR_1, wR_2, Int.toNat_natCast, r1, r36, e67, e61, e99, e1, c67, c61, c1, cv, rm, q1]
    · have hA : A al (99 + i) = 1001 := A_q hc2 (by omega)
      have cv : m.1 24 (99 + i) = q32 1001 := by rw [hc.2 _ (by omega)]; exact hc2
      have hW' : d < 60 ∧ WFC cd n (i + 1) (d + 1) := by
        unfold WFC at hW
        rwa [if_pos (by rw [hc1, q32_toInt (by omega)]; omega)] at hW
      obtain ⟨m', q1, q2⟩ := push (tp % md) (ml tp) hW'.1 hW'.2
      have rm := rem_n (a := tp) (b := md) (by omega) (by omega)
      unfold RLF
      rw [hA, if_neg (by omega), if_neg (by omega), if_pos rfl, hA1, show ((tp : Int)).toNat = tp from rfl]
      refine ⟨m', ?_, q2⟩
      show nb_X10_leadsRest_6 F s (nl_X10_leadsRest_6 F s fuel) m 23 _ _ _ _ _ = _
      unfold nb_X10_leadsRest_6 nb_X10_leadsRest_87 nb_X10_leadsRest_201
      have := ml tp
      generalize tp % md = z at *
      simp (disch := omega) only [Option.bind_some, bindv, bindv0, bind2_s, bind3_s, ↓reduceIte, Bool.false_eq_true, rZM_0, rZM_1, rZP_0, rZP_1, ptZ_0, ptZ_1, c32i, c64i, ncI, Int.natCast_add, Int.natCast_mul, q32_neg, q64_neg, q32_add, q32_sub, q32_mul, q64_add, q64_sub, q64_mul, q32_64i, q64_32, q32_lt_t, q32_lt_f, q32_le_t, q32_le_f, q32_eq_t, q32_eq_f, q64_lt_t, q64_lt_f, q64_le_t, q64_le_f, q64_eq_t, q64_eq_f, rdI_i, rdL_i, rdR_i, rdN_i, stI_i, stL_i, stR_i, wI_s, wI_n, wL_s, wL_n, wI_2, wI_3, wL_1, wL_3, wR_1, wR_2, Int.toNat_natCast, r1, r36, e67, e61, e99, e1, c67, c61, c1, cv, rm, q1]
    · obtain ⟨c, e', hce, hc1, hc2⟩ : ∃ c e' : Int, ((c = -3 ∧ e' = 3000) ∨ (c = -4 ∧ e' = 3001) ∨ (c = -5 ∧ e' = 3002) ∨ (c = -6 ∧ e' = 3003)) ∧ cd i = q32 c ∧ al (99 + i) = q32 e' := by
        rcases hcj with h | h | h | h
        · exact ⟨-3, 3000, by omega, h.1, h.2⟩
        · exact ⟨-4, 3001, by omega, h.1, h.2⟩
        · exact ⟨-5, 3002, by omega, h.1, h.2⟩
        · exact ⟨-6, 3003, by omega, h.1, h.2⟩
      have hA : A al (99 + i) = e' := A_q hc2 (by omega)
      have cv : m.1 24 (99 + i) = q32 e' := by rw [hc.2 _ (by omega)]; exact hc2
      have hW' : 2 ≤ d ∧ WFC cd n (i + 1) (d - 1) := by
        unfold WFC at hW
        rwa [if_neg (by rw [hc1, q32_toInt (by omega)]; omega)] at hW
      obtain ⟨d, rfl⟩ : ∃ d', d = d' + 2 := ⟨d - 2, by omega⟩
      have hX := hO d (by omega)
      have hY := hO (d + 1) (by omega)
      have x1 := hP d (by omega)
      have y1 := hP (d + 1) (by omega)
      have iv : m_X10_inverse F (q32 (P (d + 1))) (q32 md) = some (q32 (IV md (P (d + 1)))) := by rw [ivs10]; exact inv9 hF hm hY
      have ib := IV_b (md := md) (y := P (d + 1)) hm.1
      have fin : ∀ f : Nat, f < md → jm md e' (P d) (P (d + 1)) = some f → ∃ m', nl_X10_leadsRest_6 F s fuel (wI m 39 d (q32 f)) 23 (q32 b) (q32 x) (q32 md) (q32 ((d : Int) + 1)) (q32 ((i : Int) - i0 + 1)) = some (q32 (RQ (RLF al md x n (i + 1) (d + 1) (upN P d f))), m') ∧ KgS m m' := fun f hf _ => by
        have hP' : PR10 m d P := fun k hk => hP k (by omega)
        obtain ⟨m', q1, q2⟩ := ih fuel (by omega) (wI m 39 d (q32 f)) (i + 1) (d + 1) (upN P d f) (hc.kgs (KgS.rf m).I) (hP'.up f) (fun k hk => by
          by_cases ek : k = d
          · subst ek; rw [upN_s]; exact hf
          · rw [upN_n ek]; exact hO k (by omega)) (by omega) hW'.2 (by omega) (by omega)
        rw [Int.natCast_add d] at q1
        exact ⟨m', by rw [ei]; exact q1, (KgS.rf m).I.tr q2⟩
      unfold RLF
      rw [hA, if_neg (by omega), if_neg (by omega), if_neg (by omega), show d + 2 - 2 = d from rfl, show d + 2 - 1 = d + 1 from rfl]
      generalize P d = a at *
      generalize P (d + 1) = b' at *
      have ab : a * b' ≤ 30 * 30 := Nat.mul_le_mul (by omega) (by omega)
      have q1 := rem_n (a := a + b') (b := md) (by omega) (by omega)
      have q2 := rem_n (a := a + md - b') (b := md) (by omega) (by omega)
      have q3 := rem_n (a := a * b') (b := md) (by omega) (by omega)
      rw [show ((a + md - b' : Nat) : Int) = (a : Int) - b' + md by omega] at q2
      rw [Int.natCast_mul] at q3
      rw [Int.natCast_add] at q1
      have st := fun (self : Mem → Nat → Int32 → Int32 → Int32 → Int32 → Int32 → Option (Int32 × Mem)) => j6 (F := F) hp hc.1 (b := b) (i := i) (i0 := i0) (d := d) (e := e) (e' := e') hb (by omega) (by omega) c67 c61 cv (by omega) (self := self) (vx := q32 x) (v3 := q32 md) x1 y1
      have go : ∀ f : Nat, f < md → jm md e' a b' = some f → nl_X10_leadsRest_6 F s (fuel + 1) m 23 (q32 b) (q32 x) (q32 md) (q32 ((d + 2 : Nat) : Int)) (q32 (i - i0)) = nl_X10_leadsRest_6 F s fuel (wI m 39 d (q32 f)) 23 (q32 b) (q32 x) (q32 md) (q32 ((d : Int) + 1)) (q32 ((i : Int) - i0 + 1)) := fun f hf hj => by
        show nb_X10_leadsRest_6 F s (nl_X10_leadsRest_6 F s fuel) m 23 _ _ _ _ _ = _
        rw [st, show q32 ((i : Int) - i0 + 1) = q32 ((i : Int) - i0) + 1 from by rw [c32i, q32_add]]
        rcases hce with ⟨rfl, rfl⟩ | ⟨rfl, rfl⟩ | ⟨rfl, rfl⟩ | ⟨rfl, rfl⟩
        · cases hj
          rw [if_neg (by omega)]
          exact j147 hp hc.1 (by omega) hm (Or.inl ⟨rfl, by rw [q32_add]; exact q1⟩)
        · cases hj
          rw [if_neg (by omega)]
          exact j147 hp hc.1 (by omega) hm (Or.inr (Or.inl ⟨rfl, by rw [q32_sub, q32_add]; exact q2⟩))
        · cases hj
          rw [if_neg (by omega)]
          exact j147 hp hc.1 (by omega) hm (Or.inr (Or.inr ⟨Or.inl rfl, by rw [q32_mul]; exact q3⟩))
        · rw [show jm md 3003 a b' = if IV md b' = -1 then none else some (a * (IV md b').toNat % md) from rfl] at hj
          by_cases h0 : IV md b' = -1
          · rw [if_pos h0] at hj; cases hj
          · rw [if_neg h0] at hj
            obtain ⟨v, hv⟩ := Int.eq_ofNat_of_zero_le (show 0 ≤ IV md b' by omega)
            rw [hv] at iv hj ib
            have av : a * v ≤ 30 * 30 := Nat.mul_le_mul (by omega) (by omega)
            have q4 := rem_n (a := a * v) (b := md) (by omega) (by omega)
            rw [Int.natCast_mul] at q4
            rw [show ((v : Int)).toNat = v from rfl] at hj
            cases hj
            rw [if_pos rfl, iv, Option.bind_some, if_neg (by simp (disch := omega) only [c32i, q32_neg, q32_eq_f, not_false_eq_true])]
            exact j147 hp hc.1 (by omega) hm (Or.inr (Or.inr ⟨Or.inr rfl, by rw [q32_mul]; exact q4⟩))
      cases hj : jm md e' a b' with
      | none =>
        dsimp only
        refine ⟨m, ?_, KgS.rf m⟩
        have he3 : e' = 3003 ∧ IV md b' = -1 := by
          unfold jm at hj
          rcases hce with ⟨rfl, rfl⟩ | ⟨rfl, rfl⟩ | ⟨rfl, rfl⟩ | ⟨rfl, rfl⟩
          · cases hj
          · cases hj
          · cases hj
          · refine ⟨rfl, ?_⟩
            apply Classical.byContradiction
            intro h0
            rw [if_neg (by omega), if_neg (by omega), if_neg (by omega), if_neg h0] at hj
            cases hj
        obtain ⟨rfl, h0⟩ := he3
        rw [h0] at iv
        show nb_X10_leadsRest_6 F s (nl_X10_leadsRest_6 F s fuel) m 23 _ _ _ _ _ = _
        rw [st, if_pos rfl, iv]
        rfl
      | some f =>
        dsimp only
        have hf := jm_b hm.1 hj
        obtain ⟨m', z1, z2⟩ := fin f hf hj
        exact ⟨m', (go f hf hj).trans z1, z2⟩
theorem led10 {F : Nat} (hF : 1000 ≤ F) {s : List Sh} {m : Mem} (hp : ∃ t, s = sB ++ t) (hr : RF m) {al : Nat → Int32} (hw : WA al) (hmm : ∀ k, k < 999 → m.1 24 k = al k) {md x : Nat} (hm : 2 ≤ md ∧ md ≤ 30) (hx : x < md) {b : Nat} (hb : (b : Int) < A al 2) : ∃ m', n_X10_leadsRest F s m 23 (q32 b) (q32 x) (q32 md) = some (q32 (RQ (RLB al md b x)), m') ∧ KgS m m' := by
  obtain ⟨hs, st, cd, fu, fl, sf, od, tu, tl, hrel⟩ := hw
  obtain ⟨tp, sk, nl, bc, fc, tc, au, aw, S, U, L, V, W, X, O, h1, h2, h3, h4, ⟨s1, s2, s3, s4, s5, s6, s7⟩, -⟩ := hrel
  have hA2 : A al 2 = bc := A_q h3.2.2.1 (by omega)
  rw [hA2] at hb
  have hk : b < bc := by omega
  have m1 := S_mono s2 (bc - (b + 1)) (b + 1) (by omega)
  rw [show b + 1 + (bc - (b + 1)) = bc by omega] at m1
  have m0 := s2 b hk
  unfold RLB
  rw [A_q (s5 b hk).1 (by omega), A_q (s5 b hk).2 (by omega), show ((S b : Int)).toNat = S b from rfl, show (((S (b + 1) - S b : Nat) : Int)).toNat = S (b + 1) - S b from rfl]
  obtain ⟨m', q1, q2⟩ := ledL10 (F := F) hF hp (al := al) (cd := cd) (tp := tp) (e := S (b + 1)) (b := b) (i0 := S b) (by omega) h3.2.1 (by omega) (by omega) m0 (s5 b hk).1 (s5 b hk).2 hm hx (fun i hi => s6 i (by omega)) (S (b + 1) - S b) F (by omega) m (S b) 0 (fun _ => 0) ⟨hr, hmm⟩ (fun k hk => absurd hk (by omega)) (fun k hk => absurd hk (by omega)) (by omega) (s7 b hk) (by omega) (by omega)
  rw [show (S b : Int) - S b = 0 by omega] at q1
  exact ⟨m', q1, q2⟩
