/-! PURE: what lies at a floor -/
theorem mulB {x y : Int} {a b : Nat} (hx : x.natAbs ≤ a) (hy : y.natAbs ≤ b) : (x * y).natAbs ≤ a * b := by
  rw [Int.natAbs_mul]
  exact Nat.mul_le_mul hx hy
theorem nrm_eq {p q p' q' : Int} (hq : q ≠ 0) (hq' : q' ≠ 0) (e : p * q' = p' * q) : nrm p q = nrm p' q' := by
  obtain ⟨a1, a2, a3, a4, a5⟩ := nrm_ok (p := p) hq
  obtain ⟨b1, b2, b3, b4, b5⟩ := nrm_ok (p := p') hq'
  have key : (nrm p q).1 * (nrm p' q').2 = (nrm p' q').1 * (nrm p q).2 := by
    generalize nrm p q = x at *
    generalize nrm p' q' = y at *
    have h : (x.1 * y.2) * (q * q') = (y.1 * x.2) * (q * q') := by
      calc (x.1 * y.2) * (q * q') = (x.1 * q) * (y.2 * q') := by grind
        _ = (p * x.2) * (y.2 * q') := by rw [a3]
        _ = (p * q') * (x.2 * y.2) := by grind
        _ = (p' * q) * (x.2 * y.2) := by rw [e]
        _ = (p' * y.2) * (x.2 * q) := by grind
        _ = (y.1 * q') * (x.2 * q) := by rw [b3]
        _ = (y.1 * x.2) * (q * q') := by grind
    exact Int.eq_of_mul_eq_mul_right (Int.mul_ne_zero hq hq') h
  obtain ⟨e1, e2⟩ := low_uniq (by omega) (by omega) a1 b1 key
  exact Prod.ext e1 e2
theorem nrm_one (p : Int) : nrm p 1 = (p, 1) := nrm_low (by omega) (by simp)
/-- the told floors -/
def FD (fc tp : Nat) (U L : Nat → Int) (X : Nat → Nat → Nat) (O : Nat → Nat) : Prop := fc ≤ 8 ∧ 1 ≤ tp ∧ tp ≤ 9 ∧ (∀ k, k < fc → FLR tp (U k) (L k) ∧ L k ≤ 99 ∧ ∀ z, z < 3 → X k z ≤ 99) ∧ ORD fc U L O
def F9 (s : List Sh) (m : Mem) (n fc : Nat) (U L : Nat → Int) (X : Nat → Nat → Nat) (O : Nat → Nat) : Prop := m.1 n 9 = q32 fc ∧ (m.2.2 n 10 = some (n + 3) ∧ m.2.2 n 11 = some (n + 4) ∧ m.2.2 n 12 = some (n + 5) ∧ m.2.2 n 14 = some (n + 7)) ∧ (ln s (n + 3) = 8 ∧ ln s (n + 4) = 8 ∧ ln s (n + 5) = 24 ∧ ln s (n + 7) = 8) ∧ (∀ k, k < fc → m.1 (n + 3) k = q32 (U k) ∧ m.1 (n + 4) k = q32 (L k) ∧ ∀ z, z < 3 → m.1 (n + 5) (3 * k + z) = q32 (X k z)) ∧ ∀ i, i < fc → m.1 (n + 7) i = q32 (O i)
def F10 (m : Mem) (fc : Nat) (U L : Nat → Int) (X : Nat → Nat → Nat) : Prop := RF m ∧ m.1 24 3 = q32 fc ∧ ∀ k, k < fc → m.1 24 (9 + k) = q32 (U k) ∧ m.1 24 (17 + k) = q32 (L k) ∧ ∀ z, z < 3 → m.1 24 (25 + 8 * z + k) = q32 (X k z)
theorem F9.k {s : List Sh} {m m' : Mem} {n fc : Nat} {U L : Nat → Int} {X : Nat → Nat → Nat} {O : Nat → Nat} (h : F9 s m n fc U L X O) (h1 : ∀ a k, a = n ∨ a = n + 3 ∨ a = n + 4 ∨ a = n + 5 ∨ a = n + 7 → m'.1 a k = m.1 a k) (h2 : m'.2.2 = m.2.2) : F9 s m' n fc U L X O := by
  unfold F9 at h ⊢
  have e0 : m'.1 n = m.1 n := funext fun k => h1 _ _ (by omega)
  have e3 : m'.1 (n + 3) = m.1 (n + 3) := funext fun k => h1 _ _ (by omega)
  have e4 : m'.1 (n + 4) = m.1 (n + 4) := funext fun k => h1 _ _ (by omega)
  have e5 : m'.1 (n + 5) = m.1 (n + 5) := funext fun k => h1 _ _ (by omega)
  have e7 : m'.1 (n + 7) = m.1 (n + 7) := funext fun k => h1 _ _ (by omega)
  rw [h2, e0, e3, e4, e5, e7]
  exact h
theorem F10.k {m m' : Mem} {fc : Nat} {U L : Nat → Int} {X : Nat → Nat → Nat} (h : F10 m fc U L X) (h1 : ∀ k, k < 99 → m'.1 24 k = m.1 24 k) (h2 : m'.2.2 = m.2.2) (h8 : fc ≤ 8) : F10 m' fc U L X := by
  obtain ⟨a, b, c⟩ := h
  refine ⟨a.same h2, by rw [h1 3 (by omega)]; exact b, fun k hk => ?_⟩
  obtain ⟨c1, c2, c3⟩ := c k hk
  refine ⟨by rw [h1 _ (by omega)]; exact c1, by rw [h1 _ (by omega)]; exact c2, fun z hz => by rw [h1 _ (by omega)]; exact c3 z hz⟩
theorem ST.fd {s : List Sh} {m : Mem} {ow : Nat → Nat} {nw : Nat} (h : ST s m ow nw) : ∃ fc tp U L X O, FD fc tp U L X O ∧ F9 s m nw fc U L X O ∧ F10 m fc U L X ∧ m.1 24 1 = q32 tp ∧ A (m.1 24) 1 = tp := by
  obtain ⟨-, -, ⟨r7, r8, r10, r11, r12, r13, r14, r16, r17⟩, ln1, ln2, ln3, ln4, ln5, ln6, ln7, ln8, ln9⟩ := h.1.2.2.2.1
  obtain ⟨tp, sk, nl, bc, fc, tc, au, aw, S, U, L, V, W, X, O, h1, ⟨a0, a1, a2, a4, a5, a6, a9, a15⟩, ⟨b0, b1, b2, b3, b4, b5, b6, b7, b8⟩, h4, ⟨s1, s2, s3, s4, s5, s6, s7⟩, h6, ⟨h7, h7b⟩, h8⟩ := h.2.1
  refine ⟨fc, tp, U, L, X, O, ⟨by omega, by omega, by omega, fun k hk => ⟨(h6 k hk).2.2.1, (h6 k hk).2.2.2.1, fun z hz => ((h6 k hk).2.2.2.2.2.2 z hz).1⟩, ORD.of (fun k hk => (h6 k hk).2.2.1) h7 h7b⟩, ⟨a9, ⟨r10, r11, r12, r14⟩, ⟨ln3, ln4, ln5, ln7⟩, fun k hk => ⟨(h6 k hk).1, (h6 k hk).2.1, fun z hz => ((h6 k hk).2.2.2.2.2.2 z hz).2.1⟩, fun i hi => (h7 i hi).2⟩, ⟨h.1.rf, b3, fun k hk => ⟨(h6 k hk).2.2.2.2.1, (h6 k hk).2.2.2.2.2.1, fun z hz => ((h6 k hk).2.2.2.2.2.2 z hz).2.2⟩⟩, b1, A_q b1 (by omega)⟩
theorem FD.b {fc tp : Nat} {U L : Nat → Int} {X : Nat → Nat → Nat} {O : Nat → Nat} (h : FD fc tp U L X O) {k : Nat} (hk : k < fc) : 0 ≤ U k ∧ U k ≤ 891 ∧ 1 ≤ L k ∧ L k ≤ 99 ∧ ∀ z, z < 3 → X k z ≤ 99 := by
  obtain ⟨h8, t1, t9, hf, -⟩ := h
  obtain ⟨f1, f2, f3⟩ := hf k hk
  unfold FLR at f1
  have : (tp : Int) * L k ≤ 9 * 99 := Int.mul_le_mul (by omega) (by omega) (by omega) (by omega)
  exact ⟨by omega, by omega, by omega, f2, f3⟩
theorem tbL {F : Nat} {s : List Sh} {m : Mem} {n fc tp : Nat} {U L : Nat → Int} {X : Nat → Nat → Nat} {O : Nat → Nat} (hd : FD fc tp U L X O) (h9 : F9 s m n fc U L X O) {u l : Int} (hu : u.natAbs ≤ 1000000000) (hl : l.natAbs ≤ 1000000000) : ∀ (q fuel : Nat), q < fuel → ∀ i, i + q = fc → nl_X0_toldBelow_6 F s m fuel n (q64 u) (q64 l) (q32 (Sm (blw U L u l) i : Nat)) (q32 i) = some (q32 (Sm (blw U L u l) fc : Nat)) := by
  obtain ⟨a9, ⟨r10, r11, r12, r14⟩, ⟨l3, l4, l5, l7⟩, hv, -⟩ := h9
  have h8 := hd.1
  intro q
  induction q with
  | zero =>
    intro fuel hf i hi
    obtain ⟨fuel, rfl⟩ : ∃ f, fuel = f + 1 := ⟨fuel - 1, by omega⟩
    obtain rfl : i = fc := by omega
    show nb_X0_toldBelow_6 F s (nl_X0_toldBelow_6 F s m fuel) m n _ _ _ _ = _
    unfold nb_X0_toldBelow_6
    simp (disch := omega) only [Option.bind_some, bindv, bindv0, bind2_s, bind3_s, ↓reduceIte, Bool.false_eq_true, rZM_0, rZM_1, rZP_0, rZP_1, ptZ_0, ptZ_1, c32i, c64i, ncI, Int.natCast_add, Int.natCast_mul, q32_neg, q64_neg, q32_add, q32_sub, q32_mul, q64_add, q64_sub, q64_mul, q32_64i, q64_32, q32_lt_t, q32_lt_f, q32_le_t, q32_le_f, q32_eq_t, q32_eq_f, q64_lt_t, q64_lt_f, q64_le_t, q64_le_f, q64_eq_t, q64_eq_f, rdI_i, rdL_i, rdR_i, rdN_i, stI_i, stL_i, stR_i, wI_s, wI_n, wL_s, wL_n, wI_2, wI_3, wL_1, wL_3, wR_1, wR_2, Int.toNat_natCast, tnO, tn_add, tn_sub, tn_mul, Nat.add_sub_cancel, Nat.add_zero, Nat.zero_add, lnO, win_t, win_f, a9]
  | succ q ih =>
    intro fuel hf i hi
    obtain ⟨fuel, rfl⟩ : ∃ f, fuel = f + 1 := ⟨fuel - 1, by omega⟩
    obtain ⟨v1, v2, -⟩ := hv i (by omega)
    obtain ⟨b1, b2, b3, b4, -⟩ := hd.b (k := i) (by omega)
    have ih := ih fuel (by omega) (i + 1) (by omega)
    rw [show Sm (blw U L u l) (i + 1) = Sm (blw U L u l) i + blw U L u l i from rfl] at ih
    have k1 := mulb hu (show (L i).natAbs ≤ 1000000000 by omega)
    have k2 := mulb (show (U i).natAbs ≤ 1000000000 by omega) hl
    show nb_X0_toldBelow_6 F s (nl_X0_toldBelow_6 F s m fuel) m n _ _ _ _ = _
    unfold nb_X0_toldBelow_6 nb_X0_toldBelow_42
    unfold blw at ih ⊢
    by_cases hb : U i * l < u * L i
    · rw [if_pos hb] at ih
      rw [Int.natCast_add, Int.natCast_add] at ih
      simp (disch := omega) only [Option.bind_some, bindv, bindv0, bind2_s, bind3_s, ↓reduceIte, Bool.false_eq_true, rZM_0, rZM_1, rZP_0, rZP_1, ptZ_0, ptZ_1, c32i, c64i, ncI, Int.natCast_add, Int.natCast_mul, q32_neg, q64_neg, q32_add, q32_sub, q32_mul, q64_add, q64_sub, q64_mul, q32_64i, q64_32, q32_lt_t, q32_lt_f, q32_le_t, q32_le_f, q32_eq_t, q32_eq_f, q64_lt_t, q64_lt_f, q64_le_t, q64_le_f, q64_eq_t, q64_eq_f, rdI_i, rdL_i, rdR_i, rdN_i, stI_i, stL_i, stR_i, wI_s, wI_n, wL_s, wL_n, wI_2, wI_3, wL_1, wL_3, wR_1, wR_2, Int.toNat_natCast, tnO, tn_add, tn_sub, tn_mul, Nat.add_sub_cancel, Nat.add_zero, Nat.zero_add, lnO, win_t, win_f, a9, r10, r11, v1, v2]
      exact ih
    · rw [if_neg hb] at ih
      rw [Int.natCast_add, Int.natCast_add] at ih
      simp (disch := omega) only [Option.bind_some, bindv, bindv0, bind2_s, bind3_s, ↓reduceIte, Bool.false_eq_true, rZM_0, rZM_1, rZP_0, rZP_1, ptZ_0, ptZ_1, c32i, c64i, ncI, Int.natCast_add, Int.natCast_mul, q32_neg, q64_neg, q32_add, q32_sub, q32_mul, q64_add, q64_sub, q64_mul, q32_64i, q64_32, q32_lt_t, q32_lt_f, q32_le_t, q32_le_f, q32_eq_t, q32_eq_f, q64_lt_t, q64_lt_f, q64_le_t, q64_le_f, q64_eq_t, q64_eq_f, rdI_i, rdL_i, rdR_i, rdN_i, stI_i, stL_i, stR_i, wI_s, wI_n, wL_s, wL_n, wI_2, wI_3, wL_1, wL_3, wR_1, wR_2, Int.toNat_natCast, tnO, tn_add, tn_sub, tn_mul, Nat.add_sub_cancel, Nat.add_zero, Nat.zero_add, lnO, win_t, win_f, a9, r10, r11, v1, v2]
      rw [show ((Sm (fun f => if U f * l < u * L f then 1 else 0) i : Nat) : Int) + ((0 : Nat) : Int) = (Sm (fun f => if U f * l < u * L f then 1 else 0) i : Nat) by omega] at ih
      exact ih
theorem tb9 {F : Nat} (hF : 100 ≤ F) {s : List Sh} {m : Mem} {n fc tp : Nat} {U L : Nat → Int} {X : Nat → Nat → Nat} {O : Nat → Nat} (hd : FD fc tp U L X O) (h9 : F9 s m n fc U L X O) {u l : Int} (hu : u.natAbs ≤ 1000000000) (hl : l.natAbs ≤ 1000000000) : n_X0_toldBelow F s m n (q64 u) (q64 l) = some (q32 (Sm (blw U L u l) fc : Nat)) := tbL hd h9 hu hl fc F (by have := hd.1; omega) 0 (by omega)
theorem so9 {s : List Sh} {m : Mem} {n fc tp : Nat} {U L : Nat → Int} {X : Nat → Nat → Nat} {O : Nat → Nat} (hd : FD fc tp U L X O) (h9 : F9 s m n fc U L X O) {k z : Nat} (hk : k < fc) (hz : z < 3) : n_X0_stuffOf s m n (q32 k) (q32 z) = some (q32 (X k z)) := by
  obtain ⟨a9, ⟨r10, r11, r12, r14⟩, ⟨l3, l4, l5, l7⟩, hv, -⟩ := h9
  have x2 := (hv k hk).2.2 z hz
  have := hd.1
  unfold n_X0_stuffOf nb_X0_stuffOf_0
  rw [Nat.mul_comm 3 k] at x2
  simp (disch := omega) only [Option.bind_some, bindv, bindv0, bind2_s, bind3_s, ↓reduceIte, Bool.false_eq_true, rZM_0, rZM_1, rZP_0, rZP_1, ptZ_0, ptZ_1, c32i, c64i, ncI, Int.natCast_add, Int.natCast_mul, q32_neg, q64_neg, q32_add, q32_sub, q32_mul, q64_add, q64_sub, q64_mul, q32_64i, q64_32, q32_lt_t, q32_lt_f, q32_le_t, q32_le_f, q32_eq_t, q32_eq_f, q64_lt_t, q64_lt_f, q64_le_t, q64_le_f, q64_eq_t, q64_eq_f, rdI_i, rdL_i, rdR_i, rdN_i, stI_i, stL_i, stR_i, wI_s, wI_n, wL_s, wL_n, wI_2, wI_3, wL_1, wL_3, wR_1, wR_2, Int.toNat_natCast, tnO, tn_add, tn_sub, tn_mul, Nat.add_sub_cancel, Nat.add_zero, Nat.zero_add, lnO, win_t, win_f, r12, l5, x2]
theorem so10 {s : List Sh} {m : Mem} (hp : ∃ t, s = sB ++ t) {fc tp : Nat} {U L : Nat → Int} {X : Nat → Nat → Nat} {O : Nat → Nat} (hd : FD fc tp U L X O) (h10 : F10 m fc U L X) {k z : Nat} (hk : k < fc) (hz : z < 3) : n_X10_stuffOf s m 23 (q32 z) (q32 k) = some (q32 (X k z)) := by
  have r1 := rf23_1 h10.1
  have l24 := ln24 hp
  have x2 := (h10.2.2 k hk).2.2 z hz
  have := hd.1
  unfold n_X10_stuffOf nb_X10_stuffOf_0
  simp (disch := omega) only [Option.bind_some, bindv, bindv0, bind2_s, bind3_s, ↓reduceIte, Bool.false_eq_true, rZM_0, rZM_1, rZP_0, rZP_1, ptZ_0, ptZ_1, c32i, c64i, ncI, Int.natCast_add, Int.natCast_mul, q32_neg, q64_neg, q32_add, q32_sub, q32_mul, q64_add, q64_sub, q64_mul, q32_64i, q64_32, q32_lt_t, q32_lt_f, q32_le_t, q32_le_f, q32_eq_t, q32_eq_f, q64_lt_t, q64_lt_f, q64_le_t, q64_le_f, q64_eq_t, q64_eq_f, rdI_i, rdL_i, rdR_i, rdN_i, stI_i, stL_i, stR_i, wI_s, wI_n, wL_s, wL_n, wI_2, wI_3, wL_1, wL_3, wR_1, wR_2, Int.toNat_natCast, tnO, tn_add, tn_sub, tn_mul, Nat.add_sub_cancel, Nat.add_zero, Nat.zero_add, lnO, win_t, win_f, r1, x2]
theorem so10z {s : List Sh} {m : Mem} {k : Int32} : n_X10_stuffOf s m 23 (q32 3) k = some (q32 0) := by
  unfold n_X10_stuffOf nb_X10_stuffOf_0
  simp (disch := omega) only [Option.bind_some, bindv, bindv0, bind2_s, bind3_s, ↓reduceIte, Bool.false_eq_true, rZM_0, rZM_1, rZP_0, rZP_1, ptZ_0, ptZ_1, c32i, c64i, ncI, Int.natCast_add, Int.natCast_mul, q32_neg, q64_neg, q32_add, q32_sub, q32_mul, q64_add, q64_sub, q64_mul, q32_64i, q64_32, q32_lt_t, q32_lt_f, q32_le_t, q32_le_f, q32_eq_t, q32_eq_f, q64_lt_t, q64_lt_f, q64_le_t, q64_le_f, q64_eq_t, q64_eq_f, rdI_i, rdL_i, rdR_i, rdN_i, stI_i, stL_i, stR_i, wI_s, wI_n, wL_s, wL_n, wI_2, wI_3, wL_1, wL_3, wR_1, wR_2, Int.toNat_natCast, tnO, tn_add, tn_sub, tn_mul, Nat.add_sub_cancel, Nat.add_zero, Nat.zero_add, lnO, win_t, win_f]
def WD (U L : Nat → Int) (b k : Nat) : Int := U k * L b - U b * L k
/-- what lies at a floor -/
def STF (fc : Nat) (U L : Nat → Int) (x : Nat → Nat) (O : Nat → Nat) (f : FR) : FR := if fc = 0 then (0, 1) else if Sm (blw U L f.1 f.2) fc = fc then ((x (O (fc - 1)) : Int), 1) else if Sm (blw U L f.1 f.2) fc = 0 then ((x (O 0) : Int), 1) else
  nrm ((x (O (Sm (blw U L f.1 f.2) fc - 1)) : Int) * f.2 * WD U L (O (Sm (blw U L f.1 f.2) fc - 1)) (O (Sm (blw U L f.1 f.2) fc)) + ((x (O (Sm (blw U L f.1 f.2) fc)) : Int) - (x (O (Sm (blw U L f.1 f.2) fc - 1)) : Int)) * (f.1 * L (O (Sm (blw U L f.1 f.2) fc - 1)) - U (O (Sm (blw U L f.1 f.2) fc - 1)) * f.2) * L (O (Sm (blw U L f.1 f.2) fc))) (f.2 * WD U L (O (Sm (blw U L f.1 f.2) fc - 1)) (O (Sm (blw U L f.1 f.2) fc)))
theorem WD_b {fc tp : Nat} {U L : Nat → Int} {X : Nat → Nat → Nat} {O : Nat → Nat} (hd : FD fc tp U L X O) {i j : Nat} (hij : i < j) (hj : j < fc) : 1 ≤ WD U L (O i) (O j) ∧ WD U L (O i) (O j) ≤ 100000 := by
  have ho := hd.2.2.2.2
  have h1 := ho.2.2 i j hij hj
  obtain ⟨a1, a2, a3, a4, -⟩ := hd.b (ho.1 i (by omega))
  obtain ⟨b1, b2, b3, b4, -⟩ := hd.b (ho.1 j hj)
  have k1 : U (O j) * L (O i) ≤ 891 * 99 := Int.mul_le_mul b2 a4 (by omega) (by omega)
  have k2 : 0 ≤ U (O i) * L (O j) := Int.mul_nonneg (by omega) (by omega)
  unfold WD
  omega
theorem stuff9 {F : Nat} (hF : 1000 ≤ F) {s : List Sh} {m : Mem} {n fc tp : Nat} {U L : Nat → Int} {X : Nat → Nat → Nat} {O : Nat → Nat} (hd : FD fc tp U L X O) (h9 : F9 s m n fc U L X O) {f : FR} (h1 : 0 ≤ f.1 ∧ f.1 ≤ 1000000) (h2 : 1 ≤ f.2 ∧ f.2 ≤ 1000000) {z : Nat} (hz : z < 3) {r : Nat} : n_X0_stuffAt F s m n (q32 z) (q64 f.1) (q64 f.2) r = some ((), PT m r (STF fc U L (fun k => X k z) O f)) := by
  have tb := tb9 (F := F) (by omega) hd h9 (u := f.1) (l := f.2) (by omega) (by omega)
  obtain ⟨c1, c2, c3⟩ := hd.2.2.2.2.cnt (u := f.1) (l := f.2) (by omega)
  have hO := hd.2.2.2.2.1
  have h8 := hd.1
  have h9' := h9
  obtain ⟨a9, ⟨r10, r11, r12, r14⟩, ⟨l3, l4, l5, l7⟩, hv, ho⟩ := h9
  unfold n_X0_stuffAt nb_X0_stuffAt_0 STF
  generalize hp : Sm (blw U L f.1 f.2) fc = p at *
  have e1 : nrm 0 1 = (0, 1) := nrm_one 0
  by_cases d0 : fc = 0
  · rw [if_pos d0]
    subst d0
    have pu := put9 (F := F) (s := s) (m := m) (r := r) (by omega) (p := 0) (q := 1) (by omega) (by omega) (by omega)
    rw [e1] at pu
    simp (disch := omega) only [Option.bind_some, bindv, bindv0, bind2_s, bind3_s, ↓reduceIte, Bool.false_eq_true, rZM_0, rZM_1, rZP_0, rZP_1, ptZ_0, ptZ_1, c32i, c64i, ncI, Int.natCast_add, Int.natCast_mul, q32_neg, q64_neg, q32_add, q32_sub, q32_mul, q64_add, q64_sub, q64_mul, q32_64i, q64_32, q32_lt_t, q32_lt_f, q32_le_t, q32_le_f, q32_eq_t, q32_eq_f, q64_lt_t, q64_lt_f, q64_le_t, q64_le_f, q64_eq_t, q64_eq_f, rdI_i, rdL_i, rdR_i, rdN_i, stI_i, stL_i, stR_i, wI_s, wI_n, wL_s, wL_n, wI_2, wI_3, wL_1, wL_3, wR_1, wR_2, Int.toNat_natCast, tnO, tn_add, tn_sub, tn_mul, Nat.add_sub_cancel, Nat.add_zero, Nat.zero_add, lnO, win_t, win_f, a9, pu]
  · rw [if_neg d0]
    by_cases d1 : p = fc
    · rw [if_pos d1]
      subst d1
      have so := so9 hd h9' (hO (p - 1) (by omega)) hz
      have o1 := ho (p - 1) (by omega)
      have hx := (hd.b (hO (p - 1) (by omega))).2.2.2.2 z hz
      have pu := put9 (F := F) (s := s) (m := m) (r := r) (by omega) (p := (X (O (p - 1)) z : Int)) (q := 1) (by omega) (by omega) (by omega)
      rw [nrm_one] at pu
      simp (disch := omega) only [Option.bind_some, bindv, bindv0, bind2_s, bind3_s, ↓reduceIte, Bool.false_eq_true, rZM_0, rZM_1, rZP_0, rZP_1, ptZ_0, ptZ_1, c32i, c64i, ncI, Int.natCast_add, Int.natCast_mul, q32_neg, q64_neg, q32_add, q32_sub, q32_mul, q64_add, q64_sub, q64_mul, q32_64i, q64_32, q32_lt_t, q32_lt_f, q32_le_t, q32_le_f, q32_eq_t, q32_eq_f, q64_lt_t, q64_lt_f, q64_le_t, q64_le_f, q64_eq_t, q64_eq_f, rdI_i, rdL_i, rdR_i, rdN_i, stI_i, stL_i, stR_i, wI_s, wI_n, wL_s, wL_n, wI_2, wI_3, wL_1, wL_3, wR_1, wR_2, Int.toNat_natCast, tnO, tn_add, tn_sub, tn_mul, Nat.add_sub_cancel, Nat.add_zero, Nat.zero_add, lnO, win_t, win_f, a9, tb, r14, o1, so, pu]
    · rw [if_neg d1]
      by_cases d2 : p = 0
      · rw [if_pos d2]
        subst d2
        have so := so9 hd h9' (hO 0 (by omega)) hz
        have o1 := ho 0 (by omega)
        have hx := (hd.b (hO 0 (by omega))).2.2.2.2 z hz
        have pu := put9 (F := F) (s := s) (m := m) (r := r) (by omega) (p := (X (O 0) z : Int)) (q := 1) (by omega) (by omega) (by omega)
        rw [nrm_one] at pu
        simp (disch := omega) only [Option.bind_some, bindv, bindv0, bind2_s, bind3_s, ↓reduceIte, Bool.false_eq_true, rZM_0, rZM_1, rZP_0, rZP_1, ptZ_0, ptZ_1, c32i, c64i, ncI, Int.natCast_add, Int.natCast_mul, q32_neg, q64_neg, q32_add, q32_sub, q32_mul, q64_add, q64_sub, q64_mul, q32_64i, q64_32, q32_lt_t, q32_lt_f, q32_le_t, q32_le_f, q32_eq_t, q32_eq_f, q64_lt_t, q64_lt_f, q64_le_t, q64_le_f, q64_eq_t, q64_eq_f, rdI_i, rdL_i, rdR_i, rdN_i, stI_i, stL_i, stR_i, wI_s, wI_n, wL_s, wL_n, wI_2, wI_3, wL_1, wL_3, wR_1, wR_2, Int.toNat_natCast, tnO, tn_add, tn_sub, tn_mul, Nat.add_sub_cancel, Nat.add_zero, Nat.zero_add, lnO, win_t, win_f, a9, tb, r14, o1, so, pu]
      · rw [if_neg d2]
        obtain ⟨w1, w2⟩ := WD_b hd (i := p - 1) (j := p) (by omega) (by omega)
        have kb := hO (p - 1) (by omega)
        have kk := hO p (by omega)
        have sb := so9 hd h9' kb hz
        have sk := so9 hd h9' kk hz
        have o1 := ho (p - 1) (by omega)
        have o2 := ho p (by omega)
        obtain ⟨b1, b2, b3, b4, b5⟩ := hd.b kb
        obtain ⟨g1, g2, g3, g4, g5⟩ := hd.b kk
        have xb := b5 z hz
        have xk := g5 z hz
        obtain ⟨vb1, vb2, -⟩ := hv _ kb
        obtain ⟨vk1, vk2, -⟩ := hv _ kk
        have ep : ((p : Int) - 1).toNat = p - 1 := by omega
        dsimp only
        generalize hB : O (p - 1) = B at *
        generalize hK : O p = K at *
        have wd : n_X0_widthBetween s m n (q32 B) (q32 K) = some (q64 (WD U L B K)) := by
          unfold n_X0_widthBetween nb_X0_widthBetween_0 WD
          simp (disch := omega) only [Option.bind_some, bindv, bindv0, bind2_s, bind3_s, ↓reduceIte, Bool.false_eq_true, rZM_0, rZM_1, rZP_0, rZP_1, ptZ_0, ptZ_1, c32i, c64i, ncI, Int.natCast_add, Int.natCast_mul, q32_neg, q64_neg, q32_add, q32_sub, q32_mul, q64_add, q64_sub, q64_mul, q32_64i, q64_32, q32_lt_t, q32_lt_f, q32_le_t, q32_le_f, q32_eq_t, q32_eq_f, q64_lt_t, q64_lt_f, q64_le_t, q64_le_f, q64_eq_t, q64_eq_f, rdI_i, rdL_i, rdR_i, rdN_i, stI_i, stL_i, stR_i, wI_s, wI_n, wL_s, wL_n, wI_2, wI_3, wL_1, wL_3, wR_1, wR_2, Int.toNat_natCast, tnO, tn_add, tn_sub, tn_mul, Nat.add_sub_cancel, Nat.add_zero, Nat.zero_add, lnO, win_t, win_f, r10, r11, vb1, vb2, vk1, vk2]
        generalize WD U L B K = wdv at *
        have m1 := mulB (show f.2.natAbs ≤ 1000000 by omega) (show wdv.natAbs ≤ 100000 by omega)
        have m2 := mulB (mulB (show ((X B z : Int)).natAbs ≤ 99 by omega) (show f.2.natAbs ≤ 1000000 by omega)) (show wdv.natAbs ≤ 100000 by omega)
        have m3 := mulB (show f.1.natAbs ≤ 1000000 by omega) (show (L B).natAbs ≤ 99 by omega)
        have m4 := mulB (show (U B).natAbs ≤ 891 by omega) (show f.2.natAbs ≤ 1000000 by omega)
        have m5 := mulB (mulB (show ((X K z : Int) - (X B z : Int)).natAbs ≤ 99 by omega) (show (f.1 * L B - U B * f.2).natAbs ≤ 1000000000 by omega)) (show (L K).natAbs ≤ 99 by omega)
        have m6 : f.2 * wdv ≠ 0 := Int.mul_ne_zero (by omega) (by omega)
        have pu := put9 (F := F) (s := s) (m := m) (r := r) (by omega) (p := (X B z : Int) * f.2 * wdv + ((X K z : Int) - (X B z : Int)) * (f.1 * L B - U B * f.2) * L K) (q := f.2 * wdv) m6 (by omega) (by omega)
        simp (disch := omega) only [Option.bind_some, bindv, bindv0, bind2_s, bind3_s, ↓reduceIte, Bool.false_eq_true, rZM_0, rZM_1, rZP_0, rZP_1, ptZ_0, ptZ_1, c32i, c64i, ncI, Int.natCast_add, Int.natCast_mul, q32_neg, q64_neg, q32_add, q32_sub, q32_mul, q64_add, q64_sub, q64_mul, q32_64i, q64_32, q32_lt_t, q32_lt_f, q32_le_t, q32_le_f, q32_eq_t, q32_eq_f, q64_lt_t, q64_lt_f, q64_le_t, q64_le_f, q64_eq_t, q64_eq_f, rdI_i, rdL_i, rdR_i, rdN_i, stI_i, stL_i, stR_i, wI_s, wI_n, wL_s, wL_n, wI_2, wI_3, wL_1, wL_3, wR_1, wR_2, Int.toNat_natCast, tnO, tn_add, tn_sub, tn_mul, Nat.add_sub_cancel, Nat.add_zero, Nat.zero_add, lnO, win_t, win_f, a9, tb, r14, ep, o1, o2, wd, sb, sk, r10, r11, vb1, vb2, vk2, pu]
/-! the reference lays the order -/
theorem orderL {F : Nat} (hF : 100 ≤ F) {s : List Sh} (hp : ∃ t, s = sB ++ t) {fc tp : Nat} {U L : Nat → Int} {X : Nat → Nat → Nat} {O : Nat → Nat} (hd : FD fc tp U L X O) : ∀ (n fuel : Nat), n < fuel → ∀ (m : Mem) (k : Nat), F10 m fc U L X → (∀ i, i < fc → O i < k → m.1 30 i = q32 (O i)) → k + n = fc → ∃ m', nl_X10_laysOrder_2 F s fuel m 23 (q32 k) = some ((), m') ∧ m'.2 = m.2 ∧ (∀ a k, a ≠ 30 → m'.1 a k = m.1 a k) ∧ ∀ i, i < fc → m'.1 30 i = q32 (O i) := by
  have l24 := ln24 hp
  have l30 := ln30 hp
  have h8 := hd.1
  have hO := hd.2.2.2.2
  intro n
  induction n with
  | zero =>
    intro fuel hf m k h10 hk hi
    obtain ⟨fuel, rfl⟩ : ∃ f, fuel = f + 1 := ⟨fuel - 1, by omega⟩
    have r1 := rf23_1 h10.1
    have b3 := h10.2.1
    refine ⟨m, ?_, rfl, fun _ _ _ => rfl, fun i hi2 => hk i hi2 (by have := hO.1 i hi2; omega)⟩
    show nb_X10_laysOrder_2 F s (nl_X10_laysOrder_2 F s fuel) m 23 (q32 k) = _
    unfold nb_X10_laysOrder_2
    simp (disch := omega) only [Option.bind_some, bindv, bindv0, bind2_s, bind3_s, ↓reduceIte, Bool.false_eq_true, rZM_0, rZM_1, rZP_0, rZP_1, ptZ_0, ptZ_1, c32i, c64i, ncI, Int.natCast_add, Int.natCast_mul, q32_neg, q64_neg, q32_add, q32_sub, q32_mul, q64_add, q64_sub, q64_mul, q32_64i, q64_32, q32_lt_t, q32_lt_f, q32_le_t, q32_le_f, q32_eq_t, q32_eq_f, q64_lt_t, q64_lt_f, q64_le_t, q64_le_f, q64_eq_t, q64_eq_f, rdI_i, rdL_i, rdR_i, rdN_i, stI_i, stL_i, stR_i, wI_s, wI_n, wL_s, wL_n, wI_2, wI_3, wL_1, wL_3, wR_1, wR_2, Int.toNat_natCast, tnO, tn_add, tn_sub, tn_mul, Nat.add_sub_cancel, Nat.add_zero, Nat.zero_add, lnO, win_t, win_f, r1, b3]
  | succ n ih =>
    intro fuel hf m k h10 hk hi
    obtain ⟨fuel, rfl⟩ : ∃ f, fuel = f + 1 := ⟨fuel - 1, by omega⟩
    have r1 := rf23_1 h10.1
    have r23 := rf23_23 h10.1
    have b3 := h10.2.1
    obtain ⟨p, hpf, hpk⟩ := hO.sur (k := k) (by omega)
    have pl : n_X10_placeOf F s m 23 (q32 k) = some (q32 (Sm (blw U L (U k) (L k)) fc : Nat)) := placeL hp h10.1 h8 b3 (fun i hi => by
      obtain ⟨v1, v2, -⟩ := h10.2.2 i hi
      obtain ⟨w1, w2, w3, w4, -⟩ := hd.b hi
      exact ⟨v1, v2, by omega⟩) (by omega) fc F (by omega) 0 (by omega)
    have := hO.place hpf
    rw [hpk] at this
    rw [this] at pl
    obtain ⟨m', q1, q2, q3, q4⟩ := ih fuel (by omega) (wI m 30 p (q32 k)) (k + 1) (h10.k (fun j hj => by simp (disch := omega) only [Option.bind_some, bindv, bindv0, bind2_s, bind3_s, ↓reduceIte, Bool.false_eq_true, rZM_0, rZM_1, rZP_0, rZP_1, ptZ_0, ptZ_1, c32i, c64i, ncI, Int.natCast_add, Int.natCast_mul, q32_neg, q64_neg, q32_add, q32_sub, q32_mul, q64_add, q64_sub, q64_mul, q32_64i, q64_32, q32_lt_t, q32_lt_f, q32_le_t, q32_le_f, q32_eq_t, q32_eq_f, q64_lt_t, q64_lt_f, q64_le_t, q64_le_f, q64_eq_t, q64_eq_f, rdI_i, rdL_i, rdR_i, rdN_i, stI_i, stL_i, stR_i, wI_s, wI_n, wL_s, wL_n, wI_2, wI_3, wL_1, wL_3, wR_1, wR_2, Int.toNat_natCast, tnO, tn_add, tn_sub, tn_mul, Nat.add_sub_cancel, Nat.add_zero, Nat.zero_add, lnO, win_t, win_f]) rfl h8) (fun i h1 h2 => by
      by_cases c : i = p
      · subst c; rw [wI_s, hpk]
      · rw [wI_n (by omega)]
        refine hk i h1 ?_
        have : O i ≠ k := fun e => c (hO.inj i p h1 hpf (by omega))
        omega) (by omega)
    refine ⟨m', ?_, q2, fun a j hj => by rw [q3 a j hj]; simp (disch := omega) only [Option.bind_some, bindv, bindv0, bind2_s, bind3_s, ↓reduceIte, Bool.false_eq_true, rZM_0, rZM_1, rZP_0, rZP_1, ptZ_0, ptZ_1, c32i, c64i, ncI, Int.natCast_add, Int.natCast_mul, q32_neg, q64_neg, q32_add, q32_sub, q32_mul, q64_add, q64_sub, q64_mul, q32_64i, q64_32, q32_lt_t, q32_lt_f, q32_le_t, q32_le_f, q32_eq_t, q32_eq_f, q64_lt_t, q64_lt_f, q64_le_t, q64_le_f, q64_eq_t, q64_eq_f, rdI_i, rdL_i, rdR_i, rdN_i, stI_i, stL_i, stR_i, wI_s, wI_n, wL_s, wL_n, wI_2, wI_3, wL_1, wL_3, wR_1, wR_2, Int.toNat_natCast, tnO, tn_add, tn_sub, tn_mul, Nat.add_sub_cancel, Nat.add_zero, Nat.zero_add, lnO, win_t, win_f], q4⟩
    show nb_X10_laysOrder_2 F s (nl_X10_laysOrder_2 F s fuel) m 23 (q32 k) = _
    unfold nb_X10_laysOrder_2
    rw [Int.natCast_add] at q1
    simp (disch := omega) only [Option.bind_some, bindv, bindv0, bind2_s, bind3_s, ↓reduceIte, Bool.false_eq_true, rZM_0, rZM_1, rZP_0, rZP_1, ptZ_0, ptZ_1, c32i, c64i, ncI, Int.natCast_add, Int.natCast_mul, q32_neg, q64_neg, q32_add, q32_sub, q32_mul, q64_add, q64_sub, q64_mul, q32_64i, q64_32, q32_lt_t, q32_lt_f, q32_le_t, q32_le_f, q32_eq_t, q32_eq_f, q64_lt_t, q64_lt_f, q64_le_t, q64_le_f, q64_eq_t, q64_eq_f, rdI_i, rdL_i, rdR_i, rdN_i, stI_i, stL_i, stR_i, wI_s, wI_n, wL_s, wL_n, wI_2, wI_3, wL_1, wL_3, wR_1, wR_2, Int.toNat_natCast, tnO, tn_add, tn_sub, tn_mul, Nat.add_sub_cancel, Nat.add_zero, Nat.zero_add, lnO, win_t, win_f, r1, r23, b3, pl]
    exact q1
theorem order10 {F : Nat} (hF : 100 ≤ F) {s : List Sh} (hp : ∃ t, s = sB ++ t) {fc tp : Nat} {U L : Nat → Int} {X : Nat → Nat → Nat} {O : Nat → Nat} (hd : FD fc tp U L X O) {m : Mem} (h10 : F10 m fc U L X) : ∃ m', n_X10_laysOrder F s m 23 = some ((), m') ∧ m'.2 = m.2 ∧ (∀ a k, a ≠ 30 → m'.1 a k = m.1 a k) ∧ ∀ i, i < fc → m'.1 30 i = q32 (O i) := orderL hF hp hd fc F (by have := hd.1; omega) m 0 h10 (fun i _ h => by omega) (by omega)
/-- the walk to the place -/
theorem stuffL10 {F : Nat} {s : List Sh} (hp : ∃ t, s = sB ++ t) {fc tp : Nat} {U L : Nat → Int} {X : Nat → Nat → Nat} {O : Nat → Nat} (hd : FD fc tp U L X O) {m : Mem} (h10 : F10 m fc U L X) (ho : ∀ i, i < fc → m.1 30 i = q32 (O i)) {f : FR} (h1 : 0 ≤ f.1 ∧ f.1 ≤ 1000000) (h2 : 1 ≤ f.2 ∧ f.2 ≤ 1000000) {v1 v2 : Int32} : ∀ (n fuel : Nat), n < fuel → ∀ (i : Nat), i + n = Sm (blw U L f.1 f.2) fc → nl_X10_laysStuff_7 F s fuel m 23 v1 v2 (q64 f.1) (q64 f.2) (q32 i) = nb_X10_laysStuff_65 F s m 23 v1 v2 (q64 f.1) (q64 f.2) (q32 (Sm (blw U L f.1 f.2) fc : Nat)) := by
  have l24 := ln24 hp
  have l30 := ln30 hp
  have h8 := hd.1
  have r1 := rf23_1 h10.1
  have r23 := rf23_23 h10.1
  have b3 := h10.2.1
  obtain ⟨c1, c2, c3⟩ := hd.2.2.2.2.cnt (u := f.1) (l := f.2) (by omega)
  have hO := hd.2.2.2.2.1
  intro n
  induction n with
  | zero =>
    intro fuel hf i hi
    obtain ⟨fuel, rfl⟩ : ∃ f, fuel = f + 1 := ⟨fuel - 1, by omega⟩
    have hS : Sm (blw U L f.1 f.2) fc = i := by omega
    rw [hS] at c1 c2 c3 ⊢
    show nb_X10_laysStuff_7 F s (nl_X10_laysStuff_7 F s fuel) m 23 v1 v2 (q64 f.1) (q64 f.2) (q32 i) = _
    unfold nb_X10_laysStuff_7
    by_cases c : i = fc
    · simp (disch := omega) only [Option.bind_some, bindv, bindv0, bind2_s, bind3_s, ↓reduceIte, Bool.false_eq_true, rZM_0, rZM_1, rZP_0, rZP_1, ptZ_0, ptZ_1, c32i, c64i, ncI, Int.natCast_add, Int.natCast_mul, q32_neg, q64_neg, q32_add, q32_sub, q32_mul, q64_add, q64_sub, q64_mul, q32_64i, q64_32, q32_lt_t, q32_lt_f, q32_le_t, q32_le_f, q32_eq_t, q32_eq_f, q64_lt_t, q64_lt_f, q64_le_t, q64_le_f, q64_eq_t, q64_eq_f, rdI_i, rdL_i, rdR_i, rdN_i, stI_i, stL_i, stR_i, wI_s, wI_n, wL_s, wL_n, wI_2, wI_3, wL_1, wL_3, wR_1, wR_2, Int.toNat_natCast, tnO, tn_add, tn_sub, tn_mul, Nat.add_sub_cancel, Nat.add_zero, Nat.zero_add, lnO, win_t, win_f, r1, b3]
    · have hk := hO i (by omega)
      obtain ⟨d1, d2, -⟩ := h10.2.2 _ hk
      obtain ⟨g1, g2, g3, g4, -⟩ := hd.b hk
      have nb := c3 i (by omega) (by omega)
      have ag := agn (a := U (O i)) (b := L (O i)) (c := f.1) (d := f.2) (by omega) (by omega) (by omega) (by omega)
      rw [if_neg nb] at ag
      by_cases hb2 : f.1 * L (O i) < U (O i) * f.2
      · rw [if_pos hb2] at ag
        simp (disch := omega) only [Option.bind_some, bindv, bindv0, bind2_s, bind3_s, ↓reduceIte, Bool.false_eq_true, rZM_0, rZM_1, rZP_0, rZP_1, ptZ_0, ptZ_1, c32i, c64i, ncI, Int.natCast_add, Int.natCast_mul, q32_neg, q64_neg, q32_add, q32_sub, q32_mul, q64_add, q64_sub, q64_mul, q32_64i, q64_32, q32_lt_t, q32_lt_f, q32_le_t, q32_le_f, q32_eq_t, q32_eq_f, q64_lt_t, q64_lt_f, q64_le_t, q64_le_f, q64_eq_t, q64_eq_f, rdI_i, rdL_i, rdR_i, rdN_i, stI_i, stL_i, stR_i, wI_s, wI_n, wL_s, wL_n, wI_2, wI_3, wL_1, wL_3, wR_1, wR_2, Int.toNat_natCast, tnO, tn_add, tn_sub, tn_mul, Nat.add_sub_cancel, Nat.add_zero, Nat.zero_add, lnO, win_t, win_f, r1, r23, b3, ho i (by omega), d1, d2, ag]
      · rw [if_neg hb2] at ag
        simp (disch := omega) only [Option.bind_some, bindv, bindv0, bind2_s, bind3_s, ↓reduceIte, Bool.false_eq_true, rZM_0, rZM_1, rZP_0, rZP_1, ptZ_0, ptZ_1, c32i, c64i, ncI, Int.natCast_add, Int.natCast_mul, q32_neg, q64_neg, q32_add, q32_sub, q32_mul, q64_add, q64_sub, q64_mul, q32_64i, q64_32, q32_lt_t, q32_lt_f, q32_le_t, q32_le_f, q32_eq_t, q32_eq_f, q64_lt_t, q64_lt_f, q64_le_t, q64_le_f, q64_eq_t, q64_eq_f, rdI_i, rdL_i, rdR_i, rdN_i, stI_i, stL_i, stR_i, wI_s, wI_n, wL_s, wL_n, wI_2, wI_3, wL_1, wL_3, wR_1, wR_2, Int.toNat_natCast, tnO, tn_add, tn_sub, tn_mul, Nat.add_sub_cancel, Nat.add_zero, Nat.zero_add, lnO, win_t, win_f, r1, r23, b3, ho i (by omega), d1, d2, ag]
  | succ n ih =>
    intro fuel hf i hi
    obtain ⟨fuel, rfl⟩ : ∃ f, fuel = f + 1 := ⟨fuel - 1, by omega⟩
    have hk := hO i (by omega)
    obtain ⟨d1, d2, -⟩ := h10.2.2 _ hk
    obtain ⟨g1, g2, g3, g4, -⟩ := hd.b hk
    have nb := c2 i (by omega)
    have ag := agn (a := U (O i)) (b := L (O i)) (c := f.1) (d := f.2) (by omega) (by omega) (by omega) (by omega)
    rw [if_pos nb] at ag
    have ih := ih fuel (by omega) (i + 1) (by omega)
    rw [Int.natCast_add] at ih
    show nb_X10_laysStuff_7 F s (nl_X10_laysStuff_7 F s fuel) m 23 v1 v2 (q64 f.1) (q64 f.2) (q32 i) = _
    unfold nb_X10_laysStuff_7
    simp (disch := omega) only [Option.bind_some, bindv, bindv0, bind2_s, bind3_s, ↓reduceIte, Bool.false_eq_true, rZM_0, rZM_1, rZP_0, rZP_1, ptZ_0, ptZ_1, c32i, c64i, ncI, Int.natCast_add, Int.natCast_mul, q32_neg, q64_neg, q32_add, q32_sub, q32_mul, q64_add, q64_sub, q64_mul, q32_64i, q64_32, q32_lt_t, q32_lt_f, q32_le_t, q32_le_f, q32_eq_t, q32_eq_f, q64_lt_t, q64_lt_f, q64_le_t, q64_le_f, q64_eq_t, q64_eq_f, rdI_i, rdL_i, rdR_i, rdN_i, stI_i, stL_i, stR_i, wI_s, wI_n, wL_s, wL_n, wI_2, wI_3, wL_1, wL_3, wR_1, wR_2, Int.toNat_natCast, tnO, tn_add, tn_sub, tn_mul, Nat.add_sub_cancel, Nat.add_zero, Nat.zero_add, lnO, win_t, win_f, r1, r23, b3, ho i (by omega), d1, d2, ag]
    exact ih
