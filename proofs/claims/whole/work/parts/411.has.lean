/-! PURE: what lies at a floor, by the reference; has, rent, rents, richest -/
def KS (m m' : Mem) : Prop := m'.2.2 = m.2.2 ∧ (∀ a k, a ≠ 30 → m'.1 a k = m.1 a k) ∧ ∀ a k, a ≠ 23 ∨ (k ≠ 15 ∧ k ≠ 16) → m'.2.1 a k = m.2.1 a k
theorem KS.sc {m m' : Mem} (h : KS m m') : SC m m' := SC.of (fun a k => by
  by_cases c : a = 30
  · omega
  · rw [h.2.1 a k c]; simp) (fun a k => by
  by_cases c : a = 23
  · omega
  · rw [h.2.2 a k (Or.inl c)]; simp) h.1
theorem KS.tr {m m1 m2 : Mem} (h : KS m m1) (h2 : KS m1 m2) : KS m m2 := ⟨h2.1.trans h.1, fun a k p => (h2.2.1 a k p).trans (h.2.1 a k p), fun a k p => (h2.2.2 a k p).trans (h.2.2 a k p)⟩
theorem F10.ks {m m' : Mem} {fc : Nat} {U L : Nat → Int} {X : Nat → Nat → Nat} (h : F10 m fc U L X) (k : KS m m') (h8 : fc ≤ 8) : F10 m' fc U L X := h.k (fun j _ => k.2.1 _ _ (by omega)) k.1 h8
theorem wx_pos {fc tp : Nat} {U L : Nat → Int} {X : Nat → Nat → Nat} {O : Nat → Nat} (hd : FD fc tp U L X O) {f : FR} (h1 : 0 ≤ f.1) (h2 : 1 ≤ f.2) {p : Nat} (hp : p = Sm (blw U L f.1 f.2) fc) (p0 : p ≠ 0) (pf : p ≠ fc) : 0 ≤ (f.1 * L (O (p - 1)) - U (O (p - 1)) * f.2) * L (O p) ∧ (f.1 * L (O (p - 1)) - U (O (p - 1)) * f.2) * L (O p) ≤ f.2 * WD U L (O (p - 1)) (O p) ∧ 0 < f.2 * WD U L (O (p - 1)) (O p) := by
  obtain ⟨c1, c2, c3⟩ := hd.2.2.2.2.cnt (u := f.1) (l := f.2) (by omega)
  rw [← hp] at c1 c2 c3
  have hO := hd.2.2.2.2.1
  have n1 := c2 (p - 1) (by omega)
  have n2 := c3 p (by omega) (by omega)
  obtain ⟨b1, b2, b3, b4, -⟩ := hd.b (hO (p - 1) (by omega))
  obtain ⟨g1, g2, g3, g4, -⟩ := hd.b (hO p (by omega))
  obtain ⟨w1, w2⟩ := WD_b hd (i := p - 1) (j := p) (by omega) (by omega)
  refine ⟨Int.mul_nonneg (by omega) (by omega), ?_, Int.mul_pos (by omega) (by omega)⟩
  unfold WD
  generalize U (O (p - 1)) = ub at *
  generalize L (O (p - 1)) = lb at *
  generalize U (O p) = uk at *
  generalize L (O p) = lk at *
  have k1 : f.1 * lk ≤ uk * f.2 := by omega
  have k2 : (f.1 * lk) * lb ≤ (uk * f.2) * lb := Int.mul_le_mul_of_nonneg_right k1 (by omega)
  have e1 : (f.1 * lb - ub * f.2) * lk = (f.1 * lk) * lb - ub * f.2 * lk := by grind
  have e2 : f.2 * (uk * lb - ub * lk) = (uk * f.2) * lb - ub * f.2 * lk := by grind
  omega
theorem STF_b {fc tp : Nat} {U L : Nat → Int} {X : Nat → Nat → Nat} {O : Nat → Nat} (hd : FD fc tp U L X O) {f : FR} (h1 : 0 ≤ f.1) {Q : Nat} (hQ : 1 ≤ Q) (h2 : 1 ≤ f.2 ∧ f.2 ≤ Q) {z : Nat} (hz : z < 3) : 0 ≤ (STF fc U L (fun k => X k z) O f).1 ∧ (STF fc U L (fun k => X k z) O f).1 ≤ 99 * (STF fc U L (fun k => X k z) O f).2 ∧ 1 ≤ (STF fc U L (fun k => X k z) O f).2 ∧ (STF fc U L (fun k => X k z) O f).2 ≤ Q * 100000 := by
  have hO := hd.2.2.2.2.1
  unfold STF
  generalize hp : Sm (blw U L f.1 f.2) fc = p
  have hp := hp.symm
  by_cases d0 : fc = 0
  · rw [if_pos d0]; simp; omega
  · rw [if_neg d0]
    by_cases d1 : p = fc
    · rw [if_pos d1]
      have hx := (hd.b (hO (fc - 1) (by omega))).2.2.2.2 z hz
      dsimp only
      omega
    · rw [if_neg d1]
      by_cases d2 : p = 0
      · rw [if_pos d2]
        have hx := (hd.b (hO 0 (by omega))).2.2.2.2 z hz
        dsimp only
        omega
      · rw [if_neg d2]
        have pf : p < fc := by
          have := (hd.2.2.2.2.cnt (u := f.1) (l := f.2) (by omega)).1
          rw [← hp] at this
          omega
        obtain ⟨w1, w2, w3⟩ := wx_pos hd h1 h2.1 hp d2 d1
        have xb := (hd.b (hO (p - 1) (by omega))).2.2.2.2 z hz
        have xk := (hd.b (hO p (by omega))).2.2.2.2 z hz
        obtain ⟨v1, v2⟩ := WD_b hd (i := p - 1) (j := p) (by omega) (by omega)
        dsimp only
        have e : (X (O (p - 1)) z : Int) * f.2 * WD U L (O (p - 1)) (O p) + ((X (O p) z : Int) - (X (O (p - 1)) z : Int)) * (f.1 * L (O (p - 1)) - U (O (p - 1)) * f.2) * L (O p) = (X (O (p - 1)) z : Int) * (f.2 * WD U L (O (p - 1)) (O p) - (f.1 * L (O (p - 1)) - U (O (p - 1)) * f.2) * L (O p)) + (X (O p) z : Int) * ((f.1 * L (O (p - 1)) - U (O (p - 1)) * f.2) * L (O p)) := by grind
        rw [e]
        generalize (f.1 * L (O (p - 1)) - U (O (p - 1)) * f.2) * L (O p) = g at *
        have hD : f.2 * WD U L (O (p - 1)) (O p) ≤ Q * 100000 := Int.mul_le_mul h2.2 v2 (by omega) (by omega)
        generalize f.2 * WD U L (O (p - 1)) (O p) = D at *
        generalize X (O (p - 1)) z = a at *
        generalize X (O p) z = b at *
        have k1 : 0 ≤ (a : Int) * (D - g) := Int.mul_nonneg (by omega) (by omega)
        have k2 : 0 ≤ (b : Int) * g := Int.mul_nonneg (by omega) (by omega)
        have k3 : (a : Int) * (D - g) ≤ 99 * (D - g) := Int.mul_le_mul_of_nonneg_right (by omega) (by omega)
        have k4 : (b : Int) * g ≤ 99 * g := Int.mul_le_mul_of_nonneg_right (by omega) (by omega)
        generalize hN : (a : Int) * (D - g) + (b : Int) * g = N at *
        obtain ⟨n1, n2, n3, n4, n5⟩ := nrm_ok (p := N) (q := D) (by omega)
        have n0 : 0 ≤ (nrm N D).1 := by
          apply Classical.byContradiction
          intro hneg
          have q1 : (nrm N D).1 * D < 0 := Int.mul_neg_of_neg_of_pos (by omega) w3
          have q2 : 0 ≤ N * (nrm N D).2 := Int.mul_nonneg (by omega) (by omega)
          omega
        refine ⟨n0, ?_, n2, by omega⟩
        apply Classical.byContradiction
        intro hneg
        have q1 : 99 * (nrm N D).2 * D < (nrm N D).1 * D := Int.mul_lt_mul_of_pos_right (by omega) w3
        have q2 : N * (nrm N D).2 ≤ 99 * D * (nrm N D).2 := Int.mul_le_mul_of_nonneg_right (by omega) (by omega)
        have q3 : 99 * (nrm N D).2 * D = 99 * D * (nrm N D).2 := by grind
        omega
theorem stuff10 {F : Nat} (hF : 1000 ≤ F) {s : List Sh} (hp : ∃ t, s = sB ++ t) {m : Mem} {fc tp : Nat} {U L : Nat → Int} {X : Nat → Nat → Nat} {O : Nat → Nat} (hd : FD fc tp U L X O) (h10 : F10 m fc U L X) {f : FR} (h1 : 0 ≤ f.1 ∧ f.1 ≤ 1000000) (h2 : 1 ≤ f.2 ∧ f.2 ≤ 1000000) {z : Nat} (hz : z < 3) : ∃ m', n_X10_laysStuff F s m 23 (q32 z) (q32 3) (q64 f.1) (q64 f.2) = some ((), m') ∧ KS m m' ∧ m'.2.1 23 15 = q64 (STF fc U L (fun k => X k z) O f).1 ∧ m'.2.1 23 16 = q64 (STF fc U L (fun k => X k z) O f).2 := by
  obtain ⟨m1, o1, o2, o3, o4⟩ := order10 (F := F) (by omega) hp hd h10
  have h8 := hd.1
  have h10' : F10 m1 fc U L X := h10.k (fun j _ => o3 _ _ (by omega)) (by rw [o2]) h8
  have k1 : KS m m1 := ⟨by rw [o2], o3, fun a k _ => by rw [o2]⟩
  have lp : nl_X10_laysStuff_7 F s F m1 23 (q32 z) (q32 3) (q64 f.1) (q64 f.2) (q32 0) = _ := stuffL10 (F := F) hp hd h10' o4 h1 h2 (v1 := q32 z) (v2 := q32 3) (Sm (blw U L f.1 f.2) fc) F (by have := (hd.2.2.2.2.cnt (u := f.1) (l := f.2) (by omega)).1; omega) 0 (by omega)
  obtain ⟨c1, -, -⟩ := hd.2.2.2.2.cnt (u := f.1) (l := f.2) (by omega)
  have hO := hd.2.2.2.2.1
  have l24 := ln24 hp
  have l30 := ln30 hp
  have r1 := rf23_1 h10'.1
  have r23 := rf23_23 h10'.1
  have b3 := h10'.2.1
  have pre : n_X10_laysStuff F s m 23 (q32 z) (q32 3) (q64 f.1) (q64 f.2) = nb_X10_laysStuff_65 F s m1 23 (q32 z) (q32 3) (q64 f.1) (q64 f.2) (q32 (Sm (blw U L f.1 f.2) fc : Nat)) := by
    rw [← lp]
    unfold n_X10_laysStuff nb_X10_laysStuff_0
    simp (disch := omega) only [Option.bind_some, bindv, bindv0, bind2_s, bind3_s, ↓reduceIte, Bool.false_eq_true, rZM_0, rZM_1, rZP_0, rZP_1, ptZ_0, ptZ_1, c32i, c64i, ncI, Int.natCast_add, Int.natCast_mul, q32_neg, q64_neg, q32_add, q32_sub, q32_mul, q64_add, q64_sub, q64_mul, q32_64i, q64_32, q32_lt_t, q32_lt_f, q32_le_t, q32_le_f, q32_eq_t, q32_eq_f, q64_lt_t, q64_lt_f, q64_le_t, q64_le_f, q64_eq_t, q64_eq_f, rdI_i, rdL_i, rdR_i, rdN_i, stI_i, stL_i, stR_i, wI_s, wI_n, wL_s, wL_n, wI_2, wI_3, wL_1, wL_3, wR_1, wR_2, Int.toNat_natCast, tnO, tn_add, tn_sub, tn_mul, Nat.add_sub_cancel, Nat.add_zero, Nat.zero_add, lnO, win_t, win_f, o1]
  rw [pre]
  have fin : ∀ g : FR, nb_X10_laysStuff_65 F s m1 23 (q32 z) (q32 3) (q64 f.1) (q64 f.2) (q32 (Sm (blw U L f.1 f.2) fc : Nat)) = some ((), PS m1 g) → g = STF fc U L (fun k => X k z) O f → ∃ m', nb_X10_laysStuff_65 F s m1 23 (q32 z) (q32 3) (q64 f.1) (q64 f.2) (q32 (Sm (blw U L f.1 f.2) fc : Nat)) = some ((), m') ∧ KS m m' ∧ m'.2.1 23 15 = q64 (STF fc U L (fun k => X k z) O f).1 ∧ m'.2.1 23 16 = q64 (STF fc U L (fun k => X k z) O f).2 := fun g e1 e2 => by
    subst e2
    exact ⟨_, e1, k1.tr ⟨rfl, fun _ _ _ => rfl, fun a k h => PS_n h⟩, PS_0 _ _, PS_l _ _⟩
  generalize hP : Sm (blw U L f.1 f.2) fc = p at *
  have one : ∀ k, k < fc → ∀ v : Int, v = X k z → n_X10_lays s m1 23 (q64 v) (q64 1) = some ((), PS m1 (v, 1)) := fun k hk v hv => by
    have hx := (hd.b hk).2.2.2.2 z hz
    have := lays10e (s := s) (m := m1) (p := v) (q := 1) (by omega) (by omega) (by omega)
    rwa [nrm_one] at this
  by_cases d0 : fc = 0
  · have la := lays10e (s := s) (m := m1) (p := 0) (q := 1) (by omega) (by omega) (by omega)
    rw [nrm_one] at la
    refine fin (0, 1) ?_ (by unfold STF; rw [if_pos d0])
    subst d0
    unfold nb_X10_laysStuff_65
    simp (disch := omega) only [Option.bind_some, bindv, bindv0, bind2_s, bind3_s, ↓reduceIte, Bool.false_eq_true, rZM_0, rZM_1, rZP_0, rZP_1, ptZ_0, ptZ_1, c32i, c64i, ncI, Int.natCast_add, Int.natCast_mul, q32_neg, q64_neg, q32_add, q32_sub, q32_mul, q64_add, q64_sub, q64_mul, q32_64i, q64_32, q32_lt_t, q32_lt_f, q32_le_t, q32_le_f, q32_eq_t, q32_eq_f, q64_lt_t, q64_lt_f, q64_le_t, q64_le_f, q64_eq_t, q64_eq_f, rdI_i, rdL_i, rdR_i, rdN_i, stI_i, stL_i, stR_i, wI_s, wI_n, wL_s, wL_n, wI_2, wI_3, wL_1, wL_3, wR_1, wR_2, Int.toNat_natCast, tnO, tn_add, tn_sub, tn_mul, Nat.add_sub_cancel, Nat.add_zero, Nat.zero_add, lnO, win_t, win_f, r1, b3, la]
  · by_cases d1 : p = fc
    · have hk := hO (fc - 1) (by omega)
      refine fin ((X (O (fc - 1)) z : Int), 1) ?_ (by unfold STF; rw [if_neg d0, hP, if_pos d1])
      have so := so10 (s := s) hp hd h10' hk hz
      have la := one _ hk _ rfl
      have hx := (hd.b hk).2.2.2.2 z hz
      have oo := o4 (fc - 1) (by omega)
      have en : ((fc : Int) - 1).toNat = fc - 1 := by omega
      subst d1
      unfold nb_X10_laysStuff_65 nb_X10_laysStuff_98 nb_X10_laysStuff_125 nb_X10_laysStuff_181
      have e0 : q32 ((X (O (p - 1)) z : Int) - 0) = q32 (X (O (p - 1)) z : Int) := by rw [Int.sub_zero]
      simp (disch := omega) only [Option.bind_some, bindv, bindv0, bind2_s, bind3_s, ↓reduceIte, Bool.false_eq_true, rZM_0, rZM_1, rZP_0, rZP_1, ptZ_0, ptZ_1, c32i, c64i, ncI, Int.natCast_add, Int.natCast_mul, q32_neg, q64_neg, q32_add, q32_sub, q32_mul, q64_add, q64_sub, q64_mul, q32_64i, q64_32, q32_lt_t, q32_lt_f, q32_le_t, q32_le_f, q32_eq_t, q32_eq_f, q64_lt_t, q64_lt_f, q64_le_t, q64_le_f, q64_eq_t, q64_eq_f, rdI_i, rdL_i, rdR_i, rdN_i, stI_i, stL_i, stR_i, wI_s, wI_n, wL_s, wL_n, wI_2, wI_3, wL_1, wL_3, wR_1, wR_2, Int.toNat_natCast, tnO, tn_add, tn_sub, tn_mul, Nat.add_sub_cancel, Nat.add_zero, Nat.zero_add, lnO, win_t, win_f, r1, r23, b3, en, oo, so, so10z, e0, la]
    · by_cases d2 : p = 0
      · have hk := hO 0 (by omega)
        refine fin ((X (O 0) z : Int), 1) ?_ (by unfold STF; rw [if_neg d0, hP, if_neg d1, if_pos d2])
        have so := so10 (s := s) hp hd h10' hk hz
        have la := one _ hk _ rfl
        have hx := (hd.b hk).2.2.2.2 z hz
        have oo := o4 0 (by omega)
        subst d2
        unfold nb_X10_laysStuff_65 nb_X10_laysStuff_98 nb_X10_laysStuff_125 nb_X10_laysStuff_181
        have e0 : q32 ((X (O 0) z : Int) - 0) = q32 (X (O 0) z : Int) := by rw [Int.sub_zero]
        simp (disch := omega) only [Option.bind_some, bindv, bindv0, bind2_s, bind3_s, ↓reduceIte, Bool.false_eq_true, rZM_0, rZM_1, rZP_0, rZP_1, ptZ_0, ptZ_1, c32i, c64i, ncI, Int.natCast_add, Int.natCast_mul, q32_neg, q64_neg, q32_add, q32_sub, q32_mul, q64_add, q64_sub, q64_mul, q32_64i, q64_32, q32_lt_t, q32_lt_f, q32_le_t, q32_le_f, q32_eq_t, q32_eq_f, q64_lt_t, q64_lt_f, q64_le_t, q64_le_f, q64_eq_t, q64_eq_f, rdI_i, rdL_i, rdR_i, rdN_i, stI_i, stL_i, stR_i, wI_s, wI_n, wL_s, wL_n, wI_2, wI_3, wL_1, wL_3, wR_1, wR_2, Int.toNat_natCast, tnO, tn_add, tn_sub, tn_mul, Nat.add_sub_cancel, Nat.add_zero, Nat.zero_add, lnO, win_t, win_f, r1, r23, b3, oo, so, so10z, e0, la]
      · obtain ⟨w1, w2, w3⟩ := wx_pos hd h1.1 h2.1 hP.symm d2 d1
        obtain ⟨v1, v2⟩ := WD_b hd (i := p - 1) (j := p) (by omega) (by omega)
        have kb := hO (p - 1) (by omega)
        have kk := hO p (by omega)
        have ne : O (p - 1) ≠ O p := fun e => by have := hd.2.2.2.2.inj _ _ (by omega) (by omega) e; omega
        have sb := so10 (s := s) hp hd h10' kb hz
        have sk := so10 (s := s) hp hd h10' kk hz
        have oo1 := o4 (p - 1) (by omega)
        have oo2 := o4 p (by omega)
        obtain ⟨b1, b2, b3', b4, b5⟩ := hd.b kb
        obtain ⟨g1, g2, g3, g4, g5⟩ := hd.b kk
        have xb := b5 z hz
        have xk := g5 z hz
        obtain ⟨vb1, vb2, -⟩ := h10'.2.2 _ kb
        obtain ⟨vk1, vk2, -⟩ := h10'.2.2 _ kk
        have en : ((p : Int) - 1).toNat = p - 1 := by omega
        have la := one _ kb _ rfl
        have hS : STF fc U L (fun k => X k z) O f = nrm ((X (O (p - 1)) z : Int) * f.2 * WD U L (O (p - 1)) (O p) + ((X (O p) z : Int) - (X (O (p - 1)) z : Int)) * (f.1 * L (O (p - 1)) - U (O (p - 1)) * f.2) * L (O p)) (f.2 * WD U L (O (p - 1)) (O p)) := by
          unfold STF
          rw [if_neg d0, hP, if_neg d1, if_neg d2]
        have e0 : q32 ((X (O (p - 1)) z : Int) - 0) = q32 (X (O (p - 1)) z : Int) := by rw [Int.sub_zero]
        have e00 : q32 ((X (O p) z : Int) - 0) = q32 (X (O p) z : Int) := by rw [Int.sub_zero]
        by_cases d3 : X (O p) z = X (O (p - 1)) z
        · refine fin ((X (O (p - 1)) z : Int), 1) ?_ ?_
          · unfold nb_X10_laysStuff_65 nb_X10_laysStuff_98 nb_X10_laysStuff_125 nb_X10_laysStuff_181
            simp (disch := omega) only [Option.bind_some, bindv, bindv0, bind2_s, bind3_s, ↓reduceIte, Bool.false_eq_true, rZM_0, rZM_1, rZP_0, rZP_1, ptZ_0, ptZ_1, c32i, c64i, ncI, Int.natCast_add, Int.natCast_mul, q32_neg, q64_neg, q32_add, q32_sub, q32_mul, q64_add, q64_sub, q64_mul, q32_64i, q64_32, q32_lt_t, q32_lt_f, q32_le_t, q32_le_f, q32_eq_t, q32_eq_f, q64_lt_t, q64_lt_f, q64_le_t, q64_le_f, q64_eq_t, q64_eq_f, rdI_i, rdL_i, rdR_i, rdN_i, stI_i, stL_i, stR_i, wI_s, wI_n, wL_s, wL_n, wI_2, wI_3, wL_1, wL_3, wR_1, wR_2, Int.toNat_natCast, tnO, tn_add, tn_sub, tn_mul, Nat.add_sub_cancel, Nat.add_zero, Nat.zero_add, lnO, win_t, win_f, r1, r23, b3, en, oo1, oo2, sb, sk, so10z, e0, e00, la]
          · rw [hS, d3, ← nrm_one]
            refine nrm_eq (by omega) (by omega) ?_
            grind
        · have hg : (f.1 * L (O (p - 1)) - U (O (p - 1)) * f.2).natAbs ≤ 1000000000 := by
            have := mulB (show f.1.natAbs ≤ 1000000 by omega) (show (L (O (p - 1))).natAbs ≤ 99 by omega)
            have := mulB (show (U (O (p - 1))).natAbs ≤ 891 by omega) (show f.2.natAbs ≤ 1000000 by omega)
            omega
          have hg2 := mulB hg (show (L (O p)).natAbs ≤ 99 by omega)
          have hD := mulB (show f.2.natAbs ≤ 1000000 by omega) (show (WD U L (O (p - 1)) (O p)).natAbs ≤ 100000 by omega)
          obtain ⟨n1, n2, n3, n4, n5⟩ := nrm_ok (p := (f.1 * L (O (p - 1)) - U (O (p - 1)) * f.2) * L (O p)) (q := f.2 * WD U L (O (p - 1)) (O p)) (by omega)
          have la1 := lays10e (s := s) (m := m1) (p := (f.1 * L (O (p - 1)) - U (O (p - 1)) * f.2) * L (O p)) (q := f.2 * WD U L (O (p - 1)) (O p)) (by omega) (by omega) (by omega)
          generalize hN : nrm ((f.1 * L (O (p - 1)) - U (O (p - 1)) * f.2) * L (O p)) (f.2 * WD U L (O (p - 1)) (O p)) = N at *
          have hN1 := mulB (show ((X (O (p - 1)) z : Int)).natAbs ≤ 99 by omega) (show N.2.natAbs ≤ 100000000000 by omega)
          have hN2 := mulB (show ((X (O p) z : Int) - (X (O (p - 1)) z : Int)).natAbs ≤ 99 by omega) (show N.1.natAbs ≤ 99000000000 by omega)
          have la2 := lays10e (s := s) (m := PS m1 N) (p := (X (O (p - 1)) z : Int) * N.2 + ((X (O p) z : Int) - (X (O (p - 1)) z : Int)) * N.1) (q := N.2) (by omega) (by omega) (by omega)
          have hpp : PS (PS m1 N) (nrm ((X (O (p - 1)) z : Int) * N.2 + ((X (O p) z : Int) - (X (O (p - 1)) z : Int)) * N.1) N.2) = PS m1 (nrm ((X (O (p - 1)) z : Int) * N.2 + ((X (O p) z : Int) - (X (O (p - 1)) z : Int)) * N.1) N.2) := by
            refine Prod.ext rfl (Prod.ext ?_ rfl)
            funext a k
            by_cases c : a ≠ 23 ∨ (k ≠ 15 ∧ k ≠ 16)
            · rw [PS_n c, PS_n c, PS_n c]
            · obtain ⟨rfl, hk⟩ : a = 23 ∧ (k = 15 ∨ k = 16) := by omega
              rcases hk with rfl | rfl
              · rw [PS_0, PS_0]
              · rw [PS_l, PS_l]
          rw [hpp] at la2
          refine fin _ ?_ (?_ : nrm ((X (O (p - 1)) z : Int) * N.2 + ((X (O p) z : Int) - (X (O (p - 1)) z : Int)) * N.1) N.2 = _)
          · unfold nb_X10_laysStuff_65 nb_X10_laysStuff_98 nb_X10_laysStuff_125
            unfold WD at la1
            simp (disch := omega) only [Option.bind_some, bindv, bindv0, bind2_s, bind3_s, ↓reduceIte, Bool.false_eq_true, rZM_0, rZM_1, rZP_0, rZP_1, ptZ_0, ptZ_1, c32i, c64i, ncI, Int.natCast_add, Int.natCast_mul, q32_neg, q64_neg, q32_add, q32_sub, q32_mul, q64_add, q64_sub, q64_mul, q32_64i, q64_32, q32_lt_t, q32_lt_f, q32_le_t, q32_le_f, q32_eq_t, q32_eq_f, q64_lt_t, q64_lt_f, q64_le_t, q64_le_f, q64_eq_t, q64_eq_f, rdI_i, rdL_i, rdR_i, rdN_i, stI_i, stL_i, stR_i, wI_s, wI_n, wL_s, wL_n, wI_2, wI_3, wL_1, wL_3, wR_1, wR_2, Int.toNat_natCast, tnO, tn_add, tn_sub, tn_mul, Nat.add_sub_cancel, Nat.add_zero, Nat.zero_add, lnO, win_t, win_f, r1, r23, b3, en, oo1, oo2, sb, sk, so10z, e0, e00, vb1, vb2, vk1, vk2, la1, PS_0, PS_l, la2]
          · rw [hS]
            refine nrm_eq (by omega) (by omega) ?_
            generalize WD U L (O (p - 1)) (O p) = wd at *
            generalize U (O (p - 1)) = ub at *
            generalize L (O (p - 1)) = lb at *
            generalize L (O p) = lk at *
            generalize (X (O (p - 1)) z : Int) = a at *
            generalize (X (O p) z : Int) = b at *
            have := congrArg (fun t => (b - a) * t) n3
            grind
