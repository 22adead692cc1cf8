theorem RD.sc {m m' : Mem} {al : Nat → Int32} (h : RD m al) (e : SC m m') : RD m' al := ⟨h.1.same e.r, fun k hk => by rw [e.i 24 k (by omega)]; exact h.2 k hk⟩
theorem RC.out {s : List Sh} {m : Mem} {ow : Nat → Nat} {nw q : Nat} {al : Nat → Int32} {bc : Nat} (h : RC s m ow nw q al bc) {i : Nat} (hi : i < 10) : ¬ (q ≤ nw + i ∧ nw + i < q + 10) := fun hc => by
  have hb := h.1.1.2.2.2.1
  have ho := h.1.1.2.2.2.2.1
  obtain ⟨qb, qo⟩ := h.1.1.2.2.2.2.2.2.1 q h.2.1
  have hne : nw ≠ q := ok_ne hb.2.1 qb.2.1 (by omega) (by omega) (by omega)
  have := ow_out ho qo hne hi (show nw + i - q < 10 by omega)
  omega
theorem layM10 {F : Nat} (hF : 20000 ≤ F) {s : List Sh} (hp : ∃ t, s = sB ++ t) {al : Nat → Int32} (hwa : WA al) {bc : Nat} (h2 : al 2 = q32 bc) (hbc : bc ≤ 6) {w n t u : Nat} (hw1 : w ≤ 1) (hn : n ≤ 4) (ht : t < 6) (hu : u < 6) {x y : FR} (hx : FLR (A al 1) x.1 x.2) (hy : FLR (A al 1) y.1 y.2) (x1 : al (49 + t) = q32 x.1) (x2 : al (55 + t) = q32 x.2) (y1 : al (49 + u) = q32 y.1) (y2 : al (55 + u) = q32 y.2) {m : Mem} (hr : RD m al) : ∃ m', n_X10_laysMeet F s m 23 (q32 t) (q32 u) (q32 n) (q32 w) = some (q32 (if LCO (LY al bc x n) (QY al bc w y n) = none then 0 else 1), m') ∧ SC m m' ∧ ∀ f, LCO (LY al bc x n) (QY al bc w y n) = some f → m'.1 23 39 = q32 f.1 ∧ m'.1 23 40 = q32 f.2 := by
  have l24 := ln24 hp
  have r1 := rf23_1 hr.1
  have xb := hx.b
  have yb := hy.b
  have a1 : m.1 24 (49 + t) = q32 x.1 := by rw [hr.2 _ (by omega)]; exact x1
  have a2 : m.1 24 (55 + t) = q32 x.2 := by rw [hr.2 _ (by omega)]; exact x2
  obtain ⟨m1, b1, b2, b3⟩ := beg10 hp hr.1 (x := x)
  have hr1 := hr.k b2
  obtain ⟨m2, c1, c2, c3, c4⟩ := reaM10 hF hp hwa h2 hbc hn (q32 u) (q32 w) n 0 F (by omega) (by omega) m1 hr1 b3 (FLS.one hx)
  have hr2 := hr1.k c2
  have ll := LY_len al hbc x n
  have l4 : 6 ^ n ≤ 6 ^ 4 := Nat.pow_le_pow_right (by omega) hn
  have l4' : 6 ^ 4 = 1296 := by decide
  obtain ⟨m3, d1, d2, d3⟩ := cpM10 (F := F) hp (P := LY al bc x n) (by omega) (q32 u) (q32 n) (q32 w) (LY al bc x n).length 0 F (by omega) (by omega) m2 hr2.1 c3 (fun k hk => by omega)
  have sc3 : SC m2 m3 := ⟨fun a p q => funext fun k => d2.1 a k (by unfold Fx at p; omega) (by unfold Fx at p; omega), ⟨d2.1 _ _ (by omega) (by omega), d2.1 _ _ (by omega) (by omega), d2.1 _ _ (by omega) (by omega)⟩, fun a p q => by rw [d2.2], by rw [d2.2]⟩
  have hr3 := hr2.sc sc3
  have r13 := rf23_1 hr3.1
  have a3 : m3.1 24 (49 + u) = q32 y.1 := by rw [hr3.2 _ (by omega)]; exact y1
  have a4 : m3.1 24 (55 + u) = q32 y.2 := by rw [hr3.2 _ (by omega)]; exact y2
  obtain ⟨m4, e1, e2, e3⟩ := beg10 hp hr3.1 (x := y)
  have hr4 := hr3.k e2
  obtain ⟨m5, f1, f2, f3, f4, f5⟩ := reaW10 hF hp hwa h2 hbc (y := y) hw1 hn (q32 (LY al bc x n).length) n 0 F (by omega) (by omega) m4 hr4 e3 (FLS.one hy)
  have hr5 := hr4.k f2
  have lw := LW_len al hbc hw1 y n
  have l7 : 7 ^ n ≤ 7 ^ 4 := Nat.pow_le_pow_right (by omega) hn
  have l7' : 7 ^ 4 = 2401 := by decide
  obtain ⟨m6, C6, D6, g1, g2, g3⟩ := insM10 hF hp (Q := LW al bc w y n) f4 (by omega) (q32 (LY al bc x n).length) (LW al bc w y n) F 0 (by omega) (by omega) (fun j _ => by rw [Nat.zero_add]) m5 [] _ _ rfl hr5 f3 f5
  have hr6 := hr5.k g2
  obtain ⟨m7, i1, i2, i3, i4⟩ := lcL10 hF hp (P := LY al bc x n) (Q := LW al bc w y n) c4 f4 (by omega) (by omega) (LY al bc x n).length 0 F (-1) (by omega) (by omega) (by omega) (by omega) m6 C6 D6 hr6.1 (((d3.k e2).k f2).k g2) g3 (Or.inl rfl)
  have sc7 : SC m6 m7 := ⟨fun a p q => funext fun k => i3 a k (by omega), ⟨i3 _ _ (by omega), i3 _ _ (by omega), i3 _ _ (by omega)⟩, fun a p q => by rw [i4], by rw [i4]⟩
  have eL : LCO (LW al bc w y n) (LY al bc x n) = LCO (LY al bc x n) (QY al bc w y n) := LCO_sw c4 (FLS.qy hwa bc w hy n) (LW_QY al bc w y n)
  have hlb := LCX_b (LW al bc w y n) (LY al bc x n) (LY al bc x n).length 0 (-1) (by omega) (by omega)
  refine ⟨m7, ?_, b2.sc.tr (c2.sc.tr (sc3.tr (e2.sc.tr (f2.sc.tr (g2.sc.tr sc7))))), fun f hf => ?_⟩
  · have v1 : (if LCO (LY al bc x n) (QY al bc w y n) = none then (0 : Int) else 1) = (if LCX (LW al bc w y n) (LY al bc x n) (LY al bc x n).length 0 (-1) = -1 then 0 else 1) := by
      rw [← eL]
      unfold LCO
      by_cases c : LCX (LW al bc w y n) (LY al bc x n) (LY al bc x n).length 0 (-1) = -1
      · rw [if_pos c, if_pos c, if_pos rfl]
      · rw [if_neg c, if_neg c, if_neg (by intro h; cases h)]
    rw [v1]
    have n55 : nb_X10_laysMeet_55 F s (nl_X10_laysMeet_55 F s (F - (LY al bc x n).length - 1)) m3 23 (q32 u) (q32 n) (q32 w) (q32 (LY al bc x n).length) (q32 (LY al bc x n).length) = some (q32 (if LCX (LW al bc w y n) (LY al bc x n) (LY al bc x n).length 0 (-1) = -1 then 0 else 1), m7) := by
      have f1' : nl_X10_laysMeet_121 F s F m4 23 (q32 n) (q32 w) (q32 (LY al bc x n).length) (q32 0) = nl_X10_laysMeet_150 F s F m5 23 (q32 (LY al bc x n).length) (q32 0) := f1
      have g1' : nl_X10_laysMeet_150 F s F m5 23 (q32 (LY al bc x n).length) (q32 0) = nl_X10_laysMeet_193 F s F m6 23 (q32 (LY al bc x n).length) (q32 0) (q32 0) := g1
      have i1' : nl_X10_laysMeet_193 F s F m6 23 (q32 (LY al bc x n).length) (q32 0) (q32 0) = _ := i1
      unfold nb_X10_laysMeet_55
      simp (disch := omega) only [Option.bind_some, bindv, bindv0, bind2_s, bind3_s, ↓reduceIte, Bool.false_eq_true, rZM_0, rZM_1, rZP_0, rZP_1, ptZ_0, ptZ_1, c32i, c64i, ncI, Int.natCast_add, Int.natCast_mul, q32_neg, q64_neg, q32_add, q32_sub, q32_mul, q64_add, q64_sub, q64_mul, q32_64i, q64_32, q32_lt_t, q32_lt_f, q32_le_t, q32_le_f, q32_eq_t, q32_eq_f, q64_lt_t, q64_lt_f, q64_le_t, q64_le_f, q64_eq_t, q64_eq_f, rdI_i, rdL_i, rdR_i, rdN_i, stI_i, stL_i, stR_i, wI_s, wI_n, wL_s, wL_n, wI_2, wI_3, wL_1, wL_3, wR_1, wR_2, Int.toNat_natCast, tnO, tn_add, tn_sub, tn_mul, Nat.add_sub_cancel, Nat.add_zero, Nat.zero_add, lnO, win_t, win_f, r13, a3, a4, e1, f1', g1', i1']
    have c1' : nl_X10_laysMeet_25 F s F m1 23 (q32 u) (q32 n) (q32 w) (q32 0) = nl_X10_laysMeet_55 F s F m2 23 (q32 u) (q32 n) (q32 w) (q32 (LY al bc x n).length) (q32 0) := c1
    have d1' : nl_X10_laysMeet_55 F s F m2 23 (q32 u) (q32 n) (q32 w) (q32 (LY al bc x n).length) (q32 0) = nb_X10_laysMeet_55 F s (nl_X10_laysMeet_55 F s (F - (LY al bc x n).length - 1)) m3 23 (q32 u) (q32 n) (q32 w) (q32 (LY al bc x n).length) (q32 (LY al bc x n).length) := d1
    unfold n_X10_laysMeet nb_X10_laysMeet_0
    simp (disch := omega) only [Option.bind_some, bindv, bindv0, bind2_s, bind3_s, ↓reduceIte, Bool.false_eq_true, rZM_0, rZM_1, rZP_0, rZP_1, ptZ_0, ptZ_1, c32i, c64i, ncI, Int.natCast_add, Int.natCast_mul, q32_neg, q64_neg, q32_add, q32_sub, q32_mul, q64_add, q64_sub, q64_mul, q32_64i, q64_32, q32_lt_t, q32_lt_f, q32_le_t, q32_le_f, q32_eq_t, q32_eq_f, q64_lt_t, q64_lt_f, q64_le_t, q64_le_f, q64_eq_t, q64_eq_f, rdI_i, rdL_i, rdR_i, rdN_i, stI_i, stL_i, stR_i, wI_s, wI_n, wL_s, wL_n, wI_2, wI_3, wL_1, wL_3, wR_1, wR_2, Int.toNat_natCast, tnO, tn_add, tn_sub, tn_mul, Nat.add_sub_cancel, Nat.add_zero, Nat.zero_add, lnO, win_t, win_f, r1, a1, a2, b1, c1', d1', n55]
  · rw [← eL] at hf
    unfold LCO at hf
    by_cases c : LCX (LW al bc w y n) (LY al bc x n) (LY al bc x n).length 0 (-1) = -1
    · rw [if_pos c] at hf; cases hf
    · rw [if_neg c] at hf
      cases hf
      exact i2.resolve_left c
def mta (o : Option (Nat × FR)) (v : Int) : Int := match o with
  | some p => if v = 0 then (p.1 : Int) else if v = 1 then p.2.1 else p.2.2
  | none => -1
theorem metL10 {F : Nat} (hF : 20000 ≤ F) {s : List Sh} (hp : ∃ t, s = sB ++ t) {al : Nat → Int32} (hwa : WA al) {bc : Nat} (h2 : al 2 = q32 bc) (hbc : bc ≤ 6) {w t u : Nat} (hw1 : w ≤ 1) (ht : t < 6) (hu : u < 6) {x y : FR} (hx : FLR (A al 1) x.1 x.2) (hy : FLR (A al 1) y.1 y.2) (x1 : al (49 + t) = q32 x.1) (x2 : al (55 + t) = q32 x.2) (y1 : al (49 + u) = q32 y.1) (y2 : al (55 + u) = q32 y.2) {v : Int} (hv : 0 ≤ v ∧ v ≤ 2) : ∀ n k fuel, k + n = 5 → n < fuel → ∀ m : Mem, RD m al → ∃ m', nl_X10_meet_45 F s fuel m 23 (q32 t) (q32 u) (q32 w) (q32 v) (q32 (k : Nat)) = some (q32 (mta (MTF al bc w x y n k) v), m') ∧ SC m m' := by
  intro n
  induction n with
  | zero =>
    intro k fuel hk hfu m hr
    obtain ⟨fuel, rfl⟩ : ∃ f, fuel = f + 1 := ⟨fuel - 1, by omega⟩
    refine ⟨m, ?_, SC.rf m⟩
    show nb_X10_meet_45 F s (nl_X10_meet_45 F s fuel) m 23 _ _ _ _ _ = some (q32 (-1), m)
    unfold nb_X10_meet_45
    simp (disch := omega) only [Option.bind_some, bindv, bindv0, bind2_s, bind3_s, ↓reduceIte, Bool.false_eq_true, rZM_0, rZM_1, rZP_0, rZP_1, ptZ_0, ptZ_1, c32i, c64i, ncI, Int.natCast_add, Int.natCast_mul, q32_neg, q64_neg, q32_add, q32_sub, q32_mul, q64_add, q64_sub, q64_mul, q32_64i, q64_32, q32_lt_t, q32_lt_f, q32_le_t, q32_le_f, q32_eq_t, q32_eq_f, q64_lt_t, q64_lt_f, q64_le_t, q64_le_f, q64_eq_t, q64_eq_f, rdI_i, rdL_i, rdR_i, rdN_i, stI_i, stL_i, stR_i, wI_s, wI_n, wL_s, wL_n, wI_2, wI_3, wL_1, wL_3, wR_1, wR_2, Int.toNat_natCast, tnO, tn_add, tn_sub, tn_mul, Nat.add_sub_cancel, Nat.add_zero, Nat.zero_add, lnO, win_t, win_f]
  | succ n ih =>
    intro k fuel hk hfu m hr
    obtain ⟨fuel, rfl⟩ : ∃ f, fuel = f + 1 := ⟨fuel - 1, by omega⟩
    obtain ⟨m1, a1, a2, a3⟩ := layM10 hF hp hwa h2 hbc hw1 (n := k) (by omega) ht hu hx hy x1 x2 y1 y2 hr
    show ∃ m', nb_X10_meet_45 F s (nl_X10_meet_45 F s fuel) m 23 _ _ _ _ _ = _ ∧ _
    cases hc : LCO (LY al bc x k) (QY al bc w y k) with
    | none =>
      have eM : MTF al bc w x y (n + 1) k = MTF al bc w x y n (k + 1) := by
        show (match LCO (LY al bc x k) (QY al bc w y k) with | some f => _ | none => _) = _
        rw [hc]
      rw [hc, if_pos rfl] at a1
      obtain ⟨m2, i1, i2⟩ := ih (k + 1) fuel (by omega) (by omega) m1 (hr.sc a2)
      refine ⟨m2, ?_, a2.tr i2⟩
      rw [eM, ← i1, Int.natCast_add]
      unfold nb_X10_meet_45
      simp (disch := omega) only [Option.bind_some, bindv, bindv0, bind2_s, bind3_s, ↓reduceIte, Bool.false_eq_true, rZM_0, rZM_1, rZP_0, rZP_1, ptZ_0, ptZ_1, c32i, c64i, ncI, Int.natCast_add, Int.natCast_mul, q32_neg, q64_neg, q32_add, q32_sub, q32_mul, q64_add, q64_sub, q64_mul, q32_64i, q64_32, q32_lt_t, q32_lt_f, q32_le_t, q32_le_f, q32_eq_t, q32_eq_f, q64_lt_t, q64_lt_f, q64_le_t, q64_le_f, q64_eq_t, q64_eq_f, rdI_i, rdL_i, rdR_i, rdN_i, stI_i, stL_i, stR_i, wI_s, wI_n, wL_s, wL_n, wI_2, wI_3, wL_1, wL_3, wR_1, wR_2, Int.toNat_natCast, tnO, tn_add, tn_sub, tn_mul, Nat.add_sub_cancel, Nat.add_zero, Nat.zero_add, lnO, win_t, win_f, a1]
      first | done | rfl
    | some f =>
      have eM : MTF al bc w x y (n + 1) k = some (k, f) := by
        show (match LCO (LY al bc x k) (QY al bc w y k) with | some f => _ | none => _) = _
        rw [hc]
      rw [hc, if_neg (by intro h; cases h)] at a1
      obtain ⟨h39, h40⟩ := a3 f hc
      refine ⟨m1, ?_, a2⟩
      rw [eM]
      show _ = some (q32 (if v = 0 then (k : Int) else if v = 1 then f.1 else f.2), m1)
      unfold nb_X10_meet_45
      by_cases c0 : v = 0
      · rw [if_pos c0, c0]
        simp (disch := omega) only [Option.bind_some, bindv, bindv0, bind2_s, bind3_s, ↓reduceIte, Bool.false_eq_true, rZM_0, rZM_1, rZP_0, rZP_1, ptZ_0, ptZ_1, c32i, c64i, ncI, Int.natCast_add, Int.natCast_mul, q32_neg, q64_neg, q32_add, q32_sub, q32_mul, q64_add, q64_sub, q64_mul, q32_64i, q64_32, q32_lt_t, q32_lt_f, q32_le_t, q32_le_f, q32_eq_t, q32_eq_f, q64_lt_t, q64_lt_f, q64_le_t, q64_le_f, q64_eq_t, q64_eq_f, rdI_i, rdL_i, rdR_i, rdN_i, stI_i, stL_i, stR_i, wI_s, wI_n, wL_s, wL_n, wI_2, wI_3, wL_1, wL_3, wR_1, wR_2, Int.toNat_natCast, tnO, tn_add, tn_sub, tn_mul, Nat.add_sub_cancel, Nat.add_zero, Nat.zero_add, lnO, win_t, win_f, a1]
      · by_cases c1 : v = 1
        · rw [if_neg c0, if_pos c1, c1]
          simp (disch := omega) only [Option.bind_some, bindv, bindv0, bind2_s, bind3_s, ↓reduceIte, Bool.false_eq_true, rZM_0, rZM_1, rZP_0, rZP_1, ptZ_0, ptZ_1, c32i, c64i, ncI, Int.natCast_add, Int.natCast_mul, q32_neg, q64_neg, q32_add, q32_sub, q32_mul, q64_add, q64_sub, q64_mul, q32_64i, q64_32, q32_lt_t, q32_lt_f, q32_le_t, q32_le_f, q32_eq_t, q32_eq_f, q64_lt_t, q64_lt_f, q64_le_t, q64_le_f, q64_eq_t, q64_eq_f, rdI_i, rdL_i, rdR_i, rdN_i, stI_i, stL_i, stR_i, wI_s, wI_n, wL_s, wL_n, wI_2, wI_3, wL_1, wL_3, wR_1, wR_2, Int.toNat_natCast, tnO, tn_add, tn_sub, tn_mul, Nat.add_sub_cancel, Nat.add_zero, Nat.zero_add, lnO, win_t, win_f, a1, h39]
        · rw [if_neg c0, if_neg c1]
          simp (disch := omega) only [Option.bind_some, bindv, bindv0, bind2_s, bind3_s, ↓reduceIte, Bool.false_eq_true, rZM_0, rZM_1, rZP_0, rZP_1, ptZ_0, ptZ_1, c32i, c64i, ncI, Int.natCast_add, Int.natCast_mul, q32_neg, q64_neg, q32_add, q32_sub, q32_mul, q64_add, q64_sub, q64_mul, q32_64i, q64_32, q32_lt_t, q32_lt_f, q32_le_t, q32_le_f, q32_eq_t, q32_eq_f, q64_lt_t, q64_lt_f, q64_le_t, q64_le_f, q64_eq_t, q64_eq_f, rdI_i, rdL_i, rdR_i, rdN_i, stI_i, stL_i, stR_i, wI_s, wI_n, wL_s, wL_n, wI_2, wI_3, wL_1, wL_3, wR_1, wR_2, Int.toNat_natCast, tnO, tn_add, tn_sub, tn_mul, Nat.add_sub_cancel, Nat.add_zero, Nat.zero_add, lnO, win_t, win_f, a1, h40]
