theorem seekM9 {F : Nat} (hF : 20000 ≤ F) {s : List Sh} {ow : Nat → Nat} {nw q : Nat} {al : Nat → Int32} {bc w t u : Nat} (hw1 : w ≤ 1) (ht : t < 6) (hu : u < 6) {a x y : FR} {m : Mem} {C : Nat → Int} (hc : RC s m ow nw q al bc) (hL : LG m q [a] C) (ha : FLR (A al 1) a.1 a.2) (hx : FLR (A al 1) x.1 x.2) (hy : FLR (A al 1) y.1 y.2) (x1 : m.1 (nw + 8) t = q32 x.1) (x2 : m.1 (nw + 9) t = q32 x.2) (y1 : m.1 (nw + 8) u = q32 y.1) (y2 : m.1 (nw + 9) u = q32 y.2) : ∃ m' L' C', n_X5_seekMeeting F s m q (q32 t) (q32 u) (q32 w) = some (q32 (mtv (MTF al bc w x y 5 0)), m') ∧ KCQ q m m' ∧ ∀ j f, MTF al bc w x y 5 0 = some (j, f) → LG m' q L' C' ∧ ∃ i, i < L'.length ∧ gt L' i = f ∧ m'.1 q 3 = q32 (i : Nat) := by
  have hb := hc.1.1.2.2.2.1
  obtain ⟨hn, -, ⟨-, -, -, -, -, -, -, r16, r17⟩, -, -, -, -, -, -, -, l8, l9⟩ := hb
  have h5 := hc.2.2.1
  have q4 := hc.qb.2.2.2.1
  have q53 := hc.qb.1
  have sz := hL.2.1
  have sz' : m.1 (q + 1) 4 = q32 1 := sz
  have o8 := hc.out (i := 8) (by omega)
  have o9 := hc.out (i := 9) (by omega)
  obtain ⟨m1, p1, p2, p3, p4⟩ := putQ9 hc.qb hL x (by show 1 < 9331; decide) (-1)
  have k1 : KCQ q m m1 := ⟨fun a k _ hk => p4 a k (by omega), fun a k _ _ _ => by rw [p3], by rw [p3]⟩
  have hc1 := hc.k k1
  have q41 := hc1.qb.2.2.2.1
  have h51 := hc1.2.2.1
  have sz1 : m1.1 (q + 1) 4 = q32 2 := p2.2.1
  have y1' : m1.1 (nw + 8) u = q32 y.1 := by rw [k1.1 _ _ (by omega) o8]; exact y1
  have y2' : m1.1 (nw + 9) u = q32 y.2 := by rw [k1.1 _ _ (by omega) o9]; exact y2
  have r16' : m1.2.2 nw 16 = some (nw + 8) := by rw [k1.2.2]; exact r16
  have r17' : m1.2.2 nw 17 = some (nw + 9) := by rw [k1.2.2]; exact r17
  obtain ⟨m2, u1, u2, u3, u4⟩ := putQ9 hc1.qb p2 y (by show 2 < 9331; decide) (-1)
  have k2 : KCQ q m1 m2 := ⟨fun a k _ hk => u4 a k (by omega), fun a k _ _ _ => by rw [u3], by rw [u3]⟩
  obtain ⟨m3, L', C', i1, i2, i3⟩ := meL9 hF (al := al) (bc := bc) hw1 (x := x) (y := y) 5 0 F (by omega) (by omega) m2 [a] _ (hc1.k k2) (fun _ => ⟨u2, ((FLS.one ha).ap (FLS.one hx)).ap (FLS.one hy), by show 1 + 1 + 1 ≤ 3; decide⟩)
  refine ⟨m3, L', C', ?_, (k1.tr k2).tr i2, i3⟩
  have i1' : nl_X5_seekMeeting_73 F s F m2 q (q32 w) (q32 1) (q32 2) (q32 0) = some (q32 (mtv (MTF al bc w x y 5 0)), m3) := i1
  unfold n_X5_seekMeeting nb_X5_seekMeeting_0
  simp (disch := omega) only [Option.bind_some, bindv, bindv0, bind2_s, bind3_s, ↓reduceIte, Bool.false_eq_true, rZM_0, rZM_1, rZP_0, rZP_1, ptZ_0, ptZ_1, c32i, c64i, ncI, Int.natCast_add, Int.natCast_mul, q32_neg, q64_neg, q32_add, q32_sub, q32_mul, q64_add, q64_sub, q64_mul, q32_64i, q64_32, q32_lt_t, q32_lt_f, q32_le_t, q32_le_f, q32_eq_t, q32_eq_f, q64_lt_t, q64_lt_f, q64_le_t, q64_le_f, q64_eq_t, q64_eq_f, rdI_i, rdL_i, rdR_i, rdN_i, stI_i, stL_i, stR_i, wI_s, wI_n, wL_s, wL_n, wI_2, wI_3, wL_1, wL_3, wR_1, wR_2, Int.toNat_natCast, tnO, tn_add, tn_sub, tn_mul, Nat.add_sub_cancel, Nat.add_zero, Nat.zero_add, lnO, win_t, win_f, q4, h5, r16, r17, x1, x2, sz', p1, q41, h51, r16', r17', y1', y2', sz1, u1, i1']
theorem MTF_b {al : Nat → Int32} (hw : WA al) {bc w : Nat} {x y : FR} (hy : FLR (A al 1) y.1 y.2) : ∀ n k j f, MTF al bc w x y n k = some (j, f) → k ≤ j ∧ j < k + n ∧ FLR (A al 1) f.1 f.2 := by
  intro n
  induction n with
  | zero => intro k j f h; cases h
  | succ n ih =>
    intro k j f h
    have h' : (match LCO (LY al bc x k) (QY al bc w y k) with | some f => some (k, f) | none => MTF al bc w x y n (k + 1)) = some (j, f) := h
    cases hc : LCO (LY al bc x k) (QY al bc w y k) with
    | none =>
      rw [hc] at h'
      have := ih (k + 1) j f h'
      exact ⟨by omega, by omega, this.2.2⟩
    | some g =>
      rw [hc] at h'
      cases h'
      rcases LCO_s (P := LY al bc x k) (FLS.qy hw bc w hy k) with ⟨k1, -⟩ | ⟨z, k1, k2, -⟩
      · rw [hc] at k1; cases k1
      · rw [hc] at k1
        cases k1
        exact ⟨by omega, by omega, FLS.qy hw bc w hy k _ k2⟩
theorem meet_no {β : Type} {t u v : Int} {tc : Nat} (ht : B31 t) (hu : B31 u) (hv : B31 v) (tc6 : tc ≤ 6) (c : ¬ ((0 ≤ t ∧ t < tc) ∧ (0 ≤ u ∧ u < tc) ∧ t ≠ u ∧ 0 ≤ v ∧ v ≤ 2)) {r K : β} : (if q32 t < 0 then r else if q32 tc ≤ q32 t then r else if q32 u < 0 then r else if q32 tc ≤ q32 u then r else if q32 t = q32 u then r else if q32 v < 0 then r else if q32 v ≤ (2 : Int32) then K else r) = r := by
  by_cases a1 : t < 0
  · simp (disch := omega) only [Option.bind_some, bindv, bindv0, bind2_s, bind3_s, ↓reduceIte, Bool.false_eq_true, rZM_0, rZM_1, rZP_0, rZP_1, ptZ_0, ptZ_1, c32i, c64i, ncI, Int.natCast_add, Int.natCast_mul, q32_neg, q64_neg, q32_add, q32_sub, q32_mul, q64_add, q64_sub, q64_mul, q32_64i, q64_32, q32_lt_t, q32_lt_f, q32_le_t, q32_le_f, q32_eq_t, q32_eq_f, q64_lt_t, q64_lt_f, q64_le_t, q64_le_f, q64_eq_t, q64_eq_f, rdI_i, rdL_i, rdR_i, rdN_i, stI_i, stL_i, stR_i, wI_s, wI_n, wL_s, wL_n, wI_2, wI_3, wL_1, wL_3, wR_1, wR_2, Int.toNat_natCast, tnO, tn_add, tn_sub, tn_mul, Nat.add_sub_cancel, Nat.add_zero, Nat.zero_add, lnO, win_t, win_f]
  · by_cases a2 : tc ≤ t
    · simp (disch := omega) only [Option.bind_some, bindv, bindv0, bind2_s, bind3_s, ↓reduceIte, Bool.false_eq_true, rZM_0, rZM_1, rZP_0, rZP_1, ptZ_0, ptZ_1, c32i, c64i, ncI, Int.natCast_add, Int.natCast_mul, q32_neg, q64_neg, q32_add, q32_sub, q32_mul, q64_add, q64_sub, q64_mul, q32_64i, q64_32, q32_lt_t, q32_lt_f, q32_le_t, q32_le_f, q32_eq_t, q32_eq_f, q64_lt_t, q64_lt_f, q64_le_t, q64_le_f, q64_eq_t, q64_eq_f, rdI_i, rdL_i, rdR_i, rdN_i, stI_i, stL_i, stR_i, wI_s, wI_n, wL_s, wL_n, wI_2, wI_3, wL_1, wL_3, wR_1, wR_2, Int.toNat_natCast, tnO, tn_add, tn_sub, tn_mul, Nat.add_sub_cancel, Nat.add_zero, Nat.zero_add, lnO, win_t, win_f]
    · by_cases a3 : u < 0
      · simp (disch := omega) only [Option.bind_some, bindv, bindv0, bind2_s, bind3_s, ↓reduceIte, Bool.false_eq_true, rZM_0, rZM_1, rZP_0, rZP_1, ptZ_0, ptZ_1, c32i, c64i, ncI, Int.natCast_add, Int.natCast_mul, q32_neg, q64_neg, q32_add, q32_sub, q32_mul, q64_add, q64_sub, q64_mul, q32_64i, q64_32, q32_lt_t, q32_lt_f, q32_le_t, q32_le_f, q32_eq_t, q32_eq_f, q64_lt_t, q64_lt_f, q64_le_t, q64_le_f, q64_eq_t, q64_eq_f, rdI_i, rdL_i, rdR_i, rdN_i, stI_i, stL_i, stR_i, wI_s, wI_n, wL_s, wL_n, wI_2, wI_3, wL_1, wL_3, wR_1, wR_2, Int.toNat_natCast, tnO, tn_add, tn_sub, tn_mul, Nat.add_sub_cancel, Nat.add_zero, Nat.zero_add, lnO, win_t, win_f]
      · by_cases a4 : tc ≤ u
        · simp (disch := omega) only [Option.bind_some, bindv, bindv0, bind2_s, bind3_s, ↓reduceIte, Bool.false_eq_true, rZM_0, rZM_1, rZP_0, rZP_1, ptZ_0, ptZ_1, c32i, c64i, ncI, Int.natCast_add, Int.natCast_mul, q32_neg, q64_neg, q32_add, q32_sub, q32_mul, q64_add, q64_sub, q64_mul, q32_64i, q64_32, q32_lt_t, q32_lt_f, q32_le_t, q32_le_f, q32_eq_t, q32_eq_f, q64_lt_t, q64_lt_f, q64_le_t, q64_le_f, q64_eq_t, q64_eq_f, rdI_i, rdL_i, rdR_i, rdN_i, stI_i, stL_i, stR_i, wI_s, wI_n, wL_s, wL_n, wI_2, wI_3, wL_1, wL_3, wR_1, wR_2, Int.toNat_natCast, tnO, tn_add, tn_sub, tn_mul, Nat.add_sub_cancel, Nat.add_zero, Nat.zero_add, lnO, win_t, win_f]
        · by_cases a5 : t = u
          · subst a5
            simp (disch := omega) only [Option.bind_some, bindv, bindv0, bind2_s, bind3_s, ↓reduceIte, Bool.false_eq_true, rZM_0, rZM_1, rZP_0, rZP_1, ptZ_0, ptZ_1, c32i, c64i, ncI, Int.natCast_add, Int.natCast_mul, q32_neg, q64_neg, q32_add, q32_sub, q32_mul, q64_add, q64_sub, q64_mul, q32_64i, q64_32, q32_lt_t, q32_lt_f, q32_le_t, q32_le_f, q32_eq_t, q32_eq_f, q64_lt_t, q64_lt_f, q64_le_t, q64_le_f, q64_eq_t, q64_eq_f, rdI_i, rdL_i, rdR_i, rdN_i, stI_i, stL_i, stR_i, wI_s, wI_n, wL_s, wL_n, wI_2, wI_3, wL_1, wL_3, wR_1, wR_2, Int.toNat_natCast, tnO, tn_add, tn_sub, tn_mul, Nat.add_sub_cancel, Nat.add_zero, Nat.zero_add, lnO, win_t, win_f]
          · by_cases a6 : v < 0
            · simp (disch := omega) only [Option.bind_some, bindv, bindv0, bind2_s, bind3_s, ↓reduceIte, Bool.false_eq_true, rZM_0, rZM_1, rZP_0, rZP_1, ptZ_0, ptZ_1, c32i, c64i, ncI, Int.natCast_add, Int.natCast_mul, q32_neg, q64_neg, q32_add, q32_sub, q32_mul, q64_add, q64_sub, q64_mul, q32_64i, q64_32, q32_lt_t, q32_lt_f, q32_le_t, q32_le_f, q32_eq_t, q32_eq_f, q64_lt_t, q64_lt_f, q64_le_t, q64_le_f, q64_eq_t, q64_eq_f, rdI_i, rdL_i, rdR_i, rdN_i, stI_i, stL_i, stR_i, wI_s, wI_n, wL_s, wL_n, wI_2, wI_3, wL_1, wL_3, wR_1, wR_2, Int.toNat_natCast, tnO, tn_add, tn_sub, tn_mul, Nat.add_sub_cancel, Nat.add_zero, Nat.zero_add, lnO, win_t, win_f]
            · simp (disch := omega) only [Option.bind_some, bindv, bindv0, bind2_s, bind3_s, ↓reduceIte, Bool.false_eq_true, rZM_0, rZM_1, rZP_0, rZP_1, ptZ_0, ptZ_1, c32i, c64i, ncI, Int.natCast_add, Int.natCast_mul, q32_neg, q64_neg, q32_add, q32_sub, q32_mul, q64_add, q64_sub, q64_mul, q32_64i, q64_32, q32_lt_t, q32_lt_f, q32_le_t, q32_le_f, q32_eq_t, q32_eq_f, q64_lt_t, q64_lt_f, q64_le_t, q64_le_f, q64_eq_t, q64_eq_f, rdI_i, rdL_i, rdR_i, rdN_i, stI_i, stL_i, stR_i, wI_s, wI_n, wL_s, wL_n, wI_2, wI_3, wL_1, wL_3, wR_1, wR_2, Int.toNat_natCast, tnO, tn_add, tn_sub, tn_mul, Nat.add_sub_cancel, Nat.add_zero, Nat.zero_add, lnO, win_t, win_f]
theorem opq_meet {F : Nat} (hF : 20000 ≤ F) {s : List Sh} {m : Mem} (h : INV s m) (w1 w2 : Int32) (w : Nat) (hw1 : w ≤ 1) (w4 : Int32) : OPQ s m (nq_X9_meet F s m 0 w1 w2 (q32 w) w4) (n_X9_meet F s m 0 w1 w2 (q32 w) w4) (fun s1 m1 => n_X10_meet F s1 m1 23 w1 w2 (q32 w) w4) := by
  have h0 := h
  obtain ⟨hg, ow, nw, hst⟩ := h
  have hl := hst.1
  have hp := hl.hp
  have hr := hl.rf
  have hn := hl.hn
  have rn := hl.nw
  have r1 := rf23_1 hr
  have l24 := ln24 hp
  obtain ⟨t, ht, rfl⟩ := q32_of w1
  obtain ⟨u, hu, rfl⟩ := q32_of w2
  obtain ⟨v, hv, rfl⟩ := q32_of w4
  obtain ⟨tp', y1, y2, y3, y4, y5, y6, y7, -⟩ := hst.2.1.wa.at
  obtain ⟨tc, V, W, tn, t9, t10⟩ := hst.tn y4
  obtain ⟨n15, ⟨n16, n17⟩, ⟨ln8, ln9⟩, nv⟩ := t9
  have tc6 := tn.1
  have ten : ∀ (s1 : List Sh) (M : Mem), (∃ t, s1 = sB ++ t) → RF M → (∀ k, M.1 24 k = m.1 24 k) → ∀ a : Int, B31 a → n_X10_isTenant s1 (wI M 23 0 (q32 0)) 23 (q32 a) = some (if 0 ≤ a ∧ a < tc then q32 1 else q32 0) := fun s1 M hp1 hM e a hb => by
    refine isTen10 (m := wI M 23 0 (q32 0)) hp1 (V := V) (W := W) ⟨hM.same rfl, by show (wI M 23 0 (q32 0)).1 24 4 = _; rw [wI_n (by omega), e]; exact t10.2.1, fun t ht => ?_⟩ tc6 hb
    rw [wI_n (by omega), wI_n (by omega), e, e]
    exact t10.2.2 t ht
  by_cases c : (0 ≤ t ∧ t < tc) ∧ (0 ≤ u ∧ u < tc) ∧ t ≠ u ∧ 0 ≤ v ∧ v ≤ 2
  · obtain ⟨ct, cu, ctu, cv⟩ := c
    obtain ⟨t, rfl⟩ := Int.eq_ofNat_of_zero_le ct.1
    obtain ⟨u, rfl⟩ := Int.eq_ofNat_of_zero_le cu.1
    obtain ⟨s', m', ow', q, bc, c1, c2, c3, c4, c5, c6, c7, c8, c9⟩ := search hF hst
    have hbl := hst.1.2.2.2.1.lt
    have hp' := c2.1.1.hp
    have fx : FLR (A (m.1 24) 1) (V t, W t).1 (V t, W t).2 := by rw [y4]; exact (tn.2 t (by omega)).1
    have fy : FLR (A (m.1 24) 1) (V u, W u).1 (V u, W u).2 := by rw [y4]; exact (tn.2 u (by omega)).1
    have o8 := c2.out (i := 8) (by omega)
    have o9 := c2.out (i := 9) (by omega)
    obtain ⟨m1, L', C', d1, d2, d3⟩ := seekM9 hF (w := w) (t := t) (u := u) hw1 (by omega) (by omega) c2 c3 c8 fx fy (by rw [(c5 _ _ (by omega) o8).1]; exact (nv t (by omega)).1) (by rw [(c5 _ _ (by omega) o9).1]; exact (nv t (by omega)).2) (by rw [(c5 _ _ (by omega) o8).1]; exact (nv u (by omega)).1) (by rw [(c5 _ _ (by omega) o9).1]; exact (nv u (by omega)).2)
    have c2' := c2.k d2
    have e24 : m1.1 24 = m.1 24 := c2'.2.2.2.1
    have rd : RD (wI m1 23 0 (q32 0)) (m.1 24) := ⟨c2'.1.1.rf.same rfl, fun k _ => by rw [wI_n (by omega), e24]⟩
    obtain ⟨m2, f1, f2⟩ := metL10 hF hp' c2.wa c9 c2.2.2.2.2.2 (w := w) (t := t) (u := u) hw1 (by omega) (by omega) fx fy (t10.2.2 t (by omega)).1 (t10.2.2 t (by omega)).2 (t10.2.2 u (by omega)).1 (t10.2.2 u (by omega)).2 cv 5 0 F (by omega) (by omega) _ rd
    have f1' : nl_X10_meet_45 F s' F (wI m1 23 0 (q32 0)) 23 (q32 t) (q32 u) (q32 w) (q32 v) (q32 0) = _ := f1
    have mb := MTF_b c2.wa (bc := bc) (w := w) (x := (V t, W t)) fy 5 0
    have e2 : n_X10_meet F s' m1 23 (q32 t) (q32 u) (q32 w) (q32 v) = some (q32 (mta (MTF (m.1 24) bc w (V t, W t) (V u, W u) 5 0) v), m2) := by
      have i1 := ten s' m1 hp' c2'.1.1.rf (fun k => congrFun e24 k) t ht
      have i2 := ten s' m1 hp' c2'.1.1.rf (fun k => congrFun e24 k) u hu
      rw [if_pos ct] at i1
      rw [if_pos cu] at i2
      unfold n_X10_meet nb_X10_meet_0
      simp (disch := omega) only [Option.bind_some, bindv, bindv0, bind2_s, bind3_s, ↓reduceIte, Bool.false_eq_true, rZM_0, rZM_1, rZP_0, rZP_1, ptZ_0, ptZ_1, c32i, c64i, ncI, Int.natCast_add, Int.natCast_mul, q32_neg, q64_neg, q32_add, q32_sub, q32_mul, q64_add, q64_sub, q64_mul, q32_64i, q64_32, q32_lt_t, q32_lt_f, q32_le_t, q32_le_f, q32_eq_t, q32_eq_f, q64_lt_t, q64_lt_f, q64_le_t, q64_le_f, q64_eq_t, q64_eq_f, rdI_i, rdL_i, rdR_i, rdN_i, stI_i, stL_i, stR_i, wI_s, wI_n, wL_s, wL_n, wI_2, wI_3, wL_1, wL_3, wR_1, wR_2, Int.toNat_natCast, tnO, tn_add, tn_sub, tn_mul, Nat.add_sub_cancel, Nat.add_zero, Nat.zero_add, lnO, win_t, win_f, i1, i2, f1']
    obtain ⟨-, -, -, q4, -, -, -, q8, q9, -, -, -, -, l2, l3, -⟩ := c2'.qb
    have e1 : n_X9_meet F s m 0 (q32 t) (q32 u) (q32 w) (q32 v) = some (q32 (mta (MTF (m.1 24) bc w (V t, W t) (V u, W u) 5 0) v), s', m1) := by
      unfold n_X9_meet nb_X9_meet_0
      cases hM : MTF (m.1 24) bc w (V t, W t) (V u, W u) 5 0 with
      | none =>
        rw [hM] at d1
        have d1' : n_X5_seekMeeting F s' m' q (q32 t) (q32 u) (q32 w) = some (q32 (-1), m1) := d1
        show _ = some (q32 (-1), s', m1)
        simp (disch := omega) only [Option.bind_some, bindv, bindv0, bind2_s, bind3_s, ↓reduceIte, Bool.false_eq_true, rZM_0, rZM_1, rZP_0, rZP_1, ptZ_0, ptZ_1, c32i, c64i, ncI, Int.natCast_add, Int.natCast_mul, q32_neg, q64_neg, q32_add, q32_sub, q32_mul, q64_add, q64_sub, q64_mul, q32_64i, q64_32, q32_lt_t, q32_lt_f, q32_le_t, q32_le_f, q32_eq_t, q32_eq_f, q64_lt_t, q64_lt_f, q64_le_t, q64_le_f, q64_eq_t, q64_eq_f, rdI_i, rdL_i, rdR_i, rdN_i, stI_i, stL_i, stR_i, wI_s, wI_n, wL_s, wL_n, wI_2, wI_3, wL_1, wL_3, wR_1, wR_2, Int.toNat_natCast, tnO, tn_add, tn_sub, tn_mul, Nat.add_sub_cancel, Nat.add_zero, Nat.zero_add, lnO, win_t, win_f, rn, n15, c1, d1']
      | some p =>
        obtain ⟨j, f⟩ := p
        obtain ⟨lg, i, i1, i2, i3⟩ := d3 j f hM
        obtain ⟨-, jb, -⟩ := mb j f hM
        obtain ⟨z1, z2, -⟩ := lg.2.2.1 i i1
        rw [i2] at z1 z2
        have lgl := lg.1
        rw [hM] at d1
        have d1' : n_X5_seekMeeting F s' m' q (q32 t) (q32 u) (q32 w) = some (q32 j, m1) := d1
        show _ = some (q32 (if v = 0 then (j : Int) else if v = 1 then f.1 else f.2), s', m1)
        by_cases c0 : v = 0
        · rw [if_pos c0, c0]
          simp (disch := omega) only [Option.bind_some, bindv, bindv0, bind2_s, bind3_s, ↓reduceIte, Bool.false_eq_true, rZM_0, rZM_1, rZP_0, rZP_1, ptZ_0, ptZ_1, c32i, c64i, ncI, Int.natCast_add, Int.natCast_mul, q32_neg, q64_neg, q32_add, q32_sub, q32_mul, q64_add, q64_sub, q64_mul, q32_64i, q64_32, q32_lt_t, q32_lt_f, q32_le_t, q32_le_f, q32_eq_t, q32_eq_f, q64_lt_t, q64_lt_f, q64_le_t, q64_le_f, q64_eq_t, q64_eq_f, rdI_i, rdL_i, rdR_i, rdN_i, stI_i, stL_i, stR_i, wI_s, wI_n, wL_s, wL_n, wI_2, wI_3, wL_1, wL_3, wR_1, wR_2, Int.toNat_natCast, tnO, tn_add, tn_sub, tn_mul, Nat.add_sub_cancel, Nat.add_zero, Nat.zero_add, lnO, win_t, win_f, rn, n15, c1, d1']
        · by_cases cc : v = 1
          · rw [if_neg c0, if_pos cc, cc]
            simp (disch := omega) only [Option.bind_some, bindv, bindv0, bind2_s, bind3_s, ↓reduceIte, Bool.false_eq_true, rZM_0, rZM_1, rZP_0, rZP_1, ptZ_0, ptZ_1, c32i, c64i, ncI, Int.natCast_add, Int.natCast_mul, q32_neg, q64_neg, q32_add, q32_sub, q32_mul, q64_add, q64_sub, q64_mul, q32_64i, q64_32, q32_lt_t, q32_lt_f, q32_le_t, q32_le_f, q32_eq_t, q32_eq_f, q64_lt_t, q64_lt_f, q64_le_t, q64_le_f, q64_eq_t, q64_eq_f, rdI_i, rdL_i, rdR_i, rdN_i, stI_i, stL_i, stR_i, wI_s, wI_n, wL_s, wL_n, wI_2, wI_3, wL_1, wL_3, wR_1, wR_2, Int.toNat_natCast, tnO, tn_add, tn_sub, tn_mul, Nat.add_sub_cancel, Nat.add_zero, Nat.zero_add, lnO, win_t, win_f, rn, n15, c1, d1', q4, q8, q9, i3, z1, z2]
          · rw [if_neg c0, if_neg cc]
            simp (disch := omega) only [Option.bind_some, bindv, bindv0, bind2_s, bind3_s, ↓reduceIte, Bool.false_eq_true, rZM_0, rZM_1, rZP_0, rZP_1, ptZ_0, ptZ_1, c32i, c64i, ncI, Int.natCast_add, Int.natCast_mul, q32_neg, q64_neg, q32_add, q32_sub, q32_mul, q64_add, q64_sub, q64_mul, q32_64i, q64_32, q32_lt_t, q32_lt_f, q32_le_t, q32_le_f, q32_eq_t, q32_eq_f, q64_lt_t, q64_lt_f, q64_le_t, q64_le_f, q64_eq_t, q64_eq_f, rdI_i, rdL_i, rdR_i, rdN_i, stI_i, stL_i, stR_i, wI_s, wI_n, wL_s, wL_n, wI_2, wI_3, wL_1, wL_3, wR_1, wR_2, Int.toNat_natCast, tnO, tn_add, tn_sub, tn_mul, Nat.add_sub_cancel, Nat.add_zero, Nat.zero_add, lnO, win_t, win_f, rn, n15, c1, d1', q4, q8, q9, i3, z1, z2]
    obtain ⟨-, g1, g2⟩ := un_X9_meet hg (okB hp).1 e1
    refine opq_fin (q := q) c4 e1 e2 (un_X10_meet g1 (okB hp').2 e2).2 c2'.1 ((SC.k0 m1).tr f2) c2'.2.1 ?_
    rcases c7 with c7 | ⟨c7, c7'⟩
    · exact Or.inl c7
    · refine Or.inr ⟨c7, ?_⟩
      unfold nq_X9_meet nbq_X9_meet_0 n_X9_meet nb_X9_meet_0
      rw [c7']
  · have e1 : n_X9_meet F s m 0 (q32 t) (q32 u) (q32 w) (q32 v) = some (q32 (-2), s, m) := by
      unfold n_X9_meet nb_X9_meet_0
      rw [rn, Option.bind_some, n15, show (-2 : Int32) = q32 (-2) by simp only [c32i, q32_neg]]
      exact meet_no ht hu hv tc6 c
    have e0 : nq_X9_meet F s m 0 (q32 t) (q32 u) (q32 w) (q32 v) = some (q32 (-2), s, m) := by
      unfold nq_X9_meet nbq_X9_meet_0
      rw [rn, Option.bind_some, n15, show (-2 : Int32) = q32 (-2) by simp only [c32i, q32_neg]]
      exact meet_no ht hu hv tc6 c
    have e2 : n_X10_meet F s m 23 (q32 t) (q32 u) (q32 w) (q32 v) = some (q32 (-2), wI m 23 0 (q32 0)) := by
      have i1 := ten s m hp hr (fun _ => rfl) t ht
      have i2 := ten s m hp hr (fun _ => rfl) u hu
      unfold n_X10_meet nb_X10_meet_0
      by_cases a1 : 0 ≤ t ∧ t < tc
      · rw [if_pos a1] at i1
        by_cases a2 : 0 ≤ u ∧ u < tc
        · rw [if_pos a2] at i2
          by_cases a5 : t = u
          · subst a5
            simp (disch := omega) only [Option.bind_some, bindv, bindv0, bind2_s, bind3_s, ↓reduceIte, Bool.false_eq_true, rZM_0, rZM_1, rZP_0, rZP_1, ptZ_0, ptZ_1, c32i, c64i, ncI, Int.natCast_add, Int.natCast_mul, q32_neg, q64_neg, q32_add, q32_sub, q32_mul, q64_add, q64_sub, q64_mul, q32_64i, q64_32, q32_lt_t, q32_lt_f, q32_le_t, q32_le_f, q32_eq_t, q32_eq_f, q64_lt_t, q64_lt_f, q64_le_t, q64_le_f, q64_eq_t, q64_eq_f, rdI_i, rdL_i, rdR_i, rdN_i, stI_i, stL_i, stR_i, wI_s, wI_n, wL_s, wL_n, wI_2, wI_3, wL_1, wL_3, wR_1, wR_2, Int.toNat_natCast, tnO, tn_add, tn_sub, tn_mul, Nat.add_sub_cancel, Nat.add_zero, Nat.zero_add, lnO, win_t, win_f, i1, i2]
          · simp (disch := omega) only [Option.bind_some, bindv, bindv0, bind2_s, bind3_s, ↓reduceIte, Bool.false_eq_true, rZM_0, rZM_1, rZP_0, rZP_1, ptZ_0, ptZ_1, c32i, c64i, ncI, Int.natCast_add, Int.natCast_mul, q32_neg, q64_neg, q32_add, q32_sub, q32_mul, q64_add, q64_sub, q64_mul, q32_64i, q64_32, q32_lt_t, q32_lt_f, q32_le_t, q32_le_f, q32_eq_t, q32_eq_f, q64_lt_t, q64_lt_f, q64_le_t, q64_le_f, q64_eq_t, q64_eq_f, rdI_i, rdL_i, rdR_i, rdN_i, stI_i, stL_i, stR_i, wI_s, wI_n, wL_s, wL_n, wI_2, wI_3, wL_1, wL_3, wR_1, wR_2, Int.toNat_natCast, tnO, tn_add, tn_sub, tn_mul, Nat.add_sub_cancel, Nat.add_zero, Nat.zero_add, lnO, win_t, win_f, i1, i2]
        · rw [if_neg a2] at i2
          simp (disch := omega) only [Option.bind_some, bindv, bindv0, bind2_s, bind3_s, ↓reduceIte, Bool.false_eq_true, rZM_0, rZM_1, rZP_0, rZP_1, ptZ_0, ptZ_1, c32i, c64i, ncI, Int.natCast_add, Int.natCast_mul, q32_neg, q64_neg, q32_add, q32_sub, q32_mul, q64_add, q64_sub, q64_mul, q32_64i, q64_32, q32_lt_t, q32_lt_f, q32_le_t, q32_le_f, q32_eq_t, q32_eq_f, q64_lt_t, q64_lt_f, q64_le_t, q64_le_f, q64_eq_t, q64_eq_f, rdI_i, rdL_i, rdR_i, rdN_i, stI_i, stL_i, stR_i, wI_s, wI_n, wL_s, wL_n, wI_2, wI_3, wL_1, wL_3, wR_1, wR_2, Int.toNat_natCast, tnO, tn_add, tn_sub, tn_mul, Nat.add_sub_cancel, Nat.add_zero, Nat.zero_add, lnO, win_t, win_f, i1, i2]
      · rw [if_neg a1] at i1
        simp (disch := omega) only [Option.bind_some, bindv, bindv0, bind2_s, bind3_s, ↓reduceIte, Bool.false_eq_true, rZM_0, rZM_1, rZP_0, rZP_1, ptZ_0, ptZ_1, c32i, c64i, ncI, Int.natCast_add, Int.natCast_mul, q32_neg, q64_neg, q32_add, q32_sub, q32_mul, q64_add, q64_sub, q64_mul, q32_64i, q64_32, q32_lt_t, q32_lt_f, q32_le_t, q32_le_f, q32_eq_t, q32_eq_f, q64_lt_t, q64_lt_f, q64_le_t, q64_le_f, q64_eq_t, q64_eq_f, rdI_i, rdL_i, rdR_i, rdN_i, stI_i, stL_i, stR_i, wI_s, wI_n, wL_s, wL_n, wI_2, wI_3, wL_1, wL_3, wR_1, wR_2, Int.toNat_natCast, tnO, tn_add, tn_sub, tn_mul, Nat.add_sub_cancel, Nat.add_zero, Nat.zero_add, lnO, win_t, win_f, i1]
    exact opq_no h0 e0 e1 e2 (un_X10_meet (un_X9_meet hg (okB hp).1 e1).2.1 (okB hp).2 e2).2 (SC.k0 m)
