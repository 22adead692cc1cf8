theorem rests_u {F : Nat} (hF : 1000 ≤ F) {s : List Sh} {m : Mem} {ow : Nat → Nat} {nw : Nat} (hst : ST s m ow nw) {md : Nat} (hm : 2 ≤ md ∧ md ≤ 30) : ∃ w, (∀ m1, K9 m m1 → ∃ m', n_X9_remaindersBy F s m1 0 (q32 md) = some (w, m') ∧ K9 m1 m') ∧ ∀ M : Mem, RF M → (∀ k, k < 999 → M.1 24 k = m.1 24 k) → ∃ M', n_X10_restsOf F s M 23 (q32 md) = some (w, M') ∧ KgS M M' := by
  obtain ⟨w, -, w2⟩ := rests_both hF hst hm
  refine ⟨w, fun m1 hk => ?_, w2⟩
  obtain ⟨w', v1, v2⟩ := rests_both hF (hst.sc hk.sc) hm
  obtain ⟨M1, e1, -⟩ := w2 m hst.1.rf (fun k _ => rfl)
  obtain ⟨M2, e2, -⟩ := v2 m hst.1.rf (fun k _ => (hk.1 _ _ (by omega)).symm)
  rw [e1] at e2
  have : w = w' := congrArg Prod.fst (Option.some.inj e2)
  rw [this]
  exact v1
theorem never_u {F : Nat} (hF : 1000 ≤ F) {s : List Sh} {m : Mem} {ow : Nat → Nat} {nw : Nat} (hst : ST s m ow nw) {f : FR} {tp : Int} (hf : FLR tp f.1 f.2) (p0 : m.2.1 19 0 = q64 f.1) (p1 : m.2.1 19 1 = q64 f.2) {md : Nat} (hm : 2 ≤ md ∧ md ≤ 30) : ∃ z : Int, (z = 0 ∨ z = 1) ∧ (∀ m1, K9 m m1 → ∃ m', n_X9_isNever F s m1 0 (q32 md) = some (q32 z, m') ∧ K9 m1 m') ∧ ∀ M : Mem, RF M → (∀ k, k < 999 → M.1 24 k = m.1 24 k) → ∃ M', n_X10_isNever F s M 23 (q32 md) (q64 f.1) (q64 f.2) = some (q32 z, M') ∧ KgS M M' := by
  obtain ⟨w, w1, w2⟩ := rests_u hF hst hm
  obtain ⟨f1, f2, f3, f4, -⟩ := hf
  obtain ⟨u, hu⟩ := Int.eq_ofNat_of_zero_le f1
  obtain ⟨l, hl⟩ := Int.eq_ofNat_of_zero_le (show 0 ≤ f.2 by omega)
  rw [hu] at p0 f2 ⊢
  rw [hl] at p1 f3 f4 ⊢
  obtain ⟨ro9, ro10⟩ := rest_both hF hm (u := u) (l := l) (by omega) (by omega)
  have rb := RO_b (u := u) (l := l) hm.1
  have r12 := rf0_12 hst.1.rf
  by_cases c : RO md u l = -1
  · rw [c] at ro9 ro10
    refine ⟨0, Or.inl rfl, fun m1 hk => ⟨m1, ?_, K9.rf m1⟩, fun M hM h24 => ⟨M, ?_, KgS.rf M⟩⟩
    · have q0 : m1.2.1 19 0 = q64 u := by rw [hk.2.1 _ _ (by omega)]; exact p0
      have q1 : m1.2.1 19 1 = q64 l := by rw [hk.2.1 _ _ (by omega)]; exact p1
      have r12' : m1.2.2 0 12 = some 19 := by rw [hk.2.2]; exact r12
      unfold n_X9_isNever nb_X9_isNever_0
      simp (disch := omega) only [Option.bind_some, bindv, bindv0, bind2_s, bind3_s, ↓reduceIte, Bool.false_eq_true, rZM_0, rZM_1, rZP_0, rZP_1, ptZ_0, ptZ_1, c32i, c64i, ncI, Int.natCast_add, Int.natCast_mul, q32_neg, q64_neg, q32_add, q32_sub, q32_mul, q64_add, q64_sub, q64_mul, q32_64i, q64_32, q32_lt_t, q32_lt_f, q32_le_t, q32_le_f, q32_eq_t, q32_eq_f, q64_lt_t, q64_lt_f, q64_le_t, q64_le_f, q64_eq_t, q64_eq_f, rdI_i, rdL_i, rdR_i, rdN_i, stI_i, stL_i, stR_i, wI_s, wI_n, wL_s, wL_n, wI_2, wI_3, wL_1, wL_3, wR_1, wR_2, Int.toNat_natCast, tnO, tn_add, tn_sub, tn_mul, Nat.add_sub_cancel, Nat.add_zero, Nat.zero_add, lnO, win_t, win_f, r12', q0, q1, ro9]
    · unfold n_X10_isNever nb_X10_isNever_0
      simp (disch := omega) only [Option.bind_some, bindv, bindv0, bind2_s, bind3_s, ↓reduceIte, Bool.false_eq_true, rZM_0, rZM_1, rZP_0, rZP_1, ptZ_0, ptZ_1, c32i, c64i, ncI, Int.natCast_add, Int.natCast_mul, q32_neg, q64_neg, q32_add, q32_sub, q32_mul, q64_add, q64_sub, q64_mul, q32_64i, q64_32, q32_lt_t, q32_lt_f, q32_le_t, q32_le_f, q32_eq_t, q32_eq_f, q64_lt_t, q64_lt_f, q64_le_t, q64_le_f, q64_eq_t, q64_eq_f, rdI_i, rdL_i, rdR_i, rdN_i, stI_i, stL_i, stR_i, wI_s, wI_n, wL_s, wL_n, wI_2, wI_3, wL_1, wL_3, wR_1, wR_2, Int.toNat_natCast, tnO, tn_add, tn_sub, tn_mul, Nat.add_sub_cancel, Nat.add_zero, Nat.zero_add, lnO, win_t, win_f, ro10]
  · obtain ⟨x0, hx0⟩ := Int.eq_ofNat_of_zero_le (show 0 ≤ RO md u l by omega)
    rw [hx0] at ro9 ro10 rb
    have hx : x0 < md := by omega
    have pre9 : ∀ m1, K9 m m1 → ∃ m', n_X9_isNever F s m1 0 (q32 md) = (if (ushr w (q32 x0) &&& (1 : Int32)) = 0 then rZM (1 : Int32) m' else rZM (0 : Int32) m') ∧ K9 m1 m' := fun m1 hk => by
      obtain ⟨m', e1, e2⟩ := w1 m1 hk
      refine ⟨m', ?_, e2⟩
      have q0 : m1.2.1 19 0 = q64 u := by rw [hk.2.1 _ _ (by omega)]; exact p0
      have q1 : m1.2.1 19 1 = q64 l := by rw [hk.2.1 _ _ (by omega)]; exact p1
      have r12' : m1.2.2 0 12 = some 19 := by rw [hk.2.2]; exact r12
      have nx : ¬ q32 (x0 : Int) = (-1 : Int32) := by simp (disch := omega) only [c32i, q32_neg, q32_eq_f, not_false_eq_true]
      unfold n_X9_isNever nb_X9_isNever_0
      simp only [r12', Option.bind_some, q0, q1, ro9]
      rw [if_neg nx, e1]
      rfl
    have pre10 : ∀ M : Mem, RF M → (∀ k, k < 999 → M.1 24 k = m.1 24 k) → ∃ M', n_X10_isNever F s M 23 (q32 md) (q64 u) (q64 l) = (if ((w >>> (q32 x0 &&& 31)) &&& (1 : Int32)) = 0 then rZM (1 : Int32) M' else rZM (0 : Int32) M') ∧ KgS M M' := fun M hM h24 => by
      obtain ⟨M', e1, e2⟩ := w2 M hM h24
      refine ⟨M', ?_, e2⟩
      have nx : ¬ q32 (x0 : Int) = (-1 : Int32) := by simp (disch := omega) only [c32i, q32_neg, q32_eq_f, not_false_eq_true]
      unfold n_X10_isNever nb_X10_isNever_0
      rw [ro10, Option.bind_some, if_neg nx, e1]
      rfl
    have bu := bt_u (v := w) (k := x0) (by omega)
    have bs := bt_s (v := w) (k := x0) (by omega)
    cases hb : bt w x0 with
    | false =>
      refine ⟨1, Or.inr rfl, fun m1 hk => ?_, fun M hM h24 => ?_⟩
      · obtain ⟨m', e1, e2⟩ := pre9 m1 hk
        rw [if_pos (bu.mpr hb)] at e1
        exact ⟨m', e1, e2⟩
      · obtain ⟨M', e1, e2⟩ := pre10 M hM h24
        rw [if_pos (bs.mpr hb)] at e1
        exact ⟨M', e1, e2⟩
    | true =>
      refine ⟨0, Or.inl rfl, fun m1 hk => ?_, fun M hM h24 => ?_⟩
      · obtain ⟨m', e1, e2⟩ := pre9 m1 hk
        rw [if_neg (fun h => by rw [bu.mp h] at hb; cases hb)] at e1
        exact ⟨m', e1, e2⟩
      · obtain ⟨M', e1, e2⟩ := pre10 M hM h24
        rw [if_neg (fun h => by rw [bs.mp h] at hb; cases hb)] at e1
        exact ⟨M', e1, e2⟩
theorem isMod9 {v : Int} (hv : B31 v) : m_X9_isModulus (q32 v) = some (if 2 ≤ v ∧ v ≤ 30 then q32 1 else q32 0) := by
  unfold m_X9_isModulus b_X9_isModulus_0
  by_cases c1 : v < 2
  · rw [if_neg (show ¬ (2 ≤ v ∧ v ≤ 30) by omega)]; simp (disch := omega) only [Option.bind_some, bindv, bindv0, bind2_s, bind3_s, ↓reduceIte, Bool.false_eq_true, rZM_0, rZM_1, rZP_0, rZP_1, ptZ_0, ptZ_1, c32i, c64i, ncI, Int.natCast_add, Int.natCast_mul, q32_neg, q64_neg, q32_add, q32_sub, q32_mul, q64_add, q64_sub, q64_mul, q32_64i, q64_32, q32_lt_t, q32_lt_f, q32_le_t, q32_le_f, q32_eq_t, q32_eq_f, q64_lt_t, q64_lt_f, q64_le_t, q64_le_f, q64_eq_t, q64_eq_f, rdI_i, rdL_i, rdR_i, rdN_i, stI_i, stL_i, stR_i, wI_s, wI_n, wL_s, wL_n, wI_2, wI_3, wL_1, wL_3, wR_1, wR_2, Int.toNat_natCast, tnO, tn_add, tn_sub, tn_mul, Nat.add_sub_cancel, Nat.add_zero, Nat.zero_add, lnO, win_t, win_f]
  · by_cases c2 : 30 < v
    · rw [if_neg (show ¬ (2 ≤ v ∧ v ≤ 30) by omega)]; simp (disch := omega) only [Option.bind_some, bindv, bindv0, bind2_s, bind3_s, ↓reduceIte, Bool.false_eq_true, rZM_0, rZM_1, rZP_0, rZP_1, ptZ_0, ptZ_1, c32i, c64i, ncI, Int.natCast_add, Int.natCast_mul, q32_neg, q64_neg, q32_add, q32_sub, q32_mul, q64_add, q64_sub, q64_mul, q32_64i, q64_32, q32_lt_t, q32_lt_f, q32_le_t, q32_le_f, q32_eq_t, q32_eq_f, q64_lt_t, q64_lt_f, q64_le_t, q64_le_f, q64_eq_t, q64_eq_f, rdI_i, rdL_i, rdR_i, rdN_i, stI_i, stL_i, stR_i, wI_s, wI_n, wL_s, wL_n, wI_2, wI_3, wL_1, wL_3, wR_1, wR_2, Int.toNat_natCast, tnO, tn_add, tn_sub, tn_mul, Nat.add_sub_cancel, Nat.add_zero, Nat.zero_add, lnO, win_t, win_f]
    · rw [if_pos (show (2 ≤ v ∧ v ≤ 30) by omega)]; simp (disch := omega) only [Option.bind_some, bindv, bindv0, bind2_s, bind3_s, ↓reduceIte, Bool.false_eq_true, rZM_0, rZM_1, rZP_0, rZP_1, ptZ_0, ptZ_1, c32i, c64i, ncI, Int.natCast_add, Int.natCast_mul, q32_neg, q64_neg, q32_add, q32_sub, q32_mul, q64_add, q64_sub, q64_mul, q32_64i, q64_32, q32_lt_t, q32_lt_f, q32_le_t, q32_le_f, q32_eq_t, q32_eq_f, q64_lt_t, q64_lt_f, q64_le_t, q64_le_f, q64_eq_t, q64_eq_f, rdI_i, rdL_i, rdR_i, rdN_i, stI_i, stL_i, stR_i, wI_s, wI_n, wL_s, wL_n, wI_2, wI_3, wL_1, wL_3, wR_1, wR_2, Int.toNat_natCast, tnO, tn_add, tn_sub, tn_mul, Nat.add_sub_cancel, Nat.add_zero, Nat.zero_add, lnO, win_t, win_f]
theorem opk_rests {F : Nat} (hF : 1000 ≤ F) {s : List Sh} {m : Mem} (h : INV s m) (w : Int32) : OPK s m (n_X9_rests F s m 0 w) (fun m1 => n_X10_rests F s m1 23 w) := by
  have h0 := h
  obtain ⟨hg, ow, nw, hst⟩ := h
  have hl := hst.1
  have hp := hl.hp
  have hr := hl.rf
  have hn := hl.hn
  have rn := hl.nw
  have r1 := rf23_1 hr
  have l24 := ln24 hp
  obtain ⟨v, hv, rfl⟩ := q32_of w
  have im := isMod9 hv
  have fin : ∀ r m1 m2, n_X9_rests F s m 0 (q32 v) = some (r, m1) → n_X10_rests F s m1 23 (q32 v) = some (r, m2) → SC m m2 → OPK s m (n_X9_rests F s m 0 (q32 v)) (fun m1 => n_X10_rests F s m1 23 (q32 v)) := fun r m1 m2 e1 e2 sc =>
    opk_fin h0 e1 e2 (un_X10_rests (un_X9_rests hg (okB hp).1 e1).2 (okB hp).2 e2).2 sc
  by_cases c : 2 ≤ v ∧ v ≤ 30
  · rw [if_pos c] at im
    obtain ⟨md, rfl⟩ := Int.eq_ofNat_of_zero_le (show 0 ≤ v by omega)
    obtain ⟨w, ⟨m1, e1, e2⟩, e3⟩ := rests_both hF hst (md := md) (by omega)
    obtain ⟨m2, g1, g2⟩ := e3 (wI m1 23 0 (q32 0)) (hr.same e2.2.2) (fun k _ => by simp (disch := omega) only [Option.bind_some, bindv, bindv0, bind2_s, bind3_s, ↓reduceIte, Bool.false_eq_true, rZM_0, rZM_1, rZP_0, rZP_1, ptZ_0, ptZ_1, c32i, c64i, ncI, Int.natCast_add, Int.natCast_mul, q32_neg, q64_neg, q32_add, q32_sub, q32_mul, q64_add, q64_sub, q64_mul, q32_64i, q64_32, q32_lt_t, q32_lt_f, q32_le_t, q32_le_f, q32_eq_t, q32_eq_f, q64_lt_t, q64_lt_f, q64_le_t, q64_le_f, q64_eq_t, q64_eq_f, rdI_i, rdL_i, rdR_i, rdN_i, stI_i, stL_i, stR_i, wI_s, wI_n, wL_s, wL_n, wI_2, wI_3, wL_1, wL_3, wR_1, wR_2, Int.toNat_natCast, tnO, tn_add, tn_sub, tn_mul, Nat.add_sub_cancel, Nat.add_zero, Nat.zero_add, lnO, win_t, win_f]; exact e2.1 _ _ (by omega))
    refine fin w m1 m2 ?_ ?_ (e2.sc.tr ((SC.k0 m1).tr g2.sc))
    · unfold n_X9_rests nb_X9_rests_0
      simp (disch := omega) only [Option.bind_some, bindv, bindv0, bind2_s, bind3_s, ↓reduceIte, Bool.false_eq_true, rZM_0, rZM_1, rZP_0, rZP_1, ptZ_0, ptZ_1, c32i, c64i, ncI, Int.natCast_add, Int.natCast_mul, q32_neg, q64_neg, q32_add, q32_sub, q32_mul, q64_add, q64_sub, q64_mul, q32_64i, q64_32, q32_lt_t, q32_lt_f, q32_le_t, q32_le_f, q32_eq_t, q32_eq_f, q64_lt_t, q64_lt_f, q64_le_t, q64_le_f, q64_eq_t, q64_eq_f, rdI_i, rdL_i, rdR_i, rdN_i, stI_i, stL_i, stR_i, wI_s, wI_n, wL_s, wL_n, wI_2, wI_3, wL_1, wL_3, wR_1, wR_2, Int.toNat_natCast, tnO, tn_add, tn_sub, tn_mul, Nat.add_sub_cancel, Nat.add_zero, Nat.zero_add, lnO, win_t, win_f, im, e1]
    · unfold n_X10_rests nb_X10_rests_0
      simp (disch := omega) only [Option.bind_some, bindv, bindv0, bind2_s, bind3_s, ↓reduceIte, Bool.false_eq_true, rZM_0, rZM_1, rZP_0, rZP_1, ptZ_0, ptZ_1, c32i, c64i, ncI, Int.natCast_add, Int.natCast_mul, q32_neg, q64_neg, q32_add, q32_sub, q32_mul, q64_add, q64_sub, q64_mul, q32_64i, q64_32, q32_lt_t, q32_lt_f, q32_le_t, q32_le_f, q32_eq_t, q32_eq_f, q64_lt_t, q64_lt_f, q64_le_t, q64_le_f, q64_eq_t, q64_eq_f, rdI_i, rdL_i, rdR_i, rdN_i, stI_i, stL_i, stR_i, wI_s, wI_n, wL_s, wL_n, wI_2, wI_3, wL_1, wL_3, wR_1, wR_2, Int.toNat_natCast, tnO, tn_add, tn_sub, tn_mul, Nat.add_sub_cancel, Nat.add_zero, Nat.zero_add, lnO, win_t, win_f, g1]
  · rw [if_neg c] at im
    refine fin (q32 (-3)) m _ ?_ ?_ (SC.k0 m)
    · unfold n_X9_rests nb_X9_rests_0
      simp (disch := omega) only [Option.bind_some, bindv, bindv0, bind2_s, bind3_s, ↓reduceIte, Bool.false_eq_true, rZM_0, rZM_1, rZP_0, rZP_1, ptZ_0, ptZ_1, c32i, c64i, ncI, Int.natCast_add, Int.natCast_mul, q32_neg, q64_neg, q32_add, q32_sub, q32_mul, q64_add, q64_sub, q64_mul, q32_64i, q64_32, q32_lt_t, q32_lt_f, q32_le_t, q32_le_f, q32_eq_t, q32_eq_f, q64_lt_t, q64_lt_f, q64_le_t, q64_le_f, q64_eq_t, q64_eq_f, rdI_i, rdL_i, rdR_i, rdN_i, stI_i, stL_i, stR_i, wI_s, wI_n, wL_s, wL_n, wI_2, wI_3, wL_1, wL_3, wR_1, wR_2, Int.toNat_natCast, tnO, tn_add, tn_sub, tn_mul, Nat.add_sub_cancel, Nat.add_zero, Nat.zero_add, lnO, win_t, win_f, im]
    · unfold n_X10_rests nb_X10_rests_0
      simp (disch := omega) only [Option.bind_some, bindv, bindv0, bind2_s, bind3_s, ↓reduceIte, Bool.false_eq_true, rZM_0, rZM_1, rZP_0, rZP_1, ptZ_0, ptZ_1, c32i, c64i, ncI, Int.natCast_add, Int.natCast_mul, q32_neg, q64_neg, q32_add, q32_sub, q32_mul, q64_add, q64_sub, q64_mul, q32_64i, q64_32, q32_lt_t, q32_lt_f, q32_le_t, q32_le_f, q32_eq_t, q32_eq_f, q64_lt_t, q64_lt_f, q64_le_t, q64_le_f, q64_eq_t, q64_eq_f, rdI_i, rdL_i, rdR_i, rdN_i, stI_i, stL_i, stR_i, wI_s, wI_n, wL_s, wL_n, wI_2, wI_3, wL_1, wL_3, wR_1, wR_2, Int.toNat_natCast, tnO, tn_add, tn_sub, tn_mul, Nat.add_sub_cancel, Nat.add_zero, Nat.zero_add, lnO, win_t, win_f]
theorem opk_never {F : Nat} (hF : 1000 ≤ F) {s : List Sh} {m : Mem} (h : INV s m) (w1 w2 w3 : Int32) : OPK s m (n_X9_never F s m 0 w1 w2 w3) (fun m1 => n_X10_never F s m1 23 w1 w2 w3) := by
  have h0 := h
  obtain ⟨hg, ow, nw, hst⟩ := h
  have hl := hst.1
  have hp := hl.hp
  have hr := hl.rf
  have hn := hl.hn
  have rn := hl.nw
  have r1 := rf23_1 hr
  have l24 := ln24 hp
  obtain ⟨v, hv, rfl⟩ := q32_of w1
  obtain ⟨u, hu, rfl⟩ := q32_of w2
  obtain ⟨l, hll, rfl⟩ := q32_of w3
  have im := isMod9 hv
  have fin : ∀ r m1 m2, n_X9_never F s m 0 (q32 v) (q32 u) (q32 l) = some (r, m1) → n_X10_never F s m1 23 (q32 v) (q32 u) (q32 l) = some (r, m2) → SC m m2 → OPK s m (n_X9_never F s m 0 (q32 v) (q32 u) (q32 l)) (fun m1 => n_X10_never F s m1 23 (q32 v) (q32 u) (q32 l)) := fun r m1 m2 e1 e2 sc =>
    opk_fin h0 e1 e2 (un_X10_never (un_X9_never hg (okB hp).1 e1).2 (okB hp).2 e2).2 sc
  by_cases c : 2 ≤ v ∧ v ≤ 30
  · rw [if_pos c] at im
    obtain ⟨md, rfl⟩ := Int.eq_ofNat_of_zero_le (show 0 ≤ v by omega)
    rcases asks_cases (F := F) (by omega) hst hu hll with ⟨m1, k1, k2, k3⟩ | ⟨f, k1, k2, k3⟩
    · obtain ⟨m2, k4, k5⟩ := k3 (wI m1 23 0 (q32 0)) (hr.same k2.r) (by simp (disch := omega) only [Option.bind_some, bindv, bindv0, bind2_s, bind3_s, ↓reduceIte, Bool.false_eq_true, rZM_0, rZM_1, rZP_0, rZP_1, ptZ_0, ptZ_1, c32i, c64i, ncI, Int.natCast_add, Int.natCast_mul, q32_neg, q64_neg, q32_add, q32_sub, q32_mul, q64_add, q64_sub, q64_mul, q32_64i, q64_32, q32_lt_t, q32_lt_f, q32_le_t, q32_le_f, q32_eq_t, q32_eq_f, q64_lt_t, q64_lt_f, q64_le_t, q64_le_f, q64_eq_t, q64_eq_f, rdI_i, rdL_i, rdR_i, rdN_i, stI_i, stL_i, stR_i, wI_s, wI_n, wL_s, wL_n, wI_2, wI_3, wL_1, wL_3, wR_1, wR_2, Int.toNat_natCast, tnO, tn_add, tn_sub, tn_mul, Nat.add_sub_cancel, Nat.add_zero, Nat.zero_add, lnO, win_t, win_f]; exact k2.i _ _ (by omega))
      refine fin (q32 (-3)) m1 m2 ?_ ?_ (k2.tr ((SC.k0 m1).tr k5))
      · unfold n_X9_never nb_X9_never_0
        simp (disch := omega) only [Option.bind_some, bindv, bindv0, bind2_s, bind3_s, ↓reduceIte, Bool.false_eq_true, rZM_0, rZM_1, rZP_0, rZP_1, ptZ_0, ptZ_1, c32i, c64i, ncI, Int.natCast_add, Int.natCast_mul, q32_neg, q64_neg, q32_add, q32_sub, q32_mul, q64_add, q64_sub, q64_mul, q32_64i, q64_32, q32_lt_t, q32_lt_f, q32_le_t, q32_le_f, q32_eq_t, q32_eq_f, q64_lt_t, q64_lt_f, q64_le_t, q64_le_f, q64_eq_t, q64_eq_f, rdI_i, rdL_i, rdR_i, rdN_i, stI_i, stL_i, stR_i, wI_s, wI_n, wL_s, wL_n, wI_2, wI_3, wL_1, wL_3, wR_1, wR_2, Int.toNat_natCast, tnO, tn_add, tn_sub, tn_mul, Nat.add_sub_cancel, Nat.add_zero, Nat.zero_add, lnO, win_t, win_f, im, k1]
      · unfold n_X10_never nb_X10_never_0
        simp (disch := omega) only [Option.bind_some, bindv, bindv0, bind2_s, bind3_s, ↓reduceIte, Bool.false_eq_true, rZM_0, rZM_1, rZP_0, rZP_1, ptZ_0, ptZ_1, c32i, c64i, ncI, Int.natCast_add, Int.natCast_mul, q32_neg, q64_neg, q32_add, q32_sub, q32_mul, q64_add, q64_sub, q64_mul, q32_64i, q64_32, q32_lt_t, q32_lt_f, q32_le_t, q32_le_f, q32_eq_t, q32_eq_f, q64_lt_t, q64_lt_f, q64_le_t, q64_le_f, q64_eq_t, q64_eq_f, rdI_i, rdL_i, rdR_i, rdN_i, stI_i, stL_i, stR_i, wI_s, wI_n, wL_s, wL_n, wI_2, wI_3, wL_1, wL_3, wR_1, wR_2, Int.toNat_natCast, tnO, tn_add, tn_sub, tn_mul, Nat.add_sub_cancel, Nat.add_zero, Nat.zero_add, lnO, win_t, win_f, k4]
    · have k2' : n_X9_asksFloor F s m 0 (q32 u) (q32 l) = some (q32 1, PT m 19 f) := k2
      have scP : SC m (PT m 19 f) := (SC.rf m).pt (by omega)
      obtain ⟨z, z0, z1, z2⟩ := never_u hF (hst.sc scP) k1 (PT_0 _ _ _) (PT_l _ _ _) (md := md) (by omega)
      obtain ⟨m1, e1, e2⟩ := z1 _ (K9.rf _)
      have hr1 : RF m1 := hr.same (e2.2.2.trans rfl)
      have k4 := k3 (wI m1 23 0 (q32 0)) (hr1.same rfl) (by simp (disch := omega) only [Option.bind_some, bindv, bindv0, bind2_s, bind3_s, ↓reduceIte, Bool.false_eq_true, rZM_0, rZM_1, rZP_0, rZP_1, ptZ_0, ptZ_1, c32i, c64i, ncI, Int.natCast_add, Int.natCast_mul, q32_neg, q64_neg, q32_add, q32_sub, q32_mul, q64_add, q64_sub, q64_mul, q32_64i, q64_32, q32_lt_t, q32_lt_f, q32_le_t, q32_le_f, q32_eq_t, q32_eq_f, q64_lt_t, q64_lt_f, q64_le_t, q64_le_f, q64_eq_t, q64_eq_f, rdI_i, rdL_i, rdR_i, rdN_i, stI_i, stL_i, stR_i, wI_s, wI_n, wL_s, wL_n, wI_2, wI_3, wL_1, wL_3, wR_1, wR_2, Int.toNat_natCast, tnO, tn_add, tn_sub, tn_mul, Nat.add_sub_cancel, Nat.add_zero, Nat.zero_add, lnO, win_t, win_f]; rw [e2.1 _ _ (by omega)]; rfl)
      obtain ⟨m2, g1, g2⟩ := z2 (PS (wI m1 23 0 (q32 0)) f) (hr1.same rfl) (fun k _ => by rw [PS_1]; simp (disch := omega) only [Option.bind_some, bindv, bindv0, bind2_s, bind3_s, ↓reduceIte, Bool.false_eq_true, rZM_0, rZM_1, rZP_0, rZP_1, ptZ_0, ptZ_1, c32i, c64i, ncI, Int.natCast_add, Int.natCast_mul, q32_neg, q64_neg, q32_add, q32_sub, q32_mul, q64_add, q64_sub, q64_mul, q32_64i, q64_32, q32_lt_t, q32_lt_f, q32_le_t, q32_le_f, q32_eq_t, q32_eq_f, q64_lt_t, q64_lt_f, q64_le_t, q64_le_f, q64_eq_t, q64_eq_f, rdI_i, rdL_i, rdR_i, rdN_i, stI_i, stL_i, stR_i, wI_s, wI_n, wL_s, wL_n, wI_2, wI_3, wL_1, wL_3, wR_1, wR_2, Int.toNat_natCast, tnO, tn_add, tn_sub, tn_mul, Nat.add_sub_cancel, Nat.add_zero, Nat.zero_add, lnO, win_t, win_f]; exact e2.1 _ _ (by omega))
      refine fin (q32 z) m1 m2 ?_ ?_ (scP.tr (e2.sc.tr ((SC.k0 m1).ps.tr g2.sc)))
      · unfold n_X9_never nb_X9_never_0
        rcases z0 with rfl | rfl
        · simp (disch := omega) only [Option.bind_some, bindv, bindv0, bind2_s, bind3_s, ↓reduceIte, Bool.false_eq_true, rZM_0, rZM_1, rZP_0, rZP_1, ptZ_0, ptZ_1, c32i, c64i, ncI, Int.natCast_add, Int.natCast_mul, q32_neg, q64_neg, q32_add, q32_sub, q32_mul, q64_add, q64_sub, q64_mul, q32_64i, q64_32, q32_lt_t, q32_lt_f, q32_le_t, q32_le_f, q32_eq_t, q32_eq_f, q64_lt_t, q64_lt_f, q64_le_t, q64_le_f, q64_eq_t, q64_eq_f, rdI_i, rdL_i, rdR_i, rdN_i, stI_i, stL_i, stR_i, wI_s, wI_n, wL_s, wL_n, wI_2, wI_3, wL_1, wL_3, wR_1, wR_2, Int.toNat_natCast, tnO, tn_add, tn_sub, tn_mul, Nat.add_sub_cancel, Nat.add_zero, Nat.zero_add, lnO, win_t, win_f, im, k2', e1]
        · simp (disch := omega) only [Option.bind_some, bindv, bindv0, bind2_s, bind3_s, ↓reduceIte, Bool.false_eq_true, rZM_0, rZM_1, rZP_0, rZP_1, ptZ_0, ptZ_1, c32i, c64i, ncI, Int.natCast_add, Int.natCast_mul, q32_neg, q64_neg, q32_add, q32_sub, q32_mul, q64_add, q64_sub, q64_mul, q32_64i, q64_32, q32_lt_t, q32_lt_f, q32_le_t, q32_le_f, q32_eq_t, q32_eq_f, q64_lt_t, q64_lt_f, q64_le_t, q64_le_f, q64_eq_t, q64_eq_f, rdI_i, rdL_i, rdR_i, rdN_i, stI_i, stL_i, stR_i, wI_s, wI_n, wL_s, wL_n, wI_2, wI_3, wL_1, wL_3, wR_1, wR_2, Int.toNat_natCast, tnO, tn_add, tn_sub, tn_mul, Nat.add_sub_cancel, Nat.add_zero, Nat.zero_add, lnO, win_t, win_f, im, k2', e1]
      · unfold n_X10_never nb_X10_never_0
        rcases z0 with rfl | rfl
        · simp (disch := omega) only [Option.bind_some, bindv, bindv0, bind2_s, bind3_s, ↓reduceIte, Bool.false_eq_true, rZM_0, rZM_1, rZP_0, rZP_1, ptZ_0, ptZ_1, c32i, c64i, ncI, Int.natCast_add, Int.natCast_mul, q32_neg, q64_neg, q32_add, q32_sub, q32_mul, q64_add, q64_sub, q64_mul, q32_64i, q64_32, q32_lt_t, q32_lt_f, q32_le_t, q32_le_f, q32_eq_t, q32_eq_f, q64_lt_t, q64_lt_f, q64_le_t, q64_le_f, q64_eq_t, q64_eq_f, rdI_i, rdL_i, rdR_i, rdN_i, stI_i, stL_i, stR_i, wI_s, wI_n, wL_s, wL_n, wI_2, wI_3, wL_1, wL_3, wR_1, wR_2, Int.toNat_natCast, tnO, tn_add, tn_sub, tn_mul, Nat.add_sub_cancel, Nat.add_zero, Nat.zero_add, lnO, win_t, win_f, k4, PS_0, PS_l, g1]
        · simp (disch := omega) only [Option.bind_some, bindv, bindv0, bind2_s, bind3_s, ↓reduceIte, Bool.false_eq_true, rZM_0, rZM_1, rZP_0, rZP_1, ptZ_0, ptZ_1, c32i, c64i, ncI, Int.natCast_add, Int.natCast_mul, q32_neg, q64_neg, q32_add, q32_sub, q32_mul, q64_add, q64_sub, q64_mul, q32_64i, q64_32, q32_lt_t, q32_lt_f, q32_le_t, q32_le_f, q32_eq_t, q32_eq_f, q64_lt_t, q64_lt_f, q64_le_t, q64_le_f, q64_eq_t, q64_eq_f, rdI_i, rdL_i, rdR_i, rdN_i, stI_i, stL_i, stR_i, wI_s, wI_n, wL_s, wL_n, wI_2, wI_3, wL_1, wL_3, wR_1, wR_2, Int.toNat_natCast, tnO, tn_add, tn_sub, tn_mul, Nat.add_sub_cancel, Nat.add_zero, Nat.zero_add, lnO, win_t, win_f, k4, PS_0, PS_l, g1]
  · rw [if_neg c] at im
    refine fin (q32 (-3)) m _ ?_ ?_ (SC.k0 m)
    · unfold n_X9_never nb_X9_never_0
      simp (disch := omega) only [Option.bind_some, bindv, bindv0, bind2_s, bind3_s, ↓reduceIte, Bool.false_eq_true, rZM_0, rZM_1, rZP_0, rZP_1, ptZ_0, ptZ_1, c32i, c64i, ncI, Int.natCast_add, Int.natCast_mul, q32_neg, q64_neg, q32_add, q32_sub, q32_mul, q64_add, q64_sub, q64_mul, q32_64i, q64_32, q32_lt_t, q32_lt_f, q32_le_t, q32_le_f, q32_eq_t, q32_eq_f, q64_lt_t, q64_lt_f, q64_le_t, q64_le_f, q64_eq_t, q64_eq_f, rdI_i, rdL_i, rdR_i, rdN_i, stI_i, stL_i, stR_i, wI_s, wI_n, wL_s, wL_n, wI_2, wI_3, wL_1, wL_3, wR_1, wR_2, Int.toNat_natCast, tnO, tn_add, tn_sub, tn_mul, Nat.add_sub_cancel, Nat.add_zero, Nat.zero_add, lnO, win_t, win_f, im]
    · unfold n_X10_never nb_X10_never_0
      simp (disch := omega) only [Option.bind_some, bindv, bindv0, bind2_s, bind3_s, ↓reduceIte, Bool.false_eq_true, rZM_0, rZM_1, rZP_0, rZP_1, ptZ_0, ptZ_1, c32i, c64i, ncI, Int.natCast_add, Int.natCast_mul, q32_neg, q64_neg, q32_add, q32_sub, q32_mul, q64_add, q64_sub, q64_mul, q32_64i, q64_32, q32_lt_t, q32_lt_f, q32_le_t, q32_le_f, q32_eq_t, q32_eq_f, q64_lt_t, q64_lt_f, q64_le_t, q64_le_f, q64_eq_t, q64_eq_f, rdI_i, rdL_i, rdR_i, rdN_i, stI_i, stL_i, stR_i, wI_s, wI_n, wL_s, wL_n, wI_2, wI_3, wL_1, wL_3, wR_1, wR_2, Int.toNat_natCast, tnO, tn_add, tn_sub, tn_mul, Nat.add_sub_cancel, Nat.add_zero, Nat.zero_add, lnO, win_t, win_f]
def SHF (Z : Nat → Int) : Nat → Nat → Int
  | 0, _ => -1
  | n + 1, d => if Z d = 0 then SHF Z n (d + 1) else d
theorem shL9 {F : Nat} {s : List Sh} {m : Mem} {Z : Nat → Int} (h0 : ∀ d, Z d = 0 ∨ Z d = 1) (h : ∀ d : Nat, 2 ≤ d → d ≤ 30 → ∀ m1, K9 m m1 → ∃ m', n_X9_isNever F s m1 0 (q32 d) = some (q32 (Z d), m') ∧ K9 m1 m') : ∀ (n fuel : Nat), n < fuel → ∀ (m1 : Mem) (d : Nat), K9 m m1 → 2 ≤ d → d + n = 31 → ∃ m', nl_X9_shown_14 F s fuel m1 0 (q32 d) = some (q32 (SHF Z n d), m') ∧ K9 m m' := by
  intro n
  induction n with
  | zero =>
    intro fuel hf m1 d hk h2 hi
    obtain ⟨fuel, rfl⟩ : ∃ f, fuel = f + 1 := ⟨fuel - 1, by omega⟩
    refine ⟨m1, ?_, hk⟩
    show nb_X9_shown_14 F s (nl_X9_shown_14 F s fuel) m1 0 _ = _
    unfold nb_X9_shown_14 SHF
    simp (disch := omega) only [Option.bind_some, bindv, bindv0, bind2_s, bind3_s, ↓reduceIte, Bool.false_eq_true, rZM_0, rZM_1, rZP_0, rZP_1, ptZ_0, ptZ_1, c32i, c64i, ncI, Int.natCast_add, Int.natCast_mul, q32_neg, q64_neg, q32_add, q32_sub, q32_mul, q64_add, q64_sub, q64_mul, q32_64i, q64_32, q32_lt_t, q32_lt_f, q32_le_t, q32_le_f, q32_eq_t, q32_eq_f, q64_lt_t, q64_lt_f, q64_le_t, q64_le_f, q64_eq_t, q64_eq_f, rdI_i, rdL_i, rdR_i, rdN_i, stI_i, stL_i, stR_i, wI_s, wI_n, wL_s, wL_n, wI_2, wI_3, wL_1, wL_3, wR_1, wR_2, Int.toNat_natCast, tnO, tn_add, tn_sub, tn_mul, Nat.add_sub_cancel, Nat.add_zero, Nat.zero_add, lnO, win_t, win_f]
  | succ n ih =>
    intro fuel hf m1 d hk h2 hi
    obtain ⟨fuel, rfl⟩ : ∃ f, fuel = f + 1 := ⟨fuel - 1, by omega⟩
    obtain ⟨m2, e1, e2⟩ := h d h2 (by omega) m1 hk
    rcases h0 d with z | z
    · obtain ⟨m', i1, i2⟩ := ih fuel (by omega) m2 (d + 1) (hk.tr e2) (by omega) (by omega)
      rw [Int.natCast_add] at i1
      refine ⟨m', ?_, i2⟩
      rw [z] at e1
      show nb_X9_shown_14 F s (nl_X9_shown_14 F s fuel) m1 0 _ = _
      unfold nb_X9_shown_14 SHF
      rw [if_pos z]
      simp (disch := omega) only [Option.bind_some, bindv, bindv0, bind2_s, bind3_s, ↓reduceIte, Bool.false_eq_true, rZM_0, rZM_1, rZP_0, rZP_1, ptZ_0, ptZ_1, c32i, c64i, ncI, Int.natCast_add, Int.natCast_mul, q32_neg, q64_neg, q32_add, q32_sub, q32_mul, q64_add, q64_sub, q64_mul, q32_64i, q64_32, q32_lt_t, q32_lt_f, q32_le_t, q32_le_f, q32_eq_t, q32_eq_f, q64_lt_t, q64_lt_f, q64_le_t, q64_le_f, q64_eq_t, q64_eq_f, rdI_i, rdL_i, rdR_i, rdN_i, stI_i, stL_i, stR_i, wI_s, wI_n, wL_s, wL_n, wI_2, wI_3, wL_1, wL_3, wR_1, wR_2, Int.toNat_natCast, tnO, tn_add, tn_sub, tn_mul, Nat.add_sub_cancel, Nat.add_zero, Nat.zero_add, lnO, win_t, win_f, e1]
      exact i1
    · refine ⟨m2, ?_, hk.tr e2⟩
      rw [z] at e1
      show nb_X9_shown_14 F s (nl_X9_shown_14 F s fuel) m1 0 _ = _
      unfold nb_X9_shown_14 SHF
      rw [if_neg (show ¬ Z d = 0 by omega)]
      simp (disch := omega) only [Option.bind_some, bindv, bindv0, bind2_s, bind3_s, ↓reduceIte, Bool.false_eq_true, rZM_0, rZM_1, rZP_0, rZP_1, ptZ_0, ptZ_1, c32i, c64i, ncI, Int.natCast_add, Int.natCast_mul, q32_neg, q64_neg, q32_add, q32_sub, q32_mul, q64_add, q64_sub, q64_mul, q32_64i, q64_32, q32_lt_t, q32_lt_f, q32_le_t, q32_le_f, q32_eq_t, q32_eq_f, q64_lt_t, q64_lt_f, q64_le_t, q64_le_f, q64_eq_t, q64_eq_f, rdI_i, rdL_i, rdR_i, rdN_i, stI_i, stL_i, stR_i, wI_s, wI_n, wL_s, wL_n, wI_2, wI_3, wL_1, wL_3, wR_1, wR_2, Int.toNat_natCast, tnO, tn_add, tn_sub, tn_mul, Nat.add_sub_cancel, Nat.add_zero, Nat.zero_add, lnO, win_t, win_f, e1]
theorem shL10 {F : Nat} {s : List Sh} {m : Mem} {Z : Nat → Int} {p q : Int64} (h0 : ∀ d, Z d = 0 ∨ Z d = 1) (h : ∀ d : Nat, 2 ≤ d → d ≤ 30 → ∀ m1, KgS m m1 → ∃ m', n_X10_isNever F s m1 23 (q32 d) p q = some (q32 (Z d), m') ∧ KgS m1 m') : ∀ (n fuel : Nat), n < fuel → ∀ (m1 : Mem) (d : Nat), KgS m m1 → 2 ≤ d → d + n = 31 → ∃ m', nl_X10_shown_33 F s fuel m1 23 p q (q32 d) = some (q32 (SHF Z n d), m') ∧ KgS m m' := by
  intro n
  induction n with
  | zero =>
    intro fuel hf m1 d hk h2 hi
    obtain ⟨fuel, rfl⟩ : ∃ f, fuel = f + 1 := ⟨fuel - 1, by omega⟩
    refine ⟨m1, ?_, hk⟩
    show nb_X10_shown_33 F s (nl_X10_shown_33 F s fuel) m1 23 _ _ _ = _
    unfold nb_X10_shown_33 SHF
    simp (disch := omega) only [Option.bind_some, bindv, bindv0, bind2_s, bind3_s, ↓reduceIte, Bool.false_eq_true, rZM_0, rZM_1, rZP_0, rZP_1, ptZ_0, ptZ_1, c32i, c64i, ncI, Int.natCast_add, Int.natCast_mul, q32_neg, q64_neg, q32_add, q32_sub, q32_mul, q64_add, q64_sub, q64_mul, q32_64i, q64_32, q32_lt_t, q32_lt_f, q32_le_t, q32_le_f, q32_eq_t, q32_eq_f, q64_lt_t, q64_lt_f, q64_le_t, q64_le_f, q64_eq_t, q64_eq_f, rdI_i, rdL_i, rdR_i, rdN_i, stI_i, stL_i, stR_i, wI_s, wI_n, wL_s, wL_n, wI_2, wI_3, wL_1, wL_3, wR_1, wR_2, Int.toNat_natCast, tnO, tn_add, tn_sub, tn_mul, Nat.add_sub_cancel, Nat.add_zero, Nat.zero_add, lnO, win_t, win_f]
  | succ n ih =>
    intro fuel hf m1 d hk h2 hi
    obtain ⟨fuel, rfl⟩ : ∃ f, fuel = f + 1 := ⟨fuel - 1, by omega⟩
    obtain ⟨m2, e1, e2⟩ := h d h2 (by omega) m1 hk
    rcases h0 d with z | z
    · obtain ⟨m', i1, i2⟩ := ih fuel (by omega) m2 (d + 1) (hk.tr e2) (by omega) (by omega)
      rw [Int.natCast_add] at i1
      refine ⟨m', ?_, i2⟩
      rw [z] at e1
      show nb_X10_shown_33 F s (nl_X10_shown_33 F s fuel) m1 23 _ _ _ = _
      unfold nb_X10_shown_33 SHF
      rw [if_pos z]
      simp (disch := omega) only [Option.bind_some, bindv, bindv0, bind2_s, bind3_s, ↓reduceIte, Bool.false_eq_true, rZM_0, rZM_1, rZP_0, rZP_1, ptZ_0, ptZ_1, c32i, c64i, ncI, Int.natCast_add, Int.natCast_mul, q32_neg, q64_neg, q32_add, q32_sub, q32_mul, q64_add, q64_sub, q64_mul, q32_64i, q64_32, q32_lt_t, q32_lt_f, q32_le_t, q32_le_f, q32_eq_t, q32_eq_f, q64_lt_t, q64_lt_f, q64_le_t, q64_le_f, q64_eq_t, q64_eq_f, rdI_i, rdL_i, rdR_i, rdN_i, stI_i, stL_i, stR_i, wI_s, wI_n, wL_s, wL_n, wI_2, wI_3, wL_1, wL_3, wR_1, wR_2, Int.toNat_natCast, tnO, tn_add, tn_sub, tn_mul, Nat.add_sub_cancel, Nat.add_zero, Nat.zero_add, lnO, win_t, win_f, e1]
      exact i1
    · refine ⟨m2, ?_, hk.tr e2⟩
      rw [z] at e1
      show nb_X10_shown_33 F s (nl_X10_shown_33 F s fuel) m1 23 _ _ _ = _
      unfold nb_X10_shown_33 SHF
      rw [if_neg (show ¬ Z d = 0 by omega)]
      simp (disch := omega) only [Option.bind_some, bindv, bindv0, bind2_s, bind3_s, ↓reduceIte, Bool.false_eq_true, rZM_0, rZM_1, rZP_0, rZP_1, ptZ_0, ptZ_1, c32i, c64i, ncI, Int.natCast_add, Int.natCast_mul, q32_neg, q64_neg, q32_add, q32_sub, q32_mul, q64_add, q64_sub, q64_mul, q32_64i, q64_32, q32_lt_t, q32_lt_f, q32_le_t, q32_le_f, q32_eq_t, q32_eq_f, q64_lt_t, q64_lt_f, q64_le_t, q64_le_f, q64_eq_t, q64_eq_f, rdI_i, rdL_i, rdR_i, rdN_i, stI_i, stL_i, stR_i, wI_s, wI_n, wL_s, wL_n, wI_2, wI_3, wL_1, wL_3, wR_1, wR_2, Int.toNat_natCast, tnO, tn_add, tn_sub, tn_mul, Nat.add_sub_cancel, Nat.add_zero, Nat.zero_add, lnO, win_t, win_f, e1]
theorem opk_shown {F : Nat} (hF : 1000 ≤ F) {s : List Sh} {m : Mem} (h : INV s m) (w1 w2 : Int32) : OPK s m (n_X9_shown F s m 0 w1 w2) (fun m1 => n_X10_shown F s m1 23 w1 w2) := by
  have h0 := h
  obtain ⟨hg, ow, nw, hst⟩ := h
  have hl := hst.1
  have hp := hl.hp
  have hr := hl.rf
  have hn := hl.hn
  have rn := hl.nw
  have r1 := rf23_1 hr
  have l24 := ln24 hp
  obtain ⟨u, hu, rfl⟩ := q32_of w1
  obtain ⟨l, hll, rfl⟩ := q32_of w2
  have fin : ∀ r m1 m2, n_X9_shown F s m 0 (q32 u) (q32 l) = some (r, m1) → n_X10_shown F s m1 23 (q32 u) (q32 l) = some (r, m2) → SC m m2 → OPK s m (n_X9_shown F s m 0 (q32 u) (q32 l)) (fun m1 => n_X10_shown F s m1 23 (q32 u) (q32 l)) := fun r m1 m2 e1 e2 sc =>
    opk_fin h0 e1 e2 (un_X10_shown (un_X9_shown hg (okB hp).1 e1).2 (okB hp).2 e2).2 sc
  rcases asks_cases (F := F) (by omega) hst hu hll with ⟨m1, k1, k2, k3⟩ | ⟨f, k1, k2, k3⟩
  · obtain ⟨m2, k4, k5⟩ := k3 (wI m1 23 0 (q32 0)) (hr.same k2.r) (by simp (disch := omega) only [Option.bind_some, bindv, bindv0, bind2_s, bind3_s, ↓reduceIte, Bool.false_eq_true, rZM_0, rZM_1, rZP_0, rZP_1, ptZ_0, ptZ_1, c32i, c64i, ncI, Int.natCast_add, Int.natCast_mul, q32_neg, q64_neg, q32_add, q32_sub, q32_mul, q64_add, q64_sub, q64_mul, q32_64i, q64_32, q32_lt_t, q32_lt_f, q32_le_t, q32_le_f, q32_eq_t, q32_eq_f, q64_lt_t, q64_lt_f, q64_le_t, q64_le_f, q64_eq_t, q64_eq_f, rdI_i, rdL_i, rdR_i, rdN_i, stI_i, stL_i, stR_i, wI_s, wI_n, wL_s, wL_n, wI_2, wI_3, wL_1, wL_3, wR_1, wR_2, Int.toNat_natCast, tnO, tn_add, tn_sub, tn_mul, Nat.add_sub_cancel, Nat.add_zero, Nat.zero_add, lnO, win_t, win_f]; exact k2.i _ _ (by omega))
    refine fin (q32 (-3)) m1 m2 ?_ ?_ (k2.tr ((SC.k0 m1).tr k5))
    · unfold n_X9_shown nb_X9_shown_0
      simp (disch := omega) only [Option.bind_some, bindv, bindv0, bind2_s, bind3_s, ↓reduceIte, Bool.false_eq_true, rZM_0, rZM_1, rZP_0, rZP_1, ptZ_0, ptZ_1, c32i, c64i, ncI, Int.natCast_add, Int.natCast_mul, q32_neg, q64_neg, q32_add, q32_sub, q32_mul, q64_add, q64_sub, q64_mul, q32_64i, q64_32, q32_lt_t, q32_lt_f, q32_le_t, q32_le_f, q32_eq_t, q32_eq_f, q64_lt_t, q64_lt_f, q64_le_t, q64_le_f, q64_eq_t, q64_eq_f, rdI_i, rdL_i, rdR_i, rdN_i, stI_i, stL_i, stR_i, wI_s, wI_n, wL_s, wL_n, wI_2, wI_3, wL_1, wL_3, wR_1, wR_2, Int.toNat_natCast, tnO, tn_add, tn_sub, tn_mul, Nat.add_sub_cancel, Nat.add_zero, Nat.zero_add, lnO, win_t, win_f, k1]
    · unfold n_X10_shown nb_X10_shown_0
      simp (disch := omega) only [Option.bind_some, bindv, bindv0, bind2_s, bind3_s, ↓reduceIte, Bool.false_eq_true, rZM_0, rZM_1, rZP_0, rZP_1, ptZ_0, ptZ_1, c32i, c64i, ncI, Int.natCast_add, Int.natCast_mul, q32_neg, q64_neg, q32_add, q32_sub, q32_mul, q64_add, q64_sub, q64_mul, q32_64i, q64_32, q32_lt_t, q32_lt_f, q32_le_t, q32_le_f, q32_eq_t, q32_eq_f, q64_lt_t, q64_lt_f, q64_le_t, q64_le_f, q64_eq_t, q64_eq_f, rdI_i, rdL_i, rdR_i, rdN_i, stI_i, stL_i, stR_i, wI_s, wI_n, wL_s, wL_n, wI_2, wI_3, wL_1, wL_3, wR_1, wR_2, Int.toNat_natCast, tnO, tn_add, tn_sub, tn_mul, Nat.add_sub_cancel, Nat.add_zero, Nat.zero_add, lnO, win_t, win_f, k4]
  · have k2' : n_X9_asksFloor F s m 0 (q32 u) (q32 l) = some (q32 1, PT m 19 f) := k2
    have scP : SC m (PT m 19 f) := (SC.rf m).pt (by omega)
    have ex : ∀ d : Nat, ∃ z : Int, (z = 0 ∨ z = 1) ∧ (2 ≤ d → d ≤ 30 → (∀ m1, K9 (PT m 19 f) m1 → ∃ m', n_X9_isNever F s m1 0 (q32 d) = some (q32 z, m') ∧ K9 m1 m') ∧ ∀ M : Mem, RF M → (∀ k, k < 999 → M.1 24 k = (PT m 19 f).1 24 k) → ∃ M', n_X10_isNever F s M 23 (q32 d) (q64 f.1) (q64 f.2) = some (q32 z, M') ∧ KgS M M') := fun d => by
      by_cases c : 2 ≤ d ∧ d ≤ 30
      · obtain ⟨z, z0, z1, z2⟩ := never_u hF (hst.sc scP) k1 (PT_0 _ _ _) (PT_l _ _ _) c
        exact ⟨z, z0, fun _ _ => ⟨z1, z2⟩⟩
      · exact ⟨0, Or.inl rfl, fun a b => absurd ⟨a, b⟩ c⟩
    obtain ⟨Z, hZ⟩ := Classical.axiomOfChoice ex
    obtain ⟨m1, e1, e2⟩ := shL9 (F := F) (s := s) (m := PT m 19 f) (Z := Z) (fun d => (hZ d).1) (fun d h1 h2 => ((hZ d).2 h1 h2).1) 29 F (by omega) (PT m 19 f) 2 (K9.rf _) (by omega) (by omega)
    have hr1 : RF m1 := hr.same (e2.2.2.trans rfl)
    have k4 := k3 (wI m1 23 0 (q32 0)) (hr1.same rfl) (by simp (disch := omega) only [Option.bind_some, bindv, bindv0, bind2_s, bind3_s, ↓reduceIte, Bool.false_eq_true, rZM_0, rZM_1, rZP_0, rZP_1, ptZ_0, ptZ_1, c32i, c64i, ncI, Int.natCast_add, Int.natCast_mul, q32_neg, q64_neg, q32_add, q32_sub, q32_mul, q64_add, q64_sub, q64_mul, q32_64i, q64_32, q32_lt_t, q32_lt_f, q32_le_t, q32_le_f, q32_eq_t, q32_eq_f, q64_lt_t, q64_lt_f, q64_le_t, q64_le_f, q64_eq_t, q64_eq_f, rdI_i, rdL_i, rdR_i, rdN_i, stI_i, stL_i, stR_i, wI_s, wI_n, wL_s, wL_n, wI_2, wI_3, wL_1, wL_3, wR_1, wR_2, Int.toNat_natCast, tnO, tn_add, tn_sub, tn_mul, Nat.add_sub_cancel, Nat.add_zero, Nat.zero_add, lnO, win_t, win_f]; rw [e2.1 _ _ (by omega)]; rfl)
    obtain ⟨m2, g1, g2⟩ := shL10 (F := F) (s := s) (m := PS (wI m1 23 0 (q32 0)) f) (Z := Z) (p := q64 f.1) (q := q64 f.2) (fun d => (hZ d).1) (fun d h1 h2 M hM => ((hZ d).2 h1 h2).2 M (hr1.same (by rw [hM.2]; rfl)) (fun k _ => by rw [hM.1 _ _ (by omega), PS_1]; simp (disch := omega) only [Option.bind_some, bindv, bindv0, bind2_s, bind3_s, ↓reduceIte, Bool.false_eq_true, rZM_0, rZM_1, rZP_0, rZP_1, ptZ_0, ptZ_1, c32i, c64i, ncI, Int.natCast_add, Int.natCast_mul, q32_neg, q64_neg, q32_add, q32_sub, q32_mul, q64_add, q64_sub, q64_mul, q32_64i, q64_32, q32_lt_t, q32_lt_f, q32_le_t, q32_le_f, q32_eq_t, q32_eq_f, q64_lt_t, q64_lt_f, q64_le_t, q64_le_f, q64_eq_t, q64_eq_f, rdI_i, rdL_i, rdR_i, rdN_i, stI_i, stL_i, stR_i, wI_s, wI_n, wL_s, wL_n, wI_2, wI_3, wL_1, wL_3, wR_1, wR_2, Int.toNat_natCast, tnO, tn_add, tn_sub, tn_mul, Nat.add_sub_cancel, Nat.add_zero, Nat.zero_add, lnO, win_t, win_f]; exact e2.1 _ _ (by omega))) 29 F (by omega) (PS (wI m1 23 0 (q32 0)) f) 2 (KgS.rf _) (by omega) (by omega)
    refine fin (q32 (SHF Z 29 2)) m1 m2 ?_ ?_ (scP.tr (e2.sc.tr ((SC.k0 m1).ps.tr g2.sc)))
    · unfold n_X9_shown nb_X9_shown_0
      simp (disch := omega) only [Option.bind_some, bindv, bindv0, bind2_s, bind3_s, ↓reduceIte, Bool.false_eq_true, rZM_0, rZM_1, rZP_0, rZP_1, ptZ_0, ptZ_1, c32i, c64i, ncI, Int.natCast_add, Int.natCast_mul, q32_neg, q64_neg, q32_add, q32_sub, q32_mul, q64_add, q64_sub, q64_mul, q32_64i, q64_32, q32_lt_t, q32_lt_f, q32_le_t, q32_le_f, q32_eq_t, q32_eq_f, q64_lt_t, q64_lt_f, q64_le_t, q64_le_f, q64_eq_t, q64_eq_f, rdI_i, rdL_i, rdR_i, rdN_i, stI_i, stL_i, stR_i, wI_s, wI_n, wL_s, wL_n, wI_2, wI_3, wL_1, wL_3, wR_1, wR_2, Int.toNat_natCast, tnO, tn_add, tn_sub, tn_mul, Nat.add_sub_cancel, Nat.add_zero, Nat.zero_add, lnO, win_t, win_f, k2']
      exact e1
    · unfold n_X10_shown nb_X10_shown_0
      simp (disch := omega) only [Option.bind_some, bindv, bindv0, bind2_s, bind3_s, ↓reduceIte, Bool.false_eq_true, rZM_0, rZM_1, rZP_0, rZP_1, ptZ_0, ptZ_1, c32i, c64i, ncI, Int.natCast_add, Int.natCast_mul, q32_neg, q64_neg, q32_add, q32_sub, q32_mul, q64_add, q64_sub, q64_mul, q32_64i, q64_32, q32_lt_t, q32_lt_f, q32_le_t, q32_le_f, q32_eq_t, q32_eq_f, q64_lt_t, q64_lt_f, q64_le_t, q64_le_f, q64_eq_t, q64_eq_f, rdI_i, rdL_i, rdR_i, rdN_i, stI_i, stL_i, stR_i, wI_s, wI_n, wL_s, wL_n, wI_2, wI_3, wL_1, wL_3, wR_1, wR_2, Int.toNat_natCast, tnO, tn_add, tn_sub, tn_mul, Nat.add_sub_cancel, Nat.add_zero, Nat.zero_add, lnO, win_t, win_f, k4, PS_0, PS_l]
      exact g1
