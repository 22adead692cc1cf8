theorem opg_sure {F : Nat} (hF : 1000 ≤ F) {s : List Sh} {m : Mem} (h : INV s m) (w1 w2 : Int32) : OPG s m (n_X9_sure F s m 0 w1 w2) (fun s1 m1 => n_X10_sure F s1 m1 23 w1 w2) := by
  have h0 := h
  obtain ⟨hg, ow, nw, hst⟩ := h
  have hl := hst.1
  have hp := hl.hp
  have hr := hl.rf
  have hn := hl.hn
  have rn := hl.nw
  have r1 := rf23_1 hr
  have l24 := ln24 hp
  obtain ⟨i, hi, rfl⟩ := q32_of w1
  obtain ⟨v, hv, rfl⟩ := q32_of w2
  have r7 := rf0_7 hr
  have l13 := ln13 hp
  have r53 := rf23_53 hr
  have l51 := ln51 hp
  obtain ⟨tp', y1, y2, y3, y4, y5, y6, y7, bc, y8, y9, y10⟩ := hst.2.1.wa.at
  have g6 : m.1 nw 6 = q32 bc := by obtain ⟨tp, sk, nl, bc, fc, tc, au, aw, S, U, L, V, W, X, O, h1, ⟨a0, a1, a2, a4, a5, a6, a9, a15⟩, ⟨b0, b1, b2, b3, b4, b5, b6, b7, b8⟩, h4, ⟨s1, s2, s3, s4, s5, s6, s7⟩, h6, ⟨h7, h7b⟩, h8⟩ := hst.2.1; rw [a6, ← b2]; exact y9
  obtain ⟨fc, tp, U, L, X, O, hd, f9, f10, -, htp⟩ := hst.fd
  have bad : ∀ r : Int, n_X9_sure F s m 0 (q32 i) (q32 v) = some (q32 r, s, m) → n_X10_sure F s m 23 (q32 i) (q32 v) = some (q32 r, wI m 23 0 (q32 0)) → OPG s m (n_X9_sure F s m 0 (q32 i) (q32 v)) (fun s1 m1 => n_X10_sure F s1 m1 23 (q32 i) (q32 v)) := fun r e1 e2 =>
    opg_fin h0 e1 e2 (un_X10_sure (un_X9_sure hg (okB hp).1 e1).2.1 (okB hp).2 e2).2 (SC.k0 m)
  rcases seen_cases hF hst hd.1 f9.1 f10.2.1 y9 y8 hi with ⟨r, c1, c2, c3, k1, k2⟩ | ⟨j, t, sz, rfl, ht, c1, c2, c3, k1, k2, k3⟩
  · refine bad r ?_ ?_
    · unfold n_X9_sure nb_X9_sure_0
      simp (disch := omega) only [Option.bind_some, bindv, bindv0, bind2_s, bind3_s, ↓reduceIte, Bool.false_eq_true, rZM_0, rZM_1, rZP_0, rZP_1, ptZ_0, ptZ_1, c32i, c64i, ncI, Int.natCast_add, Int.natCast_mul, q32_neg, q64_neg, q32_add, q32_sub, q32_mul, q64_add, q64_sub, q64_mul, q32_64i, q64_32, q32_lt_t, q32_lt_f, q32_le_t, q32_le_f, q32_eq_t, q32_eq_f, q64_lt_t, q64_lt_f, q64_le_t, q64_le_f, q64_eq_t, q64_eq_f, rdI_i, rdL_i, rdR_i, rdN_i, stI_i, stL_i, stR_i, wI_s, wI_n, wL_s, wL_n, wI_2, wI_3, wL_1, wL_3, wR_1, wR_2, Int.toNat_natCast, tnO, tn_add, tn_sub, tn_mul, Nat.add_sub_cancel, Nat.add_zero, Nat.zero_add, lnO, win_t, win_f, k1]
    · unfold n_X10_sure nb_X10_sure_0 nb_X10_sure_38 nb_X10_sure_43
      have q1 := k2 (q32 (-1)) (q32 1)
      have q0 := k2 (q32 (-1)) (q32 0)
      by_cases ci : 0 ≤ i ∧ i ≤ 3
      · obtain ⟨j, rfl⟩ := Int.eq_ofNat_of_zero_le ci.1
        have rd : rdI s (wI m 23 0 (q32 0)) 51 (q32 j) = some ((wI m 23 0 (q32 0)).1 51 j) := rdI_q (by omega) (by omega)
        have r53' : (wI m 23 0 (q32 0)).2.2 23 53 = some 51 := r53
        have e1' : (1 : Int) = 1 := rfl
        rcases win_ex (Int32.toInt64 (q32 v)) (0 : Int64) (Int32.toInt64 ((wI m 23 0 (q32 0)).1 51 j - (1 : Int32))) with z | z
        · rw [show (0 : Int32) = q32 0 from rfl, bindv, bindv0, show m_X10_within (Int32.toInt64 (q32 (j : Int))) (0 : Int64) (3 : Int64) = some 1 by simp (disch := omega) only [Option.bind_some, bindv, bindv0, bind2_s, bind3_s, ↓reduceIte, Bool.false_eq_true, rZM_0, rZM_1, rZP_0, rZP_1, ptZ_0, ptZ_1, c32i, c64i, ncI, Int.natCast_add, Int.natCast_mul, q32_neg, q64_neg, q32_add, q32_sub, q32_mul, q64_add, q64_sub, q64_mul, q32_64i, q64_32, q32_lt_t, q32_lt_f, q32_le_t, q32_le_f, q32_eq_t, q32_eq_f, q64_lt_t, q64_lt_f, q64_le_t, q64_le_f, q64_eq_t, q64_eq_f, rdI_i, rdL_i, rdR_i, rdN_i, stI_i, stL_i, stR_i, wI_s, wI_n, wL_s, wL_n, wI_2, wI_3, wL_1, wL_3, wR_1, wR_2, Int.toNat_natCast, tnO, tn_add, tn_sub, tn_mul, Nat.add_sub_cancel, Nat.add_zero, Nat.zero_add, lnO, win_t, win_f], Option.bind_some, if_neg (by decide), r53', Option.bind_some, rd, Option.bind_some, z, Option.bind_some, if_pos (show (0 : Int32) = q32 0 from rfl)]
          rw [show (-1 : Int32) = q32 (-1) by simp only [c32i, q32_neg], q0]
          simp (disch := omega) only [Option.bind_some, bindv, bindv0, bind2_s, bind3_s, ↓reduceIte, Bool.false_eq_true, rZM_0, rZM_1, rZP_0, rZP_1, ptZ_0, ptZ_1, c32i, c64i, ncI, Int.natCast_add, Int.natCast_mul, q32_neg, q64_neg, q32_add, q32_sub, q32_mul, q64_add, q64_sub, q64_mul, q32_64i, q64_32, q32_lt_t, q32_lt_f, q32_le_t, q32_le_f, q32_eq_t, q32_eq_f, q64_lt_t, q64_lt_f, q64_le_t, q64_le_f, q64_eq_t, q64_eq_f, rdI_i, rdL_i, rdR_i, rdN_i, stI_i, stL_i, stR_i, wI_s, wI_n, wL_s, wL_n, wI_2, wI_3, wL_1, wL_3, wR_1, wR_2, Int.toNat_natCast, tnO, tn_add, tn_sub, tn_mul, Nat.add_sub_cancel, Nat.add_zero, Nat.zero_add, lnO, win_t, win_f]
        · rw [show (0 : Int32) = q32 0 from rfl, bindv, bindv0, show m_X10_within (Int32.toInt64 (q32 (j : Int))) (0 : Int64) (3 : Int64) = some 1 by simp (disch := omega) only [Option.bind_some, bindv, bindv0, bind2_s, bind3_s, ↓reduceIte, Bool.false_eq_true, rZM_0, rZM_1, rZP_0, rZP_1, ptZ_0, ptZ_1, c32i, c64i, ncI, Int.natCast_add, Int.natCast_mul, q32_neg, q64_neg, q32_add, q32_sub, q32_mul, q64_add, q64_sub, q64_mul, q32_64i, q64_32, q32_lt_t, q32_lt_f, q32_le_t, q32_le_f, q32_eq_t, q32_eq_f, q64_lt_t, q64_lt_f, q64_le_t, q64_le_f, q64_eq_t, q64_eq_f, rdI_i, rdL_i, rdR_i, rdN_i, stI_i, stL_i, stR_i, wI_s, wI_n, wL_s, wL_n, wI_2, wI_3, wL_1, wL_3, wR_1, wR_2, Int.toNat_natCast, tnO, tn_add, tn_sub, tn_mul, Nat.add_sub_cancel, Nat.add_zero, Nat.zero_add, lnO, win_t, win_f], Option.bind_some, if_neg (by decide), r53', Option.bind_some, rd, Option.bind_some, z, Option.bind_some, if_neg (by decide)]
          rw [show (-1 : Int32) = q32 (-1) by simp only [c32i, q32_neg], show (1 : Int32) = q32 1 from rfl, q1]
          simp (disch := omega) only [Option.bind_some, bindv, bindv0, bind2_s, bind3_s, ↓reduceIte, Bool.false_eq_true, rZM_0, rZM_1, rZP_0, rZP_1, ptZ_0, ptZ_1, c32i, c64i, ncI, Int.natCast_add, Int.natCast_mul, q32_neg, q64_neg, q32_add, q32_sub, q32_mul, q64_add, q64_sub, q64_mul, q32_64i, q64_32, q32_lt_t, q32_lt_f, q32_le_t, q32_le_f, q32_eq_t, q32_eq_f, q64_lt_t, q64_lt_f, q64_le_t, q64_le_f, q64_eq_t, q64_eq_f, rdI_i, rdL_i, rdR_i, rdN_i, stI_i, stL_i, stR_i, wI_s, wI_n, wL_s, wL_n, wI_2, wI_3, wL_1, wL_3, wR_1, wR_2, Int.toNat_natCast, tnO, tn_add, tn_sub, tn_mul, Nat.add_sub_cancel, Nat.add_zero, Nat.zero_add, lnO, win_t, win_f]
      · simp (disch := omega) only [Option.bind_some, bindv, bindv0, bind2_s, bind3_s, ↓reduceIte, Bool.false_eq_true, rZM_0, rZM_1, rZP_0, rZP_1, ptZ_0, ptZ_1, c32i, c64i, ncI, Int.natCast_add, Int.natCast_mul, q32_neg, q64_neg, q32_add, q32_sub, q32_mul, q64_add, q64_sub, q64_mul, q32_64i, q64_32, q32_lt_t, q32_lt_f, q32_le_t, q32_le_f, q32_eq_t, q32_eq_f, q64_lt_t, q64_lt_f, q64_le_t, q64_le_f, q64_eq_t, q64_eq_f, rdI_i, rdL_i, rdR_i, rdN_i, stI_i, stL_i, stR_i, wI_s, wI_n, wL_s, wL_n, wI_2, wI_3, wL_1, wL_3, wR_1, wR_2, Int.toNat_natCast, tnO, tn_add, tn_sub, tn_mul, Nat.add_sub_cancel, Nat.add_zero, Nat.zero_add, lnO, win_t, win_f, q1]
  · have hj := ht.1
    have rR : rdR s m 13 (q32 j) = some t := by rw [rdR_q (by omega) (by omega)]; exact ht.2.1
    have s1 := ht.2.2.2.2.2.2.2.1
    have h51 := ht.2.2.2.2.2.2.2.2.1
    have rd : rdI s (wI m 23 0 (q32 0)) 51 (q32 j) = some (q32 sz) := by rw [rdI_q (by omega) (by omega), wI_n (by omega), h51]
    have en : (-1 : Int32) = q32 (-1) := by simp only [c32i, q32_neg]
    by_cases hvr : 0 ≤ v ∧ v < sz
    · obtain ⟨k, rfl⟩ := Int.eq_ofNat_of_zero_le hvr.1
      have fw := fewL9 (F := F) (s := s) rn g6 y8 c2 sz F (by omega) 0 1 (by omega) (by decide)
      have fw' : n_X9_fewRows F s m 0 (q32 sz) = some (if 200000 < 1 * bc ^ sz then q32 0 else q32 1) := fw
      rw [Nat.one_mul] at fw'
      by_cases hpow : 200000 < bc ^ sz
      · rw [if_pos hpow] at fw'
        refine bad (-1000) ?_ ?_
        · unfold n_X9_sure nb_X9_sure_0
          simp (disch := omega) only [Option.bind_some, bindv, bindv0, bind2_s, bind3_s, ↓reduceIte, Bool.false_eq_true, rZM_0, rZM_1, rZP_0, rZP_1, ptZ_0, ptZ_1, c32i, c64i, ncI, Int.natCast_add, Int.natCast_mul, q32_neg, q64_neg, q32_add, q32_sub, q32_mul, q64_add, q64_sub, q64_mul, q32_64i, q64_32, q32_lt_t, q32_lt_f, q32_le_t, q32_le_f, q32_eq_t, q32_eq_f, q64_lt_t, q64_lt_f, q64_le_t, q64_le_f, q64_eq_t, q64_eq_f, rdI_i, rdL_i, rdR_i, rdN_i, stI_i, stL_i, stR_i, wI_s, wI_n, wL_s, wL_n, wI_2, wI_3, wL_1, wL_3, wR_1, wR_2, Int.toNat_natCast, tnO, tn_add, tn_sub, tn_mul, Nat.add_sub_cancel, Nat.add_zero, Nat.zero_add, lnO, win_t, win_f, k1, r7, rR, s1, fw']
        · have k3 := k3 hpow (q32 (-1)) (q32 1) (by decide)
          unfold n_X10_sure nb_X10_sure_0 nb_X10_sure_38 nb_X10_sure_43
          simp (disch := omega) only [Option.bind_some, bindv, bindv0, bind2_s, bind3_s, ↓reduceIte, Bool.false_eq_true, rZM_0, rZM_1, rZP_0, rZP_1, ptZ_0, ptZ_1, c32i, c64i, ncI, Int.natCast_add, Int.natCast_mul, q32_neg, q64_neg, q32_add, q32_sub, q32_mul, q64_add, q64_sub, q64_mul, q32_64i, q64_32, q32_lt_t, q32_lt_f, q32_le_t, q32_le_f, q32_eq_t, q32_eq_f, q64_lt_t, q64_lt_f, q64_le_t, q64_le_f, q64_eq_t, q64_eq_f, rdI_i, rdL_i, rdR_i, rdN_i, stI_i, stL_i, stR_i, wI_s, wI_n, wL_s, wL_n, wI_2, wI_3, wL_1, wL_3, wR_1, wR_2, Int.toNat_natCast, tnO, tn_add, tn_sub, tn_mul, Nat.add_sub_cancel, Nat.add_zero, Nat.zero_add, lnO, win_t, win_f, k3, r53, rd]
      · rw [if_neg hpow] at fw'
        obtain ⟨s', m', w, m1, ow', R, M2, x1, x2, x3, x4, x5, x6, x7, x8, x9, x10, x11, x12, x13, x14, x15, x16, x17⟩ := watch_both hF hst ht ⟨c1, c2⟩ hd f9 f10 htp g6 y9 y8 (T := fun k => (m.2.1 52 (40 * j + k)).toInt) (fun k _ => ⟨v64 _, v64b _⟩) c3 (by omega) (v := -1) (by omega)
        have lf := x13 (q32 1) (by decide)
        have hp' := x6.1.hp
        have wb := (x6.1.2.2.2.2.2.2.2.1 w x12).1
        have w2' := wb.2.2.1
        have lw := wb.2.2.2.2.2.1
        have hS : ∀ hne : R ≠ [], m1.1 (w + 1) k = q32 (SUR R k) := fun hne => x8.2.2.2 k (by omega) hne
        have h0c := x8.1
        have e1 : n_X9_sure F s m 0 (q32 j) (q32 k) = some (q32 (SUR R k), s', m1) := by
          unfold n_X9_sure nb_X9_sure_0
          by_cases hR : R = []
          · subst hR
            have h0c' : m1.1 w 0 = q32 0 := h0c
            show _ = some (q32 (-1), s', m1)
            rw [en]
            simp (disch := omega) only [Option.bind_some, bindv, bindv0, bind2_s, bind3_s, ↓reduceIte, Bool.false_eq_true, rZM_0, rZM_1, rZP_0, rZP_1, ptZ_0, ptZ_1, c32i, c64i, ncI, Int.natCast_add, Int.natCast_mul, q32_neg, q64_neg, q32_add, q32_sub, q32_mul, q64_add, q64_sub, q64_mul, q32_64i, q64_32, q32_lt_t, q32_lt_f, q32_le_t, q32_le_f, q32_eq_t, q32_eq_f, q64_lt_t, q64_lt_f, q64_le_t, q64_le_f, q64_eq_t, q64_eq_f, rdI_i, rdL_i, rdR_i, rdN_i, stI_i, stL_i, stR_i, wI_s, wI_n, wL_s, wL_n, wI_2, wI_3, wL_1, wL_3, wR_1, wR_2, Int.toNat_natCast, tnO, tn_add, tn_sub, tn_mul, Nat.add_sub_cancel, Nat.add_zero, Nat.zero_add, lnO, win_t, win_f, k1, r7, rR, s1, fw', x1, x2, x3, x4, x5, h0c']
          · have hS := hS hR
            have hl : 0 < R.length := List.length_pos_iff.mpr hR
            rw [en]
            simp (disch := omega) only [Option.bind_some, bindv, bindv0, bind2_s, bind3_s, ↓reduceIte, Bool.false_eq_true, rZM_0, rZM_1, rZP_0, rZP_1, ptZ_0, ptZ_1, c32i, c64i, ncI, Int.natCast_add, Int.natCast_mul, q32_neg, q64_neg, q32_add, q32_sub, q32_mul, q64_add, q64_sub, q64_mul, q32_64i, q64_32, q32_lt_t, q32_lt_f, q32_le_t, q32_le_f, q32_eq_t, q32_eq_f, q64_lt_t, q64_lt_f, q64_le_t, q64_le_f, q64_eq_t, q64_eq_f, rdI_i, rdL_i, rdR_i, rdN_i, stI_i, stL_i, stR_i, wI_s, wI_n, wL_s, wL_n, wI_2, wI_3, wL_1, wL_3, wR_1, wR_2, Int.toNat_natCast, tnO, tn_add, tn_sub, tn_mul, Nat.add_sub_cancel, Nat.add_zero, Nat.zero_add, lnO, win_t, win_f, k1, r7, rR, s1, fw', x1, x2, x3, x4, x5, h0c, w2', hS]
        have hrM : RF M2 := x6.1.rf.same x15.r
        have hbM : M2.1 24 2 = q32 bc := x17
        have sl := sureL10 (F := F) hp' hrM x14 (k := k) (by omega) c2 y8 hbM x10 bc F (by omega) 0 (by omega)
        have hFS : FND R k bc 0 = SUR R k := by
          cases R with
          | nil => exact FND_e rfl bc 0
          | cons P R => exact FND_s (x9 P List.mem_cons_self k (by omega)) bc 0 (by omega) (by omega)
        rw [hFS] at sl
        have sl' : nl_X10_sure_56 F s' F M2 23 (q32 k) (q32 0) = some (q32 (SUR R k), M2) := sl
        have rd' : rdI s' (wI m1 23 0 (q32 0)) 51 (q32 j) = some (q32 sz) := by
          have l51' := ln51 hp'
          rw [rdI_q (by omega) (by omega), wI_n (by omega), ← x15.i 51 j (by omega), x16]
        have r53'' := rf23_53 x6.1.rf
        have e2 : n_X10_sure F s' m1 23 (q32 j) (q32 k) = some (q32 (SUR R k), M2) := by
          unfold n_X10_sure nb_X10_sure_0 nb_X10_sure_38 nb_X10_sure_43
          simp (disch := omega) only [Option.bind_some, bindv, bindv0, bind2_s, bind3_s, ↓reduceIte, Bool.false_eq_true, rZM_0, rZM_1, rZP_0, rZP_1, ptZ_0, ptZ_1, c32i, c64i, ncI, Int.natCast_add, Int.natCast_mul, q32_neg, q64_neg, q32_add, q32_sub, q32_mul, q64_add, q64_sub, q64_mul, q32_64i, q64_32, q32_lt_t, q32_lt_f, q32_le_t, q32_le_f, q32_eq_t, q32_eq_f, q64_lt_t, q64_lt_f, q64_le_t, q64_le_f, q64_eq_t, q64_eq_f, rdI_i, rdL_i, rdR_i, rdN_i, stI_i, stL_i, stR_i, wI_s, wI_n, wL_s, wL_n, wI_2, wI_3, wL_1, wL_3, wR_1, wR_2, Int.toNat_natCast, tnO, tn_add, tn_sub, tn_mul, Nat.add_sub_cancel, Nat.add_zero, Nat.zero_add, lnO, win_t, win_f, r53'', rd', lf, sl']
        obtain ⟨-, g1, g2⟩ := un_X9_sure hg (okB hp).1 e1
        exact ⟨_, s', m1, M2, e1, e2, ⟨(un_X10_sure g1 (okB hp').2 e2).2, ow', nw, x6.sc x15⟩, x7, by rw [x15.r]; exact x11⟩
    · refine bad (-3) ?_ ?_
      · unfold n_X9_sure nb_X9_sure_0
        by_cases cv : v < 0
        · simp (disch := omega) only [Option.bind_some, bindv, bindv0, bind2_s, bind3_s, ↓reduceIte, Bool.false_eq_true, rZM_0, rZM_1, rZP_0, rZP_1, ptZ_0, ptZ_1, c32i, c64i, ncI, Int.natCast_add, Int.natCast_mul, q32_neg, q64_neg, q32_add, q32_sub, q32_mul, q64_add, q64_sub, q64_mul, q32_64i, q64_32, q32_lt_t, q32_lt_f, q32_le_t, q32_le_f, q32_eq_t, q32_eq_f, q64_lt_t, q64_lt_f, q64_le_t, q64_le_f, q64_eq_t, q64_eq_f, rdI_i, rdL_i, rdR_i, rdN_i, stI_i, stL_i, stR_i, wI_s, wI_n, wL_s, wL_n, wI_2, wI_3, wL_1, wL_3, wR_1, wR_2, Int.toNat_natCast, tnO, tn_add, tn_sub, tn_mul, Nat.add_sub_cancel, Nat.add_zero, Nat.zero_add, lnO, win_t, win_f, k1]
        · simp (disch := omega) only [Option.bind_some, bindv, bindv0, bind2_s, bind3_s, ↓reduceIte, Bool.false_eq_true, rZM_0, rZM_1, rZP_0, rZP_1, ptZ_0, ptZ_1, c32i, c64i, ncI, Int.natCast_add, Int.natCast_mul, q32_neg, q64_neg, q32_add, q32_sub, q32_mul, q64_add, q64_sub, q64_mul, q32_64i, q64_32, q32_lt_t, q32_lt_f, q32_le_t, q32_le_f, q32_eq_t, q32_eq_f, q64_lt_t, q64_lt_f, q64_le_t, q64_le_f, q64_eq_t, q64_eq_f, rdI_i, rdL_i, rdR_i, rdN_i, stI_i, stL_i, stR_i, wI_s, wI_n, wL_s, wL_n, wI_2, wI_3, wL_1, wL_3, wR_1, wR_2, Int.toNat_natCast, tnO, tn_add, tn_sub, tn_mul, Nat.add_sub_cancel, Nat.add_zero, Nat.zero_add, lnO, win_t, win_f, k1, r7, rR, s1]
      · have k2 := k2 (q32 (-1))
        unfold n_X10_sure nb_X10_sure_0 nb_X10_sure_38 nb_X10_sure_43
        have k2' : n_X10_laysFits F s (wI m 23 0 (q32 0)) 23 (q32 j) (q32 (-1)) (q32 0) = some (q32 (-3), wI m 23 0 (q32 0)) := k2
        simp (disch := omega) only [Option.bind_some, bindv, bindv0, bind2_s, bind3_s, ↓reduceIte, Bool.false_eq_true, rZM_0, rZM_1, rZP_0, rZP_1, ptZ_0, ptZ_1, c32i, c64i, ncI, Int.natCast_add, Int.natCast_mul, q32_neg, q64_neg, q32_add, q32_sub, q32_mul, q64_add, q64_sub, q64_mul, q32_64i, q64_32, q32_lt_t, q32_lt_f, q32_le_t, q32_le_f, q32_eq_t, q32_eq_f, q64_lt_t, q64_lt_f, q64_le_t, q64_le_f, q64_eq_t, q64_eq_f, rdI_i, rdL_i, rdR_i, rdN_i, stI_i, stL_i, stR_i, wI_s, wI_n, wL_s, wL_n, wI_2, wI_3, wL_1, wL_3, wR_1, wR_2, Int.toNat_natCast, tnO, tn_add, tn_sub, tn_mul, Nat.add_sub_cancel, Nat.add_zero, Nat.zero_add, lnO, win_t, win_f, k2', r53, rd]
