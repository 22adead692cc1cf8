theorem nR_any {s : List Sh} {m M : Mem} {ow : Nat → Nat} {nw : Nat} (h : ST s m ow nw) (hk : TK m M) (hr : RF M) {i r : Int} (hi : B31 i) (hb : -10 ≤ r ∧ r ≤ 10) (e : n_X9_refusedRow s m 0 (q32 i) (q32 1) = some (q32 r)) : n_X10_noRow s M 23 (q32 i) (q32 8) = some (q32 r) := by
  rcases row_cases h hk hr hi (l := 1) (Or.inl rfl) with ⟨r', c1, c2, c3, k1, k2⟩ | ⟨j, t, sz, -, -, -, -, k1, k2⟩
  · have k1' : n_X9_refusedRow s m 0 (q32 i) (q32 1) = some (q32 r') := k1
    rw [if_pos rfl] at k2
    rw [e] at k1'
    have : q32 r = q32 r' := Option.some.inj k1'
    by_cases c : r = r'
    · rw [c]; exact k2
    · rw [q32_eq_f (by omega)] at this; exact this.elim
  · have k1' : n_X9_refusedRow s m 0 (q32 i) (q32 1) = some (q32 0) := k1
    rw [if_pos rfl] at k2
    rw [e] at k1'
    have : q32 r = q32 0 := Option.some.inj k1'
    by_cases c : r = 0
    · rw [c]; exact k2
    · rw [q32_eq_f (by omega)] at this; exact this.elim
theorem TR.pt {s : List Sh} {m : Mem} {j t sz : Nat} {f : FR} (h : TR s m j t sz) : TR s (PT m 19 f) j t sz := by
  have h3 := h.2.2.1
  refine ⟨h.1, h.2.1, h.2.2.1, h.2.2.2.1, h.2.2.2.2.1, h.2.2.2.2.2.1, h.2.2.2.2.2.2.1, h.2.2.2.2.2.2.2.1, h.2.2.2.2.2.2.2.2.1, h.2.2.2.2.2.2.2.2.2.1, fun k hk => ?_⟩
  have := h.2.2.2.2.2.2.2.2.2.2 k hk
  unfold PT
  rw [wL_n (by omega), wL_n (by omega), wL_n (by omega), wL_n (by omega)]
  exact this
theorem opq_odds {F : Nat} (hF : 20000 ≤ F) {s : List Sh} {m : Mem} (h : INV s m) (w1 w2 w3 : Int32) : OPQ s m (nq_X9_odds F s m 0 w1 w2 w3) (n_X9_odds F s m 0 w1 w2 w3) (fun s1 m1 => n_X10_odds F s1 m1 23 w1 w2 w3) := by
  have h0 := h
  obtain ⟨hg, ow, nw, hst⟩ := h
  have hl := hst.1
  have hp := hl.hp
  have hr := hl.rf
  have hn := hl.hn
  have rn := hl.nw
  have r1 := rf23_1 hr
  have l24 := ln24 hp
  obtain ⟨i, hi, rfl⟩ := q32_of w1
  obtain ⟨u, hu, rfl⟩ := q32_of w2
  obtain ⟨l, hll, rfl⟩ := q32_of w3
  have r7 := rf0_7 hr
  have l13 := ln13 hp
  obtain ⟨tp', y1, y2, y3, y4, y5, y6, y7, bc, y8, y9, y10⟩ := hst.2.1.wa.at
  have g6 : m.1 nw 6 = q32 bc := by obtain ⟨tp, sk, nl, bc, fc, tc, au, aw, S, U, L, V, W, X, O, h1, ⟨a0, a1, a2, a4, a5, a6, a9, a15⟩, ⟨b0, b1, b2, b3, b4, b5, b6, b7, b8⟩, h4, ⟨s1, s2, s3, s4, s5, s6, s7⟩, h6, ⟨h7, h7b⟩, h8⟩ := hst.2.1; rw [a6, ← b2]; exact y9
  have tk : ∀ M, SC m M → TK m M := fun M e => ⟨fun k => e.i 50 k (by omega), fun k => e.i 51 k (by omega), fun k => by rw [e.2.2.1 52 (by unfold Fx; omega) (by omega)]⟩
  -- what the reference's asking leaves
  have asked10 : ∀ m1, SC m m1 → (∃ x m3, n_X10_asks s (wI m1 23 0 (q32 0)) 23 (q64 u) (q64 l) = some (x, m3) ∧ SC m m3) := fun m1 e => by
    rcases asks_g (F := F) (by omega) hst hu hll with ⟨m2, k1, k2, k3⟩ | ⟨f, k1, k2, k3⟩
    · obtain ⟨m3, k4, k5⟩ := k3 s hp (wI m1 23 0 (q32 0)) (hr.same e.r) (by simp (disch := omega) only [Option.bind_some, bindv, bindv0, bind2_s, bind3_s, ↓reduceIte, Bool.false_eq_true, rZM_0, rZM_1, rZP_0, rZP_1, ptZ_0, ptZ_1, c32i, c64i, ncI, Int.natCast_add, Int.natCast_mul, q32_neg, q64_neg, q32_add, q32_sub, q32_mul, q64_add, q64_sub, q64_mul, q32_64i, q64_32, q32_lt_t, q32_lt_f, q32_le_t, q32_le_f, q32_eq_t, q32_eq_f, q64_lt_t, q64_lt_f, q64_le_t, q64_le_f, q64_eq_t, q64_eq_f, rdI_i, rdL_i, rdR_i, rdN_i, stI_i, stL_i, stR_i, wI_s, wI_n, wL_s, wL_n, wI_2, wI_3, wL_1, wL_3, wR_1, wR_2, Int.toNat_natCast, tnO, tn_add, tn_sub, tn_mul, Nat.add_sub_cancel, Nat.add_zero, Nat.zero_add, lnO, win_t, win_f]; exact e.i _ _ (by omega))
      exact ⟨_, m3, k4, e.tr ((SC.k0 m1).tr k5)⟩
    · have k4 := k3 s hp (wI m1 23 0 (q32 0)) (hr.same e.r) (by simp (disch := omega) only [Option.bind_some, bindv, bindv0, bind2_s, bind3_s, ↓reduceIte, Bool.false_eq_true, rZM_0, rZM_1, rZP_0, rZP_1, ptZ_0, ptZ_1, c32i, c64i, ncI, Int.natCast_add, Int.natCast_mul, q32_neg, q64_neg, q32_add, q32_sub, q32_mul, q64_add, q64_sub, q64_mul, q32_64i, q64_32, q32_lt_t, q32_lt_f, q32_le_t, q32_le_f, q32_eq_t, q32_eq_f, q64_lt_t, q64_lt_f, q64_le_t, q64_le_f, q64_eq_t, q64_eq_f, rdI_i, rdL_i, rdR_i, rdN_i, stI_i, stL_i, stR_i, wI_s, wI_n, wL_s, wL_n, wI_2, wI_3, wL_1, wL_3, wR_1, wR_2, Int.toNat_natCast, tnO, tn_add, tn_sub, tn_mul, Nat.add_sub_cancel, Nat.add_zero, Nat.zero_add, lnO, win_t, win_f]; exact e.i _ _ (by omega))
      exact ⟨_, _, k4, e.tr ((SC.k0 m1).tr (SC.rf _).ps)⟩
  rcases row_cases hst (m' := m) ⟨fun k => rfl, fun k => rfl, fun k => rfl⟩ hr hi (l := 1) (Or.inl rfl) with ⟨r, b1, b2, b3, k1, -⟩ | ⟨j, t, sz, rfl, ht, b1, b2, k1, -⟩
  · have k1' : n_X9_refusedRow s m 0 (q32 i) (1 : Int32) = some (q32 r) := k1
    obtain ⟨x, m3, a1, a2⟩ := asked10 m (SC.rf m)
    have nr := nR_any hst (tk m3 a2) (hr.same a2.r) hi ⟨b1, b2⟩ k1
    have e1 : n_X9_odds F s m 0 (q32 i) (q32 u) (q32 l) = some (q64 r, s, m) := by
      unfold n_X9_odds nb_X9_odds_0
      rw [k1', Option.bind_some, if_neg (by rw [show (0 : Int32) = q32 0 from rfl, q32_eq_f (by omega)]; exact fun h => h), q32_64i (by omega)]
    have e0 : nq_X9_odds F s m 0 (q32 i) (q32 u) (q32 l) = some (q64 r, s, m) := by
      unfold nq_X9_odds nbq_X9_odds_0
      rw [k1', Option.bind_some, if_neg (by rw [show (0 : Int32) = q32 0 from rfl, q32_eq_f (by omega)]; exact fun h => h), q32_64i (by omega)]
    have no : ∀ x, n_X10_noOdds F s m3 23 (q32 i) x = some (q32 r, m3) := fun x => by
      unfold n_X10_noOdds nb_X10_noOdds_0
      rw [show (8 : Int32) = q32 8 from rfl, nr, Option.bind_some, if_neg (by rw [show (0 : Int32) = q32 0 from rfl, q32_eq_f (by omega)]; exact fun h => h)]
    have e2 : n_X10_odds F s m 23 (q32 i) (q32 u) (q32 l) = some (q64 r, m3) := by
      unfold n_X10_odds nb_X10_odds_0
      rw [bindv, bindv0, show (0 : Int32) = q32 0 from rfl, q32_64i hu, q32_64i hll, a1, bind2_s, no, bind2_s, if_neg (by rw [q32_eq_f (by omega)]; exact fun h => h), q32_64i (by omega)]
    exact opq_no h0 e0 e1 e2 (un_X10_odds (un_X9_odds hg (okB hp).1 e1).2.1 (okB hp).2 e2).2 a2
  · have k1' : n_X9_refusedRow s m 0 (q32 j) (1 : Int32) = some (q32 0) := k1
    have hj := ht.1
    rcases asks_g (F := F) (by omega) hst hu hll with ⟨m1, a1, a2, a3⟩ | ⟨f, a1, a2, a3⟩
    · obtain ⟨m3, a4, a5⟩ := a3 s hp (wI m1 23 0 (q32 0)) (hr.same a2.r) (by simp (disch := omega) only [Option.bind_some, bindv, bindv0, bind2_s, bind3_s, ↓reduceIte, Bool.false_eq_true, rZM_0, rZM_1, rZP_0, rZP_1, ptZ_0, ptZ_1, c32i, c64i, ncI, Int.natCast_add, Int.natCast_mul, q32_neg, q64_neg, q32_add, q32_sub, q32_mul, q64_add, q64_sub, q64_mul, q32_64i, q64_32, q32_lt_t, q32_lt_f, q32_le_t, q32_le_f, q32_eq_t, q32_eq_f, q64_lt_t, q64_lt_f, q64_le_t, q64_le_f, q64_eq_t, q64_eq_f, rdI_i, rdL_i, rdR_i, rdN_i, stI_i, stL_i, stR_i, wI_s, wI_n, wL_s, wL_n, wI_2, wI_3, wL_1, wL_3, wR_1, wR_2, Int.toNat_natCast, tnO, tn_add, tn_sub, tn_mul, Nat.add_sub_cancel, Nat.add_zero, Nat.zero_add, lnO, win_t, win_f]; exact a2.i _ _ (by omega))
      have sc3 : SC m m3 := a2.tr ((SC.k0 m1).tr a5)
      have nr := nR_any hst (tk m3 sc3) (hr.same sc3.r) hi (by omega) k1
      have e1 : n_X9_odds F s m 0 (q32 j) (q32 u) (q32 l) = some (q64 (-3), s, m1) := by
        unfold n_X9_odds nb_X9_odds_0
        rw [k1', Option.bind_some, if_pos (show q32 0 = (0 : Int32) from rfl), a1, bind2_s, if_pos (show q32 0 = (0 : Int32) from rfl)]
        rfl
      have e0 : nq_X9_odds F s m 0 (q32 j) (q32 u) (q32 l) = some (q64 (-3), s, m1) := by
        unfold nq_X9_odds nbq_X9_odds_0
        rw [k1', Option.bind_some, if_pos (show q32 0 = (0 : Int32) from rfl), a1, bind2_s, if_pos (show q32 0 = (0 : Int32) from rfl)]
        rfl
      have no : n_X10_noOdds F s m3 23 (q32 j) (q32 0) = some (q32 (-3), m3) := by
        unfold n_X10_noOdds nb_X10_noOdds_0
        rw [show (8 : Int32) = q32 8 from rfl, nr, Option.bind_some, if_pos (show q32 0 = (0 : Int32) from rfl), if_pos (show q32 0 = (0 : Int32) from rfl)]
        rfl
      have e2 : n_X10_odds F s m1 23 (q32 j) (q32 u) (q32 l) = some (q64 (-3), m3) := by
        unfold n_X10_odds nb_X10_odds_0
        rw [bindv, bindv0, show (0 : Int32) = q32 0 from rfl, q32_64i hu, q32_64i hll, a4, bind2_s, no, bind2_s, if_neg (by rw [q32_eq_f (by omega)]; exact fun h => h), q32_64i (by omega)]
      exact opq_no h0 e0 e1 e2 (un_X10_odds (un_X9_odds hg (okB hp).1 e1).2.1 (okB hp).2 e2).2 sc3
    · have hsc : SC m (PT m 19 f) := (SC.rf m).pt (by omega)
      have hst' := hst.sc hsc
      have tr' : TR s (PT m 19 f) j t sz := ht.pt
      have p52 : ∀ k, (PT m 19 f).2.1 52 k = m.2.1 52 k := fun k => by unfold PT; rw [wL_n (by omega), wL_n (by omega)]
      have r7' : (PT m 19 f).2.2 0 7 = some 13 := r7
      have rR : rdR s (PT m 19 f) 13 (q32 j) = some t := by rw [rdR_q (by omega) (by omega)]; exact ht.2.1
      have alo := aloL9 (F := F) (s := s) (m := PT m 19 f) (nw := nw) rn g6 y8 tr' b2 sz 0 F (by omega) (by omega)
      by_cases hB : BAL (fun k => ((PT m 19 f).2.1 52 (40 * j + k)).toInt) bc 0 sz
      · have al' : n_X9_hasButtonsAlone F s (PT m 19 f) 0 t = some (q32 1) := alo.1 hB
        obtain ⟨s', m', ow', q, m1, B, R1, R2, C, c1, c2, c3, c4, c5, c6, c7, c8, c9, c10, c11, c12, c13, c14, c15, c16, c17, c18⟩ := chances hF hst' tr' b2 y9 y8 hB
        have e24' : (PT m 19 f).1 24 = m.1 24 := rfl
        rw [e24'] at c5 c7
        have hp' := c5.1.1.hp
        have q4 := c5.qb.2.2.2.1
        have e24 : m1.1 24 = m.1 24 := c5.2.2.2.1
        have r12 := rf0_12 c5.1.1.rf
        have a19 : m1.2.1 19 0 = q64 f.1 := by rw [c15]; exact PT_0 _ _ _
        have b19 : m1.2.1 19 1 = q64 f.2 := by rw [c15]; exact PT_l _ _ _
        have wo := wof9 hF c5.qb c6 c8 c7 c9.1 c12 a1
        have e1 : n_X9_odds F s m 0 (q32 j) (q32 u) (q32 l) = some (q64 (wt R1 f : Nat), s', m1) := by
          unfold n_X9_odds nb_X9_odds_0
          rw [k1', Option.bind_some, if_pos (show q32 0 = (0 : Int32) from rfl), a2, bind2_s, if_neg (by decide), r7', Option.bind_some, rR, Option.bind_some, al', Option.bind_some, if_neg (by decide), c1, bind3_s, c2, Option.bind_some, c3, Option.bind_some, c4, bind2_s, q4, Option.bind_some, r12, Option.bind_some, Option.bind_some, a19, b19, q64_32, q64_32, wo, Option.bind_some]
        have a4 := a3 s' hp' (wI m1 23 0 (q32 0)) (c5.1.1.rf.same rfl) (by simp (disch := omega) only [Option.bind_some, bindv, bindv0, bind2_s, bind3_s, ↓reduceIte, Bool.false_eq_true, rZM_0, rZM_1, rZP_0, rZP_1, ptZ_0, ptZ_1, c32i, c64i, ncI, Int.natCast_add, Int.natCast_mul, q32_neg, q64_neg, q32_add, q32_sub, q32_mul, q64_add, q64_sub, q64_mul, q32_64i, q64_32, q32_lt_t, q32_lt_f, q32_le_t, q32_le_f, q32_eq_t, q32_eq_f, q64_lt_t, q64_lt_f, q64_le_t, q64_le_f, q64_eq_t, q64_eq_f, rdI_i, rdL_i, rdR_i, rdN_i, stI_i, stL_i, stR_i, wI_s, wI_n, wL_s, wL_n, wI_2, wI_3, wL_1, wL_3, wR_1, wR_2, Int.toNat_natCast, tnO, tn_add, tn_sub, tn_mul, Nat.add_sub_cancel, Nat.add_zero, Nat.zero_add, lnO, win_t, win_f]; rw [e24])
        have rdM : RD (PS (wI m1 23 0 (q32 0)) f) (m.1 24) := ⟨c5.1.1.rf.same rfl, fun k _ => by rw [PS_1, wI_n (by omega), e24]⟩
        have ps52 : ∀ k, (PS (wI m1 23 0 (q32 0)) f).2.1 52 k = m1.2.1 52 k := fun k => by unfold PS; rw [wL_n (by omega), wL_n (by omega)]; rfl
        obtain ⟨M2, f1, f2, f3, f4, f5⟩ := c18 (PS (wI m1 23 0 (q32 0)) f) rdM (by rw [PS_1, wI_n (by omega), (c16 j).2]; exact ht.2.2.2.2.2.2.2.2.1) (fun k => by rw [ps52]; exact c17 k)
        have hM : TK (PT m 19 f) (PS (wI m1 23 0 (q32 0)) f) := ⟨fun k => by rw [PS_1, wI_n (by omega)]; exact (c16 k).1, fun k => by rw [PS_1, wI_n (by omega)]; exact (c16 k).2, fun k => by rw [ps52]; exact c17 k⟩
        have nr0 : n_X10_noRow s (PS (wI m1 23 0 (q32 0)) f) 23 (q32 j) (q32 8) = some (q32 0) := nR_any (M := PS (wI m1 23 0 (q32 0)) f) hst ⟨fun k => by rw [hM.1 k]; rfl, fun k => by rw [hM.2.1 k]; rfl, fun k => by rw [hM.2.2 k, p52]⟩ (c5.1.1.rf.same rfl) hi (by omega) k1
        have nr := nR_ok (s1 := s') hst' c13 hM (c5.1.1.rf.same rfl) hi nr0
        have no := noO_ok nr f1
        have fn := fnd10 (F := F) hp' (M2 |> fun _ => (rdM.sc f2.sc).1) f3 f4 (by omega) a1 R2 0 F (by omega) (by omega) (fun j _ => by rw [Nat.zero_add])
        rw [← c11 f] at fn
        have fn' : nl_X10_odds_48 F s' F M2 23 (q64 f.1) (q64 f.2) (q32 0) = some (q64 (wt R1 f : Nat), M2) := fn
        have e2 : n_X10_odds F s' m1 23 (q32 j) (q32 u) (q32 l) = some (q64 (wt R1 f : Nat), M2) := by
          unfold n_X10_odds nb_X10_odds_0
          rw [bindv, bindv0, show (0 : Int32) = q32 0 from rfl, q32_64i hu, q32_64i hll, a4, bind2_s, no, bind2_s, if_pos rfl, PS_0, PS_l]
          exact fn'
        obtain ⟨-, g1, g2⟩ := un_X9_odds hg (okB hp).1 e1
        refine opq_fin (q := q) c13 e1 e2 (un_X10_odds g1 (okB hp').2 e2).2 c5.1 ((SC.k0 m1).tr (((SC.rf _).ps).tr f2.sc)) c5.2.1 ?_
        rcases c14 with c7 | ⟨c7, c7'⟩
        · exact Or.inl c7
        · refine Or.inr ⟨c7, ?_⟩
          unfold nq_X9_odds nbq_X9_odds_0 n_X9_odds nb_X9_odds_0
          rw [k1', Option.bind_some, Option.bind_some, if_pos (show q32 0 = (0 : Int32) from rfl), if_pos (show q32 0 = (0 : Int32) from rfl), a2, bind2_s, bind2_s, c7']
      · have al' : n_X9_hasButtonsAlone F s (PT m 19 f) 0 t = some (q32 0) := alo.2 hB
        have a4 := a3 s hp (wI (PT m 19 f) 23 0 (q32 0)) (hr.same rfl) (by simp (disch := omega) only [Option.bind_some, bindv, bindv0, bind2_s, bind3_s, ↓reduceIte, Bool.false_eq_true, rZM_0, rZM_1, rZP_0, rZP_1, ptZ_0, ptZ_1, c32i, c64i, ncI, Int.natCast_add, Int.natCast_mul, q32_neg, q64_neg, q32_add, q32_sub, q32_mul, q64_add, q64_sub, q64_mul, q32_64i, q64_32, q32_lt_t, q32_lt_f, q32_le_t, q32_le_f, q32_eq_t, q32_eq_f, q64_lt_t, q64_lt_f, q64_le_t, q64_le_f, q64_eq_t, q64_eq_f, rdI_i, rdL_i, rdR_i, rdN_i, stI_i, stL_i, stR_i, wI_s, wI_n, wL_s, wL_n, wI_2, wI_3, wL_1, wL_3, wR_1, wR_2, Int.toNat_natCast, tnO, tn_add, tn_sub, tn_mul, Nat.add_sub_cancel, Nat.add_zero, Nat.zero_add, lnO, win_t, win_f]; rfl)
        have sc3 : SC m (PS (wI (PT m 19 f) 23 0 (q32 0)) f) := hsc.tr ((SC.k0 _).tr (SC.rf _).ps)
        have nr := nR_any hst (tk _ sc3) (hr.same rfl) hi (by omega) k1
        have rdM : RD (PS (wI (PT m 19 f) 23 0 (q32 0)) f) (m.1 24) := ⟨hr.same rfl, fun k _ => by rw [PS_1, wI_n (by omega)]; rfl⟩
        have ps52 : ∀ k, (PS (wI (PT m 19 f) 23 0 (q32 0)) f).2.1 52 k = (PT m 19 f).2.1 52 k := fun k => by unfold PS; rw [wL_n (by omega), wL_n (by omega)]; rfl
        have nl := noN10 (F := F) (s := s) hp rdM y9 y8 hj b2 (by rw [PS_1, wI_n (by omega)]; exact ht.2.2.2.2.2.2.2.2.1) sz 0 F (by omega) (by omega) (fun hb => hB (fun i h1 h2 => by have := hb i h1 h2; dsimp only at this ⊢; rw [ps52] at this; exact this))
        have no := noO_ok nr nl
        have e1 : n_X9_odds F s m 0 (q32 j) (q32 u) (q32 l) = some (q64 (-3), s, PT m 19 f) := by
          unfold n_X9_odds nb_X9_odds_0
          rw [k1', Option.bind_some, if_pos (show q32 0 = (0 : Int32) from rfl), a2, bind2_s, if_neg (by decide), r7', Option.bind_some, rR, Option.bind_some, al', Option.bind_some, if_pos (show q32 0 = (0 : Int32) from rfl)]
          rfl
        have e0 : nq_X9_odds F s m 0 (q32 j) (q32 u) (q32 l) = some (q64 (-3), s, PT m 19 f) := by
          unfold nq_X9_odds nbq_X9_odds_0
          rw [k1', Option.bind_some, if_pos (show q32 0 = (0 : Int32) from rfl), a2, bind2_s, if_neg (by decide), r7', Option.bind_some, rR, Option.bind_some, al', Option.bind_some, if_pos (show q32 0 = (0 : Int32) from rfl)]
          rfl
        have e2 : n_X10_odds F s (PT m 19 f) 23 (q32 j) (q32 u) (q32 l) = some (q64 (-3), PS (wI (PT m 19 f) 23 0 (q32 0)) f) := by
          unfold n_X10_odds nb_X10_odds_0
          rw [bindv, bindv0, show (0 : Int32) = q32 0 from rfl, q32_64i hu, q32_64i hll, a4, bind2_s, no, bind2_s, if_neg (by rw [q32_eq_f (by omega)]; exact fun h => h), q32_64i (by omega)]
        exact opq_no h0 e0 e1 e2 (un_X10_odds (un_X9_odds hg (okB hp).1 e1).2.1 (okB hp).2 e2).2 sc3
