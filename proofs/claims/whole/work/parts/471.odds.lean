theorem noN10 {F : Nat} {s : List Sh} (hp : ∃ t, s = sB ++ t) {m : Mem} {al : Nat → Int32} (hr : RD m al) {bc : Nat} (h2 : al 2 = q32 bc) (hbc : bc ≤ 6) {j sz : Nat} (hj : j < 4) (hsz : sz ≤ 8) (h51 : m.1 51 j = q32 sz) : ∀ n k fuel, k + n = sz → n < fuel → ¬ BAL (fun k => (m.2.1 52 (40 * j + k)).toInt) bc k n → nl_X10_noOdds_24 F s fuel m 23 (q32 j) (q32 (k : Nat)) = some (q32 (-3), m) := by
  have l51 := ln51 hp
  have r53 := rf23_53 hr.1
  have hA : A al 2 = bc := A_q h2 (by unfold B31; omega)
  intro n
  induction n with
  | zero =>
    intro k fuel hk hfu
    obtain ⟨fuel, rfl⟩ : ∃ f, fuel = f + 1 := ⟨fuel - 1, by omega⟩
    have hk' : k = sz := by omega
    subst hk'
    exact fun h => absurd (fun i h1 h2 => by omega) h
  | succ n ih =>
    intro k fuel hk hfu
    obtain ⟨fuel, rfl⟩ : ∃ f, fuel = f + 1 := ⟨fuel - 1, by omega⟩
    have ih := ih (k + 1) fuel (by omega) (by omega)
    rw [Int.natCast_add] at ih
    have td := told10 (s := s) (m := m) hp hr.1 hbc h2 hr.2 (j := j) (k := k) hj (by omega)
    rw [BAL_s]
    show _ → nb_X10_noOdds_24 F s (nl_X10_noOdds_24 F s fuel) m 23 _ _ = _
    by_cases c : 0 ≤ (m.2.1 52 (40 * j + k)).toInt ∧ (m.2.1 52 (40 * j + k)).toInt < bc
    · rw [btA_in hA c] at td
      have go : nb_X10_noOdds_24 F s (nl_X10_noOdds_24 F s fuel) m 23 (q32 j) (q32 (k : Int)) = nl_X10_noOdds_24 F s fuel m 23 (q32 j) (q32 ((k : Int) + 1)) := by
        unfold nb_X10_noOdds_24
        generalize (m.2.1 52 (40 * j + k)).toInt = v at *
        simp (disch := omega) only [Option.bind_some, bindv, bindv0, bind2_s, bind3_s, ↓reduceIte, Bool.false_eq_true, rZM_0, rZM_1, rZP_0, rZP_1, ptZ_0, ptZ_1, c32i, c64i, ncI, Int.natCast_add, Int.natCast_mul, q32_neg, q64_neg, q32_add, q32_sub, q32_mul, q64_add, q64_sub, q64_mul, q32_64i, q64_32, q32_lt_t, q32_lt_f, q32_le_t, q32_le_f, q32_eq_t, q32_eq_f, q64_lt_t, q64_lt_f, q64_le_t, q64_le_f, q64_eq_t, q64_eq_f, rdI_i, rdL_i, rdR_i, rdN_i, stI_i, stL_i, stR_i, wI_s, wI_n, wL_s, wL_n, wI_2, wI_3, wL_1, wL_3, wR_1, wR_2, Int.toNat_natCast, tnO, tn_add, tn_sub, tn_mul, Nat.add_sub_cancel, Nat.add_zero, Nat.zero_add, lnO, win_t, win_f, r53, h51, td]
      rw [go]
      exact fun h => ih (fun hb' => h ⟨c, hb'⟩)
    · rw [btA_out hA c] at td
      intro _
      unfold nb_X10_noOdds_24
      simp (disch := omega) only [Option.bind_some, bindv, bindv0, bind2_s, bind3_s, ↓reduceIte, Bool.false_eq_true, rZM_0, rZM_1, rZP_0, rZP_1, ptZ_0, ptZ_1, c32i, c64i, ncI, Int.natCast_add, Int.natCast_mul, q32_neg, q64_neg, q32_add, q32_sub, q32_mul, q64_add, q64_sub, q64_mul, q32_64i, q64_32, q32_lt_t, q32_lt_f, q32_le_t, q32_le_f, q32_eq_t, q32_eq_f, q64_lt_t, q64_lt_f, q64_le_t, q64_le_f, q64_eq_t, q64_eq_f, rdI_i, rdL_i, rdR_i, rdN_i, stI_i, stL_i, stR_i, wI_s, wI_n, wL_s, wL_n, wI_2, wI_3, wL_1, wL_3, wR_1, wR_2, Int.toNat_natCast, tnO, tn_add, tn_sub, tn_mul, Nat.add_sub_cancel, Nat.add_zero, Nat.zero_add, lnO, win_t, win_f, r53, h51, td]
theorem noO_ok {F : Nat} {s1 : List Sh} {M : Mem} {j : Nat} {r : Option (Int32 × Mem)} (hn : n_X10_noRow s1 M 23 (q32 j) (q32 8) = some (q32 0)) (hl : nl_X10_noOdds_24 F s1 F M 23 (q32 j) (q32 0) = r) : n_X10_noOdds F s1 M 23 (q32 j) (q32 1) = r := by
  unfold n_X10_noOdds nb_X10_noOdds_0
  rw [show (8 : Int32) = q32 8 from rfl, hn, Option.bind_some, if_pos (show q32 0 = (0 : Int32) from rfl), if_neg (by decide)]
  exact hl
theorem nR_ok {s s1 : List Sh} {m M : Mem} {ow : Nat → Nat} {nw : Nat} (h : ST s m ow nw) (hp1 : ∃ t, s1 = s ++ t) (hk : TK m M) (hr : RF M) {i : Int} (hi : B31 i) (e : n_X10_noRow s M 23 (q32 i) (q32 8) = some (q32 0)) : n_X10_noRow s1 M 23 (q32 i) (q32 8) = some (q32 0) := by
  have hp := h.1.hp
  obtain ⟨t0, ht0⟩ := hp
  obtain ⟨t1, ht1⟩ := hp1
  have hp' : ∃ t, s1 = sB ++ t := ⟨t0 ++ t1, by rw [ht1, ht0, List.append_assoc]⟩
  have l50 := ln50 ⟨t0, ht0⟩
  have l51 := ln51 ⟨t0, ht0⟩
  have l50' := ln50 hp'
  have l51' := ln51 hp'
  have a50 : ∀ v, rdI s1 M 50 v = rdI s M 50 v := fun v => by unfold rdI; rw [l50, l50']
  have a51 : ∀ v, rdI s1 M 51 v = rdI s M 51 v := fun v => by unfold rdI; rw [l51, l51']
  have r52 := rf23_52 hr
  have r53 := rf23_53 hr
  rw [← e]
  unfold n_X10_noRow nb_X10_noRow_0
  rw [r52, r53]
  simp only [Option.bind_some, a50, a51]
  rfl
theorem opq_ends {F : Nat} (hF : 20000 ≤ F) {s : List Sh} {m : Mem} (h : INV s m) (w1 : Int32) : OPQ s m (nq_X9_ends F s m 0 w1) (n_X9_ends F s m 0 w1) (fun s1 m1 => n_X10_ends F s1 m1 23 w1) := by
  have h0 := h
  obtain ⟨hg, ow, nw, hst⟩ := h
  have hl := hst.1
  have hp := hl.hp
  have hr := hl.rf
  have hn := hl.hn
  have rn := hl.nw
  have r1 := rf23_1 hr
  have l24 := ln24 hp
  obtain ⟨i, hi, rfl⟩ := q32_of w1
  have r7 := rf0_7 hr
  have l13 := ln13 hp
  obtain ⟨tp', y1, y2, y3, y4, y5, y6, y7, bc, y8, y9, y10⟩ := hst.2.1.wa.at
  have g6 : m.1 nw 6 = q32 bc := by obtain ⟨tp, sk, nl, bc, fc, tc, au, aw, S, U, L, V, W, X, O, h1, ⟨a0, a1, a2, a4, a5, a6, a9, a15⟩, ⟨b0, b1, b2, b3, b4, b5, b6, b7, b8⟩, h4, ⟨s1, s2, s3, s4, s5, s6, s7⟩, h6, ⟨h7, h7b⟩, h8⟩ := hst.2.1; rw [a6, ← b2]; exact y9
  have hrM : RF (wI m 23 0 (q32 0)) := hr.same rfl
  rcases row_cases hst (m' := wI m 23 0 (q32 0)) ⟨fun k => by simp (disch := omega) only [Option.bind_some, bindv, bindv0, bind2_s, bind3_s, ↓reduceIte, Bool.false_eq_true, rZM_0, rZM_1, rZP_0, rZP_1, ptZ_0, ptZ_1, c32i, c64i, ncI, Int.natCast_add, Int.natCast_mul, q32_neg, q64_neg, q32_add, q32_sub, q32_mul, q64_add, q64_sub, q64_mul, q32_64i, q64_32, q32_lt_t, q32_lt_f, q32_le_t, q32_le_f, q32_eq_t, q32_eq_f, q64_lt_t, q64_lt_f, q64_le_t, q64_le_f, q64_eq_t, q64_eq_f, rdI_i, rdL_i, rdR_i, rdN_i, stI_i, stL_i, stR_i, wI_s, wI_n, wL_s, wL_n, wI_2, wI_3, wL_1, wL_3, wR_1, wR_2, Int.toNat_natCast, tnO, tn_add, tn_sub, tn_mul, Nat.add_sub_cancel, Nat.add_zero, Nat.zero_add, lnO, win_t, win_f], fun k => by simp (disch := omega) only [Option.bind_some, bindv, bindv0, bind2_s, bind3_s, ↓reduceIte, Bool.false_eq_true, rZM_0, rZM_1, rZP_0, rZP_1, ptZ_0, ptZ_1, c32i, c64i, ncI, Int.natCast_add, Int.natCast_mul, q32_neg, q64_neg, q32_add, q32_sub, q32_mul, q64_add, q64_sub, q64_mul, q32_64i, q64_32, q32_lt_t, q32_lt_f, q32_le_t, q32_le_f, q32_eq_t, q32_eq_f, q64_lt_t, q64_lt_f, q64_le_t, q64_le_f, q64_eq_t, q64_eq_f, rdI_i, rdL_i, rdR_i, rdN_i, stI_i, stL_i, stR_i, wI_s, wI_n, wL_s, wL_n, wI_2, wI_3, wL_1, wL_3, wR_1, wR_2, Int.toNat_natCast, tnO, tn_add, tn_sub, tn_mul, Nat.add_sub_cancel, Nat.add_zero, Nat.zero_add, lnO, win_t, win_f], fun k => rfl⟩ hrM hi (l := 1) (Or.inl rfl) with ⟨r, b1, b2, b3, k1, k2⟩ | ⟨j, t, sz, rfl, ht, b1, b2, k1, k2⟩
  · rw [if_pos rfl] at k2
    have k1' : n_X9_refusedRow s m 0 (q32 i) (1 : Int32) = some (q32 r) := k1
    have k2' : n_X10_noRow s (wI m 23 0 (q32 0)) 23 (q32 i) (8 : Int32) = some (q32 r) := k2
    have e1 : n_X9_ends F s m 0 (q32 i) = some (q32 r, s, m) := by
      unfold n_X9_ends nb_X9_ends_0
      rw [k1', Option.bind_some, if_neg (by rw [show (0 : Int32) = q32 0 from rfl, q32_eq_f (by omega)]; exact fun h => h)]
    have e0 : nq_X9_ends F s m 0 (q32 i) = some (q32 r, s, m) := by
      unfold nq_X9_ends nbq_X9_ends_0
      rw [k1', Option.bind_some, if_neg (by rw [show (0 : Int32) = q32 0 from rfl, q32_eq_f (by omega)]; exact fun h => h)]
    have e2 : n_X10_ends F s m 23 (q32 i) = some (q32 r, wI m 23 0 (q32 0)) := by
      unfold n_X10_ends nb_X10_ends_0 n_X10_noOdds nb_X10_noOdds_0
      rw [bindv, bindv0, show (0 : Int32) = q32 0 from rfl, k2', Option.bind_some, if_neg (by rw [q32_eq_f (by omega)]; exact fun h => h), bind2_s, if_neg (by rw [q32_eq_f (by omega)]; exact fun h => h)]
    exact opq_no h0 e0 e1 e2 (un_X10_ends (un_X9_ends hg (okB hp).1 e1).2.1 (okB hp).2 e2).2 (SC.k0 m)
  · rw [if_pos rfl] at k2
    have k1' : n_X9_refusedRow s m 0 (q32 j) (1 : Int32) = some (q32 0) := k1
    have hj := ht.1
    have rR : rdR s m 13 (q32 j) = some t := by rw [rdR_q (by omega) (by omega)]; exact ht.2.1
    have al := aloL9 (F := F) (s := s) rn g6 y8 ht b2 sz 0 F (by omega) (by omega)
    have rdm : RD (wI m 23 0 (q32 0)) (m.1 24) := ⟨hrM, fun k _ => by rw [wI_n (by omega)]⟩
    by_cases hB : BAL (fun k => (m.2.1 52 (40 * j + k)).toInt) bc 0 sz
    · have al' : n_X9_hasButtonsAlone F s m 0 t = some (q32 1) := al.1 hB
      obtain ⟨s', m', ow', q, m1, B, R1, R2, C, c1, c2, c3, c4, c5, c6, c7, c8, c9, c10, c11, c12, c13, c14, c15, c16, c17, c18⟩ := chances hF hst ht b2 y9 y8 hB
      have hp' := c5.1.1.hp
      have sz' := c6.2.1
      have q4 := c5.qb.2.2.2.1
      have e24 : m1.1 24 = m.1 24 := c5.2.2.2.1
      have hml : (R1.map Prod.fst).length = R1.length := List.length_map _
      have hl' : (B ++ R1.map Prod.fst).length = B.length + (R1.map Prod.fst).length := List.length_append
      obtain ⟨M2, f1, f2, f3, f4, f5⟩ := c18 (wI m1 23 0 (q32 0)) ⟨c5.1.1.rf.same rfl, fun k _ => by rw [wI_n (by omega), e24]⟩ (by rw [wI_n (by omega), (c16 j).2]; exact ht.2.2.2.2.2.2.2.2.1) c17
      have hlen : R1.length = R2.length := c9.len c10 c11
      have e1 : n_X9_ends F s m 0 (q32 j) = some (q32 R1.length, s', m1) := by
        unfold n_X9_ends nb_X9_ends_0
        rw [k1', Option.bind_some, if_pos (show q32 0 = (0 : Int32) from rfl)]
        simp (disch := omega) only [Option.bind_some, bindv, bindv0, bind2_s, bind3_s, ↓reduceIte, Bool.false_eq_true, rZM_0, rZM_1, rZP_0, rZP_1, ptZ_0, ptZ_1, c32i, c64i, ncI, Int.natCast_add, Int.natCast_mul, q32_neg, q64_neg, q32_add, q32_sub, q32_mul, q64_add, q64_sub, q64_mul, q32_64i, q64_32, q32_lt_t, q32_lt_f, q32_le_t, q32_le_f, q32_eq_t, q32_eq_f, q64_lt_t, q64_lt_f, q64_le_t, q64_le_f, q64_eq_t, q64_eq_f, rdI_i, rdL_i, rdR_i, rdN_i, stI_i, stL_i, stR_i, wI_s, wI_n, wL_s, wL_n, wI_2, wI_3, wL_1, wL_3, wR_1, wR_2, Int.toNat_natCast, tnO, tn_add, tn_sub, tn_mul, Nat.add_sub_cancel, Nat.add_zero, Nat.zero_add, lnO, win_t, win_f, r7, rR, al', c1, c2, c3, c4, q4, sz']
        rw [show ((B ++ R1.map Prod.fst).length : Int) - B.length = R1.length by omega]
      have hM : TK m (wI m1 23 0 (q32 0)) := ⟨fun k => by rw [wI_n (by omega)]; exact (c16 k).1, fun k => by rw [wI_n (by omega)]; exact (c16 k).2, fun k => c17 k⟩
      have o51 := f3.1
      have nr := nR_ok (s1 := s') (M := wI m1 23 0 (q32 0)) hst c13 hM (c5.1.1.rf.same rfl) (i := (j : Int)) (by omega) (by
        rcases row_cases hst hM (c5.1.1.rf.same rfl) (i := (j : Int)) (by omega) (l := 1) (Or.inl rfl) with ⟨r, z1, z2, z3, z4, z5⟩ | ⟨j', t', sz', z0, z1, z2, z3, z4, z5⟩
        · rw [k1] at z4
          have : q32 (0 : Int) = q32 r := Option.some.inj z4
          rw [q32_eq_f (by omega)] at this
          exact this.elim
        · rw [if_pos rfl] at z5
          exact z5)
      have e2 : n_X10_ends F s' m1 23 (q32 j) = some (q32 R1.length, M2) := by
        have no := noO_ok nr f1
        rw [hlen]
        unfold n_X10_ends nb_X10_ends_0
        simp (disch := omega) only [Option.bind_some, bindv, bindv0, bind2_s, bind3_s, ↓reduceIte, Bool.false_eq_true, rZM_0, rZM_1, rZP_0, rZP_1, ptZ_0, ptZ_1, c32i, c64i, ncI, Int.natCast_add, Int.natCast_mul, q32_neg, q64_neg, q32_add, q32_sub, q32_mul, q64_add, q64_sub, q64_mul, q32_64i, q64_32, q32_lt_t, q32_lt_f, q32_le_t, q32_le_f, q32_eq_t, q32_eq_f, q64_lt_t, q64_lt_f, q64_le_t, q64_le_f, q64_eq_t, q64_eq_f, rdI_i, rdL_i, rdR_i, rdN_i, stI_i, stL_i, stR_i, wI_s, wI_n, wL_s, wL_n, wI_2, wI_3, wL_1, wL_3, wR_1, wR_2, Int.toNat_natCast, tnO, tn_add, tn_sub, tn_mul, Nat.add_sub_cancel, Nat.add_zero, Nat.zero_add, lnO, win_t, win_f, no, o51]
      obtain ⟨-, g1, g2⟩ := un_X9_ends hg (okB hp).1 e1
      refine opq_fin (q := q) c13 e1 e2 (un_X10_ends g1 (okB hp').2 e2).2 c5.1 ((SC.k0 m1).tr f2.sc) c5.2.1 ?_
      · rcases c14 with c7 | ⟨c7, c7'⟩
        · exact Or.inl c7
        · refine Or.inr ⟨c7, ?_⟩
          unfold nq_X9_ends nbq_X9_ends_0 n_X9_ends nb_X9_ends_0
          rw [c7']
    · have al' : n_X9_hasButtonsAlone F s m 0 t = some (q32 0) := al.2 hB
      have nl := noN10 (F := F) (s := s) hp rdm y9 y8 hj b2 (by rw [wI_n (by omega)]; exact ht.2.2.2.2.2.2.2.2.1) sz 0 F (by omega) (by omega) hB
      have e1 : n_X9_ends F s m 0 (q32 j) = some (q32 (-3), s, m) := by
        unfold n_X9_ends nb_X9_ends_0
        rw [k1', Option.bind_some, if_pos (show q32 0 = (0 : Int32) from rfl)]
        simp (disch := omega) only [Option.bind_some, bindv, bindv0, bind2_s, bind3_s, ↓reduceIte, Bool.false_eq_true, rZM_0, rZM_1, rZP_0, rZP_1, ptZ_0, ptZ_1, c32i, c64i, ncI, Int.natCast_add, Int.natCast_mul, q32_neg, q64_neg, q32_add, q32_sub, q32_mul, q64_add, q64_sub, q64_mul, q32_64i, q64_32, q32_lt_t, q32_lt_f, q32_le_t, q32_le_f, q32_eq_t, q32_eq_f, q64_lt_t, q64_lt_f, q64_le_t, q64_le_f, q64_eq_t, q64_eq_f, rdI_i, rdL_i, rdR_i, rdN_i, stI_i, stL_i, stR_i, wI_s, wI_n, wL_s, wL_n, wI_2, wI_3, wL_1, wL_3, wR_1, wR_2, Int.toNat_natCast, tnO, tn_add, tn_sub, tn_mul, Nat.add_sub_cancel, Nat.add_zero, Nat.zero_add, lnO, win_t, win_f, r7, rR, al']
      have e0 : nq_X9_ends F s m 0 (q32 j) = some (q32 (-3), s, m) := by
        unfold nq_X9_ends nbq_X9_ends_0
        rw [k1', Option.bind_some, if_pos (show q32 0 = (0 : Int32) from rfl)]
        simp (disch := omega) only [Option.bind_some, bindv, bindv0, bind2_s, bind3_s, ↓reduceIte, Bool.false_eq_true, rZM_0, rZM_1, rZP_0, rZP_1, ptZ_0, ptZ_1, c32i, c64i, ncI, Int.natCast_add, Int.natCast_mul, q32_neg, q64_neg, q32_add, q32_sub, q32_mul, q64_add, q64_sub, q64_mul, q32_64i, q64_32, q32_lt_t, q32_lt_f, q32_le_t, q32_le_f, q32_eq_t, q32_eq_f, q64_lt_t, q64_lt_f, q64_le_t, q64_le_f, q64_eq_t, q64_eq_f, rdI_i, rdL_i, rdR_i, rdN_i, stI_i, stL_i, stR_i, wI_s, wI_n, wL_s, wL_n, wI_2, wI_3, wL_1, wL_3, wR_1, wR_2, Int.toNat_natCast, tnO, tn_add, tn_sub, tn_mul, Nat.add_sub_cancel, Nat.add_zero, Nat.zero_add, lnO, win_t, win_f, r7, rR, al']
      have e2 : n_X10_ends F s m 23 (q32 j) = some (q32 (-3), wI m 23 0 (q32 0)) := by
        have no := noO_ok k2 nl
        unfold n_X10_ends nb_X10_ends_0
        simp (disch := omega) only [Option.bind_some, bindv, bindv0, bind2_s, bind3_s, ↓reduceIte, Bool.false_eq_true, rZM_0, rZM_1, rZP_0, rZP_1, ptZ_0, ptZ_1, c32i, c64i, ncI, Int.natCast_add, Int.natCast_mul, q32_neg, q64_neg, q32_add, q32_sub, q32_mul, q64_add, q64_sub, q64_mul, q32_64i, q64_32, q32_lt_t, q32_lt_f, q32_le_t, q32_le_f, q32_eq_t, q32_eq_f, q64_lt_t, q64_lt_f, q64_le_t, q64_le_f, q64_eq_t, q64_eq_f, rdI_i, rdL_i, rdR_i, rdN_i, stI_i, stL_i, stR_i, wI_s, wI_n, wL_s, wL_n, wI_2, wI_3, wL_1, wL_3, wR_1, wR_2, Int.toNat_natCast, tnO, tn_add, tn_sub, tn_mul, Nat.add_sub_cancel, Nat.add_zero, Nat.zero_add, lnO, win_t, win_f, no]
      exact opq_no h0 e0 e1 e2 (un_X10_ends (un_X9_ends hg (okB hp).1 e1).2.1 (okB hp).2 e2).2 (SC.k0 m)
