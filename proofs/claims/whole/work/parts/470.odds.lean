theorem chances {F : Nat} (hF : 20000 ≤ F) {s : List Sh} {m : Mem} {ow : Nat → Nat} {nw : Nat} (hst : ST s m ow nw) {j t sz bc : Nat} (ht : TR s m j t sz) (hsz : sz ≤ 8) (hb2 : m.1 24 2 = q32 bc) (hbc : bc ≤ 6) (hB : BAL (fun k => (m.2.1 52 (40 * j + k)).toInt) bc 0 sz) : ∃ (s' : List Sh) (m' : Mem) (ow' : Nat → Nat) (q : Nat) (m1 : Mem) (B : List FR) (R1 R2 : RPL) (C : Nat → Int), n_X9_routesFromHere F s m 0 = some (q, s', m') ∧ m'.2.2 0 7 = some 13 ∧ rdR s' m' 13 (q32 j) = some t ∧ n_X5_layChances F s' m' q t = some (q32 B.length, m1) ∧ RC s' m1 ow' nw q (m.1 24) bc ∧ LG m1 q (B ++ R1.map Prod.fst) C ∧ FLS (A (m.1 24) 1) (B ++ R1.map Prod.fst) ∧ (∀ i, i < R1.length → m1.2.1 (q + 7) (B.length + i) = q64 ((gp R1 i).2 : Nat)) ∧ NDP R1 ∧ NDP R2 ∧ (∀ y, wt R1 y = wt R2 y) ∧ B.length + R1.length ≤ 511 ∧ (∃ t, s' = s ++ t) ∧ (m.2.2 0 16 = none ∨ (m.2.2 0 16 = some q ∧ nq_routes F s m 0 = n_X9_routesFromHere F s m 0)) ∧ (∀ k, m1.2.1 19 k = m.2.1 19 k) ∧ (∀ k, m1.1 50 k = m.1 50 k ∧ m1.1 51 k = m.1 51 k) ∧ (∀ k, m1.2.1 52 k = m.2.1 52 k) ∧ (∀ M, RD M (m.1 24) → M.1 51 j = q32 sz → (∀ k, M.2.1 52 k = m.2.1 52 k) → ∃ M2, nl_X10_noOdds_24 F s' F M 23 (q32 j) (q32 0) = some (q32 0, M2) ∧ KO M M2 ∧ OGW M2 R2 ∧ FLS (A (m.1 24) 1) (R2.map Prod.fst) ∧ R2.length ≤ 256) := by
  have hL : 53 ≤ s.length := by have := hst.1.hp; obtain ⟨t, ht⟩ := this; rw [ht, List.length_append, sB_len]; omega
  obtain ⟨sk, hs9, k1, k5⟩ : ∃ sk : Nat, sk ≤ 9 ∧ m.1 nw 1 = q32 sk ∧ m.1 24 5 = q32 sk := by
    obtain ⟨tp, sk, nl, bc, fc, tc, au, aw, S, U, L, V, W, X, O, h1, ⟨a0, a1, a2, a4, a5, a6, a9, a15⟩, ⟨b0, b1, b2, b3, b4, b5, b6, b7, b8⟩, h4, ⟨s1, s2, s3, s4, s5, s6, s7⟩, h6, ⟨h7, h7b⟩, h8⟩ := hst.2.1
    exact ⟨sk, h1.2.2.1, a1, b5⟩
  obtain ⟨s', m', ow', q, bc', c1, c2, c3, c4, c5, c6, c7, c8, c9⟩ := search hF hst
  have ebc : bc' = bc := by
    have h6 := c2.2.2.2.2.2
    have : q32 (bc' : Int) = q32 (bc : Int) := c9.symm.trans hb2
    by_cases e : (bc' : Int) = bc
    · omega
    · rw [q32_eq_f (by omega)] at this; exact this.elim
  subst ebc
  have q53 := c2.qb.1
  have hbl := hst.1.2.2.2.1.lt
  have hp' := c2.1.1.hp
  have o0 := c2.out (i := 0) (by omega)
  have k1' : m'.1 nw 1 = q32 sk := by rw [(c5 nw 1 (by omega) (by omega)).1]; exact k1
  obtain ⟨h1, h2, h3, h4, h5, h6, h7, h8, h9, h9', h10⟩ := id ht
  have tl := ln_lt (s := s) (a := t + 1) (by rw [h6]; decide)
  have t13 : m'.2.2 13 j = some t := by rw [c6 13 j (by omega) (by omega) (by omega)]; exact h2
  obtain ⟨tb, to⟩ := c2.1.1.2.2.2.2.2.2.2.2.2.2.1 j t h1 t13
  obtain ⟨-, qo⟩ := c2.1.1.2.2.2.2.2.2.1 q c2.2.1
  have tq : t ≠ q := ok_ne tb.2.1 c2.qb.2.1 (by omega) (by omega) (by omega)
  have out : ∀ i, i < 2 → ¬ (q ≤ t + i ∧ t + i < q + 10) := fun i hi hc => by
    have := ow_out to qo tq hi (show t + i - q < 10 by omega)
    omega
  have out0 := out 0 (by omega)
  have out1 := out 1 (by omega)
  obtain ⟨tt, rfl⟩ := c4
  have l52 : ∀ k, m'.2.1 52 k = m.2.1 52 k := fun k => (c5 52 k (by omega) (by omega)).2
  have tr' : TR (s ++ tt) m' j t sz := by
    obtain ⟨so, s1, s2, s3⟩ := h9'
    refine ⟨h1, t13, h3, ok_ap h4, tb.2.2.1, by rw [ln_ap tl]; exact h6, h7, by rw [(c5 t 1 (by omega) (by omega)).1]; exact h8, by rw [(c5 51 j (by omega) (by omega)).1]; exact h9, ⟨so, s1, by rw [(c5 t 0 (by omega) (by omega)).1]; exact s2, by rw [(c5 50 j (by omega) (by omega)).1]; exact s3⟩, fun k hk => ?_⟩
    rw [(c5 (t + 1) k (by omega) (by omega)).2, l52]
    exact h10 k hk
  have hV : ∀ k, k < sz → (m.2.1 52 (40 * j + k)).toInt = (((m.2.1 52 (40 * j + k)).toInt.toNat : Nat) : Int) ∧ (m.2.1 52 (40 * j + k)).toInt.toNat < bc' := fun k hk => by
    have := hB k (by omega) (by omega)
    dsimp only at this
    omega
  have q4 := c2.qb.2.2.2.1
  have q13 := c2.qb.2.2.2.2.2.2.2.2.2.2.2.2.1
  have l7 := c2.qb.2.2.2.2.2.2.2.2.2.2.2.2.2.2.2.2.2.2.1
  have kw : KCQ q m' (wL m' (q + 7) 0 (q64 1)) := ⟨fun _ _ _ _ => rfl, fun a k _ _ h => by rw [wL_n (by omega)], rfl⟩
  obtain ⟨m1, B, d1, d2, ⟨C, d3⟩, d4, d5, d6⟩ := chS9 hF hs9 (al := m.1 24) (x := (A (m.1 24) 7, A (m.1 24) 8)) (j := j) (t := t) (sz := sz) hsz (V := fun k => (m.2.1 52 (40 * j + k)).toInt.toNat) (fun k hk => by have := (hV k hk).2; omega) ⟨by omega, by omega⟩ sz 0 F (by omega) (by omega) (wL m' (q + 7) 0 (q64 1)) [] (c2.k kw) (kw.sk c2 k1') (tr'.kc q53 kw ⟨by omega, by omega⟩) (fun k hk => by
    have hv := hV k hk
    rw [wL_n (by omega), l52]
    unfold smA
    rw [if_pos (by omega)]
    exact hv.1) ⟨_, c3.k (fun _ _ _ _ => rfl)⟩ (fun i hi => by
    have hi' : i < 1 := hi
    have : i = 0 := by omega
    subst this
    exact wL_s ..) (FLS.one c8) (by show 0 + 1 ≤ 1; omega)
  have c2' := (c2.k kw).k d2
  have l52' : ∀ k, m1.2.1 52 k = m.2.1 52 k := fun k => by rw [d2.2.1 52 k (by omega) (by omega) (by omega), wL_n (by omega), l52]
  refine ⟨s ++ tt, m', ow', q, m1, B, _, GOD (m.1 24) sk (fun k => (m.2.1 52 (40 * j + k)).toInt.toNat) sz 0 (A (m.1 24) 7, A (m.1 24) 8) 1 [], C, c1, rf0_7 c2.1.1.rf, ?_, ?_, c2', d3, d5, d4, NDP.ch hs9 sz, NDP.god _ _ _ _ _ NDP.nil, fun y => ?_, d6, ⟨tt, rfl⟩, c7, fun k => ?_, fun k => ?_, l52', fun M hM h51 hm52 => ?_⟩
  · have l13 := ln13 hp'
    rw [rdR_q (by omega) (by omega)]; exact t13
  · unfold n_X5_layChances nb_X5_layChances_0
    have d1' : nl_X5_layChances_14 F (s ++ tt) F (wL m' (q + 7) 0 (q64 1)) q t (q32 0) (q32 0) = some (q32 B.length, m1) := d1
    simp (disch := omega) only [Option.bind_some, bindv, bindv0, bind2_s, bind3_s, ↓reduceIte, Bool.false_eq_true, rZM_0, rZM_1, rZP_0, rZP_1, ptZ_0, ptZ_1, c32i, c64i, ncI, Int.natCast_add, Int.natCast_mul, q32_neg, q64_neg, q32_add, q32_sub, q32_mul, q64_add, q64_sub, q64_mul, q32_64i, q64_32, q32_lt_t, q32_lt_f, q32_le_t, q32_le_f, q32_eq_t, q32_eq_f, q64_lt_t, q64_lt_f, q64_le_t, q64_le_f, q64_eq_t, q64_eq_f, rdI_i, rdL_i, rdR_i, rdN_i, stI_i, stL_i, stR_i, wI_s, wI_n, wL_s, wL_n, wI_2, wI_3, wL_1, wL_3, wR_1, wR_2, Int.toNat_natCast, tnO, tn_add, tn_sub, tn_mul, Nat.add_sub_cancel, Nat.add_zero, Nat.zero_add, lnO, win_t, win_f, q4, q13, stL_q, d1']
    first | done | (rw [show stL (s ++ tt) m' (q + 7) (q32 0) (q64 1) = some (wL m' (q + 7) 0 (q64 1)) by simp (disch := omega) only [Option.bind_some, bindv, bindv0, bind2_s, bind3_s, ↓reduceIte, Bool.false_eq_true, rZM_0, rZM_1, rZP_0, rZP_1, ptZ_0, ptZ_1, c32i, c64i, ncI, Int.natCast_add, Int.natCast_mul, q32_neg, q64_neg, q32_add, q32_sub, q32_mul, q64_add, q64_sub, q64_mul, q32_64i, q64_32, q32_lt_t, q32_lt_f, q32_le_t, q32_le_f, q32_eq_t, q32_eq_f, q64_lt_t, q64_lt_f, q64_le_t, q64_le_f, q64_eq_t, q64_eq_f, rdI_i, rdL_i, rdR_i, rdN_i, stI_i, stL_i, stR_i, wI_s, wI_n, wL_s, wL_n, wI_2, wI_3, wL_1, wL_3, wR_1, wR_2, Int.toNat_natCast, tnO, tn_add, tn_sub, tn_mul, Nat.add_sub_cancel, Nat.add_zero, Nat.zero_add, lnO, win_t, win_f], Option.bind_some]; exact d1')
  · rw [wt_god, ← TOT_wt (NDP.ch hs9 sz).1]
    have := TOT_ch (al := m.1 24) (sk := sk) (B := fun k => (m.2.1 52 (40 * j + k)).toInt.toNat) (x := (A (m.1 24) 7, A (m.1 24) 8)) (y := y) sz 0
    rw [Nat.zero_add] at this
    show TOT _ (fun z => PRB (m.1 24) sk (fun k => (m.2.1 52 (40 * j + k)).toInt.toNat) 0 sz z y) = _
    rw [this]
    show _ = 0 + 1 * _
    omega
  · rw [d2.2.1 19 k (by omega) (by omega) (by omega), wL_n (by omega), (c5 19 k (by omega) (by omega)).2]
  · rw [d2.1 50 k (by omega) (by omega), d2.1 51 k (by omega) (by omega)]
    exact ⟨(c5 50 k (by omega) (by omega)).1, (c5 51 k (by omega) (by omega)).1⟩
  · obtain ⟨M2, e1, e2, e3⟩ := odd10 hF hp' c2.wa hM c9 hbc k5 hs9 (j := j) h1 hsz h51 (V := fun k => (m.2.1 52 (40 * j + k)).toInt.toNat) (fun k hk => by rw [hm52]; exact hV k hk)
    refine ⟨M2, e1, e2, e3, FLS.god c2.wa _ _ _ _ _ c8 (fun y hy => (List.not_mem_nil hy).elim), ?_⟩
    have gl := GOD_len (al := m.1 24) (sk := sk) (B := fun k => (m.2.1 52 (40 * j + k)).toInt.toNat) sz 0 (A (m.1 24) 7, A (m.1 24) 8) 1 []
    have h1 : 2 ^ sz ≤ 2 ^ 8 := Nat.pow_le_pow_right (by omega) hsz
    have h2 : 2 ^ 8 = 256 := by decide
    have e : ([] : RPL).length = 0 := rfl
    omega
