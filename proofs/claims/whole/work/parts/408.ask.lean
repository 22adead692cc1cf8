/-! PURE: judge, perform, day; a floor that is asked for -/
theorem opk_fin {α : Type} {s : List Sh} {m : Mem} {o9 : Option (α × Mem)} {o10 : Mem → Option (α × Mem)} (h : INV s m) {r : α} {m1 m2 : Mem} (e1 : o9 = some (r, m1)) (e2 : o10 m1 = some (r, m2)) (g2 : GS s m2) (sc : SC m m2) : OPK s m o9 o10 := ⟨r, m1, m2, e1, e2, h.sc g2 sc, sc.r⟩
theorem ST.at {s : List Sh} {m : Mem} {ow : Nat → Nat} {nw : Nat} (h : ST s m ow nw) : m.1 nw 4 = q32 (A (m.1 24) 7) ∧ m.1 nw 5 = q32 (A (m.1 24) 8) ∧ FLR (A (m.1 24) 1) (A (m.1 24) 7) (A (m.1 24) 8) := by
  obtain ⟨tp, sk, nl, bc, fc, tc, au, aw, S, U, L, V, W, X, O, h1, ⟨a0, a1, a2, a4, a5, a6, a9, a15⟩, ⟨b0, b1, b2, b3, b4, b5, b6, b7, b8⟩, h4, ⟨s1, s2, s3, s4, s5, s6, s7⟩, h6, ⟨h7, h7b⟩, h8⟩ := h.2.1
  have hf := h4
  unfold FLR at hf
  rw [A_q b7 (by omega), A_q b8 (by omega), A_q b1 (by omega)]
  exact ⟨a4, a5, h4⟩
theorem opk_judge {F : Nat} (hF : 1000 ≤ F) {s : List Sh} {m : Mem} (h : INV s m) (w w2 : Int32) : OPK s m (n_X9_judge F s m 0 w w2) (fun m1 => n_X10_judge F s m1 23 w w2) := by
  have h0 := h
  obtain ⟨hg, ow, nw, hst⟩ := h
  have hl := hst.1
  have hp := hl.hp
  have hr := hl.rf
  have hn := hl.hn
  have rn := hl.nw
  have r1 := rf23_1 hr
  have l24 := ln24 hp
  obtain ⟨i, hi, rfl⟩ := q32_of w
  obtain ⟨v, hv, rfl⟩ := q32_of w2
  have r7 := rf0_7 hr
  have l13 := ln13 hp
  have hwa := hst.2.1.wa
  obtain ⟨tp, t1, t2, t3, t4, t5, t6, t7, bc, t8, t9, t10⟩ := hwa.at
  obtain ⟨x4, x5, x6⟩ := hst.at
  have b7 := A_b (m.1 24) 7
  have b8 := A_b (m.1 24) 8
  have fin : ∀ r m1 m2, n_X9_judge F s m 0 (q32 i) (q32 v) = some (r, m1) → n_X10_judge F s m1 23 (q32 i) (q32 v) = some (r, m2) → SC m m2 → OPK s m (n_X9_judge F s m 0 (q32 i) (q32 v)) (fun m1 => n_X10_judge F s m1 23 (q32 i) (q32 v)) := fun r m1 m2 e1 e2 sc =>
    opk_fin h0 e1 e2 (un_X10_judge (un_X9_judge hg (okB hp).1 e1).2 (okB hp).2 e2).2 sc
  by_cases c : 0 ≤ v ∧ v ≤ 3
  · rcases row_cases hst (m' := wI m 23 0 (q32 0)) ⟨fun k => by simp (disch := omega) only [Option.bind_some, bindv, bindv0, bind2_s, bind3_s, ↓reduceIte, Bool.false_eq_true, rZM_0, rZM_1, rZP_0, rZP_1, ptZ_0, ptZ_1, c32i, c64i, ncI, Int.natCast_add, Int.natCast_mul, q32_neg, q64_neg, q32_add, q32_sub, q32_mul, q64_add, q64_sub, q64_mul, q32_64i, q64_32, q32_lt_t, q32_lt_f, q32_le_t, q32_le_f, q32_eq_t, q32_eq_f, q64_lt_t, q64_lt_f, q64_le_t, q64_le_f, q64_eq_t, q64_eq_f, rdI_i, rdL_i, rdR_i, rdN_i, stI_i, stL_i, stR_i, wI_s, wI_n, wL_s, wL_n, wI_2, wI_3, wL_1, wL_3, wR_1, wR_2, Int.toNat_natCast, tnO, tn_add, tn_sub, tn_mul, Nat.add_sub_cancel, Nat.add_zero, Nat.zero_add, lnO, win_t, win_f], fun k => by simp (disch := omega) only [Option.bind_some, bindv, bindv0, bind2_s, bind3_s, ↓reduceIte, Bool.false_eq_true, rZM_0, rZM_1, rZP_0, rZP_1, ptZ_0, ptZ_1, c32i, c64i, ncI, Int.natCast_add, Int.natCast_mul, q32_neg, q64_neg, q32_add, q32_sub, q32_mul, q64_add, q64_sub, q64_mul, q32_64i, q64_32, q32_lt_t, q32_lt_f, q32_le_t, q32_le_f, q32_eq_t, q32_eq_f, q64_lt_t, q64_lt_f, q64_le_t, q64_le_f, q64_eq_t, q64_eq_f, rdI_i, rdL_i, rdR_i, rdN_i, stI_i, stL_i, stR_i, wI_s, wI_n, wL_s, wL_n, wI_2, wI_3, wL_1, wL_3, wR_1, wR_2, Int.toNat_natCast, tnO, tn_add, tn_sub, tn_mul, Nat.add_sub_cancel, Nat.add_zero, Nat.zero_add, lnO, win_t, win_f], fun k => rfl⟩ (hr.same rfl) hi (l := 1) (Or.inl rfl) with ⟨r, c1, c2, c3, k1, k2⟩ | ⟨j, t, sz, rfl, ht, c1, c2, k1, k2⟩
    · rw [if_pos rfl] at k2
      have k1' : n_X9_refusedRow s m 0 (q32 i) (q32 1) = some (q32 r) := k1
      refine fin (q32 r) m _ ?_ ?_ (SC.k0 m)
      · unfold n_X9_judge nb_X9_judge_0
        simp (disch := omega) only [Option.bind_some, bindv, bindv0, bind2_s, bind3_s, ↓reduceIte, Bool.false_eq_true, rZM_0, rZM_1, rZP_0, rZP_1, ptZ_0, ptZ_1, c32i, c64i, ncI, Int.natCast_add, Int.natCast_mul, q32_neg, q64_neg, q32_add, q32_sub, q32_mul, q64_add, q64_sub, q64_mul, q32_64i, q64_32, q32_lt_t, q32_lt_f, q32_le_t, q32_le_f, q32_eq_t, q32_eq_f, q64_lt_t, q64_lt_f, q64_le_t, q64_le_f, q64_eq_t, q64_eq_f, rdI_i, rdL_i, rdR_i, rdN_i, stI_i, stL_i, stR_i, wI_s, wI_n, wL_s, wL_n, wI_2, wI_3, wL_1, wL_3, wR_1, wR_2, Int.toNat_natCast, tnO, tn_add, tn_sub, tn_mul, Nat.add_sub_cancel, Nat.add_zero, Nat.zero_add, lnO, win_t, win_f, k1']
      · unfold n_X10_judge nb_X10_judge_0
        simp (disch := omega) only [Option.bind_some, bindv, bindv0, bind2_s, bind3_s, ↓reduceIte, Bool.false_eq_true, rZM_0, rZM_1, rZP_0, rZP_1, ptZ_0, ptZ_1, c32i, c64i, ncI, Int.natCast_add, Int.natCast_mul, q32_neg, q64_neg, q32_add, q32_sub, q32_mul, q64_add, q64_sub, q64_mul, q32_64i, q64_32, q32_lt_t, q32_lt_f, q32_le_t, q32_le_f, q32_eq_t, q32_eq_f, q64_lt_t, q64_lt_f, q64_le_t, q64_le_f, q64_eq_t, q64_eq_f, rdI_i, rdL_i, rdR_i, rdN_i, stI_i, stL_i, stR_i, wI_s, wI_n, wL_s, wL_n, wI_2, wI_3, wL_1, wL_3, wR_1, wR_2, Int.toNat_natCast, tnO, tn_add, tn_sub, tn_mul, Nat.add_sub_cancel, Nat.add_zero, Nat.zero_add, lnO, win_t, win_f, k2]
    · rw [if_pos rfl] at k2
      have k1' : n_X9_refusedRow s m 0 (q32 j) (q32 1) = some (q32 0) := k1
      have h2 := ht.2.1
      have hj4 := ht.1
      have hsz := ht.2.2.2.2.2.2.1
      obtain ⟨m1, p1, p2⟩ := judgeL9 hF (bc := bc) (vs := fun k => m.2.1 52 (40 * j + k)) t8 t10 c sz F (by omega) m 0 (A (m.1 24) 7, A (m.1 24) 8) hl hst.2.1 ht (fun k _ => rfl) x6 (by omega)
      have hr1 : RF m1 := hr.same p2.2.2
      have r1' := rf23_1 hr1
      have t51 : m.1 51 j = q32 sz := ht.2.2.2.2.2.2.2.2.1
      have g7 : m1.1 24 7 = q32 (A (m.1 24) 7) := by rw [p2.1 _ _ (by omega)]; exact t6
      have g8 : m1.1 24 8 = q32 (A (m.1 24) 8) := by rw [p2.1 _ _ (by omega)]; exact t7
      obtain ⟨m2, q1, q2⟩ := judgeL10 hF hp (sz := sz) hj4 (by omega) hwa (vs := fun k => m.2.1 52 (40 * j + k)) c sz F (by omega) (wI m1 23 0 (q32 0)) 0 (A (m.1 24) 7, A (m.1 24) 8) (hr1.same rfl) (fun k hk => by simp (disch := omega) only [Option.bind_some, bindv, bindv0, bind2_s, bind3_s, ↓reduceIte, Bool.false_eq_true, rZM_0, rZM_1, rZP_0, rZP_1, ptZ_0, ptZ_1, c32i, c64i, ncI, Int.natCast_add, Int.natCast_mul, q32_neg, q64_neg, q32_add, q32_sub, q32_mul, q64_add, q64_sub, q64_mul, q32_64i, q64_32, q32_lt_t, q32_lt_f, q32_le_t, q32_le_f, q32_eq_t, q32_eq_f, q64_lt_t, q64_lt_f, q64_le_t, q64_le_f, q64_eq_t, q64_eq_f, rdI_i, rdL_i, rdR_i, rdN_i, stI_i, stL_i, stR_i, wI_s, wI_n, wL_s, wL_n, wI_2, wI_3, wL_1, wL_3, wR_1, wR_2, Int.toNat_natCast, tnO, tn_add, tn_sub, tn_mul, Nat.add_sub_cancel, Nat.add_zero, Nat.zero_add, lnO, win_t, win_f]; exact p2.1 _ _ (by omega)) (by simp (disch := omega) only [Option.bind_some, bindv, bindv0, bind2_s, bind3_s, ↓reduceIte, Bool.false_eq_true, rZM_0, rZM_1, rZP_0, rZP_1, ptZ_0, ptZ_1, c32i, c64i, ncI, Int.natCast_add, Int.natCast_mul, q32_neg, q64_neg, q32_add, q32_sub, q32_mul, q64_add, q64_sub, q64_mul, q32_64i, q64_32, q32_lt_t, q32_lt_f, q32_le_t, q32_le_f, q32_eq_t, q32_eq_f, q64_lt_t, q64_lt_f, q64_le_t, q64_le_f, q64_eq_t, q64_eq_f, rdI_i, rdL_i, rdR_i, rdN_i, stI_i, stL_i, stR_i, wI_s, wI_n, wL_s, wL_n, wI_2, wI_3, wL_1, wL_3, wR_1, wR_2, Int.toNat_natCast, tnO, tn_add, tn_sub, tn_mul, Nat.add_sub_cancel, Nat.add_zero, Nat.zero_add, lnO, win_t, win_f]; rw [p2.1 _ _ (by omega)]; exact t51) (fun k hk => p2.2.1 _ _ (by omega)) x6 (by omega)
      rcases row_cases hst (m' := wI m1 23 0 (q32 0)) ⟨fun k => by simp (disch := omega) only [Option.bind_some, bindv, bindv0, bind2_s, bind3_s, ↓reduceIte, Bool.false_eq_true, rZM_0, rZM_1, rZP_0, rZP_1, ptZ_0, ptZ_1, c32i, c64i, ncI, Int.natCast_add, Int.natCast_mul, q32_neg, q64_neg, q32_add, q32_sub, q32_mul, q64_add, q64_sub, q64_mul, q32_64i, q64_32, q32_lt_t, q32_lt_f, q32_le_t, q32_le_f, q32_eq_t, q32_eq_f, q64_lt_t, q64_lt_f, q64_le_t, q64_le_f, q64_eq_t, q64_eq_f, rdI_i, rdL_i, rdR_i, rdN_i, stI_i, stL_i, stR_i, wI_s, wI_n, wL_s, wL_n, wI_2, wI_3, wL_1, wL_3, wR_1, wR_2, Int.toNat_natCast, tnO, tn_add, tn_sub, tn_mul, Nat.add_sub_cancel, Nat.add_zero, Nat.zero_add, lnO, win_t, win_f]; exact p2.1 _ _ (by omega), fun k => by simp (disch := omega) only [Option.bind_some, bindv, bindv0, bind2_s, bind3_s, ↓reduceIte, Bool.false_eq_true, rZM_0, rZM_1, rZP_0, rZP_1, ptZ_0, ptZ_1, c32i, c64i, ncI, Int.natCast_add, Int.natCast_mul, q32_neg, q64_neg, q32_add, q32_sub, q32_mul, q64_add, q64_sub, q64_mul, q32_64i, q64_32, q32_lt_t, q32_lt_f, q32_le_t, q32_le_f, q32_eq_t, q32_eq_f, q64_lt_t, q64_lt_f, q64_le_t, q64_le_f, q64_eq_t, q64_eq_f, rdI_i, rdL_i, rdR_i, rdN_i, stI_i, stL_i, stR_i, wI_s, wI_n, wL_s, wL_n, wI_2, wI_3, wL_1, wL_3, wR_1, wR_2, Int.toNat_natCast, tnO, tn_add, tn_sub, tn_mul, Nat.add_sub_cancel, Nat.add_zero, Nat.zero_add, lnO, win_t, win_f]; exact p2.1 _ _ (by omega), fun k => p2.2.1 _ _ (by omega)⟩ (hr1.same rfl) hi (l := 1) (Or.inl rfl) with ⟨r, d1, d2, d3, k3, k4⟩ | ⟨j2, t2', sz2, e2, -, -, -, k3, k4⟩
      · rw [k1] at k3
        injection k3 with k3
        exact absurd ((q32_eq (by omega) (by omega)).mp k3).symm d3
      · rw [if_pos rfl] at k4
        dsimp only at p1 q1
        refine fin _ m1 m2 (?_ : _ = some (q32 (JDA v (JDF (m.1 24) (fun k => m.2.1 52 (40 * j + k)) sz 0 (A (m.1 24) 7, A (m.1 24) 8))), m1)) ?_ (p2.sc.tr ((SC.k0 m1).tr q2.sc))
        · unfold n_X9_judge nb_X9_judge_0
          simp (disch := omega) only [Option.bind_some, bindv, bindv0, bind2_s, bind3_s, ↓reduceIte, Bool.false_eq_true, rZM_0, rZM_1, rZP_0, rZP_1, ptZ_0, ptZ_1, c32i, c64i, ncI, Int.natCast_add, Int.natCast_mul, q32_neg, q64_neg, q32_add, q32_sub, q32_mul, q64_add, q64_sub, q64_mul, q32_64i, q64_32, q32_lt_t, q32_lt_f, q32_le_t, q32_le_f, q32_eq_t, q32_eq_f, q64_lt_t, q64_lt_f, q64_le_t, q64_le_f, q64_eq_t, q64_eq_f, rdI_i, rdL_i, rdR_i, rdN_i, stI_i, stL_i, stR_i, wI_s, wI_n, wL_s, wL_n, wI_2, wI_3, wL_1, wL_3, wR_1, wR_2, Int.toNat_natCast, tnO, tn_add, tn_sub, tn_mul, Nat.add_sub_cancel, Nat.add_zero, Nat.zero_add, lnO, win_t, win_f, k1', r7, h2, rn, x4, x5]
          exact p1
        · unfold n_X10_judge nb_X10_judge_0
          simp (disch := omega) only [Option.bind_some, bindv, bindv0, bind2_s, bind3_s, ↓reduceIte, Bool.false_eq_true, rZM_0, rZM_1, rZP_0, rZP_1, ptZ_0, ptZ_1, c32i, c64i, ncI, Int.natCast_add, Int.natCast_mul, q32_neg, q64_neg, q32_add, q32_sub, q32_mul, q64_add, q64_sub, q64_mul, q32_64i, q64_32, q32_lt_t, q32_lt_f, q32_le_t, q32_le_f, q32_eq_t, q32_eq_f, q64_lt_t, q64_lt_f, q64_le_t, q64_le_f, q64_eq_t, q64_eq_f, rdI_i, rdL_i, rdR_i, rdN_i, stI_i, stL_i, stR_i, wI_s, wI_n, wL_s, wL_n, wI_2, wI_3, wL_1, wL_3, wR_1, wR_2, Int.toNat_natCast, tnO, tn_add, tn_sub, tn_mul, Nat.add_sub_cancel, Nat.add_zero, Nat.zero_add, lnO, win_t, win_f, k4, r1', g7, g8]
          exact q1
  · refine fin (q32 (-2)) m _ ?_ ?_ (SC.k0 m)
    · unfold n_X9_judge nb_X9_judge_0
      by_cases c2 : v < 0
      · simp (disch := omega) only [Option.bind_some, bindv, bindv0, bind2_s, bind3_s, ↓reduceIte, Bool.false_eq_true, rZM_0, rZM_1, rZP_0, rZP_1, ptZ_0, ptZ_1, c32i, c64i, ncI, Int.natCast_add, Int.natCast_mul, q32_neg, q64_neg, q32_add, q32_sub, q32_mul, q64_add, q64_sub, q64_mul, q32_64i, q64_32, q32_lt_t, q32_lt_f, q32_le_t, q32_le_f, q32_eq_t, q32_eq_f, q64_lt_t, q64_lt_f, q64_le_t, q64_le_f, q64_eq_t, q64_eq_f, rdI_i, rdL_i, rdR_i, rdN_i, stI_i, stL_i, stR_i, wI_s, wI_n, wL_s, wL_n, wI_2, wI_3, wL_1, wL_3, wR_1, wR_2, Int.toNat_natCast, tnO, tn_add, tn_sub, tn_mul, Nat.add_sub_cancel, Nat.add_zero, Nat.zero_add, lnO, win_t, win_f]
      · simp (disch := omega) only [Option.bind_some, bindv, bindv0, bind2_s, bind3_s, ↓reduceIte, Bool.false_eq_true, rZM_0, rZM_1, rZP_0, rZP_1, ptZ_0, ptZ_1, c32i, c64i, ncI, Int.natCast_add, Int.natCast_mul, q32_neg, q64_neg, q32_add, q32_sub, q32_mul, q64_add, q64_sub, q64_mul, q32_64i, q64_32, q32_lt_t, q32_lt_f, q32_le_t, q32_le_f, q32_eq_t, q32_eq_f, q64_lt_t, q64_lt_f, q64_le_t, q64_le_f, q64_eq_t, q64_eq_f, rdI_i, rdL_i, rdR_i, rdN_i, stI_i, stL_i, stR_i, wI_s, wI_n, wL_s, wL_n, wI_2, wI_3, wL_1, wL_3, wR_1, wR_2, Int.toNat_natCast, tnO, tn_add, tn_sub, tn_mul, Nat.add_sub_cancel, Nat.add_zero, Nat.zero_add, lnO, win_t, win_f]
    · unfold n_X10_judge nb_X10_judge_0
      simp (disch := omega) only [Option.bind_some, bindv, bindv0, bind2_s, bind3_s, ↓reduceIte, Bool.false_eq_true, rZM_0, rZM_1, rZP_0, rZP_1, ptZ_0, ptZ_1, c32i, c64i, ncI, Int.natCast_add, Int.natCast_mul, q32_neg, q64_neg, q32_add, q32_sub, q32_mul, q64_add, q64_sub, q64_mul, q32_64i, q64_32, q32_lt_t, q32_lt_f, q32_le_t, q32_le_f, q32_eq_t, q32_eq_f, q64_lt_t, q64_lt_f, q64_le_t, q64_le_f, q64_eq_t, q64_eq_f, rdI_i, rdL_i, rdR_i, rdN_i, stI_i, stL_i, stR_i, wI_s, wI_n, wL_s, wL_n, wI_2, wI_3, wL_1, wL_3, wR_1, wR_2, Int.toNat_natCast, tnO, tn_add, tn_sub, tn_mul, Nat.add_sub_cancel, Nat.add_zero, Nat.zero_add, lnO, win_t, win_f]
/-! perform -/
def PFF (vs : Nat → Int64) : Nat → Nat → (Nat → Int32) → Nat × (Nat → Int32)
  | 0, i, al => (i, al)
  | n + 1, i, al => if (PR al (btA al (vs i))).1 = 0 then PFF vs n (i + 1) (PR al (btA al (vs i))).2 else (i, (PR al (btA al (vs i))).2)
theorem TR.kp {s : List Sh} {m m' : Mem} {j t sz nw : Nat} (h : TR s m j t sz) (e : KP nw m m') (hn : nw = 2 ∨ 53 ≤ nw) (ho : ok s nw 0) : TR s m' j t sz := by
  obtain ⟨h1, h2, h3, h4, h5, h6, h7, h8, h9, ⟨so, k1, k2, k3⟩, h10⟩ := h
  have hne : t ≠ nw := ok_ne h4 ho (by omega) (by omega) (by omega)
  have h50 : 50 ≠ nw := by omega
  have h51 : 51 ≠ nw := by omega
  refine ⟨h1, by rw [e.2.2]; exact h2, h3, h4, by rw [e.2.2]; exact h5, h6, h7, by rw [e.1 _ _ (by omega)]; exact h8, by rw [e.1 _ _ (by omega)]; exact h9, ⟨so, k1, by rw [e.1 _ _ (by omega)]; exact k2, by rw [e.1 _ _ (by omega)]; exact k3⟩, fun k hk => ?_⟩
  rw [e.2.1 _ _ (by omega), e.2.1 _ _ (by omega)]
  exact h10 k hk
theorem performL9 {F : Nat} (hF : 1000 ≤ F) {s : List Sh} {ow : Nat → Nat} {nw j t sz : Nat} {vs : Nat → Int64} : ∀ (n fuel : Nat), n < fuel → ∀ (m : Mem) (i : Nat) (al : Nat → Int32), LAY s m ow nw → HREL m nw al → US m al → TR s m j t sz → (∀ k, k < sz → m.2.1 52 (40 * j + k) = vs k) → i + n = sz → ∃ m', nl_X9_perform_26 F s fuel m 0 t (q32 i) (q32 i) = some (q32 (PFF vs n i al).1, m') ∧ KP nw m m' ∧ HREL m' nw (PFF vs n i al).2 ∧ US m' (PFF vs n i al).2 := by
  intro n
  induction n with
  | zero =>
    intro fuel hfu m i al hl hrel hU ht hvs hi
    obtain ⟨fuel, rfl⟩ : ∃ f, fuel = f + 1 := ⟨fuel - 1, by omega⟩
    have h8 := ht.2.2.2.2.2.2.2.1
    have h7 := ht.2.2.2.2.2.2.1
    refine ⟨m, ?_, KP.rf m, hrel, hU⟩
    show nb_X9_perform_26 F s (nl_X9_perform_26 F s fuel) m 0 t (q32 i) (q32 i) = _
    unfold nb_X9_perform_26 PFF
    simp (disch := omega) only [Option.bind_some, bindv, bindv0, bind2_s, bind3_s, ↓reduceIte, Bool.false_eq_true, rZM_0, rZM_1, rZP_0, rZP_1, ptZ_0, ptZ_1, c32i, c64i, ncI, Int.natCast_add, Int.natCast_mul, q32_neg, q64_neg, q32_add, q32_sub, q32_mul, q64_add, q64_sub, q64_mul, q32_64i, q64_32, q32_lt_t, q32_lt_f, q32_le_t, q32_le_f, q32_eq_t, q32_eq_f, q64_lt_t, q64_lt_f, q64_le_t, q64_le_f, q64_eq_t, q64_eq_f, rdI_i, rdL_i, rdR_i, rdN_i, stI_i, stL_i, stR_i, wI_s, wI_n, wL_s, wL_n, wI_2, wI_3, wL_1, wL_3, wR_1, wR_2, Int.toNat_natCast, tnO, tn_add, tn_sub, tn_mul, Nat.add_sub_cancel, Nat.add_zero, Nat.zero_add, lnO, win_t, win_f, h8]
  | succ n ih =>
    intro fuel hfu m i al hl hrel hU ht hvs hi
    obtain ⟨fuel, rfl⟩ : ∃ f, fuel = f + 1 := ⟨fuel - 1, by omega⟩
    have h8 := ht.2.2.2.2.2.2.2.1
    have h7 := ht.2.2.2.2.2.2.1
    have hn := hl.hn
    obtain ⟨tp, t1, t2, t3, t4, t5, t6, t7, bc, t8, t9, t10⟩ := hrel.wa.at
    have sm := small9 ht (k := i) (by omega)
    rw [hvs i (by omega)] at sm
    obtain ⟨m1, p1, p2, p3, p4⟩ := press9 hF hl hrel hU (smA_b (vs i))
    have hpb := PR_b al (smA (vs i))
    show ∃ m', nb_X9_perform_26 F s (nl_X9_perform_26 F s fuel) m 0 t (q32 i) (q32 i) = _ ∧ _
    unfold nb_X9_perform_26 PFF
    rw [← PR_sm t8 t10]
    by_cases hz : (PR al (smA (vs i))).1 = 0
    · rw [if_pos hz]
      rw [hz] at p1
      obtain ⟨m', q1, q2, q3, q4⟩ := ih fuel (by omega) m1 (i + 1) _ (hl.same p2.2.2) p3 p4 (ht.kp p2 hn hl.2.2.2.1.2.1) (fun k hk => by rw [p2.2.1 _ _ (by omega)]; exact hvs k hk) (by omega)
      refine ⟨m', ?_, p2.tr q2, q3, q4⟩
      rw [Int.natCast_add] at q1
      simp (disch := omega) only [Option.bind_some, bindv, bindv0, bind2_s, bind3_s, ↓reduceIte, Bool.false_eq_true, rZM_0, rZM_1, rZP_0, rZP_1, ptZ_0, ptZ_1, c32i, c64i, ncI, Int.natCast_add, Int.natCast_mul, q32_neg, q64_neg, q32_add, q32_sub, q32_mul, q64_add, q64_sub, q64_mul, q32_64i, q64_32, q32_lt_t, q32_lt_f, q32_le_t, q32_le_f, q32_eq_t, q32_eq_f, q64_lt_t, q64_lt_f, q64_le_t, q64_le_f, q64_eq_t, q64_eq_f, rdI_i, rdL_i, rdR_i, rdN_i, stI_i, stL_i, stR_i, wI_s, wI_n, wL_s, wL_n, wI_2, wI_3, wL_1, wL_3, wR_1, wR_2, Int.toNat_natCast, tnO, tn_add, tn_sub, tn_mul, Nat.add_sub_cancel, Nat.add_zero, Nat.zero_add, lnO, win_t, win_f, h8, sm, p1]
      exact q1
    · rw [if_neg hz]
      refine ⟨m1, ?_, p2, p3, p4⟩
      simp (disch := omega) only [Option.bind_some, bindv, bindv0, bind2_s, bind3_s, ↓reduceIte, Bool.false_eq_true, rZM_0, rZM_1, rZP_0, rZP_1, ptZ_0, ptZ_1, c32i, c64i, ncI, Int.natCast_add, Int.natCast_mul, q32_neg, q64_neg, q32_add, q32_sub, q32_mul, q64_add, q64_sub, q64_mul, q32_64i, q64_32, q32_lt_t, q32_lt_f, q32_le_t, q32_le_f, q32_eq_t, q32_eq_f, q64_lt_t, q64_lt_f, q64_le_t, q64_le_f, q64_eq_t, q64_eq_f, rdI_i, rdL_i, rdR_i, rdN_i, stI_i, stL_i, stR_i, wI_s, wI_n, wL_s, wL_n, wI_2, wI_3, wL_1, wL_3, wR_1, wR_2, Int.toNat_natCast, tnO, tn_add, tn_sub, tn_mul, Nat.add_sub_cancel, Nat.add_zero, Nat.zero_add, lnO, win_t, win_f, h8, sm, p1]
theorem WA.pr {al : Nat → Int32} (h : WA al) {ud : Nat} (hu : al 73 = q32 ud) (h12 : ud ≤ 12) (b : Int) : WA (PR al b).2 ∧ ∃ ud' : Nat, (PR al b).2 73 = q32 ud' ∧ ud' ≤ 12 := by
  obtain ⟨tp, t1, t2, t3, t4, t5, t6, t7, -⟩ := h.at
  have hfl := LE_flr h (b := b) (okf_of (x := (A al 7, A al 8)) t5)
  unfold PR
  by_cases hz : (LE al b (A al 7, A al 8)).1 = 0
  · rw [if_pos hz]
    have hfl := hfl hz
    generalize (LE al b (A al 7, A al 8)).2 = f at *
    have hn := n11 h12 rfl
    refine ⟨?_, ?_⟩
    · obtain ⟨hs, st, cd, fu, fl, sf, od, tu, tl, hh⟩ := h
      refine ⟨fun k => if k = 3 then al 6 + 1 else if k = 4 then q32 f.1 else if k = 5 then q32 f.2 else hs k, st, cd, fu, fl, sf, od, tu, tl, hh.at (u := f.1) (l := f.2) hfl (fun k hk => ?_) ?_ ?_ ?_ ?_ ?_ (fun k hk => PRS_o hu h12 hk)⟩
      · rw [if_neg (by omega), if_neg (by omega), if_neg (by omega)]
      · rw [if_neg (by omega), if_pos rfl]
      · rw [if_neg (by omega), if_neg (by omega), if_pos rfl]
      · dsimp only; rw [PRS_n hu h12 rfl, if_neg (by omega), if_neg (by omega), if_neg (by omega), if_neg (by omega), if_neg (by omega), if_pos rfl, if_pos rfl]
      · dsimp only; rw [PRS_n hu h12 rfl, if_neg (by omega), if_neg (by omega), if_neg (by omega), if_pos rfl]
      · dsimp only; rw [PRS_n hu h12 rfl, if_neg (by omega), if_neg (by omega), if_neg (by omega), if_neg (by omega), if_pos rfl]
    · refine ⟨(if ud = 12 then 11 else ud) + 1, ?_, by omega⟩
      dsimp only
      rw [PRS_n hu h12 rfl, if_neg (by omega), if_neg (by omega), if_pos rfl]
  · rw [if_neg hz]
    exact ⟨h, ud, hu, h12⟩
theorem performL10 {F : Nat} (hF : 1000 ≤ F) {s : List Sh} (hp : ∃ t, s = sB ++ t) {j sz : Nat} (hj : j < 4) (hsz : sz ≤ 40) {vs : Nat → Int64} : ∀ (n fuel : Nat), n < fuel → ∀ (m : Mem) (i : Nat) (al : Nat → Int32) (ud : Nat), RF m → WA al → (∀ k, k < 999 → m.1 24 k = al k) → al 73 = q32 ud → ud ≤ 12 → m.1 51 j = q32 sz → (∀ k, k < sz → m.2.1 52 (40 * j + k) = vs k) → i + n = sz → ∃ m', nl_X10_perform_21 F s fuel m 23 (q32 j) (q32 i) = some (q32 (PFF vs n i al).1, m') ∧ KQ m m' ∧ ∀ k, k < 999 → m'.1 24 k = (PFF vs n i al).2 k := by
  have l51 := ln51 hp
  intro n
  induction n with
  | zero =>
    intro fuel hfu m i al ud hr hwa hm hu h12 h51 hvs hi
    obtain ⟨fuel, rfl⟩ : ∃ f, fuel = f + 1 := ⟨fuel - 1, by omega⟩
    have r53 := rf23_53 hr
    refine ⟨m, ?_, KQ.rf m, hm⟩
    show nb_X10_perform_21 F s (nl_X10_perform_21 F s fuel) m 23 (q32 j) (q32 i) = _
    unfold nb_X10_perform_21 PFF
    simp (disch := omega) only [Option.bind_some, bindv, bindv0, bind2_s, bind3_s, ↓reduceIte, Bool.false_eq_true, rZM_0, rZM_1, rZP_0, rZP_1, ptZ_0, ptZ_1, c32i, c64i, ncI, Int.natCast_add, Int.natCast_mul, q32_neg, q64_neg, q32_add, q32_sub, q32_mul, q64_add, q64_sub, q64_mul, q32_64i, q64_32, q32_lt_t, q32_lt_f, q32_le_t, q32_le_f, q32_eq_t, q32_eq_f, q64_lt_t, q64_lt_f, q64_le_t, q64_le_f, q64_eq_t, q64_eq_f, rdI_i, rdL_i, rdR_i, rdN_i, stI_i, stL_i, stR_i, wI_s, wI_n, wL_s, wL_n, wI_2, wI_3, wL_1, wL_3, wR_1, wR_2, Int.toNat_natCast, tnO, tn_add, tn_sub, tn_mul, Nat.add_sub_cancel, Nat.add_zero, Nat.zero_add, lnO, win_t, win_f, r53, h51]
  | succ n ih =>
    intro fuel hfu m i al ud hr hwa hm hu h12 h51 hvs hi
    obtain ⟨fuel, rfl⟩ : ∃ f, fuel = f + 1 := ⟨fuel - 1, by omega⟩
    have r53 := rf23_53 hr
    obtain ⟨tp, t1, t2, t3, t4, t5, t6, t7, bc, t8, t9, t10⟩ := hwa.at
    have td := told10 hp hr t8 t9 hm hj (k := i) (by omega)
    rw [hvs i (by omega)] at td
    obtain ⟨m1, p1, p2, p3⟩ := presses10 hF hp hr hwa hm hu h12 (btA_b (al := al) (vs i))
    have hpb := PR_b al (btA al (vs i))
    obtain ⟨w1, ud', w2, w3⟩ := hwa.pr hu h12 (btA al (vs i))
    show ∃ m', nb_X10_perform_21 F s (nl_X10_perform_21 F s fuel) m 23 (q32 j) (q32 i) = _ ∧ _
    unfold nb_X10_perform_21 PFF
    by_cases hz : (PR al (btA al (vs i))).1 = 0
    · rw [if_pos hz]
      rw [hz] at p1
      obtain ⟨m', q1, q2, q3⟩ := ih fuel (by omega) m1 (i + 1) _ ud' (hr.same p2.2.2) w1 p3 w2 w3 (by rw [p2.1 _ _ (by omega)]; exact h51) (fun k hk => by rw [p2.2.1 _ _ (by omega)]; exact hvs k hk) (by omega)
      refine ⟨m', ?_, p2.kq.tr q2, q3⟩
      rw [Int.natCast_add] at q1
      simp (disch := omega) only [Option.bind_some, bindv, bindv0, bind2_s, bind3_s, ↓reduceIte, Bool.false_eq_true, rZM_0, rZM_1, rZP_0, rZP_1, ptZ_0, ptZ_1, c32i, c64i, ncI, Int.natCast_add, Int.natCast_mul, q32_neg, q64_neg, q32_add, q32_sub, q32_mul, q64_add, q64_sub, q64_mul, q32_64i, q64_32, q32_lt_t, q32_lt_f, q32_le_t, q32_le_f, q32_eq_t, q32_eq_f, q64_lt_t, q64_lt_f, q64_le_t, q64_le_f, q64_eq_t, q64_eq_f, rdI_i, rdL_i, rdR_i, rdN_i, stI_i, stL_i, stR_i, wI_s, wI_n, wL_s, wL_n, wI_2, wI_3, wL_1, wL_3, wR_1, wR_2, Int.toNat_natCast, tnO, tn_add, tn_sub, tn_mul, Nat.add_sub_cancel, Nat.add_zero, Nat.zero_add, lnO, win_t, win_f, r53, h51, td, p1]
      exact q1
    · rw [if_neg hz]
      refine ⟨m1, ?_, p2.kq, p3⟩
      simp (disch := omega) only [Option.bind_some, bindv, bindv0, bind2_s, bind3_s, ↓reduceIte, Bool.false_eq_true, rZM_0, rZM_1, rZP_0, rZP_1, ptZ_0, ptZ_1, c32i, c64i, ncI, Int.natCast_add, Int.natCast_mul, q32_neg, q64_neg, q32_add, q32_sub, q32_mul, q64_add, q64_sub, q64_mul, q32_64i, q64_32, q32_lt_t, q32_lt_f, q32_le_t, q32_le_f, q32_eq_t, q32_eq_f, q64_lt_t, q64_lt_f, q64_le_t, q64_le_f, q64_eq_t, q64_eq_f, rdI_i, rdL_i, rdR_i, rdN_i, stI_i, stL_i, stR_i, wI_s, wI_n, wL_s, wL_n, wI_2, wI_3, wL_1, wL_3, wR_1, wR_2, Int.toNat_natCast, tnO, tn_add, tn_sub, tn_mul, Nat.add_sub_cancel, Nat.add_zero, Nat.zero_add, lnO, win_t, win_f, r53, h51, td, p1]
theorem opk_perform {F : Nat} (hF : 1000 ≤ F) {s : List Sh} {m : Mem} (h : INV s m) (w : Int32) : OPK s m (n_X9_perform F s m 0 w) (fun m1 => n_X10_perform F s m1 23 w) := by
  have h0 := h
  obtain ⟨hg, ow, nw, hst⟩ := h
  have hl := hst.1
  have hp := hl.hp
  have hr := hl.rf
  have hn := hl.hn
  have rn := hl.nw
  have r1 := rf23_1 hr
  have l24 := ln24 hp
  obtain ⟨i, hi, rfl⟩ := q32_of w
  have r7 := rf0_7 hr
  have l13 := ln13 hp
  have hwa := hst.2.1.wa
  rcases row_cases hst (m' := wI m 23 0 (q32 0)) ⟨fun k => by simp (disch := omega) only [Option.bind_some, bindv, bindv0, bind2_s, bind3_s, ↓reduceIte, Bool.false_eq_true, rZM_0, rZM_1, rZP_0, rZP_1, ptZ_0, ptZ_1, c32i, c64i, ncI, Int.natCast_add, Int.natCast_mul, q32_neg, q64_neg, q32_add, q32_sub, q32_mul, q64_add, q64_sub, q64_mul, q32_64i, q64_32, q32_lt_t, q32_lt_f, q32_le_t, q32_le_f, q32_eq_t, q32_eq_f, q64_lt_t, q64_lt_f, q64_le_t, q64_le_f, q64_eq_t, q64_eq_f, rdI_i, rdL_i, rdR_i, rdN_i, stI_i, stL_i, stR_i, wI_s, wI_n, wL_s, wL_n, wI_2, wI_3, wL_1, wL_3, wR_1, wR_2, Int.toNat_natCast, tnO, tn_add, tn_sub, tn_mul, Nat.add_sub_cancel, Nat.add_zero, Nat.zero_add, lnO, win_t, win_f], fun k => by simp (disch := omega) only [Option.bind_some, bindv, bindv0, bind2_s, bind3_s, ↓reduceIte, Bool.false_eq_true, rZM_0, rZM_1, rZP_0, rZP_1, ptZ_0, ptZ_1, c32i, c64i, ncI, Int.natCast_add, Int.natCast_mul, q32_neg, q64_neg, q32_add, q32_sub, q32_mul, q64_add, q64_sub, q64_mul, q32_64i, q64_32, q32_lt_t, q32_lt_f, q32_le_t, q32_le_f, q32_eq_t, q32_eq_f, q64_lt_t, q64_lt_f, q64_le_t, q64_le_f, q64_eq_t, q64_eq_f, rdI_i, rdL_i, rdR_i, rdN_i, stI_i, stL_i, stR_i, wI_s, wI_n, wL_s, wL_n, wI_2, wI_3, wL_1, wL_3, wR_1, wR_2, Int.toNat_natCast, tnO, tn_add, tn_sub, tn_mul, Nat.add_sub_cancel, Nat.add_zero, Nat.zero_add, lnO, win_t, win_f], fun k => rfl⟩ (hr.same rfl) hi (l := 1) (Or.inl rfl) with ⟨r, c1, c2, c3, k1, k2⟩ | ⟨j, t, sz, rfl, ht, c1, c2, k1, k2⟩
  · rw [if_pos rfl] at k2
    have k1' : n_X9_refusedRow s m 0 (q32 i) (q32 1) = some (q32 r) := k1
    have e1 : n_X9_perform F s m 0 (q32 i) = some (q32 r, m) := by
      unfold n_X9_perform nb_X9_perform_0
      simp (disch := omega) only [Option.bind_some, bindv, bindv0, bind2_s, bind3_s, ↓reduceIte, Bool.false_eq_true, rZM_0, rZM_1, rZP_0, rZP_1, ptZ_0, ptZ_1, c32i, c64i, ncI, Int.natCast_add, Int.natCast_mul, q32_neg, q64_neg, q32_add, q32_sub, q32_mul, q64_add, q64_sub, q64_mul, q32_64i, q64_32, q32_lt_t, q32_lt_f, q32_le_t, q32_le_f, q32_eq_t, q32_eq_f, q64_lt_t, q64_lt_f, q64_le_t, q64_le_f, q64_eq_t, q64_eq_f, rdI_i, rdL_i, rdR_i, rdN_i, stI_i, stL_i, stR_i, wI_s, wI_n, wL_s, wL_n, wI_2, wI_3, wL_1, wL_3, wR_1, wR_2, Int.toNat_natCast, tnO, tn_add, tn_sub, tn_mul, Nat.add_sub_cancel, Nat.add_zero, Nat.zero_add, lnO, win_t, win_f, k1']
    have e2 : n_X10_perform F s m 23 (q32 i) = some (q32 r, wI m 23 0 (q32 0)) := by
      unfold n_X10_perform nb_X10_perform_0
      simp (disch := omega) only [Option.bind_some, bindv, bindv0, bind2_s, bind3_s, ↓reduceIte, Bool.false_eq_true, rZM_0, rZM_1, rZP_0, rZP_1, ptZ_0, ptZ_1, c32i, c64i, ncI, Int.natCast_add, Int.natCast_mul, q32_neg, q64_neg, q32_add, q32_sub, q32_mul, q64_add, q64_sub, q64_mul, q32_64i, q64_32, q32_lt_t, q32_lt_f, q32_le_t, q32_le_f, q32_eq_t, q32_eq_f, q64_lt_t, q64_lt_f, q64_le_t, q64_le_f, q64_eq_t, q64_eq_f, rdI_i, rdL_i, rdR_i, rdN_i, stI_i, stL_i, stR_i, wI_s, wI_n, wL_s, wL_n, wI_2, wI_3, wL_1, wL_3, wR_1, wR_2, Int.toNat_natCast, tnO, tn_add, tn_sub, tn_mul, Nat.add_sub_cancel, Nat.add_zero, Nat.zero_add, lnO, win_t, win_f, k2]
    exact opk_fin h0 e1 e2 (un_X10_perform hg (okB hp).2 e2).2 (SC.k0 m)
  · rw [if_pos rfl] at k2
    have k1' : n_X9_refusedRow s m 0 (q32 j) (q32 1) = some (q32 0) := k1
    have h2 := ht.2.1
    have hj4 := ht.1
    have hsz := ht.2.2.2.2.2.2.1
    obtain ⟨ud, u1, u2, u3, u4⟩ := hst.2.2.1.2
    obtain ⟨m1, p1, p2, p3, p4⟩ := performL9 hF (vs := fun k => m.2.1 52 (40 * j + k)) sz F (by omega) m 0 (m.1 24) hl hst.2.1 hst.2.2.1.2 ht (fun k _ => rfl) (by omega)
    have hr1 : RF m1 := hr.same p2.2.2
    have t51 : m.1 51 j = q32 sz := ht.2.2.2.2.2.2.2.2.1
    obtain ⟨m2, q1, q2, q3⟩ := performL10 hF hp (sz := sz) hj4 (by omega) (vs := fun k => m.2.1 52 (40 * j + k)) sz F (by omega) (wI m1 23 0 (q32 0)) 0 (m.1 24) ud (hr1.same rfl) hwa (fun k hk => by simp (disch := omega) only [Option.bind_some, bindv, bindv0, bind2_s, bind3_s, ↓reduceIte, Bool.false_eq_true, rZM_0, rZM_1, rZP_0, rZP_1, ptZ_0, ptZ_1, c32i, c64i, ncI, Int.natCast_add, Int.natCast_mul, q32_neg, q64_neg, q32_add, q32_sub, q32_mul, q64_add, q64_sub, q64_mul, q32_64i, q64_32, q32_lt_t, q32_lt_f, q32_le_t, q32_le_f, q32_eq_t, q32_eq_f, q64_lt_t, q64_lt_f, q64_le_t, q64_le_f, q64_eq_t, q64_eq_f, rdI_i, rdL_i, rdR_i, rdN_i, stI_i, stL_i, stR_i, wI_s, wI_n, wL_s, wL_n, wI_2, wI_3, wL_1, wL_3, wR_1, wR_2, Int.toNat_natCast, tnO, tn_add, tn_sub, tn_mul, Nat.add_sub_cancel, Nat.add_zero, Nat.zero_add, lnO, win_t, win_f]; exact p2.1 _ _ (by omega)) u3 u1 (by simp (disch := omega) only [Option.bind_some, bindv, bindv0, bind2_s, bind3_s, ↓reduceIte, Bool.false_eq_true, rZM_0, rZM_1, rZP_0, rZP_1, ptZ_0, ptZ_1, c32i, c64i, ncI, Int.natCast_add, Int.natCast_mul, q32_neg, q64_neg, q32_add, q32_sub, q32_mul, q64_add, q64_sub, q64_mul, q32_64i, q64_32, q32_lt_t, q32_lt_f, q32_le_t, q32_le_f, q32_eq_t, q32_eq_f, q64_lt_t, q64_lt_f, q64_le_t, q64_le_f, q64_eq_t, q64_eq_f, rdI_i, rdL_i, rdR_i, rdN_i, stI_i, stL_i, stR_i, wI_s, wI_n, wL_s, wL_n, wI_2, wI_3, wL_1, wL_3, wR_1, wR_2, Int.toNat_natCast, tnO, tn_add, tn_sub, tn_mul, Nat.add_sub_cancel, Nat.add_zero, Nat.zero_add, lnO, win_t, win_f]; rw [p2.1 _ _ (by omega)]; exact t51) (fun k hk => p2.2.1 _ _ (by omega)) (by omega)
    rcases row_cases hst (m' := wI m1 23 0 (q32 0)) ⟨fun k => by simp (disch := omega) only [Option.bind_some, bindv, bindv0, bind2_s, bind3_s, ↓reduceIte, Bool.false_eq_true, rZM_0, rZM_1, rZP_0, rZP_1, ptZ_0, ptZ_1, c32i, c64i, ncI, Int.natCast_add, Int.natCast_mul, q32_neg, q64_neg, q32_add, q32_sub, q32_mul, q64_add, q64_sub, q64_mul, q32_64i, q64_32, q32_lt_t, q32_lt_f, q32_le_t, q32_le_f, q32_eq_t, q32_eq_f, q64_lt_t, q64_lt_f, q64_le_t, q64_le_f, q64_eq_t, q64_eq_f, rdI_i, rdL_i, rdR_i, rdN_i, stI_i, stL_i, stR_i, wI_s, wI_n, wL_s, wL_n, wI_2, wI_3, wL_1, wL_3, wR_1, wR_2, Int.toNat_natCast, tnO, tn_add, tn_sub, tn_mul, Nat.add_sub_cancel, Nat.add_zero, Nat.zero_add, lnO, win_t, win_f]; exact p2.1 _ _ (by omega), fun k => by simp (disch := omega) only [Option.bind_some, bindv, bindv0, bind2_s, bind3_s, ↓reduceIte, Bool.false_eq_true, rZM_0, rZM_1, rZP_0, rZP_1, ptZ_0, ptZ_1, c32i, c64i, ncI, Int.natCast_add, Int.natCast_mul, q32_neg, q64_neg, q32_add, q32_sub, q32_mul, q64_add, q64_sub, q64_mul, q32_64i, q64_32, q32_lt_t, q32_lt_f, q32_le_t, q32_le_f, q32_eq_t, q32_eq_f, q64_lt_t, q64_lt_f, q64_le_t, q64_le_f, q64_eq_t, q64_eq_f, rdI_i, rdL_i, rdR_i, rdN_i, stI_i, stL_i, stR_i, wI_s, wI_n, wL_s, wL_n, wI_2, wI_3, wL_1, wL_3, wR_1, wR_2, Int.toNat_natCast, tnO, tn_add, tn_sub, tn_mul, Nat.add_sub_cancel, Nat.add_zero, Nat.zero_add, lnO, win_t, win_f]; exact p2.1 _ _ (by omega), fun k => p2.2.1 _ _ (by omega)⟩ (hr1.same rfl) hi (l := 1) (Or.inl rfl) with ⟨r, d1, d2, d3, k3, k4⟩ | ⟨j2, t2', sz2, e2, -, -, -, k3, k4⟩
    · rw [k1] at k3
      injection k3 with k3
      exact absurd ((q32_eq (by omega) (by omega)).mp k3).symm d3
    · rw [if_pos rfl] at k4
      have e1 : n_X9_perform F s m 0 (q32 j) = some (q32 (PFF (fun k => m.2.1 52 (40 * j + k)) sz 0 (m.1 24)).1, m1) := by
        unfold n_X9_perform nb_X9_perform_0
        simp (disch := omega) only [Option.bind_some, bindv, bindv0, bind2_s, bind3_s, ↓reduceIte, Bool.false_eq_true, rZM_0, rZM_1, rZP_0, rZP_1, ptZ_0, ptZ_1, c32i, c64i, ncI, Int.natCast_add, Int.natCast_mul, q32_neg, q64_neg, q32_add, q32_sub, q32_mul, q64_add, q64_sub, q64_mul, q32_64i, q64_32, q32_lt_t, q32_lt_f, q32_le_t, q32_le_f, q32_eq_t, q32_eq_f, q64_lt_t, q64_lt_f, q64_le_t, q64_le_f, q64_eq_t, q64_eq_f, rdI_i, rdL_i, rdR_i, rdN_i, stI_i, stL_i, stR_i, wI_s, wI_n, wL_s, wL_n, wI_2, wI_3, wL_1, wL_3, wR_1, wR_2, Int.toNat_natCast, tnO, tn_add, tn_sub, tn_mul, Nat.add_sub_cancel, Nat.add_zero, Nat.zero_add, lnO, win_t, win_f, k1', r7, h2]
        exact p1
      have e2 : n_X10_perform F s m1 23 (q32 j) = some (q32 (PFF (fun k => m.2.1 52 (40 * j + k)) sz 0 (m.1 24)).1, m2) := by
        unfold n_X10_perform nb_X10_perform_0
        simp (disch := omega) only [Option.bind_some, bindv, bindv0, bind2_s, bind3_s, ↓reduceIte, Bool.false_eq_true, rZM_0, rZM_1, rZP_0, rZP_1, ptZ_0, ptZ_1, c32i, c64i, ncI, Int.natCast_add, Int.natCast_mul, q32_neg, q64_neg, q32_add, q32_sub, q32_mul, q64_add, q64_sub, q64_mul, q32_64i, q64_32, q32_lt_t, q32_lt_f, q32_le_t, q32_le_f, q32_eq_t, q32_eq_f, q64_lt_t, q64_lt_f, q64_le_t, q64_le_f, q64_eq_t, q64_eq_f, rdI_i, rdL_i, rdR_i, rdN_i, stI_i, stL_i, stR_i, wI_s, wI_n, wL_s, wL_n, wI_2, wI_3, wL_1, wL_3, wR_1, wR_2, Int.toNat_natCast, tnO, tn_add, tn_sub, tn_mul, Nat.add_sub_cancel, Nat.add_zero, Nat.zero_add, lnO, win_t, win_f, k4]
        exact q1
      have g2 := (un_X10_perform (un_X9_perform hg (okB hp).1 e1).2 (okB hp).2 e2).2
      exact ⟨_, m1, m2, e1, e2, ⟨g2, ow, nw, hst.two p2 (((KQ.rf m1).I (by omega)).tr q2) p3 p4 q3⟩, q2.2.2.trans p2.2.2⟩
/-! day -/
def nd (x : Int32) : Int32 := (1103515245 : Int32) * x + (12345 : Int32)
theorem nd9 (x : Int32) : m_X9_nextDraw x = some (nd x) := rfl
def DYB (g : Int32 → Int32) (al : Nat → Int32) (x : Int32) : Int := (remI (ushr (g x) (q32 16)) (al 2)).toInt
def DYF (g : Int32 → Int32) : Nat → Int32 → Nat → (Nat → Int32) → Nat × (Nat → Int32)
  | 0, _, c, al => (c, al)
  | n + 1, x, c, al => if al 5 ≤ remI (ushr (g (g x)) (q32 16)) (q32 10) then (if (PR al (DYB g al x)).1 = 0 then DYF g n (g (g x)) (c + 1) (PR al (DYB g al x)).2 else DYF g n (g (g x)) c (PR al (DYB g al x)).2) else DYF g n (g (g x)) c al
theorem draw10 {s : List Sh} {m : Mem} {v : Int32} (h : ¬ v = 0) : n_X10_draw s m 23 v = some (remI (ushr (nd (m.1 23 22)) (q32 16)) v, wI m 23 22 (nd (m.1 23 22))) := by
  unfold n_X10_draw nb_X10_draw_0 bindv bindv0
  dsimp only
  rw [if_neg h, wI_s, c32i 16]
  rfl
theorem dayL9 {F : Nat} (hF : 1000 ≤ F) {s : List Sh} {ow : Nat → Nat} {nw bc tm : Nat} (hbc : 1 ≤ bc ∧ bc ≤ 6) (htm : tm ≤ 60) : ∀ (n fuel : Nat), n < fuel → ∀ (m : Mem) (i c : Nat) (x : Int32) (al : Nat → Int32), LAY s m ow nw → HREL m nw al → US m al → al 2 = q32 bc → c ≤ i → i + n = tm → ∃ m', nl_X9_day_39 F s fuel m 0 (q32 tm) (q32 bc) x (q32 c) (q32 i) = some (q32 (DYF nd n x c al).1, m') ∧ KP nw m m' ∧ HREL m' nw (DYF nd n x c al).2 ∧ US m' (DYF nd n x c al).2 := by
  intro n
  induction n with
  | zero =>
    intro fuel hfu m i c x al hl hrel hU h2 hc hi
    obtain ⟨fuel, rfl⟩ : ∃ f, fuel = f + 1 := ⟨fuel - 1, by omega⟩
    refine ⟨m, ?_, KP.rf m, hrel, hU⟩
    show nb_X9_day_39 F s (nl_X9_day_39 F s fuel) m 0 (q32 tm) (q32 bc) x (q32 c) (q32 i) = _
    unfold nb_X9_day_39 DYF
    simp (disch := omega) only [Option.bind_some, bindv, bindv0, bind2_s, bind3_s, ↓reduceIte, Bool.false_eq_true, rZM_0, rZM_1, rZP_0, rZP_1, ptZ_0, ptZ_1, c32i, c64i, ncI, Int.natCast_add, Int.natCast_mul, q32_neg, q64_neg, q32_add, q32_sub, q32_mul, q64_add, q64_sub, q64_mul, q32_64i, q64_32, q32_lt_t, q32_lt_f, q32_le_t, q32_le_f, q32_eq_t, q32_eq_f, q64_lt_t, q64_lt_f, q64_le_t, q64_le_f, q64_eq_t, q64_eq_f, rdI_i, rdL_i, rdR_i, rdN_i, stI_i, stL_i, stR_i, wI_s, wI_n, wL_s, wL_n, wI_2, wI_3, wL_1, wL_3, wR_1, wR_2, Int.toNat_natCast, tnO, tn_add, tn_sub, tn_mul, Nat.add_sub_cancel, Nat.add_zero, Nat.zero_add, lnO, win_t, win_f]
  | succ n ih =>
    intro fuel hfu m i c x al hl hrel hU h2 hc hi
    obtain ⟨fuel, rfl⟩ : ∃ f, fuel = f + 1 := ⟨fuel - 1, by omega⟩
    have rn := hl.nw
    have g5 : m.1 nw 1 = al 5 := by obtain ⟨tp, sk, nl, bc, fc, tc, au, aw, S, U, L, V, W, X, O, h1, ⟨a0, a1, a2, a4, a5, a6, a9, a15⟩, ⟨b0, b1, b2, b3, b4, b5, b6, b7, b8⟩, h4, ⟨s1, s2, s3, s4, s5, s6, s7⟩, h6, ⟨h7, h7b⟩, h8⟩ := hrel; rw [a1, b5]
    have ud73 : ∃ ud : Nat, al 73 = q32 ud ∧ ud ≤ 12 := by obtain ⟨ud, u1, u2, u3, u4⟩ := hU; exact ⟨ud, u3, u1⟩
    have hbb : B31 (DYB nd al x) := by unfold DYB; exact ⟨by have := Int32.le_toInt (remI (ushr (nd x) (q32 16)) (al 2)); omega, by have := Int32.toInt_lt (remI (ushr (nd x) (q32 16)) (al 2)); omega⟩
    have eb : remI (ushr (nd x) (q32 16)) (q32 bc) = q32 (DYB nd al x) := by rw [← h2]; unfold DYB; exact (Int32.ofInt_toInt _).symm
    obtain ⟨m1, p1, p2, p3, p4⟩ := press9 hF hl hrel hU hbb
    have hpb := PR_b al (DYB nd al x)
    have k2 : (PR al (DYB nd al x)).2 2 = q32 bc := by
      obtain ⟨ud, u1, u2⟩ := ud73
      unfold PR
      split
      · dsimp only; rw [PRS_o u1 u2 (by omega)]; exact h2
      · exact h2
    show ∃ m', nb_X9_day_39 F s (nl_X9_day_39 F s fuel) m 0 (q32 tm) (q32 bc) x (q32 c) (q32 i) = _ ∧ _
    unfold nb_X9_day_39 DYF nb_X9_day_91 nb_X9_day_110
    by_cases hs : al 5 ≤ remI (ushr (nd (nd x)) (q32 16)) (q32 10)
    · rw [if_pos hs]
      by_cases hz : (PR al (DYB nd al x)).1 = 0
      · rw [if_pos hz]
        rw [hz] at p1
        obtain ⟨m', q1, q2, q3, q4⟩ := ih fuel (by omega) m1 (i + 1) (c + 1) (nd (nd x)) _ (hl.same p2.2.2) p3 p4 k2 (by omega) (by omega)
        refine ⟨m', ?_, p2.tr q2, q3, q4⟩
        rw [Int.natCast_add, Int.natCast_add] at q1
        simp (disch := omega) only [Option.bind_some, bindv, bindv0, bind2_s, bind3_s, ↓reduceIte, Bool.false_eq_true, rZM_0, rZM_1, rZP_0, rZP_1, ptZ_0, ptZ_1, c32i, c64i, ncI, Int.natCast_add, Int.natCast_mul, q32_neg, q64_neg, q32_add, q32_sub, q32_mul, q64_add, q64_sub, q64_mul, q32_64i, q64_32, q32_lt_t, q32_lt_f, q32_le_t, q32_le_f, q32_eq_t, q32_eq_f, q64_lt_t, q64_lt_f, q64_le_t, q64_le_f, q64_eq_t, q64_eq_f, rdI_i, rdL_i, rdR_i, rdN_i, stI_i, stL_i, stR_i, wI_s, wI_n, wL_s, wL_n, wI_2, wI_3, wL_1, wL_3, wR_1, wR_2, Int.toNat_natCast, tnO, tn_add, tn_sub, tn_mul, Nat.add_sub_cancel, Nat.add_zero, Nat.zero_add, lnO, win_t, win_f, nd9, rn, g5, eb, if_pos hs, p1]
        exact q1
      · rw [if_neg hz]
        obtain ⟨m', q1, q2, q3, q4⟩ := ih fuel (by omega) m1 (i + 1) c (nd (nd x)) _ (hl.same p2.2.2) p3 p4 k2 (by omega) (by omega)
        refine ⟨m', ?_, p2.tr q2, q3, q4⟩
        rw [Int.natCast_add] at q1
        simp (disch := omega) only [Option.bind_some, bindv, bindv0, bind2_s, bind3_s, ↓reduceIte, Bool.false_eq_true, rZM_0, rZM_1, rZP_0, rZP_1, ptZ_0, ptZ_1, c32i, c64i, ncI, Int.natCast_add, Int.natCast_mul, q32_neg, q64_neg, q32_add, q32_sub, q32_mul, q64_add, q64_sub, q64_mul, q32_64i, q64_32, q32_lt_t, q32_lt_f, q32_le_t, q32_le_f, q32_eq_t, q32_eq_f, q64_lt_t, q64_lt_f, q64_le_t, q64_le_f, q64_eq_t, q64_eq_f, rdI_i, rdL_i, rdR_i, rdN_i, stI_i, stL_i, stR_i, wI_s, wI_n, wL_s, wL_n, wI_2, wI_3, wL_1, wL_3, wR_1, wR_2, Int.toNat_natCast, tnO, tn_add, tn_sub, tn_mul, Nat.add_sub_cancel, Nat.add_zero, Nat.zero_add, lnO, win_t, win_f, nd9, rn, g5, eb, if_pos hs, p1]
        exact q1
    · rw [if_neg hs]
      obtain ⟨m', q1, q2, q3, q4⟩ := ih fuel (by omega) m (i + 1) c (nd (nd x)) al hl hrel hU h2 (by omega) (by omega)
      refine ⟨m', ?_, q2, q3, q4⟩
      rw [Int.natCast_add] at q1
      simp (disch := omega) only [Option.bind_some, bindv, bindv0, bind2_s, bind3_s, ↓reduceIte, Bool.false_eq_true, rZM_0, rZM_1, rZP_0, rZP_1, ptZ_0, ptZ_1, c32i, c64i, ncI, Int.natCast_add, Int.natCast_mul, q32_neg, q64_neg, q32_add, q32_sub, q32_mul, q64_add, q64_sub, q64_mul, q32_64i, q64_32, q32_lt_t, q32_lt_f, q32_le_t, q32_le_f, q32_eq_t, q32_eq_f, q64_lt_t, q64_lt_f, q64_le_t, q64_le_f, q64_eq_t, q64_eq_f, rdI_i, rdL_i, rdR_i, rdN_i, stI_i, stL_i, stR_i, wI_s, wI_n, wL_s, wL_n, wI_2, wI_3, wL_1, wL_3, wR_1, wR_2, Int.toNat_natCast, tnO, tn_add, tn_sub, tn_mul, Nat.add_sub_cancel, Nat.add_zero, Nat.zero_add, lnO, win_t, win_f, nd9, rn, g5, eb, if_neg hs]
      exact q1
theorem dayS10 {F : Nat} {s : List Sh} {self : Mem → Nat → Int32 → Int32 → Int32 → Option (Int32 × Mem)} {m M1 M : Mem} {bc b d x5 v2 v3 v4 : Int32} (lt : ¬ v2 ≤ v4) (r1 : m.2.2 23 1 = some 24) (c2 : rdI s m 24 2 = some bc) (d1 : n_X10_draw s m 23 bc = some (b, M1)) (d2 : n_X10_draw s M1 23 10 = some (d, M)) (r1M : M.2.2 23 1 = some 24) (c5 : rdI s M 24 5 = some x5) : nb_X10_day_42 F s self m 23 v2 v3 v4 = if d < x5 then nb_X10_day_87 F s self M 23 v2 v3 v4 else bind2 (n_X10_presses F s M 23 b) fun x9 m10 => (if x9 = 0 then (bindv (v3 + (1)) fun x11 => (nb_X10_day_87 F s self m10 23 v2 x11 v4)) else (nb_X10_day_87 F s self m10 23 v2 v3 v4)) := by
  unfold nb_X10_day_42
  rw [if_neg lt, r1, Option.bind_some, c2, Option.bind_some, d1, bind2_s, d2, bind2_s, r1M, Option.bind_some, c5, Option.bind_some]
theorem dayL10 {F : Nat} (hF : 1000 ≤ F) {s : List Sh} (hp : ∃ t, s = sB ++ t) {bc tm : Nat} (hbc : 1 ≤ bc ∧ bc ≤ 6) (htm : tm ≤ 60) {g : Int32 → Int32} (hgd : ∀ (m : Mem) (v : Int32), ¬ v = 0 → n_X10_draw s m 23 v = some (remI (ushr (g (m.1 23 22)) (q32 16)) v, wI m 23 22 (g (m.1 23 22)))) : ∀ (n fuel : Nat), n < fuel → ∀ (m : Mem) (i c : Nat) (al : Nat → Int32) (ud : Nat), RF m → WA al → (∀ k, k < 999 → m.1 24 k = al k) → al 73 = q32 ud → ud ≤ 12 → al 2 = q32 bc → c ≤ i → i + n = tm → ∃ m', nl_X10_day_42 F s fuel m 23 (q32 tm) (q32 c) (q32 i) = some (q32 (DYF g n (m.1 23 22) c al).1, m') ∧ KQ m m' ∧ ∀ k, k < 999 → m'.1 24 k = (DYF g n (m.1 23 22) c al).2 k := by
  have l24 := ln24 hp
  intro n
  induction n with
  | zero =>
    intro fuel hfu m i c al ud hr hwa hm hu h12 h2 hc hi
    obtain ⟨fuel, rfl⟩ : ∃ f, fuel = f + 1 := ⟨fuel - 1, by omega⟩
    refine ⟨m, ?_, KQ.rf m, hm⟩
    show nb_X10_day_42 F s (nl_X10_day_42 F s fuel) m 23 (q32 tm) (q32 c) (q32 i) = _
    unfold nb_X10_day_42 DYF
    simp (disch := omega) only [Option.bind_some, bindv, bindv0, bind2_s, bind3_s, ↓reduceIte, Bool.false_eq_true, rZM_0, rZM_1, rZP_0, rZP_1, ptZ_0, ptZ_1, c32i, c64i, ncI, Int.natCast_add, Int.natCast_mul, q32_neg, q64_neg, q32_add, q32_sub, q32_mul, q64_add, q64_sub, q64_mul, q32_64i, q64_32, q32_lt_t, q32_lt_f, q32_le_t, q32_le_f, q32_eq_t, q32_eq_f, q64_lt_t, q64_lt_f, q64_le_t, q64_le_f, q64_eq_t, q64_eq_f, rdI_i, rdL_i, rdR_i, rdN_i, stI_i, stL_i, stR_i, wI_s, wI_n, wL_s, wL_n, wI_2, wI_3, wL_1, wL_3, wR_1, wR_2, Int.toNat_natCast, tnO, tn_add, tn_sub, tn_mul, Nat.add_sub_cancel, Nat.add_zero, Nat.zero_add, lnO, win_t, win_f]
  | succ n ih =>
    intro fuel hfu m i c al ud hr hwa hm hu h12 h2 hc hi
    obtain ⟨fuel, rfl⟩ : ∃ f, fuel = f + 1 := ⟨fuel - 1, by omega⟩
    have r1 := rf23_1 hr
    obtain ⟨M, hM⟩ : ∃ M, M = wI (wI m 23 22 (g (m.1 23 22))) 23 22 (g (g (m.1 23 22))) := ⟨_, rfl⟩
    have kM : KQ m M := by rw [hM]; exact ((KQ.rf m).I (by omega)).I (by omega)
    have hmM : ∀ k, k < 999 → M.1 24 k = al k := fun k hk => by rw [hM]; simp (disch := omega) only [Option.bind_some, bindv, bindv0, bind2_s, bind3_s, ↓reduceIte, Bool.false_eq_true, rZM_0, rZM_1, rZP_0, rZP_1, ptZ_0, ptZ_1, c32i, c64i, ncI, Int.natCast_add, Int.natCast_mul, q32_neg, q64_neg, q32_add, q32_sub, q32_mul, q64_add, q64_sub, q64_mul, q32_64i, q64_32, q32_lt_t, q32_lt_f, q32_le_t, q32_le_f, q32_eq_t, q32_eq_f, q64_lt_t, q64_lt_f, q64_le_t, q64_le_f, q64_eq_t, q64_eq_f, rdI_i, rdL_i, rdR_i, rdN_i, stI_i, stL_i, stR_i, wI_s, wI_n, wL_s, wL_n, wI_2, wI_3, wL_1, wL_3, wR_1, wR_2, Int.toNat_natCast, tnO, tn_add, tn_sub, tn_mul, Nat.add_sub_cancel, Nat.add_zero, Nat.zero_add, lnO, win_t, win_f]; exact hm k hk
    have M22 : M.1 23 22 = g (g (m.1 23 22)) := by rw [hM]; exact wI_s _ _ _ _
    have hrM : RF M := hr.same kM.2.2
    have c2 : m.1 24 2 = q32 bc := by rw [hm 2 (by omega)]; exact h2
    have hbb : B31 (DYB g al (m.1 23 22)) := by unfold DYB; exact ⟨by have := Int32.le_toInt (remI (ushr (g (m.1 23 22)) (q32 16)) (al 2)); omega, by have := Int32.toInt_lt (remI (ushr (g (m.1 23 22)) (q32 16)) (al 2)); omega⟩
    have eb : remI (ushr (g (m.1 23 22)) (q32 16)) (q32 bc) = q32 (DYB g al (m.1 23 22)) := by rw [← h2]; unfold DYB; exact (Int32.ofInt_toInt _).symm
    obtain ⟨m1, p1, p2, p3⟩ := presses10 (m := M) hF hp hrM hwa hmM hu h12 hbb
    have hpb := PR_b al (DYB g al (m.1 23 22))
    obtain ⟨w1, ud', w2, w3⟩ := hwa.pr hu h12 (DYB g al (m.1 23 22))
    have k2 : (PR al (DYB g al (m.1 23 22))).2 2 = q32 bc := by
      unfold PR
      split
      · dsimp only; rw [PRS_o hu h12 (by omega)]; exact h2
      · exact h2
    have d1 : n_X10_draw s m 23 (q32 bc) = some (q32 (DYB g al (m.1 23 22)), wI m 23 22 (g (m.1 23 22))) := by
      rw [hgd _ _ (fun z => by have := (q32_eq (b := 0) (by omega) (by omega)).mp z; omega), eb]
    have d2 : n_X10_draw s (wI m 23 22 (g (m.1 23 22))) 23 (q32 10) = some (remI (ushr (g (g (m.1 23 22))) (q32 16)) (q32 10), M) := by
      rw [hgd _ _ (fun z => by have := (q32_eq (b := 0) (by omega) (by omega)).mp z; omega), wI_s, hM]
    have c5 : M.1 24 5 = al 5 := hmM 5 (by omega)
    have r1M : M.2.2 23 1 = some 24 := rf23_1 hrM
    have i22 : m1.1 23 22 = g (g (m.1 23 22)) := (p2.1 23 22 (by omega)).trans M22
    show ∃ m', nb_X10_day_42 F s (nl_X10_day_42 F s fuel) m 23 (q32 tm) (q32 c) (q32 i) = _ ∧ _
    have lt : ¬ (q32 tm : Int32) ≤ q32 i := fun z => by have := (q32_le (by omega) (by omega)).mp z; omega
    have rc2 : rdI s m 24 2 = some (q32 bc) := by rw [rdI_c 2 (by omega) (by omega), c2]
    have rc5 : rdI s M 24 5 = some (al 5) := by rw [rdI_c 5 (by omega) (by omega), c5]
    rw [dayS10 lt r1 rc2 d1 d2 r1M rc5]
    unfold DYF nb_X10_day_87
    by_cases hs : al 5 ≤ remI (ushr (g (g (m.1 23 22))) (q32 16)) (q32 10)
    · have hs' : ¬ (remI (ushr (g (g (m.1 23 22))) (q32 16)) (q32 10) < al 5) := Int32.not_lt.mpr hs
      rw [if_pos hs]
      by_cases hz : (PR al (DYB g al (m.1 23 22))).1 = 0
      · rw [if_pos hz]
        rw [hz] at p1
        obtain ⟨m', q1, q2, q3⟩ := ih fuel (by omega) m1 (i + 1) (c + 1) _ ud' (hrM.same p2.2.2) w1 p3 w2 w3 k2 (by omega) (by omega)
        rw [i22] at q1 q3
        refine ⟨m', ?_, kM.tr (p2.kq.tr q2), q3⟩
        rw [Int.natCast_add, Int.natCast_add] at q1
        rw [if_neg hs', p1, bind2_s]
        simp (disch := omega) only [Option.bind_some, bindv, bindv0, bind2_s, bind3_s, ↓reduceIte, Bool.false_eq_true, rZM_0, rZM_1, rZP_0, rZP_1, ptZ_0, ptZ_1, c32i, c64i, ncI, Int.natCast_add, Int.natCast_mul, q32_neg, q64_neg, q32_add, q32_sub, q32_mul, q64_add, q64_sub, q64_mul, q32_64i, q64_32, q32_lt_t, q32_lt_f, q32_le_t, q32_le_f, q32_eq_t, q32_eq_f, q64_lt_t, q64_lt_f, q64_le_t, q64_le_f, q64_eq_t, q64_eq_f, rdI_i, rdL_i, rdR_i, rdN_i, stI_i, stL_i, stR_i, wI_s, wI_n, wL_s, wL_n, wI_2, wI_3, wL_1, wL_3, wR_1, wR_2, Int.toNat_natCast, tnO, tn_add, tn_sub, tn_mul, Nat.add_sub_cancel, Nat.add_zero, Nat.zero_add, lnO, win_t, win_f]
        exact q1
      · rw [if_neg hz]
        obtain ⟨m', q1, q2, q3⟩ := ih fuel (by omega) m1 (i + 1) c _ ud' (hrM.same p2.2.2) w1 p3 w2 w3 k2 (by omega) (by omega)
        rw [i22] at q1 q3
        refine ⟨m', ?_, kM.tr (p2.kq.tr q2), q3⟩
        rw [Int.natCast_add] at q1
        rw [if_neg hs', p1, bind2_s]
        simp (disch := omega) only [Option.bind_some, bindv, bindv0, bind2_s, bind3_s, ↓reduceIte, Bool.false_eq_true, rZM_0, rZM_1, rZP_0, rZP_1, ptZ_0, ptZ_1, c32i, c64i, ncI, Int.natCast_add, Int.natCast_mul, q32_neg, q64_neg, q32_add, q32_sub, q32_mul, q64_add, q64_sub, q64_mul, q32_64i, q64_32, q32_lt_t, q32_lt_f, q32_le_t, q32_le_f, q32_eq_t, q32_eq_f, q64_lt_t, q64_lt_f, q64_le_t, q64_le_f, q64_eq_t, q64_eq_f, rdI_i, rdL_i, rdR_i, rdN_i, stI_i, stL_i, stR_i, wI_s, wI_n, wL_s, wL_n, wI_2, wI_3, wL_1, wL_3, wR_1, wR_2, Int.toNat_natCast, tnO, tn_add, tn_sub, tn_mul, Nat.add_sub_cancel, Nat.add_zero, Nat.zero_add, lnO, win_t, win_f]
        exact q1
    · have hs' : remI (ushr (g (g (m.1 23 22))) (q32 16)) (q32 10) < al 5 := Int32.not_le.mp hs
      rw [if_neg hs]
      obtain ⟨m', q1, q2, q3⟩ := ih fuel (by omega) M (i + 1) c al ud hrM hwa hmM hu h12 h2 (by omega) (by omega)
      rw [M22] at q1 q3
      refine ⟨m', ?_, kM.tr q2, q3⟩
      rw [Int.natCast_add] at q1
      rw [if_pos hs']
      simp (disch := omega) only [Option.bind_some, bindv, bindv0, bind2_s, bind3_s, ↓reduceIte, Bool.false_eq_true, rZM_0, rZM_1, rZP_0, rZP_1, ptZ_0, ptZ_1, c32i, c64i, ncI, Int.natCast_add, Int.natCast_mul, q32_neg, q64_neg, q32_add, q32_sub, q32_mul, q64_add, q64_sub, q64_mul, q32_64i, q64_32, q32_lt_t, q32_lt_f, q32_le_t, q32_le_f, q32_eq_t, q32_eq_f, q64_lt_t, q64_lt_f, q64_le_t, q64_le_f, q64_eq_t, q64_eq_f, rdI_i, rdL_i, rdR_i, rdN_i, stI_i, stL_i, stR_i, wI_s, wI_n, wL_s, wL_n, wI_2, wI_3, wL_1, wL_3, wR_1, wR_2, Int.toNat_natCast, tnO, tn_add, tn_sub, tn_mul, Nat.add_sub_cancel, Nat.add_zero, Nat.zero_add, lnO, win_t, win_f]
      exact q1
theorem opk_day {F : Nat} (hF : 1000 ≤ F) {s : List Sh} {m : Mem} (h : INV s m) (w w2 : Int32) : OPK s m (n_X9_day F s m 0 w w2) (fun m1 => n_X10_day F s m1 23 w w2) := by
  have h0 := h
  obtain ⟨hg, ow, nw, hst⟩ := h
  have hl := hst.1
  have hp := hl.hp
  have hr := hl.rf
  have hn := hl.hn
  have rn := hl.nw
  have r1 := rf23_1 hr
  have l24 := ln24 hp
  obtain ⟨v, hv, rfl⟩ := q32_of w2
  have hwa := hst.2.1.wa
  obtain ⟨tp, t1, t2, t3, t4, t5, t6, t7, bc, t8, t9, t10⟩ := hwa.at
  have g6 : m.1 nw 6 = q32 bc := by obtain ⟨tp, sk, nl, bc, fc, tc, au, aw, S, U, L, V, W, X, O, h1, ⟨a0, a1, a2, a4, a5, a6, a9, a15⟩, ⟨b0, b1, b2, b3, b4, b5, b6, b7, b8⟩, h4, ⟨s1, s2, s3, s4, s5, s6, s7⟩, h6, ⟨h7, h7b⟩, h8⟩ := hst.2.1; rw [a6, ← b2]; exact t9
  by_cases c : 1 ≤ v ∧ v ≤ 60
  · by_cases cb : bc = 0
    · subst cb
      have e1 : n_X9_day F s m 0 w (q32 v) = some (q32 (-5), m) := by
        unfold n_X9_day nb_X9_day_0
        simp (disch := omega) only [Option.bind_some, bindv, bindv0, bind2_s, bind3_s, ↓reduceIte, Bool.false_eq_true, rZM_0, rZM_1, rZP_0, rZP_1, ptZ_0, ptZ_1, c32i, c64i, ncI, Int.natCast_add, Int.natCast_mul, q32_neg, q64_neg, q32_add, q32_sub, q32_mul, q64_add, q64_sub, q64_mul, q32_64i, q64_32, q32_lt_t, q32_lt_f, q32_le_t, q32_le_f, q32_eq_t, q32_eq_f, q64_lt_t, q64_lt_f, q64_le_t, q64_le_f, q64_eq_t, q64_eq_f, rdI_i, rdL_i, rdR_i, rdN_i, stI_i, stL_i, stR_i, wI_s, wI_n, wL_s, wL_n, wI_2, wI_3, wL_1, wL_3, wR_1, wR_2, Int.toNat_natCast, tnO, tn_add, tn_sub, tn_mul, Nat.add_sub_cancel, Nat.add_zero, Nat.zero_add, lnO, win_t, win_f, rn, g6]
      have e2 : n_X10_day F s m 23 w (q32 v) = some (q32 (-5), wI m 23 0 (q32 0)) := by
        unfold n_X10_day nb_X10_day_0
        simp (disch := omega) only [Option.bind_some, bindv, bindv0, bind2_s, bind3_s, ↓reduceIte, Bool.false_eq_true, rZM_0, rZM_1, rZP_0, rZP_1, ptZ_0, ptZ_1, c32i, c64i, ncI, Int.natCast_add, Int.natCast_mul, q32_neg, q64_neg, q32_add, q32_sub, q32_mul, q64_add, q64_sub, q64_mul, q32_64i, q64_32, q32_lt_t, q32_lt_f, q32_le_t, q32_le_f, q32_eq_t, q32_eq_f, q64_lt_t, q64_lt_f, q64_le_t, q64_le_f, q64_eq_t, q64_eq_f, rdI_i, rdL_i, rdR_i, rdN_i, stI_i, stL_i, stR_i, wI_s, wI_n, wL_s, wL_n, wI_2, wI_3, wL_1, wL_3, wR_1, wR_2, Int.toNat_natCast, tnO, tn_add, tn_sub, tn_mul, Nat.add_sub_cancel, Nat.add_zero, Nat.zero_add, lnO, win_t, win_f, r1, t9]
      exact opk_fin h0 e1 e2 (un_X10_day hg (okB hp).2 e2).2 (SC.k0 m)
    · obtain ⟨tm, rfl⟩ := Int.eq_ofNat_of_zero_le (show 0 ≤ v by omega)
      obtain ⟨ud, u1, u2, u3, u4⟩ := hst.2.2.1.2
      obtain ⟨m1, p1, p2, p3, p4⟩ := dayL9 hF (bc := bc) (tm := tm) (by omega) (by omega) tm F (by omega) m 0 0 w (m.1 24) hl hst.2.1 hst.2.2.1.2 t9 (by omega) (by omega)
      have hr1 : RF m1 := hr.same p2.2.2
      have r1' := rf23_1 hr1
      have c2 : m1.1 24 2 = q32 bc := by rw [p2.1 _ _ (by omega)]; exact t9
      obtain ⟨m2, q1, q2, q3⟩ := dayL10 hF hp (bc := bc) (tm := tm) (by omega) (by omega) (g := nd) (fun m v h => draw10 h) tm F (by omega) (wI (wI m1 23 0 (q32 0)) 23 22 w) 0 0 (m.1 24) ud (hr1.same rfl) hwa (fun k hk => by simp (disch := omega) only [Option.bind_some, bindv, bindv0, bind2_s, bind3_s, ↓reduceIte, Bool.false_eq_true, rZM_0, rZM_1, rZP_0, rZP_1, ptZ_0, ptZ_1, c32i, c64i, ncI, Int.natCast_add, Int.natCast_mul, q32_neg, q64_neg, q32_add, q32_sub, q32_mul, q64_add, q64_sub, q64_mul, q32_64i, q64_32, q32_lt_t, q32_lt_f, q32_le_t, q32_le_f, q32_eq_t, q32_eq_f, q64_lt_t, q64_lt_f, q64_le_t, q64_le_f, q64_eq_t, q64_eq_f, rdI_i, rdL_i, rdR_i, rdN_i, stI_i, stL_i, stR_i, wI_s, wI_n, wL_s, wL_n, wI_2, wI_3, wL_1, wL_3, wR_1, wR_2, Int.toNat_natCast, tnO, tn_add, tn_sub, tn_mul, Nat.add_sub_cancel, Nat.add_zero, Nat.zero_add, lnO, win_t, win_f]; exact p2.1 _ _ (by omega)) u3 u1 t9 (by omega) (by omega)
      rw [wI_s] at q1 q3
      have e1 : n_X9_day F s m 0 w (q32 tm) = some (q32 (DYF nd tm w 0 (m.1 24)).1, m1) := by
        unfold n_X9_day nb_X9_day_0
        simp (disch := omega) only [Option.bind_some, bindv, bindv0, bind2_s, bind3_s, ↓reduceIte, Bool.false_eq_true, rZM_0, rZM_1, rZP_0, rZP_1, ptZ_0, ptZ_1, c32i, c64i, ncI, Int.natCast_add, Int.natCast_mul, q32_neg, q64_neg, q32_add, q32_sub, q32_mul, q64_add, q64_sub, q64_mul, q32_64i, q64_32, q32_lt_t, q32_lt_f, q32_le_t, q32_le_f, q32_eq_t, q32_eq_f, q64_lt_t, q64_lt_f, q64_le_t, q64_le_f, q64_eq_t, q64_eq_f, rdI_i, rdL_i, rdR_i, rdN_i, stI_i, stL_i, stR_i, wI_s, wI_n, wL_s, wL_n, wI_2, wI_3, wL_1, wL_3, wR_1, wR_2, Int.toNat_natCast, tnO, tn_add, tn_sub, tn_mul, Nat.add_sub_cancel, Nat.add_zero, Nat.zero_add, lnO, win_t, win_f, rn, g6]
        exact p1
      have e2 : n_X10_day F s m1 23 w (q32 tm) = some (q32 (DYF nd tm w 0 (m.1 24)).1, m2) := by
        unfold n_X10_day nb_X10_day_0
        simp (disch := omega) only [Option.bind_some, bindv, bindv0, bind2_s, bind3_s, ↓reduceIte, Bool.false_eq_true, rZM_0, rZM_1, rZP_0, rZP_1, ptZ_0, ptZ_1, c32i, c64i, ncI, Int.natCast_add, Int.natCast_mul, q32_neg, q64_neg, q32_add, q32_sub, q32_mul, q64_add, q64_sub, q64_mul, q32_64i, q64_32, q32_lt_t, q32_lt_f, q32_le_t, q32_le_f, q32_eq_t, q32_eq_f, q64_lt_t, q64_lt_f, q64_le_t, q64_le_f, q64_eq_t, q64_eq_f, rdI_i, rdL_i, rdR_i, rdN_i, stI_i, stL_i, stR_i, wI_s, wI_n, wL_s, wL_n, wI_2, wI_3, wL_1, wL_3, wR_1, wR_2, Int.toNat_natCast, tnO, tn_add, tn_sub, tn_mul, Nat.add_sub_cancel, Nat.add_zero, Nat.zero_add, lnO, win_t, win_f, r1', c2]
        exact q1
      have g2 := (un_X10_day (un_X9_day hg (okB hp).1 e1).2 (okB hp).2 e2).2
      exact ⟨_, m1, m2, e1, e2, ⟨g2, ow, nw, hst.two p2 ((((KQ.rf m1).I (by omega)).I (by omega)).tr q2) p3 p4 q3⟩, q2.2.2.trans p2.2.2⟩
  · have e1 : n_X9_day F s m 0 w (q32 v) = some (q32 (-3), m) := by
      unfold n_X9_day nb_X9_day_0
      by_cases c2 : v < 1
      · simp (disch := omega) only [Option.bind_some, bindv, bindv0, bind2_s, bind3_s, ↓reduceIte, Bool.false_eq_true, rZM_0, rZM_1, rZP_0, rZP_1, ptZ_0, ptZ_1, c32i, c64i, ncI, Int.natCast_add, Int.natCast_mul, q32_neg, q64_neg, q32_add, q32_sub, q32_mul, q64_add, q64_sub, q64_mul, q32_64i, q64_32, q32_lt_t, q32_lt_f, q32_le_t, q32_le_f, q32_eq_t, q32_eq_f, q64_lt_t, q64_lt_f, q64_le_t, q64_le_f, q64_eq_t, q64_eq_f, rdI_i, rdL_i, rdR_i, rdN_i, stI_i, stL_i, stR_i, wI_s, wI_n, wL_s, wL_n, wI_2, wI_3, wL_1, wL_3, wR_1, wR_2, Int.toNat_natCast, tnO, tn_add, tn_sub, tn_mul, Nat.add_sub_cancel, Nat.add_zero, Nat.zero_add, lnO, win_t, win_f]
      · simp (disch := omega) only [Option.bind_some, bindv, bindv0, bind2_s, bind3_s, ↓reduceIte, Bool.false_eq_true, rZM_0, rZM_1, rZP_0, rZP_1, ptZ_0, ptZ_1, c32i, c64i, ncI, Int.natCast_add, Int.natCast_mul, q32_neg, q64_neg, q32_add, q32_sub, q32_mul, q64_add, q64_sub, q64_mul, q32_64i, q64_32, q32_lt_t, q32_lt_f, q32_le_t, q32_le_f, q32_eq_t, q32_eq_f, q64_lt_t, q64_lt_f, q64_le_t, q64_le_f, q64_eq_t, q64_eq_f, rdI_i, rdL_i, rdR_i, rdN_i, stI_i, stL_i, stR_i, wI_s, wI_n, wL_s, wL_n, wI_2, wI_3, wL_1, wL_3, wR_1, wR_2, Int.toNat_natCast, tnO, tn_add, tn_sub, tn_mul, Nat.add_sub_cancel, Nat.add_zero, Nat.zero_add, lnO, win_t, win_f]
    have e2 : n_X10_day F s m 23 w (q32 v) = some (q32 (-3), wI m 23 0 (q32 0)) := by
      unfold n_X10_day nb_X10_day_0
      simp (disch := omega) only [Option.bind_some, bindv, bindv0, bind2_s, bind3_s, ↓reduceIte, Bool.false_eq_true, rZM_0, rZM_1, rZP_0, rZP_1, ptZ_0, ptZ_1, c32i, c64i, ncI, Int.natCast_add, Int.natCast_mul, q32_neg, q64_neg, q32_add, q32_sub, q32_mul, q64_add, q64_sub, q64_mul, q32_64i, q64_32, q32_lt_t, q32_lt_f, q32_le_t, q32_le_f, q32_eq_t, q32_eq_f, q64_lt_t, q64_lt_f, q64_le_t, q64_le_f, q64_eq_t, q64_eq_f, rdI_i, rdL_i, rdR_i, rdN_i, stI_i, stL_i, stR_i, wI_s, wI_n, wL_s, wL_n, wI_2, wI_3, wL_1, wL_3, wR_1, wR_2, Int.toNat_natCast, tnO, tn_add, tn_sub, tn_mul, Nat.add_sub_cancel, Nat.add_zero, Nat.zero_add, lnO, win_t, win_f]
    exact opk_fin h0 e1 e2 (un_X10_day hg (okB hp).2 e2).2 (SC.k0 m)
/-! a floor that is asked for -/
def PT (m : Mem) (r : Nat) (f : FR) : Mem := wL (wL m r 0 (q64 f.1)) r 1 (q64 f.2)
def PS (m : Mem) (f : FR) : Mem := wL (wL m 23 15 (q64 f.1)) 23 16 (q64 f.2)
theorem PT_1 (m : Mem) (r : Nat) (f : FR) : (PT m r f).1 = m.1 := rfl
theorem PT_3 (m : Mem) (r : Nat) (f : FR) : (PT m r f).2.2 = m.2.2 := rfl
theorem PT_0 (m : Mem) (r : Nat) (f : FR) : (PT m r f).2.1 r 0 = q64 f.1 := by unfold PT; simp (disch := omega) only [Option.bind_some, bindv, bindv0, bind2_s, bind3_s, ↓reduceIte, Bool.false_eq_true, rZM_0, rZM_1, rZP_0, rZP_1, ptZ_0, ptZ_1, c32i, c64i, ncI, Int.natCast_add, Int.natCast_mul, q32_neg, q64_neg, q32_add, q32_sub, q32_mul, q64_add, q64_sub, q64_mul, q32_64i, q64_32, q32_lt_t, q32_lt_f, q32_le_t, q32_le_f, q32_eq_t, q32_eq_f, q64_lt_t, q64_lt_f, q64_le_t, q64_le_f, q64_eq_t, q64_eq_f, rdI_i, rdL_i, rdR_i, rdN_i, stI_i, stL_i, stR_i, wI_s, wI_n, wL_s, wL_n, wI_2, wI_3, wL_1, wL_3, wR_1, wR_2, Int.toNat_natCast, tnO, tn_add, tn_sub, tn_mul, Nat.add_sub_cancel, Nat.add_zero, Nat.zero_add, lnO, win_t, win_f]
theorem PT_l (m : Mem) (r : Nat) (f : FR) : (PT m r f).2.1 r 1 = q64 f.2 := by unfold PT; simp (disch := omega) only [Option.bind_some, bindv, bindv0, bind2_s, bind3_s, ↓reduceIte, Bool.false_eq_true, rZM_0, rZM_1, rZP_0, rZP_1, ptZ_0, ptZ_1, c32i, c64i, ncI, Int.natCast_add, Int.natCast_mul, q32_neg, q64_neg, q32_add, q32_sub, q32_mul, q64_add, q64_sub, q64_mul, q32_64i, q64_32, q32_lt_t, q32_lt_f, q32_le_t, q32_le_f, q32_eq_t, q32_eq_f, q64_lt_t, q64_lt_f, q64_le_t, q64_le_f, q64_eq_t, q64_eq_f, rdI_i, rdL_i, rdR_i, rdN_i, stI_i, stL_i, stR_i, wI_s, wI_n, wL_s, wL_n, wI_2, wI_3, wL_1, wL_3, wR_1, wR_2, Int.toNat_natCast, tnO, tn_add, tn_sub, tn_mul, Nat.add_sub_cancel, Nat.add_zero, Nat.zero_add, lnO, win_t, win_f]
theorem PT_n {m : Mem} {r : Nat} {f : FR} {a k : Nat} (h : a ≠ r ∨ (k ≠ 0 ∧ k ≠ 1)) : (PT m r f).2.1 a k = m.2.1 a k := by unfold PT; simp (disch := omega) only [Option.bind_some, bindv, bindv0, bind2_s, bind3_s, ↓reduceIte, Bool.false_eq_true, rZM_0, rZM_1, rZP_0, rZP_1, ptZ_0, ptZ_1, c32i, c64i, ncI, Int.natCast_add, Int.natCast_mul, q32_neg, q64_neg, q32_add, q32_sub, q32_mul, q64_add, q64_sub, q64_mul, q32_64i, q64_32, q32_lt_t, q32_lt_f, q32_le_t, q32_le_f, q32_eq_t, q32_eq_f, q64_lt_t, q64_lt_f, q64_le_t, q64_le_f, q64_eq_t, q64_eq_f, rdI_i, rdL_i, rdR_i, rdN_i, stI_i, stL_i, stR_i, wI_s, wI_n, wL_s, wL_n, wI_2, wI_3, wL_1, wL_3, wR_1, wR_2, Int.toNat_natCast, tnO, tn_add, tn_sub, tn_mul, Nat.add_sub_cancel, Nat.add_zero, Nat.zero_add, lnO, win_t, win_f]
theorem PS_1 (m : Mem) (f : FR) : (PS m f).1 = m.1 := rfl
theorem PS_3 (m : Mem) (f : FR) : (PS m f).2.2 = m.2.2 := rfl
theorem PS_0 (m : Mem) (f : FR) : (PS m f).2.1 23 15 = q64 f.1 := by unfold PS; simp (disch := omega) only [Option.bind_some, bindv, bindv0, bind2_s, bind3_s, ↓reduceIte, Bool.false_eq_true, rZM_0, rZM_1, rZP_0, rZP_1, ptZ_0, ptZ_1, c32i, c64i, ncI, Int.natCast_add, Int.natCast_mul, q32_neg, q64_neg, q32_add, q32_sub, q32_mul, q64_add, q64_sub, q64_mul, q32_64i, q64_32, q32_lt_t, q32_lt_f, q32_le_t, q32_le_f, q32_eq_t, q32_eq_f, q64_lt_t, q64_lt_f, q64_le_t, q64_le_f, q64_eq_t, q64_eq_f, rdI_i, rdL_i, rdR_i, rdN_i, stI_i, stL_i, stR_i, wI_s, wI_n, wL_s, wL_n, wI_2, wI_3, wL_1, wL_3, wR_1, wR_2, Int.toNat_natCast, tnO, tn_add, tn_sub, tn_mul, Nat.add_sub_cancel, Nat.add_zero, Nat.zero_add, lnO, win_t, win_f]
theorem PS_l (m : Mem) (f : FR) : (PS m f).2.1 23 16 = q64 f.2 := by unfold PS; simp (disch := omega) only [Option.bind_some, bindv, bindv0, bind2_s, bind3_s, ↓reduceIte, Bool.false_eq_true, rZM_0, rZM_1, rZP_0, rZP_1, ptZ_0, ptZ_1, c32i, c64i, ncI, Int.natCast_add, Int.natCast_mul, q32_neg, q64_neg, q32_add, q32_sub, q32_mul, q64_add, q64_sub, q64_mul, q32_64i, q64_32, q32_lt_t, q32_lt_f, q32_le_t, q32_le_f, q32_eq_t, q32_eq_f, q64_lt_t, q64_lt_f, q64_le_t, q64_le_f, q64_eq_t, q64_eq_f, rdI_i, rdL_i, rdR_i, rdN_i, stI_i, stL_i, stR_i, wI_s, wI_n, wL_s, wL_n, wI_2, wI_3, wL_1, wL_3, wR_1, wR_2, Int.toNat_natCast, tnO, tn_add, tn_sub, tn_mul, Nat.add_sub_cancel, Nat.add_zero, Nat.zero_add, lnO, win_t, win_f]
theorem PS_n {m : Mem} {f : FR} {a k : Nat} (h : a ≠ 23 ∨ (k ≠ 15 ∧ k ≠ 16)) : (PS m f).2.1 a k = m.2.1 a k := by unfold PS; simp (disch := omega) only [Option.bind_some, bindv, bindv0, bind2_s, bind3_s, ↓reduceIte, Bool.false_eq_true, rZM_0, rZM_1, rZP_0, rZP_1, ptZ_0, ptZ_1, c32i, c64i, ncI, Int.natCast_add, Int.natCast_mul, q32_neg, q64_neg, q32_add, q32_sub, q32_mul, q64_add, q64_sub, q64_mul, q32_64i, q64_32, q32_lt_t, q32_lt_f, q32_le_t, q32_le_f, q32_eq_t, q32_eq_f, q64_lt_t, q64_lt_f, q64_le_t, q64_le_f, q64_eq_t, q64_eq_f, rdI_i, rdL_i, rdR_i, rdN_i, stI_i, stL_i, stR_i, wI_s, wI_n, wL_s, wL_n, wI_2, wI_3, wL_1, wL_3, wR_1, wR_2, Int.toNat_natCast, tnO, tn_add, tn_sub, tn_mul, Nat.add_sub_cancel, Nat.add_zero, Nat.zero_add, lnO, win_t, win_f]
theorem SC.pt {m m1 : Mem} {r : Nat} {f : FR} (h : SC m m1) (hr : 16 ≤ r ∧ r ≤ 22) : SC m (PT m1 r f) := (h.aL (by omega)).aL (by omega)
theorem SC.ps {m m1 : Mem} {f : FR} (h : SC m m1) : SC m (PS m1 f) := (h.aL (by omega)).aL (by omega)
theorem put9 {F : Nat} (hF : 200 ≤ F) {s : List Sh} {m : Mem} {r : Nat} {p q : Int} (hq : q ≠ 0) (bp : p.natAbs < 9223372036854775808) (bq : q.natAbs < 9223372036854775808) : n_X2_put F s m r (q64 p) (q64 q) = some ((), PT m r (nrm p q)) := by
  have hg := gcd_b (p := p) (q := q) hq bq
  unfold n_X2_put nb_X2_put_0 nb_X2_put_17 nb_X2_put_28 PT
  rw [m_cf hF bp bq]
  unfold nrm
  generalize Int.gcd p q = g at *
  by_cases c : q < 0
  · rw [if_pos c]
    simp (disch := omega) only [Option.bind_some, bindv, bindv0, bind2_s, bind3_s, ↓reduceIte, Bool.false_eq_true, rZM_0, rZM_1, rZP_0, rZP_1, ptZ_0, ptZ_1, c32i, c64i, ncI, Int.natCast_add, Int.natCast_mul, q32_neg, q64_neg, q32_add, q32_sub, q32_mul, q64_add, q64_sub, q64_mul, q32_64i, q64_32, q32_lt_t, q32_lt_f, q32_le_t, q32_le_f, q32_eq_t, q32_eq_f, q64_lt_t, q64_lt_f, q64_le_t, q64_le_f, q64_eq_t, q64_eq_f, rdI_i, rdL_i, rdR_i, rdN_i, stI_i, stL_i, stR_i, wI_s, wI_n, wL_s, wL_n, wI_2, wI_3, wL_1, wL_3, wR_1, wR_2, Int.toNat_natCast, tnO, tn_add, tn_sub, tn_mul, Nat.add_sub_cancel, Nat.add_zero, Nat.zero_add, lnO, win_t, win_f, q64_div_n, Int.tdiv_neg]
  · rw [if_neg c]
    simp (disch := omega) only [Option.bind_some, bindv, bindv0, bind2_s, bind3_s, ↓reduceIte, Bool.false_eq_true, rZM_0, rZM_1, rZP_0, rZP_1, ptZ_0, ptZ_1, c32i, c64i, ncI, Int.natCast_add, Int.natCast_mul, q32_neg, q64_neg, q32_add, q32_sub, q32_mul, q64_add, q64_sub, q64_mul, q32_64i, q64_32, q32_lt_t, q32_lt_f, q32_le_t, q32_le_f, q32_eq_t, q32_eq_f, q64_lt_t, q64_lt_f, q64_le_t, q64_le_f, q64_eq_t, q64_eq_f, rdI_i, rdL_i, rdR_i, rdN_i, stI_i, stL_i, stR_i, wI_s, wI_n, wL_s, wL_n, wI_2, wI_3, wL_1, wL_3, wR_1, wR_2, Int.toNat_natCast, tnO, tn_add, tn_sub, tn_mul, Nat.add_sub_cancel, Nat.add_zero, Nat.zero_add, lnO, win_t, win_f, q64_div_n]
theorem lays10e {s : List Sh} {m : Mem} {p q : Int} (hq : q ≠ 0) (bp : p.natAbs < 9223372036854775808) (bq : q.natAbs < 9223372036854775808) : n_X10_lays s m 23 (q64 p) (q64 q) = some ((), PS m (nrm p q)) := by
  obtain ⟨m', e, h1, h2, h3, h4, h5⟩ := lays10 (s := s) (m := m) hq bp bq
  rw [e]
  congr 2
  refine Prod.ext h3 (Prod.ext ?_ h4)
  funext a k
  by_cases c : a ≠ 23 ∨ (k ≠ 15 ∧ k ≠ 16)
  · rw [h5 a k c, PS_n c]
  · obtain ⟨rfl, hk⟩ : a = 23 ∧ (k = 15 ∨ k = 16) := by omega
    rcases hk with rfl | rfl
    · rw [h1, PS_0]
    · rw [h2, PS_l]
theorem asks_cases {F : Nat} (hF : 200 ≤ F) {s : List Sh} {m : Mem} {ow : Nat → Nat} {nw : Nat} (hst : ST s m ow nw) {u l : Int} (hu : B31 u) (hl : B31 l) : (∃ m1, n_X9_asksFloor F s m 0 (q32 u) (q32 l) = some (q32 0, m1) ∧ SC m m1 ∧ ∀ M, RF M → M.1 24 1 = m.1 24 1 → ∃ m2, n_X10_asks s M 23 (q64 u) (q64 l) = some (q32 0, m2) ∧ SC M m2) ∨ ∃ f : FR, FLR (A (m.1 24) 1) f.1 f.2 ∧ n_X9_asksFloor F s m 0 (q32 u) (q32 l) = some (q32 1, PT m 19 f) ∧ ∀ M, RF M → M.1 24 1 = m.1 24 1 → n_X10_asks s M 23 (q64 u) (q64 l) = some (q32 1, PS M f) := by
  have hp := hst.1.hp
  have hr := hst.1.rf
  have rn := hst.1.nw
  have r12 := rf0_12 hr
  obtain ⟨tp, t1, t2, t3, t4, t5, t6, t7, -⟩ := hst.2.1.wa.at
  have g0 : m.1 nw 0 = q32 tp := by obtain ⟨tp, sk, nl, bc, fc, tc, au, aw, S, U, L, V, W, X, O, h1, ⟨a0, a1, a2, a4, a5, a6, a9, a15⟩, ⟨b0, b1, b2, b3, b4, b5, b6, b7, b8⟩, h4, ⟨s1, s2, s3, s4, s5, s6, s7⟩, h6, ⟨h7, h7b⟩, h8⟩ := hst.2.1; rw [a0, ← b1]; exact t3
  by_cases c : 0 ≤ u ∧ 1 ≤ l
  · obtain ⟨n1, n2, n3, n4, n5⟩ := nrm_ok (p := u) (q := l) (by omega)
    have pu := put9 (s := s) (m := m) (r := 19) hF (p := u) (q := l) (by omega) (by omega) (by omega)
    have if9 := isF9 (s := s) (m := PT m 19 (nrm u l)) (n := nw) (tp := tp) g0 t2 (u := (nrm u l).1) (l := (nrm u l).2) (by omega) (by omega)
    have e9 : n_X9_asksFloor F s m 0 (q32 u) (q32 l) = some (if isF tp (nrm u l) then 1 else 0, PT m 19 (nrm u l)) := by
      unfold n_X9_asksFloor nb_X9_asksFloor_0
      simp (disch := omega) only [Option.bind_some, bindv, bindv0, bind2_s, bind3_s, ↓reduceIte, Bool.false_eq_true, rZM_0, rZM_1, rZP_0, rZP_1, ptZ_0, ptZ_1, c32i, c64i, ncI, Int.natCast_add, Int.natCast_mul, q32_neg, q64_neg, q32_add, q32_sub, q32_mul, q64_add, q64_sub, q64_mul, q32_64i, q64_32, q32_lt_t, q32_lt_f, q32_le_t, q32_le_f, q32_eq_t, q32_eq_f, q64_lt_t, q64_lt_f, q64_le_t, q64_le_f, q64_eq_t, q64_eq_f, rdI_i, rdL_i, rdR_i, rdN_i, stI_i, stL_i, stR_i, wI_s, wI_n, wL_s, wL_n, wI_2, wI_3, wL_1, wL_3, wR_1, wR_2, Int.toNat_natCast, tnO, tn_add, tn_sub, tn_mul, Nat.add_sub_cancel, Nat.add_zero, Nat.zero_add, lnO, win_t, win_f, r12, pu, PT_3, rn, PT_0, PT_l, if9]
      cases isF tp (nrm u l) <;> rfl
    have e10 : ∀ M, RF M → M.1 24 1 = m.1 24 1 → n_X10_asks s M 23 (q64 u) (q64 l) = some (if isF tp (nrm u l) then 1 else 0, PS M (nrm u l)) := fun M hM h1 => by
      have la := lays10e (s := s) (m := M) (p := u) (q := l) (by omega) (by omega) (by omega)
      have if10 := isF10 (s := s) (m := PS M (nrm u l)) hp (hM.same rfl) (tp := tp) (h1.trans t3) t2 (u := (nrm u l).1) (l := (nrm u l).2) (by omega) (by omega)
      unfold n_X10_asks nb_X10_asks_0
      simp (disch := omega) only [Option.bind_some, bindv, bindv0, bind2_s, bind3_s, ↓reduceIte, Bool.false_eq_true, rZM_0, rZM_1, rZP_0, rZP_1, ptZ_0, ptZ_1, c32i, c64i, ncI, Int.natCast_add, Int.natCast_mul, q32_neg, q64_neg, q32_add, q32_sub, q32_mul, q64_add, q64_sub, q64_mul, q32_64i, q64_32, q32_lt_t, q32_lt_f, q32_le_t, q32_le_f, q32_eq_t, q32_eq_f, q64_lt_t, q64_lt_f, q64_le_t, q64_le_f, q64_eq_t, q64_eq_f, rdI_i, rdL_i, rdR_i, rdN_i, stI_i, stL_i, stR_i, wI_s, wI_n, wL_s, wL_n, wI_2, wI_3, wL_1, wL_3, wR_1, wR_2, Int.toNat_natCast, tnO, tn_add, tn_sub, tn_mul, Nat.add_sub_cancel, Nat.add_zero, Nat.zero_add, lnO, win_t, win_f, la, PS_0, PS_l, if10]
      cases isF tp (nrm u l) <;> rfl
    cases hb : isF tp (nrm u l) with
    | true =>
      rw [hb] at e9
      refine Or.inr ⟨nrm u l, ?_, e9, fun M hM h1 => ?_⟩
      · have hb' := of_decide_eq_true hb
        rw [t4]
        exact ⟨hb'.1, hb'.2.2.1, hb'.2.1, hb'.2.2.2.1, hb'.2.2.2.2, n1⟩
      · have := e10 M hM h1
        rw [hb] at this
        exact this
    | false =>
      rw [hb] at e9
      refine Or.inl ⟨_, e9, (SC.rf m).pt (by omega), fun M hM h1 => ⟨PS M (nrm u l), ?_, (SC.rf M).ps⟩⟩
      have := e10 M hM h1
      rw [hb] at this
      exact this
  · refine Or.inl ⟨m, ?_, SC.rf m, fun M hM h1 => ⟨M, ?_, SC.rf M⟩⟩
    · unfold n_X9_asksFloor nb_X9_asksFloor_0
      by_cases c2 : u < 0
      · simp (disch := omega) only [Option.bind_some, bindv, bindv0, bind2_s, bind3_s, ↓reduceIte, Bool.false_eq_true, rZM_0, rZM_1, rZP_0, rZP_1, ptZ_0, ptZ_1, c32i, c64i, ncI, Int.natCast_add, Int.natCast_mul, q32_neg, q64_neg, q32_add, q32_sub, q32_mul, q64_add, q64_sub, q64_mul, q32_64i, q64_32, q32_lt_t, q32_lt_f, q32_le_t, q32_le_f, q32_eq_t, q32_eq_f, q64_lt_t, q64_lt_f, q64_le_t, q64_le_f, q64_eq_t, q64_eq_f, rdI_i, rdL_i, rdR_i, rdN_i, stI_i, stL_i, stR_i, wI_s, wI_n, wL_s, wL_n, wI_2, wI_3, wL_1, wL_3, wR_1, wR_2, Int.toNat_natCast, tnO, tn_add, tn_sub, tn_mul, Nat.add_sub_cancel, Nat.add_zero, Nat.zero_add, lnO, win_t, win_f]
      · simp (disch := omega) only [Option.bind_some, bindv, bindv0, bind2_s, bind3_s, ↓reduceIte, Bool.false_eq_true, rZM_0, rZM_1, rZP_0, rZP_1, ptZ_0, ptZ_1, c32i, c64i, ncI, Int.natCast_add, Int.natCast_mul, q32_neg, q64_neg, q32_add, q32_sub, q32_mul, q64_add, q64_sub, q64_mul, q32_64i, q64_32, q32_lt_t, q32_lt_f, q32_le_t, q32_le_f, q32_eq_t, q32_eq_f, q64_lt_t, q64_lt_f, q64_le_t, q64_le_f, q64_eq_t, q64_eq_f, rdI_i, rdL_i, rdR_i, rdN_i, stI_i, stL_i, stR_i, wI_s, wI_n, wL_s, wL_n, wI_2, wI_3, wL_1, wL_3, wR_1, wR_2, Int.toNat_natCast, tnO, tn_add, tn_sub, tn_mul, Nat.add_sub_cancel, Nat.add_zero, Nat.zero_add, lnO, win_t, win_f]
    · unfold n_X10_asks nb_X10_asks_0
      by_cases c2 : l < 1
      · simp (disch := omega) only [Option.bind_some, bindv, bindv0, bind2_s, bind3_s, ↓reduceIte, Bool.false_eq_true, rZM_0, rZM_1, rZP_0, rZP_1, ptZ_0, ptZ_1, c32i, c64i, ncI, Int.natCast_add, Int.natCast_mul, q32_neg, q64_neg, q32_add, q32_sub, q32_mul, q64_add, q64_sub, q64_mul, q32_64i, q64_32, q32_lt_t, q32_lt_f, q32_le_t, q32_le_f, q32_eq_t, q32_eq_f, q64_lt_t, q64_lt_f, q64_le_t, q64_le_f, q64_eq_t, q64_eq_f, rdI_i, rdL_i, rdR_i, rdN_i, stI_i, stL_i, stR_i, wI_s, wI_n, wL_s, wL_n, wI_2, wI_3, wL_1, wL_3, wR_1, wR_2, Int.toNat_natCast, tnO, tn_add, tn_sub, tn_mul, Nat.add_sub_cancel, Nat.add_zero, Nat.zero_add, lnO, win_t, win_f]
      · simp (disch := omega) only [Option.bind_some, bindv, bindv0, bind2_s, bind3_s, ↓reduceIte, Bool.false_eq_true, rZM_0, rZM_1, rZP_0, rZP_1, ptZ_0, ptZ_1, c32i, c64i, ncI, Int.natCast_add, Int.natCast_mul, q32_neg, q64_neg, q32_add, q32_sub, q32_mul, q64_add, q64_sub, q64_mul, q32_64i, q64_32, q32_lt_t, q32_lt_f, q32_le_t, q32_le_f, q32_eq_t, q32_eq_f, q64_lt_t, q64_lt_f, q64_le_t, q64_le_f, q64_eq_t, q64_eq_f, rdI_i, rdL_i, rdR_i, rdN_i, stI_i, stL_i, stR_i, wI_s, wI_n, wL_s, wL_n, wI_2, wI_3, wL_1, wL_3, wR_1, wR_2, Int.toNat_natCast, tnO, tn_add, tn_sub, tn_mul, Nat.add_sub_cancel, Nat.add_zero, Nat.zero_add, lnO, win_t, win_f]
theorem FLR.ok {tp : Int} {f : FR} (h : FLR tp f.1 f.2) : OKF f := by
  unfold FLR at h
  exact ⟨by omega, by omega, by omega, h.2.2.2.2.2⟩
theorem opk_leads {F : Nat} (hF : 1000 ≤ F) {s : List Sh} {m : Mem} (h : INV s m) (w1 w2 w3 w4 : Int32) : OPK s m (n_X9_leads F s m 0 w1 w2 w3 w4) (fun m1 => n_X10_leads F s m1 23 w1 w2 w3 w4) := by
  have h0 := h
  obtain ⟨hg, ow, nw, hst⟩ := h
  have hl := hst.1
  have hp := hl.hp
  have hr := hl.rf
  have hn := hl.hn
  have rn := hl.nw
  have r1 := rf23_1 hr
  have l24 := ln24 hp
  obtain ⟨b, hb, rfl⟩ := q32_of w1
  obtain ⟨u, hu, rfl⟩ := q32_of w2
  obtain ⟨l, hll, rfl⟩ := q32_of w3
  obtain ⟨v, hv, rfl⟩ := q32_of w4
  have r11 := rf0_11 hr
  have r12 := rf0_12 hr
  have fin : ∀ r m1 m2, n_X9_leads F s m 0 (q32 b) (q32 u) (q32 l) (q32 v) = some (r, m1) → n_X10_leads F s m1 23 (q32 b) (q32 u) (q32 l) (q32 v) = some (r, m2) → SC m m2 → OPK s m (n_X9_leads F s m 0 (q32 b) (q32 u) (q32 l) (q32 v)) (fun m1 => n_X10_leads F s m1 23 (q32 b) (q32 u) (q32 l) (q32 v)) := fun r m1 m2 e1 e2 sc =>
    opk_fin h0 e1 e2 (un_X10_leads (un_X9_leads hg (okB hp).1 e1).2 (okB hp).2 e2).2 sc
  by_cases c : 0 ≤ v ∧ v ≤ 1
  · rcases asks_cases (F := F) (by omega) hst hu hll with ⟨m1, k1, k2, k3⟩ | ⟨f, k1, k2, k3⟩
    · obtain ⟨m2, k4, k5⟩ := k3 (wI m1 23 0 (q32 0)) (hr.same k2.r) (by simp (disch := omega) only [Option.bind_some, bindv, bindv0, bind2_s, bind3_s, ↓reduceIte, Bool.false_eq_true, rZM_0, rZM_1, rZP_0, rZP_1, ptZ_0, ptZ_1, c32i, c64i, ncI, Int.natCast_add, Int.natCast_mul, q32_neg, q64_neg, q32_add, q32_sub, q32_mul, q64_add, q64_sub, q64_mul, q32_64i, q64_32, q32_lt_t, q32_lt_f, q32_le_t, q32_le_f, q32_eq_t, q32_eq_f, q64_lt_t, q64_lt_f, q64_le_t, q64_le_f, q64_eq_t, q64_eq_f, rdI_i, rdL_i, rdR_i, rdN_i, stI_i, stL_i, stR_i, wI_s, wI_n, wL_s, wL_n, wI_2, wI_3, wL_1, wL_3, wR_1, wR_2, Int.toNat_natCast, tnO, tn_add, tn_sub, tn_mul, Nat.add_sub_cancel, Nat.add_zero, Nat.zero_add, lnO, win_t, win_f]; exact k2.i _ _ (by omega))
      refine fin (q32 (-3)) m1 m2 ?_ ?_ (k2.tr ((SC.k0 m1).tr k5))
      · unfold n_X9_leads nb_X9_leads_0
        simp (disch := omega) only [Option.bind_some, bindv, bindv0, bind2_s, bind3_s, ↓reduceIte, Bool.false_eq_true, rZM_0, rZM_1, rZP_0, rZP_1, ptZ_0, ptZ_1, c32i, c64i, ncI, Int.natCast_add, Int.natCast_mul, q32_neg, q64_neg, q32_add, q32_sub, q32_mul, q64_add, q64_sub, q64_mul, q32_64i, q64_32, q32_lt_t, q32_lt_f, q32_le_t, q32_le_f, q32_eq_t, q32_eq_f, q64_lt_t, q64_lt_f, q64_le_t, q64_le_f, q64_eq_t, q64_eq_f, rdI_i, rdL_i, rdR_i, rdN_i, stI_i, stL_i, stR_i, wI_s, wI_n, wL_s, wL_n, wI_2, wI_3, wL_1, wL_3, wR_1, wR_2, Int.toNat_natCast, tnO, tn_add, tn_sub, tn_mul, Nat.add_sub_cancel, Nat.add_zero, Nat.zero_add, lnO, win_t, win_f, k1]
      · unfold n_X10_leads nb_X10_leads_0
        simp (disch := omega) only [Option.bind_some, bindv, bindv0, bind2_s, bind3_s, ↓reduceIte, Bool.false_eq_true, rZM_0, rZM_1, rZP_0, rZP_1, ptZ_0, ptZ_1, c32i, c64i, ncI, Int.natCast_add, Int.natCast_mul, q32_neg, q64_neg, q32_add, q32_sub, q32_mul, q64_add, q64_sub, q64_mul, q32_64i, q64_32, q32_lt_t, q32_lt_f, q32_le_t, q32_le_f, q32_eq_t, q32_eq_f, q64_lt_t, q64_lt_f, q64_le_t, q64_le_f, q64_eq_t, q64_eq_f, rdI_i, rdL_i, rdR_i, rdN_i, stI_i, stL_i, stR_i, wI_s, wI_n, wL_s, wL_n, wI_2, wI_3, wL_1, wL_3, wR_1, wR_2, Int.toNat_natCast, tnO, tn_add, tn_sub, tn_mul, Nat.add_sub_cancel, Nat.add_zero, Nat.zero_add, lnO, win_t, win_f, k4]
    · have hsc : SC m (PT m 19 f) := (SC.rf m).pt (by omega)
      obtain ⟨m1, p1, p2, p3⟩ := lead9 (m := PT m 19 f) hF (hl.same rfl) (hst.2.1.same (fun j hj => rfl) (fun _ _ => rfl)) k1.ok hb
      have k4 := k3 (wI m1 23 0 (q32 0)) (hr.same p2.2.2) (by simp (disch := omega) only [Option.bind_some, bindv, bindv0, bind2_s, bind3_s, ↓reduceIte, Bool.false_eq_true, rZM_0, rZM_1, rZP_0, rZP_1, ptZ_0, ptZ_1, c32i, c64i, ncI, Int.natCast_add, Int.natCast_mul, q32_neg, q64_neg, q32_add, q32_sub, q32_mul, q64_add, q64_sub, q64_mul, q32_64i, q64_32, q32_lt_t, q32_lt_f, q32_le_t, q32_le_f, q32_eq_t, q32_eq_f, q64_lt_t, q64_lt_f, q64_le_t, q64_le_f, q64_eq_t, q64_eq_f, rdI_i, rdL_i, rdR_i, rdN_i, stI_i, stL_i, stR_i, wI_s, wI_n, wL_s, wL_n, wI_2, wI_3, wL_1, wL_3, wR_1, wR_2, Int.toNat_natCast, tnO, tn_add, tn_sub, tn_mul, Nat.add_sub_cancel, Nat.add_zero, Nat.zero_add, lnO, win_t, win_f]; exact p2.1 _ _ (by omega))
      obtain ⟨m2, q1, q2, q3⟩ := lead10 (m := PS (wI m1 23 0 (q32 0)) f) hF hp (hr.same p2.2.2) hst.2.1.wa (fun k hk => by rw [PS_1]; simp (disch := omega) only [Option.bind_some, bindv, bindv0, bind2_s, bind3_s, ↓reduceIte, Bool.false_eq_true, rZM_0, rZM_1, rZP_0, rZP_1, ptZ_0, ptZ_1, c32i, c64i, ncI, Int.natCast_add, Int.natCast_mul, q32_neg, q64_neg, q32_add, q32_sub, q32_mul, q64_add, q64_sub, q64_mul, q32_64i, q64_32, q32_lt_t, q32_lt_f, q32_le_t, q32_le_f, q32_eq_t, q32_eq_f, q64_lt_t, q64_lt_f, q64_le_t, q64_le_f, q64_eq_t, q64_eq_f, rdI_i, rdL_i, rdR_i, rdN_i, stI_i, stL_i, stR_i, wI_s, wI_n, wL_s, wL_n, wI_2, wI_3, wL_1, wL_3, wR_1, wR_2, Int.toNat_natCast, tnO, tn_add, tn_sub, tn_mul, Nat.add_sub_cancel, Nat.add_zero, Nat.zero_add, lnO, win_t, win_f]; exact p2.1 _ _ (by omega)) k1.ok hb
      have hwb := LE_b (m.1 24) b f
      have e11 : m1.2.2 = m.2.2 := p2.2.2
      have c0 : (PT m 19 f).2.1 19 0 = q64 f.1 := PT_0 _ _ _
      have c1 : (PT m 19 f).2.1 19 1 = q64 f.2 := PT_l _ _ _
      have k2' : n_X9_asksFloor F s m 0 (q32 u) (q32 l) = some (q32 1, PT m 19 f) := k2
      have sc : SC m m2 := hsc.tr (p2.sc.tr ((SC.k0 m1).tr (((SC.rf _).ps).tr q2.sc)))
      by_cases hz : (LE (m.1 24) b f).1 = 0
      · obtain ⟨f1, f2, f3⟩ := p3 hz
        obtain ⟨f4, f5⟩ := q3 hz
        rw [hz] at p1 q1
        have hflr := LE_flr hst.2.1.wa (b := b) k1.ok hz
        refine fin (q32 (if v = 0 then (LE (m.1 24) b f).2.1 else (LE (m.1 24) b f).2.2)) m1 m2 ?_ ?_ sc
        · unfold n_X9_leads nb_X9_leads_0
          by_cases cv : v = 0
          · rw [if_pos cv]
            simp (disch := omega) only [Option.bind_some, bindv, bindv0, bind2_s, bind3_s, ↓reduceIte, Bool.false_eq_true, rZM_0, rZM_1, rZP_0, rZP_1, ptZ_0, ptZ_1, c32i, c64i, ncI, Int.natCast_add, Int.natCast_mul, q32_neg, q64_neg, q32_add, q32_sub, q32_mul, q64_add, q64_sub, q64_mul, q32_64i, q64_32, q32_lt_t, q32_lt_f, q32_le_t, q32_le_f, q32_eq_t, q32_eq_f, q64_lt_t, q64_lt_f, q64_le_t, q64_le_f, q64_eq_t, q64_eq_f, rdI_i, rdL_i, rdR_i, rdN_i, stI_i, stL_i, stR_i, wI_s, wI_n, wL_s, wL_n, wI_2, wI_3, wL_1, wL_3, wR_1, wR_2, Int.toNat_natCast, tnO, tn_add, tn_sub, tn_mul, Nat.add_sub_cancel, Nat.add_zero, Nat.zero_add, lnO, win_t, win_f, k2', PT_3, r11, rn, r12, c0, c1, p1, e11, f1, f2]
          · rw [if_neg cv]
            simp (disch := omega) only [Option.bind_some, bindv, bindv0, bind2_s, bind3_s, ↓reduceIte, Bool.false_eq_true, rZM_0, rZM_1, rZP_0, rZP_1, ptZ_0, ptZ_1, c32i, c64i, ncI, Int.natCast_add, Int.natCast_mul, q32_neg, q64_neg, q32_add, q32_sub, q32_mul, q64_add, q64_sub, q64_mul, q32_64i, q64_32, q32_lt_t, q32_lt_f, q32_le_t, q32_le_f, q32_eq_t, q32_eq_f, q64_lt_t, q64_lt_f, q64_le_t, q64_le_f, q64_eq_t, q64_eq_f, rdI_i, rdL_i, rdR_i, rdN_i, stI_i, stL_i, stR_i, wI_s, wI_n, wL_s, wL_n, wI_2, wI_3, wL_1, wL_3, wR_1, wR_2, Int.toNat_natCast, tnO, tn_add, tn_sub, tn_mul, Nat.add_sub_cancel, Nat.add_zero, Nat.zero_add, lnO, win_t, win_f, k2', PT_3, r11, rn, r12, c0, c1, p1, e11, f1, f2]
        · unfold n_X10_leads nb_X10_leads_0
          by_cases cv : v = 0
          · rw [if_pos cv]
            simp (disch := omega) only [Option.bind_some, bindv, bindv0, bind2_s, bind3_s, ↓reduceIte, Bool.false_eq_true, rZM_0, rZM_1, rZP_0, rZP_1, ptZ_0, ptZ_1, c32i, c64i, ncI, Int.natCast_add, Int.natCast_mul, q32_neg, q64_neg, q32_add, q32_sub, q32_mul, q64_add, q64_sub, q64_mul, q32_64i, q64_32, q32_lt_t, q32_lt_f, q32_le_t, q32_le_f, q32_eq_t, q32_eq_f, q64_lt_t, q64_lt_f, q64_le_t, q64_le_f, q64_eq_t, q64_eq_f, rdI_i, rdL_i, rdR_i, rdN_i, stI_i, stL_i, stR_i, wI_s, wI_n, wL_s, wL_n, wI_2, wI_3, wL_1, wL_3, wR_1, wR_2, Int.toNat_natCast, tnO, tn_add, tn_sub, tn_mul, Nat.add_sub_cancel, Nat.add_zero, Nat.zero_add, lnO, win_t, win_f, k4, PS_0, PS_l, q1, f4, f5]
          · rw [if_neg cv]
            simp (disch := omega) only [Option.bind_some, bindv, bindv0, bind2_s, bind3_s, ↓reduceIte, Bool.false_eq_true, rZM_0, rZM_1, rZP_0, rZP_1, ptZ_0, ptZ_1, c32i, c64i, ncI, Int.natCast_add, Int.natCast_mul, q32_neg, q64_neg, q32_add, q32_sub, q32_mul, q64_add, q64_sub, q64_mul, q32_64i, q64_32, q32_lt_t, q32_lt_f, q32_le_t, q32_le_f, q32_eq_t, q32_eq_f, q64_lt_t, q64_lt_f, q64_le_t, q64_le_f, q64_eq_t, q64_eq_f, rdI_i, rdL_i, rdR_i, rdN_i, stI_i, stL_i, stR_i, wI_s, wI_n, wL_s, wL_n, wI_2, wI_3, wL_1, wL_3, wR_1, wR_2, Int.toNat_natCast, tnO, tn_add, tn_sub, tn_mul, Nat.add_sub_cancel, Nat.add_zero, Nat.zero_add, lnO, win_t, win_f, k4, PS_0, PS_l, q1, f4, f5]
      · refine fin (q32 (-10 - (LE (m.1 24) b f).1)) m1 m2 ?_ ?_ sc
        · unfold n_X9_leads nb_X9_leads_0
          simp (disch := omega) only [Option.bind_some, bindv, bindv0, bind2_s, bind3_s, ↓reduceIte, Bool.false_eq_true, rZM_0, rZM_1, rZP_0, rZP_1, ptZ_0, ptZ_1, c32i, c64i, ncI, Int.natCast_add, Int.natCast_mul, q32_neg, q64_neg, q32_add, q32_sub, q32_mul, q64_add, q64_sub, q64_mul, q32_64i, q64_32, q32_lt_t, q32_lt_f, q32_le_t, q32_le_f, q32_eq_t, q32_eq_f, q64_lt_t, q64_lt_f, q64_le_t, q64_le_f, q64_eq_t, q64_eq_f, rdI_i, rdL_i, rdR_i, rdN_i, stI_i, stL_i, stR_i, wI_s, wI_n, wL_s, wL_n, wI_2, wI_3, wL_1, wL_3, wR_1, wR_2, Int.toNat_natCast, tnO, tn_add, tn_sub, tn_mul, Nat.add_sub_cancel, Nat.add_zero, Nat.zero_add, lnO, win_t, win_f, k2', PT_3, r11, rn, r12, c0, c1, p1]
        · unfold n_X10_leads nb_X10_leads_0
          simp (disch := omega) only [Option.bind_some, bindv, bindv0, bind2_s, bind3_s, ↓reduceIte, Bool.false_eq_true, rZM_0, rZM_1, rZP_0, rZP_1, ptZ_0, ptZ_1, c32i, c64i, ncI, Int.natCast_add, Int.natCast_mul, q32_neg, q64_neg, q32_add, q32_sub, q32_mul, q64_add, q64_sub, q64_mul, q32_64i, q64_32, q32_lt_t, q32_lt_f, q32_le_t, q32_le_f, q32_eq_t, q32_eq_f, q64_lt_t, q64_lt_f, q64_le_t, q64_le_f, q64_eq_t, q64_eq_f, rdI_i, rdL_i, rdR_i, rdN_i, stI_i, stL_i, stR_i, wI_s, wI_n, wL_s, wL_n, wI_2, wI_3, wL_1, wL_3, wR_1, wR_2, Int.toNat_natCast, tnO, tn_add, tn_sub, tn_mul, Nat.add_sub_cancel, Nat.add_zero, Nat.zero_add, lnO, win_t, win_f, k4, PS_0, PS_l, q1]
  · refine fin (q32 (-2)) m _ ?_ ?_ (SC.k0 m)
    · unfold n_X9_leads nb_X9_leads_0
      by_cases c2 : v < 0
      · simp (disch := omega) only [Option.bind_some, bindv, bindv0, bind2_s, bind3_s, ↓reduceIte, Bool.false_eq_true, rZM_0, rZM_1, rZP_0, rZP_1, ptZ_0, ptZ_1, c32i, c64i, ncI, Int.natCast_add, Int.natCast_mul, q32_neg, q64_neg, q32_add, q32_sub, q32_mul, q64_add, q64_sub, q64_mul, q32_64i, q64_32, q32_lt_t, q32_lt_f, q32_le_t, q32_le_f, q32_eq_t, q32_eq_f, q64_lt_t, q64_lt_f, q64_le_t, q64_le_f, q64_eq_t, q64_eq_f, rdI_i, rdL_i, rdR_i, rdN_i, stI_i, stL_i, stR_i, wI_s, wI_n, wL_s, wL_n, wI_2, wI_3, wL_1, wL_3, wR_1, wR_2, Int.toNat_natCast, tnO, tn_add, tn_sub, tn_mul, Nat.add_sub_cancel, Nat.add_zero, Nat.zero_add, lnO, win_t, win_f]
      · simp (disch := omega) only [Option.bind_some, bindv, bindv0, bind2_s, bind3_s, ↓reduceIte, Bool.false_eq_true, rZM_0, rZM_1, rZP_0, rZP_1, ptZ_0, ptZ_1, c32i, c64i, ncI, Int.natCast_add, Int.natCast_mul, q32_neg, q64_neg, q32_add, q32_sub, q32_mul, q64_add, q64_sub, q64_mul, q32_64i, q64_32, q32_lt_t, q32_lt_f, q32_le_t, q32_le_f, q32_eq_t, q32_eq_f, q64_lt_t, q64_lt_f, q64_le_t, q64_le_f, q64_eq_t, q64_eq_f, rdI_i, rdL_i, rdR_i, rdN_i, stI_i, stL_i, stR_i, wI_s, wI_n, wL_s, wL_n, wI_2, wI_3, wL_1, wL_3, wR_1, wR_2, Int.toNat_natCast, tnO, tn_add, tn_sub, tn_mul, Nat.add_sub_cancel, Nat.add_zero, Nat.zero_add, lnO, win_t, win_f]
    · unfold n_X10_leads nb_X10_leads_0
      simp (disch := omega) only [Option.bind_some, bindv, bindv0, bind2_s, bind3_s, ↓reduceIte, Bool.false_eq_true, rZM_0, rZM_1, rZP_0, rZP_1, ptZ_0, ptZ_1, c32i, c64i, ncI, Int.natCast_add, Int.natCast_mul, q32_neg, q64_neg, q32_add, q32_sub, q32_mul, q64_add, q64_sub, q64_mul, q32_64i, q64_32, q32_lt_t, q32_lt_f, q32_le_t, q32_le_f, q32_eq_t, q32_eq_f, q64_lt_t, q64_lt_f, q64_le_t, q64_le_f, q64_eq_t, q64_eq_f, rdI_i, rdL_i, rdR_i, rdN_i, stI_i, stL_i, stR_i, wI_s, wI_n, wL_s, wL_n, wI_2, wI_3, wL_1, wL_3, wR_1, wR_2, Int.toNat_natCast, tnO, tn_add, tn_sub, tn_mul, Nat.add_sub_cancel, Nat.add_zero, Nat.zero_add, lnO, win_t, win_f]
