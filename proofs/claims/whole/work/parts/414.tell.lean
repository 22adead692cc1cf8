/-! PURE: moves, tells -/
theorem ST.hh {s : List Sh} {m m' : Mem} {ow : Nat → Nat} {nw : Nat} (h : ST s m ow nw) (eR : m'.2.2 = m.2.2) (e1 : ∀ a k, (16 ≤ a ∧ a ≤ 22) ∨ (27 ≤ a ∧ a ≤ 49) ∨ (a = 23 ∧ k ≠ 5 ∧ k ≠ 13 ∧ k ≠ 14) ∨ (nw ≤ a ∧ a < nw + 10) ∨ (a = 24 ∧ k < 73 ∧ k ≠ 1) ∨ m'.1 a k = m.1 a k) (eL : ∀ a k, (16 ≤ a ∧ a ≤ 23) ∨ (27 ≤ a ∧ a ≤ 49) ∨ m'.2.1 a k = m.2.1 a k) (hH : HREL m' nw (m'.1 24)) : ST s m' ow nw := by
  have hn := h.1.2.2.2.1.1
  have i1 : ∀ a k, (a < 16 ∨ (23 < a ∧ a < 27) ∨ 49 < a) → (a < nw ∨ nw + 10 ≤ a) → (a ≠ 24 ∨ 73 ≤ k ∨ k = 1) → m'.1 a k = m.1 a k := fun a k h1 h2 h3 => by
    rcases e1 a k with h | h | h | h | h | h
    · omega
    · omega
    · omega
    · omega
    · omega
    · exact h
  have i23 : ∀ k, k = 5 ∨ k = 13 ∨ k = 14 → m'.1 23 k = m.1 23 k := fun k hk => by
    rcases e1 23 k with h | h | h | h | h | h
    · omega
    · omega
    · omega
    · omega
    · omega
    · exact h
  refine h.hu eR (fun a ha hb hc => funext fun k => ?_) (fun a ha hb => funext fun k => ?_) (fun k hk => i1 24 k (by omega) (by omega) (by omega)) hH ⟨?_, ?_⟩
  · unfold Fx at ha
    exact i1 a k (by omega) hc (by omega)
  · unfold Fx at ha
    rcases eL a k with h | h | h
    · omega
    · omega
    · exact h
  · obtain ⟨tpd, t1, t2, t3, t4, t5, t6, t7⟩ := h.2.2.1.1
    refine ⟨tpd, t1, t2, ?_, ?_, fun k hk => ?_, ?_, ?_⟩
    · rw [i1 0 1 (by omega) (by omega) (by omega)]; exact t3
    · rw [i23 5 (by omega)]; exact t4
    · rw [i1 1 k (by omega) (by omega) (by omega), i1 26 k (by omega) (by omega) (by omega)]; exact t5 k hk
    · rw [i23 13 (by omega), i1 0 2 (by omega) (by omega) (by omega)]; exact t6
    · rw [i23 14 (by omega), i1 0 3 (by omega) (by omega) (by omega)]; exact t7
  · obtain ⟨ud, u1, u2, u3, u4⟩ := h.2.2.1.2
    refine ⟨ud, u1, ?_, ?_, fun k hk => ?_⟩
    · rw [i1 0 10 (by omega) (by omega) (by omega)]; exact u2
    · rw [i1 24 73 (by omega) (by omega) (by omega)]; exact u3
    · rw [i1 24 (74 + k) (by omega) (by omega) (by omega), i1 24 (86 + k) (by omega) (by omega) (by omega), i1 24 1 (by omega) (by omega) (by omega), i1 14 k (by omega) (by omega) (by omega), i1 15 k (by omega) (by omega) (by omega)]
      exact u4 k hk
/-- a tenant that lives elsewhere -/
theorem HREL.ten {m m' : Mem} {n : Nat} {al al' : Nat → Int32} (h : HREL m n al) {tc t : Nat} (htc : al 4 = q32 tc) (h6 : tc ≤ 6) (ht : t < tc) {v w : Int} (hf : FLR (A al 1) v w) (hw : w ≤ 99) (eh : ∀ a k, n ≤ a ∧ a < n + 8 → m'.1 a k = m.1 a k) (e8 : ∀ k, k ≠ t → m'.1 (n + 8) k = m.1 (n + 8) k) (e9 : ∀ k, k ≠ t → m'.1 (n + 9) k = m.1 (n + 9) k) (v8 : m'.1 (n + 8) t = q32 v) (v9 : m'.1 (n + 9) t = q32 w) (ea : ∀ k, k < 999 → k ≠ 49 + t ∧ k ≠ 55 + t → al' k = al k) (a8 : al' (49 + t) = q32 v) (a9 : al' (55 + t) = q32 w) : HREL m' n al' := by
  have e : ∀ j, j < 8 → m'.1 (n + j) = m.1 (n + j) := fun j hj => funext fun k => eh _ _ (by omega)
  have e0 : m'.1 n = m.1 n := e 0 (by omega)
  unfold HREL at h ⊢
  rw [e0, e 1 (by omega), e 2 (by omega), e 3 (by omega), e 4 (by omega), e 5 (by omega), e 7 (by omega)]
  obtain ⟨tp, sk, nl, bc, fc, tc', au, aw, S, U, L, V, W, X, O, h1, h2, h3, h4, ⟨s1, s2, s3, s4, s5, s6, s7⟩, hh6, h7, h8⟩ := h
  have hA1 : A al 1 = tp := A_q h3.2.1 (by omega)
  rw [hA1] at hf
  have etc : tc' = tc := by
    have h34 := h3.2.2.2.2.1
    rw [htc] at h34
    have := (q32_eq (by omega) (by omega)).mp h34
    omega
  subst etc
  refine ⟨tp, sk, nl, bc, fc, tc', au, aw, S, U, L, fun i => if i = t then v else V i, fun i => if i = t then w else W i, X, O, h1, h2, ?_, h4, ⟨s1, s2, s3, s4, fun b hb => ?_, fun i hi => ?_, s7⟩, fun k hk => ?_, h7, fun i hi => ?_⟩
  · rw [ea 0 (by omega) (by omega), ea 1 (by omega) (by omega), ea 2 (by omega) (by omega), ea 3 (by omega) (by omega), ea 4 (by omega) (by omega), ea 5 (by omega) (by omega), ea 6 (by omega) (by omega), ea 7 (by omega) (by omega), ea 8 (by omega) (by omega)]; exact h3
  · rw [ea _ (by omega) (by omega), ea _ (by omega) (by omega)]; exact s5 b hb
  · rw [ea _ (by omega) (by omega)]; exact s6 i hi
  · obtain ⟨b1, b2, b3, b4, b5, b6, b7⟩ := hh6 k hk
    refine ⟨b1, b2, b3, b4, by rw [ea _ (by omega) (by omega)]; exact b5, by rw [ea _ (by omega) (by omega)]; exact b6, fun z hz => ?_⟩
    rw [ea _ (by omega) (by omega)]; exact b7 z hz
  · by_cases c : i = t
    · subst c
      dsimp only
      rw [if_pos rfl, if_pos rfl]
      exact ⟨v8, v9, hf, hw, a8, a9⟩
    · dsimp only
      rw [if_neg c, if_neg c, e8 i c, e9 i c, ea _ (by omega) (by omega), ea _ (by omega) (by omega)]
      exact h8 i hi
theorem opk_moves {F : Nat} (hF : 1000 ≤ F) {s : List Sh} {m : Mem} (h : INV s m) (w1 w2 w3 : Int32) : OPK s m (n_X9_moves F s m 0 w1 w2 w3) (fun m1 => n_X10_moves F s m1 23 w1 w2 w3) := by
  have h0 := h
  obtain ⟨hg, ow, nw, hst⟩ := h
  have hl := hst.1
  have hp := hl.hp
  have hr := hl.rf
  have hn := hl.hn
  have rn := hl.nw
  have r1 := rf23_1 hr
  have l24 := ln24 hp
  obtain ⟨t, ht, rfl⟩ := q32_of w1
  obtain ⟨u, hu, rfl⟩ := q32_of w2
  obtain ⟨l, hll, rfl⟩ := q32_of w3
  have r12 := rf0_12 hr
  have r13 := rf0_13 hr
  obtain ⟨fc, tp, U, L, X, O, hd, h9, h10, -, htp⟩ := hst.fd
  obtain ⟨tc, V, W, hn6, t9, t10⟩ := hst.tn htp
  have h6 := hn6.1
  have a15 := t9.1
  have fin : ∀ r m1 m2, n_X9_moves F s m 0 (q32 t) (q32 u) (q32 l) = some (r, m1) → n_X10_moves F s m1 23 (q32 t) (q32 u) (q32 l) = some (r, m2) → ST s m2 ow nw → m2.2.2 = m.2.2 → OPK s m (n_X9_moves F s m 0 (q32 t) (q32 u) (q32 l)) (fun m1 => n_X10_moves F s m1 23 (q32 t) (q32 u) (q32 l)) := fun r m1 m2 e1 e2 st er =>
    ⟨r, m1, m2, e1, e2, ⟨(un_X10_moves (un_X9_moves hg (okB hp).1 e1).2 (okB hp).2 e2).2, ow, nw, st⟩, er⟩
  by_cases ct : 0 ≤ t ∧ t < tc
  · have it : ∀ mm, T10 mm tc V W → n_X10_isTenant s mm 23 (q32 t) = some (q32 1) := fun mm hm => by rw [isTen10 hp hm h6 ht, if_pos ct]
    obtain ⟨n, rfl⟩ := Int.eq_ofNat_of_zero_le ct.1
    have hn6n : n < tc := by omega
    rcases asks_cases (F := F) (by omega) hst hu hll with ⟨m1, k1, k2, k3⟩ | ⟨f, k1, k2, k3⟩
    · obtain ⟨m2, k4, k5⟩ := k3 (wI m1 23 0 (q32 0)) (hr.same k2.r) (by simp (disch := omega) only [Option.bind_some, bindv, bindv0, bind2_s, bind3_s, ↓reduceIte, Bool.false_eq_true, rZM_0, rZM_1, rZP_0, rZP_1, ptZ_0, ptZ_1, c32i, c64i, ncI, Int.natCast_add, Int.natCast_mul, q32_neg, q64_neg, q32_add, q32_sub, q32_mul, q64_add, q64_sub, q64_mul, q32_64i, q64_32, q32_lt_t, q32_lt_f, q32_le_t, q32_le_f, q32_eq_t, q32_eq_f, q64_lt_t, q64_lt_f, q64_le_t, q64_le_f, q64_eq_t, q64_eq_f, rdI_i, rdL_i, rdR_i, rdN_i, stI_i, stL_i, stR_i, wI_s, wI_n, wL_s, wL_n, wI_2, wI_3, wL_1, wL_3, wR_1, wR_2, Int.toNat_natCast, tnO, tn_add, tn_sub, tn_mul, Nat.add_sub_cancel, Nat.add_zero, Nat.zero_add, lnO, win_t, win_f]; exact k2.i _ _ (by omega))
      have it' := it (wI m1 23 0 (q32 0)) (t10.k (fun j _ => by simp (disch := omega) only [Option.bind_some, bindv, bindv0, bind2_s, bind3_s, ↓reduceIte, Bool.false_eq_true, rZM_0, rZM_1, rZP_0, rZP_1, ptZ_0, ptZ_1, c32i, c64i, ncI, Int.natCast_add, Int.natCast_mul, q32_neg, q64_neg, q32_add, q32_sub, q32_mul, q64_add, q64_sub, q64_mul, q32_64i, q64_32, q32_lt_t, q32_lt_f, q32_le_t, q32_le_f, q32_eq_t, q32_eq_f, q64_lt_t, q64_lt_f, q64_le_t, q64_le_f, q64_eq_t, q64_eq_f, rdI_i, rdL_i, rdR_i, rdN_i, stI_i, stL_i, stR_i, wI_s, wI_n, wL_s, wL_n, wI_2, wI_3, wL_1, wL_3, wR_1, wR_2, Int.toNat_natCast, tnO, tn_add, tn_sub, tn_mul, Nat.add_sub_cancel, Nat.add_zero, Nat.zero_add, lnO, win_t, win_f]; exact k2.i _ _ (by omega)) k2.r h6)
      refine fin (q32 (-3)) m1 m2 ?_ ?_ (hst.sc (k2.tr ((SC.k0 m1).tr k5))) (k2.tr ((SC.k0 m1).tr k5)).r
      · unfold n_X9_moves nb_X9_moves_0
        simp (disch := omega) only [Option.bind_some, bindv, bindv0, bind2_s, bind3_s, ↓reduceIte, Bool.false_eq_true, rZM_0, rZM_1, rZP_0, rZP_1, ptZ_0, ptZ_1, c32i, c64i, ncI, Int.natCast_add, Int.natCast_mul, q32_neg, q64_neg, q32_add, q32_sub, q32_mul, q64_add, q64_sub, q64_mul, q32_64i, q64_32, q32_lt_t, q32_lt_f, q32_le_t, q32_le_f, q32_eq_t, q32_eq_f, q64_lt_t, q64_lt_f, q64_le_t, q64_le_f, q64_eq_t, q64_eq_f, rdI_i, rdL_i, rdR_i, rdN_i, stI_i, stL_i, stR_i, wI_s, wI_n, wL_s, wL_n, wI_2, wI_3, wL_1, wL_3, wR_1, wR_2, Int.toNat_natCast, tnO, tn_add, tn_sub, tn_mul, Nat.add_sub_cancel, Nat.add_zero, Nat.zero_add, lnO, win_t, win_f, rn, a15, k1]
      · unfold n_X10_moves nb_X10_moves_0
        simp (disch := omega) only [Option.bind_some, bindv, bindv0, bind2_s, bind3_s, ↓reduceIte, Bool.false_eq_true, rZM_0, rZM_1, rZP_0, rZP_1, ptZ_0, ptZ_1, c32i, c64i, ncI, Int.natCast_add, Int.natCast_mul, q32_neg, q64_neg, q32_add, q32_sub, q32_mul, q64_add, q64_sub, q64_mul, q32_64i, q64_32, q32_lt_t, q32_lt_f, q32_le_t, q32_le_f, q32_eq_t, q32_eq_f, q64_lt_t, q64_lt_f, q64_le_t, q64_le_f, q64_eq_t, q64_eq_f, rdI_i, rdL_i, rdR_i, rdN_i, stI_i, stL_i, stR_i, wI_s, wI_n, wL_s, wL_n, wI_2, wI_3, wL_1, wL_3, wR_1, wR_2, Int.toNat_natCast, tnO, tn_add, tn_sub, tn_mul, Nat.add_sub_cancel, Nat.add_zero, Nat.zero_add, lnO, win_t, win_f, it', k4]
    · have kf := k1
      unfold FLR at kf
      have k2' : n_X9_asksFloor F s m 0 (q32 u) (q32 l) = some (q32 1, PT m 19 f) := k2
      by_cases c99 : f.2 ≤ 99
      · -- the class
        have s9 := rent9 (m := PT m 19 f) hF hd h9 hn6 t9 hn6n (r := 20)
        have bT := STF_b hd (f := (V n, W n)) (hn6.b hd.2.2.1 hn6n).1 (Q := 99) (by omega) ⟨(hn6.b hd.2.2.1 hn6n).2.2.1, by have := (hn6.b hd.2.2.1 hn6n).2.2.2; dsimp only; omega⟩ (z := 0) (by omega)
        have bT2 := STF_b hd (f := f) kf.1 (Q := 99) (by omega) ⟨kf.2.2.1, by omega⟩ (z := 0) (by omega)
        obtain ⟨r16, r17⟩ := t9.2.1
        obtain ⟨l8, l9⟩ := t9.2.2.1
        let V' := fun i => if i = n then f.1 else V i
        let W' := fun i => if i = n then f.2 else W i
        have hn' : TN tc tp V' W' := ⟨h6, fun i hi => by
          by_cases c : i = n
          · subst c; dsimp only [V', W']; rw [if_pos rfl, if_pos rfl]; exact ⟨by rw [← htp]; exact k1, c99⟩
          · dsimp only [V', W']; rw [if_neg c, if_neg c]; exact hn6.2 i hi⟩
        generalize hg0 : STF fc U L (fun k => X k 0) O (V n, W n) = g0 at *
        let M1 := wI (wI (PT (PT m 19 f) 20 g0) (nw + 8) n (q32 f.1)) (nw + 9) n (q32 f.2)
        have t9' : T9 s M1 nw tc V' W' := by
          refine ⟨?_, t9.2.1, t9.2.2.1, fun i hi => ?_⟩
          · show (wI (wI (PT (PT m 19 f) 20 g0) (nw + 8) n (q32 f.1)) (nw + 9) n (q32 f.2)).1 nw 15 = _
            simp (disch := omega) only [Option.bind_some, bindv, bindv0, bind2_s, bind3_s, ↓reduceIte, Bool.false_eq_true, rZM_0, rZM_1, rZP_0, rZP_1, ptZ_0, ptZ_1, c32i, c64i, ncI, Int.natCast_add, Int.natCast_mul, q32_neg, q64_neg, q32_add, q32_sub, q32_mul, q64_add, q64_sub, q64_mul, q32_64i, q64_32, q32_lt_t, q32_lt_f, q32_le_t, q32_le_f, q32_eq_t, q32_eq_f, q64_lt_t, q64_lt_f, q64_le_t, q64_le_f, q64_eq_t, q64_eq_f, rdI_i, rdL_i, rdR_i, rdN_i, stI_i, stL_i, stR_i, wI_s, wI_n, wL_s, wL_n, wI_2, wI_3, wL_1, wL_3, wR_1, wR_2, Int.toNat_natCast, tnO, tn_add, tn_sub, tn_mul, Nat.add_sub_cancel, Nat.add_zero, Nat.zero_add, lnO, win_t, win_f]; exact a15
          · obtain ⟨v1, v2⟩ := t9.2.2.2 i hi
            by_cases c : i = n
            · subst c
              dsimp only [V', W']; rw [if_pos rfl, if_pos rfl]
              refine ⟨?_, ?_⟩
              · show (wI (wI (PT (PT m 19 f) 20 g0) (nw + 8) i (q32 f.1)) (nw + 9) i (q32 f.2)).1 (nw + 8) i = _
                simp (disch := omega) only [Option.bind_some, bindv, bindv0, bind2_s, bind3_s, ↓reduceIte, Bool.false_eq_true, rZM_0, rZM_1, rZP_0, rZP_1, ptZ_0, ptZ_1, c32i, c64i, ncI, Int.natCast_add, Int.natCast_mul, q32_neg, q64_neg, q32_add, q32_sub, q32_mul, q64_add, q64_sub, q64_mul, q32_64i, q64_32, q32_lt_t, q32_lt_f, q32_le_t, q32_le_f, q32_eq_t, q32_eq_f, q64_lt_t, q64_lt_f, q64_le_t, q64_le_f, q64_eq_t, q64_eq_f, rdI_i, rdL_i, rdR_i, rdN_i, stI_i, stL_i, stR_i, wI_s, wI_n, wL_s, wL_n, wI_2, wI_3, wL_1, wL_3, wR_1, wR_2, Int.toNat_natCast, tnO, tn_add, tn_sub, tn_mul, Nat.add_sub_cancel, Nat.add_zero, Nat.zero_add, lnO, win_t, win_f]
              · show (wI (wI (PT (PT m 19 f) 20 g0) (nw + 8) i (q32 f.1)) (nw + 9) i (q32 f.2)).1 (nw + 9) i = _
                simp (disch := omega) only [Option.bind_some, bindv, bindv0, bind2_s, bind3_s, ↓reduceIte, Bool.false_eq_true, rZM_0, rZM_1, rZP_0, rZP_1, ptZ_0, ptZ_1, c32i, c64i, ncI, Int.natCast_add, Int.natCast_mul, q32_neg, q64_neg, q32_add, q32_sub, q32_mul, q64_add, q64_sub, q64_mul, q32_64i, q64_32, q32_lt_t, q32_lt_f, q32_le_t, q32_le_f, q32_eq_t, q32_eq_f, q64_lt_t, q64_lt_f, q64_le_t, q64_le_f, q64_eq_t, q64_eq_f, rdI_i, rdL_i, rdR_i, rdN_i, stI_i, stL_i, stR_i, wI_s, wI_n, wL_s, wL_n, wI_2, wI_3, wL_1, wL_3, wR_1, wR_2, Int.toNat_natCast, tnO, tn_add, tn_sub, tn_mul, Nat.add_sub_cancel, Nat.add_zero, Nat.zero_add, lnO, win_t, win_f]
            · dsimp only [V', W']; rw [if_neg c, if_neg c]
              refine ⟨?_, ?_⟩
              · show (wI (wI (PT (PT m 19 f) 20 g0) (nw + 8) n (q32 f.1)) (nw + 9) n (q32 f.2)).1 (nw + 8) i = _
                simp (disch := omega) only [Option.bind_some, bindv, bindv0, bind2_s, bind3_s, ↓reduceIte, Bool.false_eq_true, rZM_0, rZM_1, rZP_0, rZP_1, ptZ_0, ptZ_1, c32i, c64i, ncI, Int.natCast_add, Int.natCast_mul, q32_neg, q64_neg, q32_add, q32_sub, q32_mul, q64_add, q64_sub, q64_mul, q32_64i, q64_32, q32_lt_t, q32_lt_f, q32_le_t, q32_le_f, q32_eq_t, q32_eq_f, q64_lt_t, q64_lt_f, q64_le_t, q64_le_f, q64_eq_t, q64_eq_f, rdI_i, rdL_i, rdR_i, rdN_i, stI_i, stL_i, stR_i, wI_s, wI_n, wL_s, wL_n, wI_2, wI_3, wL_1, wL_3, wR_1, wR_2, Int.toNat_natCast, tnO, tn_add, tn_sub, tn_mul, Nat.add_sub_cancel, Nat.add_zero, Nat.zero_add, lnO, win_t, win_f]; exact v1
              · show (wI (wI (PT (PT m 19 f) 20 g0) (nw + 8) n (q32 f.1)) (nw + 9) n (q32 f.2)).1 (nw + 9) i = _
                simp (disch := omega) only [Option.bind_some, bindv, bindv0, bind2_s, bind3_s, ↓reduceIte, Bool.false_eq_true, rZM_0, rZM_1, rZP_0, rZP_1, ptZ_0, ptZ_1, c32i, c64i, ncI, Int.natCast_add, Int.natCast_mul, q32_neg, q64_neg, q32_add, q32_sub, q32_mul, q64_add, q64_sub, q64_mul, q32_64i, q64_32, q32_lt_t, q32_lt_f, q32_le_t, q32_le_f, q32_eq_t, q32_eq_f, q64_lt_t, q64_lt_f, q64_le_t, q64_le_f, q64_eq_t, q64_eq_f, rdI_i, rdL_i, rdR_i, rdN_i, stI_i, stL_i, stR_i, wI_s, wI_n, wL_s, wL_n, wI_2, wI_3, wL_1, wL_3, wR_1, wR_2, Int.toNat_natCast, tnO, tn_add, tn_sub, tn_mul, Nat.add_sub_cancel, Nat.add_zero, Nat.zero_add, lnO, win_t, win_f]; exact v2
        have h9' : F9 s M1 nw fc U L X O := h9.k (fun a k ha => by
          show (wI (wI (PT (PT m 19 f) 20 g0) (nw + 8) n (q32 f.1)) (nw + 9) n (q32 f.2)).1 a k = _
          simp (disch := omega) only [Option.bind_some, bindv, bindv0, bind2_s, bind3_s, ↓reduceIte, Bool.false_eq_true, rZM_0, rZM_1, rZP_0, rZP_1, ptZ_0, ptZ_1, c32i, c64i, ncI, Int.natCast_add, Int.natCast_mul, q32_neg, q64_neg, q32_add, q32_sub, q32_mul, q64_add, q64_sub, q64_mul, q32_64i, q64_32, q32_lt_t, q32_lt_f, q32_le_t, q32_le_f, q32_eq_t, q32_eq_f, q64_lt_t, q64_lt_f, q64_le_t, q64_le_f, q64_eq_t, q64_eq_f, rdI_i, rdL_i, rdR_i, rdN_i, stI_i, stL_i, stR_i, wI_s, wI_n, wL_s, wL_n, wI_2, wI_3, wL_1, wL_3, wR_1, wR_2, Int.toNat_natCast, tnO, tn_add, tn_sub, tn_mul, Nat.add_sub_cancel, Nat.add_zero, Nat.zero_add, lnO, win_t, win_f]; rfl) rfl
        have s9' := rent9 (m := M1) hF hd h9' hn' t9' hn6n (r := 19)
        have eVW : ((V' n, W' n) : FR) = f := by dsimp only [V', W']; rw [if_pos rfl, if_pos rfl]
        rw [eVW] at s9'
        generalize hg1 : STF fc U L (fun k => X k 0) O f = g1 at *
        let M2 := PT M1 19 g1
        have cp := compared9 (s := s) (m := M2) (r := 19) (r' := 20) (f := g1) (g := g0) (PT_0 _ _ _) (PT_l _ _ _) (by show (PT M1 19 g1).2.1 20 0 = _; rw [PT_n (by omega)]; exact PT_0 _ _ _) (by show (PT M1 19 g1).2.1 20 1 = _; rw [PT_n (by omega)]; exact PT_l _ _ _) (by omega) (by omega) (by omega) (by omega)
        have c19 : (PT (PT m 19 f) 20 g0).2.1 19 0 = q64 f.1 := by rw [PT_n (by omega)]; exact PT_0 _ _ _
        have c191 : (PT (PT m 19 f) 20 g0).2.1 19 1 = q64 f.2 := by rw [PT_n (by omega)]; exact PT_l _ _ _
        have x15 : (PT m 19 f).2.1 19 1 = q64 f.2 := PT_l _ _ _
        have e1 : n_X9_moves F s m 0 (q32 n) (q32 u) (q32 l) = some (if g1.1 * g0.2 < g0.1 * g1.2 then q32 (-1) else if g0.1 * g1.2 < g1.1 * g0.2 then q32 1 else q32 0, M2) := by
          unfold n_X9_moves nb_X9_moves_0
          simp (disch := omega) only [Option.bind_some, bindv, bindv0, bind2_s, bind3_s, ↓reduceIte, Bool.false_eq_true, rZM_0, rZM_1, rZP_0, rZP_1, ptZ_0, ptZ_1, c32i, c64i, ncI, Int.natCast_add, Int.natCast_mul, q32_neg, q64_neg, q32_add, q32_sub, q32_mul, q64_add, q64_sub, q64_mul, q32_64i, q64_32, q32_lt_t, q32_lt_f, q32_le_t, q32_le_f, q32_eq_t, q32_eq_f, q64_lt_t, q64_lt_f, q64_le_t, q64_le_f, q64_eq_t, q64_eq_f, rdI_i, rdL_i, rdR_i, rdN_i, stI_i, stL_i, stR_i, wI_s, wI_n, wL_s, wL_n, wI_2, wI_3, wL_1, wL_3, wR_1, wR_2, Int.toNat_natCast, tnO, tn_add, tn_sub, tn_mul, Nat.add_sub_cancel, Nat.add_zero, Nat.zero_add, lnO, win_t, win_f, rn, a15, k2', PT_3, r12, r13, x15, s9, r16, r17, c19, c191]
          show bind2 (n_X0_rentOf F s M1 nw (q32 n) 19) _ = _
          rw [s9']
          simp (disch := omega) only [Option.bind_some, bindv, bindv0, bind2_s, bind3_s, ↓reduceIte, Bool.false_eq_true, rZM_0, rZM_1, rZP_0, rZP_1, ptZ_0, ptZ_1, c32i, c64i, ncI, Int.natCast_add, Int.natCast_mul, q32_neg, q64_neg, q32_add, q32_sub, q32_mul, q64_add, q64_sub, q64_mul, q32_64i, q64_32, q32_lt_t, q32_lt_f, q32_le_t, q32_le_f, q32_eq_t, q32_eq_f, q64_lt_t, q64_lt_f, q64_le_t, q64_le_f, q64_eq_t, q64_eq_f, rdI_i, rdL_i, rdR_i, rdN_i, stI_i, stL_i, stR_i, wI_s, wI_n, wL_s, wL_n, wI_2, wI_3, wL_1, wL_3, wR_1, wR_2, Int.toNat_natCast, tnO, tn_add, tn_sub, tn_mul, Nat.add_sub_cancel, Nat.add_zero, Nat.zero_add, lnO, win_t, win_f, PT_3]
          show (M2.2.2 0 12).bind _ = _
          rw [show M2.2.2 0 12 = some 19 from r12]
          simp (disch := omega) only [Option.bind_some, bindv, bindv0, bind2_s, bind3_s, ↓reduceIte, Bool.false_eq_true, rZM_0, rZM_1, rZP_0, rZP_1, ptZ_0, ptZ_1, c32i, c64i, ncI, Int.natCast_add, Int.natCast_mul, q32_neg, q64_neg, q32_add, q32_sub, q32_mul, q64_add, q64_sub, q64_mul, q32_64i, q64_32, q32_lt_t, q32_lt_f, q32_le_t, q32_le_f, q32_eq_t, q32_eq_f, q64_lt_t, q64_lt_f, q64_le_t, q64_le_f, q64_eq_t, q64_eq_f, rdI_i, rdL_i, rdR_i, rdN_i, stI_i, stL_i, stR_i, wI_s, wI_n, wL_s, wL_n, wI_2, wI_3, wL_1, wL_3, wR_1, wR_2, Int.toNat_natCast, tnO, tn_add, tn_sub, tn_mul, Nat.add_sub_cancel, Nat.add_zero, Nat.zero_add, lnO, win_t, win_f]
          show (M2.2.2 0 13).bind _ = _
          rw [show M2.2.2 0 13 = some 20 from r13]
          simp (disch := omega) only [Option.bind_some, bindv, bindv0, bind2_s, bind3_s, ↓reduceIte, Bool.false_eq_true, rZM_0, rZM_1, rZP_0, rZP_1, ptZ_0, ptZ_1, c32i, c64i, ncI, Int.natCast_add, Int.natCast_mul, q32_neg, q64_neg, q32_add, q32_sub, q32_mul, q64_add, q64_sub, q64_mul, q32_64i, q64_32, q32_lt_t, q32_lt_f, q32_le_t, q32_le_f, q32_eq_t, q32_eq_f, q64_lt_t, q64_lt_f, q64_le_t, q64_le_f, q64_eq_t, q64_eq_f, rdI_i, rdL_i, rdR_i, rdN_i, stI_i, stL_i, stR_i, wI_s, wI_n, wL_s, wL_n, wI_2, wI_3, wL_1, wL_3, wR_1, wR_2, Int.toNat_natCast, tnO, tn_add, tn_sub, tn_mul, Nat.add_sub_cancel, Nat.add_zero, Nat.zero_add, lnO, win_t, win_f]
          show (n_X2_compared s M2 19 20).bind _ = _
          rw [cp]
          rfl
        -- the reference
        have m24 : ∀ k, M2.1 24 k = m.1 24 k := fun k => by
          show (wI (wI (PT (PT m 19 f) 20 g0) (nw + 8) n (q32 f.1)) (nw + 9) n (q32 f.2)).1 24 k = _
          simp (disch := omega) only [Option.bind_some, bindv, bindv0, bind2_s, bind3_s, ↓reduceIte, Bool.false_eq_true, rZM_0, rZM_1, rZP_0, rZP_1, ptZ_0, ptZ_1, c32i, c64i, ncI, Int.natCast_add, Int.natCast_mul, q32_neg, q64_neg, q32_add, q32_sub, q32_mul, q64_add, q64_sub, q64_mul, q32_64i, q64_32, q32_lt_t, q32_lt_f, q32_le_t, q32_le_f, q32_eq_t, q32_eq_f, q64_lt_t, q64_lt_f, q64_le_t, q64_le_f, q64_eq_t, q64_eq_f, rdI_i, rdL_i, rdR_i, rdN_i, stI_i, stL_i, stR_i, wI_s, wI_n, wL_s, wL_n, wI_2, wI_3, wL_1, wL_3, wR_1, wR_2, Int.toNat_natCast, tnO, tn_add, tn_sub, tn_mul, Nat.add_sub_cancel, Nat.add_zero, Nat.zero_add, lnO, win_t, win_f]; rfl
        have it' := it (wI M2 23 0 (q32 0)) (t10.k (fun j _ => by simp (disch := omega) only [Option.bind_some, bindv, bindv0, bind2_s, bind3_s, ↓reduceIte, Bool.false_eq_true, rZM_0, rZM_1, rZP_0, rZP_1, ptZ_0, ptZ_1, c32i, c64i, ncI, Int.natCast_add, Int.natCast_mul, q32_neg, q64_neg, q32_add, q32_sub, q32_mul, q64_add, q64_sub, q64_mul, q32_64i, q64_32, q32_lt_t, q32_lt_f, q32_le_t, q32_le_f, q32_eq_t, q32_eq_f, q64_lt_t, q64_lt_f, q64_le_t, q64_le_f, q64_eq_t, q64_eq_f, rdI_i, rdL_i, rdR_i, rdN_i, stI_i, stL_i, stR_i, wI_s, wI_n, wL_s, wL_n, wI_2, wI_3, wL_1, wL_3, wR_1, wR_2, Int.toNat_natCast, tnO, tn_add, tn_sub, tn_mul, Nat.add_sub_cancel, Nat.add_zero, Nat.zero_add, lnO, win_t, win_f]; exact m24 j) rfl h6)
        have k4 := k3 (wI M2 23 0 (q32 0)) (hr.same rfl) (by simp (disch := omega) only [Option.bind_some, bindv, bindv0, bind2_s, bind3_s, ↓reduceIte, Bool.false_eq_true, rZM_0, rZM_1, rZP_0, rZP_1, ptZ_0, ptZ_1, c32i, c64i, ncI, Int.natCast_add, Int.natCast_mul, q32_neg, q64_neg, q32_add, q32_sub, q32_mul, q64_add, q64_sub, q64_mul, q32_64i, q64_32, q32_lt_t, q32_lt_f, q32_le_t, q32_le_f, q32_eq_t, q32_eq_f, q64_lt_t, q64_lt_f, q64_le_t, q64_le_f, q64_eq_t, q64_eq_f, rdI_i, rdL_i, rdR_i, rdN_i, stI_i, stL_i, stR_i, wI_s, wI_n, wL_s, wL_n, wI_2, wI_3, wL_1, wL_3, wR_1, wR_2, Int.toNat_natCast, tnO, tn_add, tn_sub, tn_mul, Nat.add_sub_cancel, Nat.add_zero, Nat.zero_add, lnO, win_t, win_f]; exact m24 1)
        have f10' : F10 (PS (wI M2 23 0 (q32 0)) f) fc U L X := h10.k (fun j _ => by rw [PS_1]; simp (disch := omega) only [Option.bind_some, bindv, bindv0, bind2_s, bind3_s, ↓reduceIte, Bool.false_eq_true, rZM_0, rZM_1, rZP_0, rZP_1, ptZ_0, ptZ_1, c32i, c64i, ncI, Int.natCast_add, Int.natCast_mul, q32_neg, q64_neg, q32_add, q32_sub, q32_mul, q64_add, q64_sub, q64_mul, q32_64i, q64_32, q32_lt_t, q32_lt_f, q32_le_t, q32_le_f, q32_eq_t, q32_eq_f, q64_lt_t, q64_lt_f, q64_le_t, q64_le_f, q64_eq_t, q64_eq_f, rdI_i, rdL_i, rdR_i, rdN_i, stI_i, stL_i, stR_i, wI_s, wI_n, wL_s, wL_n, wI_2, wI_3, wL_1, wL_3, wR_1, wR_2, Int.toNat_natCast, tnO, tn_add, tn_sub, tn_mul, Nat.add_sub_cancel, Nat.add_zero, Nat.zero_add, lnO, win_t, win_f]; exact m24 j) rfl hd.1
        have t10' : T10 (PS (wI M2 23 0 (q32 0)) f) tc V W := t10.k (fun j _ => by rw [PS_1]; simp (disch := omega) only [Option.bind_some, bindv, bindv0, bind2_s, bind3_s, ↓reduceIte, Bool.false_eq_true, rZM_0, rZM_1, rZP_0, rZP_1, ptZ_0, ptZ_1, c32i, c64i, ncI, Int.natCast_add, Int.natCast_mul, q32_neg, q64_neg, q32_add, q32_sub, q32_mul, q64_add, q64_sub, q64_mul, q32_64i, q64_32, q32_lt_t, q32_lt_f, q32_le_t, q32_le_f, q32_eq_t, q32_eq_f, q64_lt_t, q64_lt_f, q64_le_t, q64_le_f, q64_eq_t, q64_eq_f, rdI_i, rdL_i, rdR_i, rdN_i, stI_i, stL_i, stR_i, wI_s, wI_n, wL_s, wL_n, wI_2, wI_3, wL_1, wL_3, wR_1, wR_2, Int.toNat_natCast, tnO, tn_add, tn_sub, tn_mul, Nat.add_sub_cancel, Nat.add_zero, Nat.zero_add, lnO, win_t, win_f]; exact m24 j) rfl h6
        obtain ⟨m3, d1, d2, d3, d4⟩ := rent10 hF hp hd f10' hn6 t10' hn6n
        rw [hg0] at d3 d4
        let M4 := wI (wI m3 24 (49 + n) (q32 f.1)) 24 (55 + n) (q32 f.2)
        have n24 : ∀ k, m3.1 24 k = m.1 24 k := fun k => by rw [d2.2.1 _ _ (by omega), PS_1]; simp (disch := omega) only [Option.bind_some, bindv, bindv0, bind2_s, bind3_s, ↓reduceIte, Bool.false_eq_true, rZM_0, rZM_1, rZP_0, rZP_1, ptZ_0, ptZ_1, c32i, c64i, ncI, Int.natCast_add, Int.natCast_mul, q32_neg, q64_neg, q32_add, q32_sub, q32_mul, q64_add, q64_sub, q64_mul, q32_64i, q64_32, q32_lt_t, q32_lt_f, q32_le_t, q32_le_f, q32_eq_t, q32_eq_f, q64_lt_t, q64_lt_f, q64_le_t, q64_le_f, q64_eq_t, q64_eq_f, rdI_i, rdL_i, rdR_i, rdN_i, stI_i, stL_i, stR_i, wI_s, wI_n, wL_s, wL_n, wI_2, wI_3, wL_1, wL_3, wR_1, wR_2, Int.toNat_natCast, tnO, tn_add, tn_sub, tn_mul, Nat.add_sub_cancel, Nat.add_zero, Nat.zero_add, lnO, win_t, win_f]; exact m24 k
        have r1' : m3.2.2 23 1 = some 24 := by rw [d2.1]; exact r1
        have f10'' : F10 M4 fc U L X := by
          refine ⟨hr.same (by show m3.2.2 = m.2.2; rw [d2.1]; rfl), ?_, fun k hk => ?_⟩
          · show (wI (wI m3 24 (49 + n) (q32 f.1)) 24 (55 + n) (q32 f.2)).1 24 3 = _
            simp (disch := omega) only [Option.bind_some, bindv, bindv0, bind2_s, bind3_s, ↓reduceIte, Bool.false_eq_true, rZM_0, rZM_1, rZP_0, rZP_1, ptZ_0, ptZ_1, c32i, c64i, ncI, Int.natCast_add, Int.natCast_mul, q32_neg, q64_neg, q32_add, q32_sub, q32_mul, q64_add, q64_sub, q64_mul, q32_64i, q64_32, q32_lt_t, q32_lt_f, q32_le_t, q32_le_f, q32_eq_t, q32_eq_f, q64_lt_t, q64_lt_f, q64_le_t, q64_le_f, q64_eq_t, q64_eq_f, rdI_i, rdL_i, rdR_i, rdN_i, stI_i, stL_i, stR_i, wI_s, wI_n, wL_s, wL_n, wI_2, wI_3, wL_1, wL_3, wR_1, wR_2, Int.toNat_natCast, tnO, tn_add, tn_sub, tn_mul, Nat.add_sub_cancel, Nat.add_zero, Nat.zero_add, lnO, win_t, win_f, n24]; exact h10.2.1
          · obtain ⟨v1, v2, v3⟩ := h10.2.2 k hk
            have := hd.1
            refine ⟨?_, ?_, fun z hz => ?_⟩
            · show (wI (wI m3 24 (49 + n) (q32 f.1)) 24 (55 + n) (q32 f.2)).1 24 (9 + k) = _
              simp (disch := omega) only [Option.bind_some, bindv, bindv0, bind2_s, bind3_s, ↓reduceIte, Bool.false_eq_true, rZM_0, rZM_1, rZP_0, rZP_1, ptZ_0, ptZ_1, c32i, c64i, ncI, Int.natCast_add, Int.natCast_mul, q32_neg, q64_neg, q32_add, q32_sub, q32_mul, q64_add, q64_sub, q64_mul, q32_64i, q64_32, q32_lt_t, q32_lt_f, q32_le_t, q32_le_f, q32_eq_t, q32_eq_f, q64_lt_t, q64_lt_f, q64_le_t, q64_le_f, q64_eq_t, q64_eq_f, rdI_i, rdL_i, rdR_i, rdN_i, stI_i, stL_i, stR_i, wI_s, wI_n, wL_s, wL_n, wI_2, wI_3, wL_1, wL_3, wR_1, wR_2, Int.toNat_natCast, tnO, tn_add, tn_sub, tn_mul, Nat.add_sub_cancel, Nat.add_zero, Nat.zero_add, lnO, win_t, win_f, n24]; exact v1
            · show (wI (wI m3 24 (49 + n) (q32 f.1)) 24 (55 + n) (q32 f.2)).1 24 (17 + k) = _
              simp (disch := omega) only [Option.bind_some, bindv, bindv0, bind2_s, bind3_s, ↓reduceIte, Bool.false_eq_true, rZM_0, rZM_1, rZP_0, rZP_1, ptZ_0, ptZ_1, c32i, c64i, ncI, Int.natCast_add, Int.natCast_mul, q32_neg, q64_neg, q32_add, q32_sub, q32_mul, q64_add, q64_sub, q64_mul, q32_64i, q64_32, q32_lt_t, q32_lt_f, q32_le_t, q32_le_f, q32_eq_t, q32_eq_f, q64_lt_t, q64_lt_f, q64_le_t, q64_le_f, q64_eq_t, q64_eq_f, rdI_i, rdL_i, rdR_i, rdN_i, stI_i, stL_i, stR_i, wI_s, wI_n, wL_s, wL_n, wI_2, wI_3, wL_1, wL_3, wR_1, wR_2, Int.toNat_natCast, tnO, tn_add, tn_sub, tn_mul, Nat.add_sub_cancel, Nat.add_zero, Nat.zero_add, lnO, win_t, win_f, n24]; exact v2
            · show (wI (wI m3 24 (49 + n) (q32 f.1)) 24 (55 + n) (q32 f.2)).1 24 (25 + 8 * z + k) = _
              simp (disch := omega) only [Option.bind_some, bindv, bindv0, bind2_s, bind3_s, ↓reduceIte, Bool.false_eq_true, rZM_0, rZM_1, rZP_0, rZP_1, ptZ_0, ptZ_1, c32i, c64i, ncI, Int.natCast_add, Int.natCast_mul, q32_neg, q64_neg, q32_add, q32_sub, q32_mul, q64_add, q64_sub, q64_mul, q32_64i, q64_32, q32_lt_t, q32_lt_f, q32_le_t, q32_le_f, q32_eq_t, q32_eq_f, q64_lt_t, q64_lt_f, q64_le_t, q64_le_f, q64_eq_t, q64_eq_f, rdI_i, rdL_i, rdR_i, rdN_i, stI_i, stL_i, stR_i, wI_s, wI_n, wL_s, wL_n, wI_2, wI_3, wL_1, wL_3, wR_1, wR_2, Int.toNat_natCast, tnO, tn_add, tn_sub, tn_mul, Nat.add_sub_cancel, Nat.add_zero, Nat.zero_add, lnO, win_t, win_f, n24]; exact v3 z hz
        have t10'' : T10 M4 tc V' W' := by
          refine ⟨f10''.1, ?_, fun i hi => ?_⟩
          · show (wI (wI m3 24 (49 + n) (q32 f.1)) 24 (55 + n) (q32 f.2)).1 24 4 = _
            simp (disch := omega) only [Option.bind_some, bindv, bindv0, bind2_s, bind3_s, ↓reduceIte, Bool.false_eq_true, rZM_0, rZM_1, rZP_0, rZP_1, ptZ_0, ptZ_1, c32i, c64i, ncI, Int.natCast_add, Int.natCast_mul, q32_neg, q64_neg, q32_add, q32_sub, q32_mul, q64_add, q64_sub, q64_mul, q32_64i, q64_32, q32_lt_t, q32_lt_f, q32_le_t, q32_le_f, q32_eq_t, q32_eq_f, q64_lt_t, q64_lt_f, q64_le_t, q64_le_f, q64_eq_t, q64_eq_f, rdI_i, rdL_i, rdR_i, rdN_i, stI_i, stL_i, stR_i, wI_s, wI_n, wL_s, wL_n, wI_2, wI_3, wL_1, wL_3, wR_1, wR_2, Int.toNat_natCast, tnO, tn_add, tn_sub, tn_mul, Nat.add_sub_cancel, Nat.add_zero, Nat.zero_add, lnO, win_t, win_f, n24]; exact t10.2.1
          · obtain ⟨v1, v2⟩ := t10.2.2 i hi
            by_cases c : i = n
            · subst c
              dsimp only [V', W']; rw [if_pos rfl, if_pos rfl]
              refine ⟨?_, ?_⟩
              · show (wI (wI m3 24 (49 + i) (q32 f.1)) 24 (55 + i) (q32 f.2)).1 24 (49 + i) = _
                simp (disch := omega) only [Option.bind_some, bindv, bindv0, bind2_s, bind3_s, ↓reduceIte, Bool.false_eq_true, rZM_0, rZM_1, rZP_0, rZP_1, ptZ_0, ptZ_1, c32i, c64i, ncI, Int.natCast_add, Int.natCast_mul, q32_neg, q64_neg, q32_add, q32_sub, q32_mul, q64_add, q64_sub, q64_mul, q32_64i, q64_32, q32_lt_t, q32_lt_f, q32_le_t, q32_le_f, q32_eq_t, q32_eq_f, q64_lt_t, q64_lt_f, q64_le_t, q64_le_f, q64_eq_t, q64_eq_f, rdI_i, rdL_i, rdR_i, rdN_i, stI_i, stL_i, stR_i, wI_s, wI_n, wL_s, wL_n, wI_2, wI_3, wL_1, wL_3, wR_1, wR_2, Int.toNat_natCast, tnO, tn_add, tn_sub, tn_mul, Nat.add_sub_cancel, Nat.add_zero, Nat.zero_add, lnO, win_t, win_f]
              · show (wI (wI m3 24 (49 + i) (q32 f.1)) 24 (55 + i) (q32 f.2)).1 24 (55 + i) = _
                simp (disch := omega) only [Option.bind_some, bindv, bindv0, bind2_s, bind3_s, ↓reduceIte, Bool.false_eq_true, rZM_0, rZM_1, rZP_0, rZP_1, ptZ_0, ptZ_1, c32i, c64i, ncI, Int.natCast_add, Int.natCast_mul, q32_neg, q64_neg, q32_add, q32_sub, q32_mul, q64_add, q64_sub, q64_mul, q32_64i, q64_32, q32_lt_t, q32_lt_f, q32_le_t, q32_le_f, q32_eq_t, q32_eq_f, q64_lt_t, q64_lt_f, q64_le_t, q64_le_f, q64_eq_t, q64_eq_f, rdI_i, rdL_i, rdR_i, rdN_i, stI_i, stL_i, stR_i, wI_s, wI_n, wL_s, wL_n, wI_2, wI_3, wL_1, wL_3, wR_1, wR_2, Int.toNat_natCast, tnO, tn_add, tn_sub, tn_mul, Nat.add_sub_cancel, Nat.add_zero, Nat.zero_add, lnO, win_t, win_f]
            · dsimp only [V', W']; rw [if_neg c, if_neg c]
              refine ⟨?_, ?_⟩
              · show (wI (wI m3 24 (49 + n) (q32 f.1)) 24 (55 + n) (q32 f.2)).1 24 (49 + i) = _
                simp (disch := omega) only [Option.bind_some, bindv, bindv0, bind2_s, bind3_s, ↓reduceIte, Bool.false_eq_true, rZM_0, rZM_1, rZP_0, rZP_1, ptZ_0, ptZ_1, c32i, c64i, ncI, Int.natCast_add, Int.natCast_mul, q32_neg, q64_neg, q32_add, q32_sub, q32_mul, q64_add, q64_sub, q64_mul, q32_64i, q64_32, q32_lt_t, q32_lt_f, q32_le_t, q32_le_f, q32_eq_t, q32_eq_f, q64_lt_t, q64_lt_f, q64_le_t, q64_le_f, q64_eq_t, q64_eq_f, rdI_i, rdL_i, rdR_i, rdN_i, stI_i, stL_i, stR_i, wI_s, wI_n, wL_s, wL_n, wI_2, wI_3, wL_1, wL_3, wR_1, wR_2, Int.toNat_natCast, tnO, tn_add, tn_sub, tn_mul, Nat.add_sub_cancel, Nat.add_zero, Nat.zero_add, lnO, win_t, win_f, n24]; exact v1
              · show (wI (wI m3 24 (49 + n) (q32 f.1)) 24 (55 + n) (q32 f.2)).1 24 (55 + i) = _
                simp (disch := omega) only [Option.bind_some, bindv, bindv0, bind2_s, bind3_s, ↓reduceIte, Bool.false_eq_true, rZM_0, rZM_1, rZP_0, rZP_1, ptZ_0, ptZ_1, c32i, c64i, ncI, Int.natCast_add, Int.natCast_mul, q32_neg, q64_neg, q32_add, q32_sub, q32_mul, q64_add, q64_sub, q64_mul, q32_64i, q64_32, q32_lt_t, q32_lt_f, q32_le_t, q32_le_f, q32_eq_t, q32_eq_f, q64_lt_t, q64_lt_f, q64_le_t, q64_le_f, q64_eq_t, q64_eq_f, rdI_i, rdL_i, rdR_i, rdN_i, stI_i, stL_i, stR_i, wI_s, wI_n, wL_s, wL_n, wI_2, wI_3, wL_1, wL_3, wR_1, wR_2, Int.toNat_natCast, tnO, tn_add, tn_sub, tn_mul, Nat.add_sub_cancel, Nat.add_zero, Nat.zero_add, lnO, win_t, win_f, n24]; exact v2
        obtain ⟨m5, y1, y2, y3, y4⟩ := rent10 hF hp hd f10'' hn' t10'' hn6n
        rw [eVW, hg1] at y3 y4
        have ag := agn (a := g1.1) (b := g1.2) (c := g0.1) (d := g0.2) (by omega) (by omega) (by omega) (by omega)
        have e2 : n_X10_moves F s M2 23 (q32 n) (q32 u) (q32 l) = some (if g1.1 * g0.2 < g0.1 * g1.2 then q32 (-1) else if g0.1 * g1.2 < g1.1 * g0.2 then q32 1 else q32 0, m5) := by
          unfold n_X10_moves nb_X10_moves_0
          simp (disch := omega) only [Option.bind_some, bindv, bindv0, bind2_s, bind3_s, ↓reduceIte, Bool.false_eq_true, rZM_0, rZM_1, rZP_0, rZP_1, ptZ_0, ptZ_1, c32i, c64i, ncI, Int.natCast_add, Int.natCast_mul, q32_neg, q64_neg, q32_add, q32_sub, q32_mul, q64_add, q64_sub, q64_mul, q32_64i, q64_32, q32_lt_t, q32_lt_f, q32_le_t, q32_le_f, q32_eq_t, q32_eq_f, q64_lt_t, q64_lt_f, q64_le_t, q64_le_f, q64_eq_t, q64_eq_f, rdI_i, rdL_i, rdR_i, rdN_i, stI_i, stL_i, stR_i, wI_s, wI_n, wL_s, wL_n, wI_2, wI_3, wL_1, wL_3, wR_1, wR_2, Int.toNat_natCast, tnO, tn_add, tn_sub, tn_mul, Nat.add_sub_cancel, Nat.add_zero, Nat.zero_add, lnO, win_t, win_f, it', k4, PS_0, PS_l, d1, r1', l24]
          show bind2 (n_X10_laysRent F s M4 23 (q32 n)) _ = _
          rw [y1]
          simp (disch := omega) only [Option.bind_some, bindv, bindv0, bind2_s, bind3_s, ↓reduceIte, Bool.false_eq_true, rZM_0, rZM_1, rZP_0, rZP_1, ptZ_0, ptZ_1, c32i, c64i, ncI, Int.natCast_add, Int.natCast_mul, q32_neg, q64_neg, q32_add, q32_sub, q32_mul, q64_add, q64_sub, q64_mul, q32_64i, q64_32, q32_lt_t, q32_lt_f, q32_le_t, q32_le_f, q32_eq_t, q32_eq_f, q64_lt_t, q64_lt_f, q64_le_t, q64_le_f, q64_eq_t, q64_eq_f, rdI_i, rdL_i, rdR_i, rdN_i, stI_i, stL_i, stR_i, wI_s, wI_n, wL_s, wL_n, wI_2, wI_3, wL_1, wL_3, wR_1, wR_2, Int.toNat_natCast, tnO, tn_add, tn_sub, tn_mul, Nat.add_sub_cancel, Nat.add_zero, Nat.zero_add, lnO, win_t, win_f, y3, y4, d3, d4, ag]
        have er : m5.2.2 = m.2.2 := by rw [y2.1]; show m3.2.2 = m.2.2; rw [d2.1]; rfl
        have q24 : ∀ k, k ≠ 49 + n ∧ k ≠ 55 + n → m5.1 24 k = m.1 24 k := fun k hk => by
          rw [y2.2.1 _ _ (by omega)]
          show (wI (wI m3 24 (49 + n) (q32 f.1)) 24 (55 + n) (q32 f.2)).1 24 k = _
          simp (disch := omega) only [Option.bind_some, bindv, bindv0, bind2_s, bind3_s, ↓reduceIte, Bool.false_eq_true, rZM_0, rZM_1, rZP_0, rZP_1, ptZ_0, ptZ_1, c32i, c64i, ncI, Int.natCast_add, Int.natCast_mul, q32_neg, q64_neg, q32_add, q32_sub, q32_mul, q64_add, q64_sub, q64_mul, q32_64i, q64_32, q32_lt_t, q32_lt_f, q32_le_t, q32_le_f, q32_eq_t, q32_eq_f, q64_lt_t, q64_lt_f, q64_le_t, q64_le_f, q64_eq_t, q64_eq_f, rdI_i, rdL_i, rdR_i, rdN_i, stI_i, stL_i, stR_i, wI_s, wI_n, wL_s, wL_n, wI_2, wI_3, wL_1, wL_3, wR_1, wR_2, Int.toNat_natCast, tnO, tn_add, tn_sub, tn_mul, Nat.add_sub_cancel, Nat.add_zero, Nat.zero_add, lnO, win_t, win_f, n24]
        have qot : ∀ a k, a ≠ 30 ∧ a ≠ 24 ∧ (a ≠ 23 ∨ k ≠ 0) → m5.1 a k = M2.1 a k := fun a k hk => by
          rw [y2.2.1 _ _ (by omega)]
          show (wI (wI m3 24 (49 + n) (q32 f.1)) 24 (55 + n) (q32 f.2)).1 a k = _
          simp (disch := omega) only [Option.bind_some, bindv, bindv0, bind2_s, bind3_s, ↓reduceIte, Bool.false_eq_true, rZM_0, rZM_1, rZP_0, rZP_1, ptZ_0, ptZ_1, c32i, c64i, ncI, Int.natCast_add, Int.natCast_mul, q32_neg, q64_neg, q32_add, q32_sub, q32_mul, q64_add, q64_sub, q64_mul, q32_64i, q64_32, q32_lt_t, q32_lt_f, q32_le_t, q32_le_f, q32_eq_t, q32_eq_f, q64_lt_t, q64_lt_f, q64_le_t, q64_le_f, q64_eq_t, q64_eq_f, rdI_i, rdL_i, rdR_i, rdN_i, stI_i, stL_i, stR_i, wI_s, wI_n, wL_s, wL_n, wI_2, wI_3, wL_1, wL_3, wR_1, wR_2, Int.toNat_natCast, tnO, tn_add, tn_sub, tn_mul, Nat.add_sub_cancel, Nat.add_zero, Nat.zero_add, lnO, win_t, win_f]
          rw [d2.2.1 _ _ (by omega), PS_1]
          simp (disch := omega) only [Option.bind_some, bindv, bindv0, bind2_s, bind3_s, ↓reduceIte, Bool.false_eq_true, rZM_0, rZM_1, rZP_0, rZP_1, ptZ_0, ptZ_1, c32i, c64i, ncI, Int.natCast_add, Int.natCast_mul, q32_neg, q64_neg, q32_add, q32_sub, q32_mul, q64_add, q64_sub, q64_mul, q32_64i, q64_32, q32_lt_t, q32_lt_f, q32_le_t, q32_le_f, q32_eq_t, q32_eq_f, q64_lt_t, q64_lt_f, q64_le_t, q64_le_f, q64_eq_t, q64_eq_f, rdI_i, rdL_i, rdR_i, rdN_i, stI_i, stL_i, stR_i, wI_s, wI_n, wL_s, wL_n, wI_2, wI_3, wL_1, wL_3, wR_1, wR_2, Int.toNat_natCast, tnO, tn_add, tn_sub, tn_mul, Nat.add_sub_cancel, Nat.add_zero, Nat.zero_add, lnO, win_t, win_f]
        have M2o : ∀ a k, (a ≠ nw + 8 ∧ a ≠ nw + 9) ∨ k ≠ n → M2.1 a k = m.1 a k := fun a k hk => by
          show (wI (wI (PT (PT m 19 f) 20 g0) (nw + 8) n (q32 f.1)) (nw + 9) n (q32 f.2)).1 a k = _
          simp (disch := omega) only [Option.bind_some, bindv, bindv0, bind2_s, bind3_s, ↓reduceIte, Bool.false_eq_true, rZM_0, rZM_1, rZP_0, rZP_1, ptZ_0, ptZ_1, c32i, c64i, ncI, Int.natCast_add, Int.natCast_mul, q32_neg, q64_neg, q32_add, q32_sub, q32_mul, q64_add, q64_sub, q64_mul, q32_64i, q64_32, q32_lt_t, q32_lt_f, q32_le_t, q32_le_f, q32_eq_t, q32_eq_f, q64_lt_t, q64_lt_f, q64_le_t, q64_le_f, q64_eq_t, q64_eq_f, rdI_i, rdL_i, rdR_i, rdN_i, stI_i, stL_i, stR_i, wI_s, wI_n, wL_s, wL_n, wI_2, wI_3, wL_1, wL_3, wR_1, wR_2, Int.toNat_natCast, tnO, tn_add, tn_sub, tn_mul, Nat.add_sub_cancel, Nat.add_zero, Nat.zero_add, lnO, win_t, win_f]; rfl
        refine fin _ M2 m5 e1 e2 (hst.hh er (fun a k => ?_) (fun a k => ?_) ?_) er
        · by_cases c1 : a = 30 ∨ (a = 23 ∧ k = 0) ∨ (a = 24 ∧ (k = 49 + n ∨ k = 55 + n)) ∨ a = nw + 8 ∨ a = nw + 9
          · omega
          · by_cases c2 : a = 24
            · subst c2; rw [q24 k (by omega)]; simp
            · rw [qot a k (by omega), M2o a k (by omega)]; simp
        · by_cases c1 : a = 23 ∨ a = 19 ∨ a = 20
          · omega
          · rw [y2.2.2 _ _ (by omega)]
            show _ ∨ _ ∨ m3.2.1 a k = _
            rw [d2.2.2 _ _ (by omega), PS_n (by omega)]
            show _ ∨ _ ∨ (PT M1 19 g1).2.1 a k = _
            rw [PT_n (by omega)]
            show _ ∨ _ ∨ (PT (PT m 19 f) 20 g0).2.1 a k = _
            rw [PT_n (by omega), PT_n (by omega)]
            simp
        · refine hst.2.1.ten (t := n) (tc := tc) (v := f.1) (w := f.2) t10.2.1 h6 hn6n k1 c99 (fun a k hk => ?_) (fun k hk => ?_) (fun k hk => ?_) ?_ ?_ (fun k _ hk => q24 k hk) ?_ ?_
          · rw [qot a k (by omega), M2o a k (by omega)]
          · rw [qot _ k (by omega), M2o _ k (by omega)]
          · rw [qot _ k (by omega), M2o _ k (by omega)]
          · rw [qot _ _ (by omega)]
            show (wI (wI (PT (PT m 19 f) 20 g0) (nw + 8) n (q32 f.1)) (nw + 9) n (q32 f.2)).1 (nw + 8) n = _
            simp (disch := omega) only [Option.bind_some, bindv, bindv0, bind2_s, bind3_s, ↓reduceIte, Bool.false_eq_true, rZM_0, rZM_1, rZP_0, rZP_1, ptZ_0, ptZ_1, c32i, c64i, ncI, Int.natCast_add, Int.natCast_mul, q32_neg, q64_neg, q32_add, q32_sub, q32_mul, q64_add, q64_sub, q64_mul, q32_64i, q64_32, q32_lt_t, q32_lt_f, q32_le_t, q32_le_f, q32_eq_t, q32_eq_f, q64_lt_t, q64_lt_f, q64_le_t, q64_le_f, q64_eq_t, q64_eq_f, rdI_i, rdL_i, rdR_i, rdN_i, stI_i, stL_i, stR_i, wI_s, wI_n, wL_s, wL_n, wI_2, wI_3, wL_1, wL_3, wR_1, wR_2, Int.toNat_natCast, tnO, tn_add, tn_sub, tn_mul, Nat.add_sub_cancel, Nat.add_zero, Nat.zero_add, lnO, win_t, win_f]
          · rw [qot _ _ (by omega)]
            show (wI (wI (PT (PT m 19 f) 20 g0) (nw + 8) n (q32 f.1)) (nw + 9) n (q32 f.2)).1 (nw + 9) n = _
            simp (disch := omega) only [Option.bind_some, bindv, bindv0, bind2_s, bind3_s, ↓reduceIte, Bool.false_eq_true, rZM_0, rZM_1, rZP_0, rZP_1, ptZ_0, ptZ_1, c32i, c64i, ncI, Int.natCast_add, Int.natCast_mul, q32_neg, q64_neg, q32_add, q32_sub, q32_mul, q64_add, q64_sub, q64_mul, q32_64i, q64_32, q32_lt_t, q32_lt_f, q32_le_t, q32_le_f, q32_eq_t, q32_eq_f, q64_lt_t, q64_lt_f, q64_le_t, q64_le_f, q64_eq_t, q64_eq_f, rdI_i, rdL_i, rdR_i, rdN_i, stI_i, stL_i, stR_i, wI_s, wI_n, wL_s, wL_n, wI_2, wI_3, wL_1, wL_3, wR_1, wR_2, Int.toNat_natCast, tnO, tn_add, tn_sub, tn_mul, Nat.add_sub_cancel, Nat.add_zero, Nat.zero_add, lnO, win_t, win_f]
          · rw [y2.2.1 _ _ (by omega)]
            show (wI (wI m3 24 (49 + n) (q32 f.1)) 24 (55 + n) (q32 f.2)).1 24 (49 + n) = _
            simp (disch := omega) only [Option.bind_some, bindv, bindv0, bind2_s, bind3_s, ↓reduceIte, Bool.false_eq_true, rZM_0, rZM_1, rZP_0, rZP_1, ptZ_0, ptZ_1, c32i, c64i, ncI, Int.natCast_add, Int.natCast_mul, q32_neg, q64_neg, q32_add, q32_sub, q32_mul, q64_add, q64_sub, q64_mul, q32_64i, q64_32, q32_lt_t, q32_lt_f, q32_le_t, q32_le_f, q32_eq_t, q32_eq_f, q64_lt_t, q64_lt_f, q64_le_t, q64_le_f, q64_eq_t, q64_eq_f, rdI_i, rdL_i, rdR_i, rdN_i, stI_i, stL_i, stR_i, wI_s, wI_n, wL_s, wL_n, wI_2, wI_3, wL_1, wL_3, wR_1, wR_2, Int.toNat_natCast, tnO, tn_add, tn_sub, tn_mul, Nat.add_sub_cancel, Nat.add_zero, Nat.zero_add, lnO, win_t, win_f]
          · rw [y2.2.1 _ _ (by omega)]
            show (wI (wI m3 24 (49 + n) (q32 f.1)) 24 (55 + n) (q32 f.2)).1 24 (55 + n) = _
            simp (disch := omega) only [Option.bind_some, bindv, bindv0, bind2_s, bind3_s, ↓reduceIte, Bool.false_eq_true, rZM_0, rZM_1, rZP_0, rZP_1, ptZ_0, ptZ_1, c32i, c64i, ncI, Int.natCast_add, Int.natCast_mul, q32_neg, q64_neg, q32_add, q32_sub, q32_mul, q64_add, q64_sub, q64_mul, q32_64i, q64_32, q32_lt_t, q32_lt_f, q32_le_t, q32_le_f, q32_eq_t, q32_eq_f, q64_lt_t, q64_lt_f, q64_le_t, q64_le_f, q64_eq_t, q64_eq_f, rdI_i, rdL_i, rdR_i, rdN_i, stI_i, stL_i, stR_i, wI_s, wI_n, wL_s, wL_n, wI_2, wI_3, wL_1, wL_3, wR_1, wR_2, Int.toNat_natCast, tnO, tn_add, tn_sub, tn_mul, Nat.add_sub_cancel, Nat.add_zero, Nat.zero_add, lnO, win_t, win_f]
      · have k4 := k3 (wI (PT m 19 f) 23 0 (q32 0)) (hr.same rfl) (by simp (disch := omega) only [Option.bind_some, bindv, bindv0, bind2_s, bind3_s, ↓reduceIte, Bool.false_eq_true, rZM_0, rZM_1, rZP_0, rZP_1, ptZ_0, ptZ_1, c32i, c64i, ncI, Int.natCast_add, Int.natCast_mul, q32_neg, q64_neg, q32_add, q32_sub, q32_mul, q64_add, q64_sub, q64_mul, q32_64i, q64_32, q32_lt_t, q32_lt_f, q32_le_t, q32_le_f, q32_eq_t, q32_eq_f, q64_lt_t, q64_lt_f, q64_le_t, q64_le_f, q64_eq_t, q64_eq_f, rdI_i, rdL_i, rdR_i, rdN_i, stI_i, stL_i, stR_i, wI_s, wI_n, wL_s, wL_n, wI_2, wI_3, wL_1, wL_3, wR_1, wR_2, Int.toNat_natCast, tnO, tn_add, tn_sub, tn_mul, Nat.add_sub_cancel, Nat.add_zero, Nat.zero_add, lnO, win_t, win_f]; rfl)
        have it' := it (wI (PT m 19 f) 23 0 (q32 0)) (t10.k (fun j _ => by simp (disch := omega) only [Option.bind_some, bindv, bindv0, bind2_s, bind3_s, ↓reduceIte, Bool.false_eq_true, rZM_0, rZM_1, rZP_0, rZP_1, ptZ_0, ptZ_1, c32i, c64i, ncI, Int.natCast_add, Int.natCast_mul, q32_neg, q64_neg, q32_add, q32_sub, q32_mul, q64_add, q64_sub, q64_mul, q32_64i, q64_32, q32_lt_t, q32_lt_f, q32_le_t, q32_le_f, q32_eq_t, q32_eq_f, q64_lt_t, q64_lt_f, q64_le_t, q64_le_f, q64_eq_t, q64_eq_f, rdI_i, rdL_i, rdR_i, rdN_i, stI_i, stL_i, stR_i, wI_s, wI_n, wL_s, wL_n, wI_2, wI_3, wL_1, wL_3, wR_1, wR_2, Int.toNat_natCast, tnO, tn_add, tn_sub, tn_mul, Nat.add_sub_cancel, Nat.add_zero, Nat.zero_add, lnO, win_t, win_f]; rfl) rfl h6)
        refine fin (q32 (-3)) (PT m 19 f) (PS (wI (PT m 19 f) 23 0 (q32 0)) f) ?_ ?_ (hst.sc ((((SC.rf m).pt (by omega)).tr (SC.k0 _)).ps)) rfl
        · unfold n_X9_moves nb_X9_moves_0
          simp (disch := omega) only [Option.bind_some, bindv, bindv0, bind2_s, bind3_s, ↓reduceIte, Bool.false_eq_true, rZM_0, rZM_1, rZP_0, rZP_1, ptZ_0, ptZ_1, c32i, c64i, ncI, Int.natCast_add, Int.natCast_mul, q32_neg, q64_neg, q32_add, q32_sub, q32_mul, q64_add, q64_sub, q64_mul, q32_64i, q64_32, q32_lt_t, q32_lt_f, q32_le_t, q32_le_f, q32_eq_t, q32_eq_f, q64_lt_t, q64_lt_f, q64_le_t, q64_le_f, q64_eq_t, q64_eq_f, rdI_i, rdL_i, rdR_i, rdN_i, stI_i, stL_i, stR_i, wI_s, wI_n, wL_s, wL_n, wI_2, wI_3, wL_1, wL_3, wR_1, wR_2, Int.toNat_natCast, tnO, tn_add, tn_sub, tn_mul, Nat.add_sub_cancel, Nat.add_zero, Nat.zero_add, lnO, win_t, win_f, rn, a15, k2', PT_3, r12, PT_l]
        · unfold n_X10_moves nb_X10_moves_0
          simp (disch := omega) only [Option.bind_some, bindv, bindv0, bind2_s, bind3_s, ↓reduceIte, Bool.false_eq_true, rZM_0, rZM_1, rZP_0, rZP_1, ptZ_0, ptZ_1, c32i, c64i, ncI, Int.natCast_add, Int.natCast_mul, q32_neg, q64_neg, q32_add, q32_sub, q32_mul, q64_add, q64_sub, q64_mul, q32_64i, q64_32, q32_lt_t, q32_lt_f, q32_le_t, q32_le_f, q32_eq_t, q32_eq_f, q64_lt_t, q64_lt_f, q64_le_t, q64_le_f, q64_eq_t, q64_eq_f, rdI_i, rdL_i, rdR_i, rdN_i, stI_i, stL_i, stR_i, wI_s, wI_n, wL_s, wL_n, wI_2, wI_3, wL_1, wL_3, wR_1, wR_2, Int.toNat_natCast, tnO, tn_add, tn_sub, tn_mul, Nat.add_sub_cancel, Nat.add_zero, Nat.zero_add, lnO, win_t, win_f, it', k4, PS_l]
  · have it' : n_X10_isTenant s (wI m 23 0 (q32 0)) 23 (q32 t) = some (q32 0) := by rw [isTen10 (m := wI m 23 0 (q32 0)) hp (t10.k (fun j _ => by simp (disch := omega) only [Option.bind_some, bindv, bindv0, bind2_s, bind3_s, ↓reduceIte, Bool.false_eq_true, rZM_0, rZM_1, rZP_0, rZP_1, ptZ_0, ptZ_1, c32i, c64i, ncI, Int.natCast_add, Int.natCast_mul, q32_neg, q64_neg, q32_add, q32_sub, q32_mul, q64_add, q64_sub, q64_mul, q32_64i, q64_32, q32_lt_t, q32_lt_f, q32_le_t, q32_le_f, q32_eq_t, q32_eq_f, q64_lt_t, q64_lt_f, q64_le_t, q64_le_f, q64_eq_t, q64_eq_f, rdI_i, rdL_i, rdR_i, rdN_i, stI_i, stL_i, stR_i, wI_s, wI_n, wL_s, wL_n, wI_2, wI_3, wL_1, wL_3, wR_1, wR_2, Int.toNat_natCast, tnO, tn_add, tn_sub, tn_mul, Nat.add_sub_cancel, Nat.add_zero, Nat.zero_add, lnO, win_t, win_f]) rfl h6) h6 ht, if_neg ct]
    refine fin (q32 (-2)) m _ ?_ ?_ (hst.sc (SC.k0 m)) rfl
    · unfold n_X9_moves nb_X9_moves_0
      by_cases c2 : t < 0
      · simp (disch := omega) only [Option.bind_some, bindv, bindv0, bind2_s, bind3_s, ↓reduceIte, Bool.false_eq_true, rZM_0, rZM_1, rZP_0, rZP_1, ptZ_0, ptZ_1, c32i, c64i, ncI, Int.natCast_add, Int.natCast_mul, q32_neg, q64_neg, q32_add, q32_sub, q32_mul, q64_add, q64_sub, q64_mul, q32_64i, q64_32, q32_lt_t, q32_lt_f, q32_le_t, q32_le_f, q32_eq_t, q32_eq_f, q64_lt_t, q64_lt_f, q64_le_t, q64_le_f, q64_eq_t, q64_eq_f, rdI_i, rdL_i, rdR_i, rdN_i, stI_i, stL_i, stR_i, wI_s, wI_n, wL_s, wL_n, wI_2, wI_3, wL_1, wL_3, wR_1, wR_2, Int.toNat_natCast, tnO, tn_add, tn_sub, tn_mul, Nat.add_sub_cancel, Nat.add_zero, Nat.zero_add, lnO, win_t, win_f]
      · simp (disch := omega) only [Option.bind_some, bindv, bindv0, bind2_s, bind3_s, ↓reduceIte, Bool.false_eq_true, rZM_0, rZM_1, rZP_0, rZP_1, ptZ_0, ptZ_1, c32i, c64i, ncI, Int.natCast_add, Int.natCast_mul, q32_neg, q64_neg, q32_add, q32_sub, q32_mul, q64_add, q64_sub, q64_mul, q32_64i, q64_32, q32_lt_t, q32_lt_f, q32_le_t, q32_le_f, q32_eq_t, q32_eq_f, q64_lt_t, q64_lt_f, q64_le_t, q64_le_f, q64_eq_t, q64_eq_f, rdI_i, rdL_i, rdR_i, rdN_i, stI_i, stL_i, stR_i, wI_s, wI_n, wL_s, wL_n, wI_2, wI_3, wL_1, wL_3, wR_1, wR_2, Int.toNat_natCast, tnO, tn_add, tn_sub, tn_mul, Nat.add_sub_cancel, Nat.add_zero, Nat.zero_add, lnO, win_t, win_f, rn, a15]
    · unfold n_X10_moves nb_X10_moves_0
      simp (disch := omega) only [Option.bind_some, bindv, bindv0, bind2_s, bind3_s, ↓reduceIte, Bool.false_eq_true, rZM_0, rZM_1, rZP_0, rZP_1, ptZ_0, ptZ_1, c32i, c64i, ncI, Int.natCast_add, Int.natCast_mul, q32_neg, q64_neg, q32_add, q32_sub, q32_mul, q64_add, q64_sub, q64_mul, q32_64i, q64_32, q32_lt_t, q32_lt_f, q32_le_t, q32_le_f, q32_eq_t, q32_eq_f, q64_lt_t, q64_lt_f, q64_le_t, q64_le_f, q64_eq_t, q64_eq_f, rdI_i, rdL_i, rdR_i, rdN_i, stI_i, stL_i, stR_i, wI_s, wI_n, wL_s, wL_n, wI_2, wI_3, wL_1, wL_3, wR_1, wR_2, Int.toNat_natCast, tnO, tn_add, tn_sub, tn_mul, Nat.add_sub_cancel, Nat.add_zero, Nat.zero_add, lnO, win_t, win_f, it']
