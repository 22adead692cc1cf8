def LN9 (s : List Sh) (T : Nat → Int) (N K : Nat) (m : Mem) (r z i : Nat) (res : LRZ) (o : Option (Int32 × Mem)) : Prop := match res with
  | .inl (k, j) => j < K ∧ ∃ m', o = some (q32 0, m') ∧ KPR r z m m' ∧ FLT m' r k (tpos T N j)
  | .inr (j, h') => i < j ∧ j < K ∧ (hCd h').length ≤ j ∧ ∃ m', o = some (q32 1, m') ∧ KPR r z m m' ∧ CUR m' r T N j ∧ HCL s m' r z h' ∧ m'.1 r 1 = m.1 r 1 ∧ m'.1 r 2 = m.1 r 2
theorem numW_j {kd am : Nat → Int} {i : Nat} {lo hi : Int} {j : Nat} {v : Int} (h : numW kd am i lo hi = .inr (j, v)) : j = i + 1 := by
  unfold numW at h
  split at h
  · split at h
    · cases h
    · cases h; rfl
  · cases h
theorem frcT_j {kd am : Nat → Int} {i tp : Nat} {ex : Int} {j : Nat} {f : FR} (h : frcT kd am i ex tp = .inr (j, f)) : i < j := by
  unfold frcT at h
  cases e1 : numW kd am i 0 999 with
  | inl e => rw [e1] at h; cases h
  | inr p =>
    obtain ⟨j1, u⟩ := p
    have j1e := numW_j e1
    rw [e1] at h
    dsimp only at h
    by_cases c : kd j1 = 47
    · rw [if_pos c] at h
      cases e2 : numW kd am (j1 + 1) 1 99 with
      | inl e => rw [e2] at h; cases h
      | inr p =>
        obtain ⟨j2, l⟩ := p
        have j2e := numW_j e2
        rw [e2] at h
        dsimp only at h
        split at h
        · split at h
          · cases h; omega
          · cases h
        · cases h
    · rw [if_neg c] at h
      dsimp only at h
      split at h
      · split at h
        · cases h; omega
        · cases h
      · cases h
theorem stk9 {s : List Sh} {m : Mem} {r z K N : Nat} {T : Nat → Int} (hT : ∀ k, k < N → 0 ≤ T k ∧ T k < 256) (hx : RCX s m r z K T N) {i : Nat} (hi : i + 1 < K) (hc : CUR m r T N i) {h : HSS} (hh : HCL s m r z h) (hcl : (hCd h).length ≤ i) : LN9 s T N K m r z i (match numW (kdF T N) (amF T N) (i + 1) 0 9 with | .inl e => .inl e | .inr (j, v) => .inr (j, sStick h v.toNat)) (n_X3_stickLine s m r) := by
  have zr : z ≠ r := by have := hx.sep.2; omega
  obtain ⟨m1, a1, a2, a3, a4, a5, a6⟩ := nxt9 hx hc hi
  have hx1 := hx.k a2
  have n1 := numW9 hT hx1 hi a3 (lo := 0) (hh := 9) (by omega) (by omega)
  cases e : numW (kdF T N) (amF T N) (i + 1) 0 9 with
  | inl p =>
    obtain ⟨k, j⟩ := p
    rw [e] at n1
    obtain ⟨d0, m2, d1, d2, d3⟩ := n1
    refine ⟨d0, m2, ?_, a2.tr d2, d3⟩
    unfold n_X3_stickLine nb_X3_stickLine_0
    simp (disch := omega) only [Option.bind_some, bindv, bindv0, bind2_s, bind3_s, ↓reduceIte, Bool.false_eq_true, rZM_0, rZM_1, rZP_0, rZP_1, ptZ_0, ptZ_1, c32i, c64i, ncI, Int.natCast_add, Int.natCast_mul, q32_neg, q64_neg, q32_add, q32_sub, q32_mul, q64_add, q64_sub, q64_mul, q32_64i, q64_32, q32_lt_t, q32_lt_f, q32_le_t, q32_le_f, q32_eq_t, q32_eq_f, q64_lt_t, q64_lt_f, q64_le_t, q64_le_f, q64_eq_t, q64_eq_f, rdI_i, rdL_i, rdR_i, rdN_i, stI_i, stL_i, stR_i, wI_s, wI_n, wL_s, wL_n, wI_2, wI_3, wL_1, wL_3, wR_1, wR_2, Int.toNat_natCast, tnO, tn_add, tn_sub, tn_mul, Nat.add_sub_cancel, Nat.add_zero, Nat.zero_add, lnO, win_t, win_f, a1, d1]
  | inr p =>
    obtain ⟨j, v⟩ := p
    have je := numW_j e
    rw [e] at n1
    obtain ⟨d0, v0, v1, v2, v3, m2, d1, d2, d3, d4, d5, d6⟩ := n1
    have r0 := (hx1.k d2).2.1.1
    obtain ⟨w, rfl⟩ := Int.eq_ofNat_of_zero_le v0
    have h2 : HCL s m2 r z h := HCL.k hx hh (fun a k ha => by rw [d3.2 a k ha, a5 a k ha]) (by rw [d3.1 9 (by omega), a4 9 (by omega)]) (by rw [d3.1 10 (by omega), a4 10 (by omega)]) (by rw [d4, a6])
    refine ⟨by omega, d0, by show (hCd h).length ≤ j; omega, wI m2 z 1 (q32 (w : Nat)), ?_, (a2.tr d2).tr ⟨fun a k p1 p2 p3 => by rw [wI_n (by omega)], fun _ _ _ => rfl, rfl⟩, d5.k (fun k _ _ => by rw [wI_n (by omega)]), ?_, by rw [wI_n (by omega), d3.1 1 (by omega), a4 1 (by omega)], by rw [wI_n (by omega), d3.1 2 (by omega), a4 2 (by omega)]⟩
    · unfold n_X3_stickLine nb_X3_stickLine_0
      simp (disch := omega) only [Option.bind_some, bindv, bindv0, bind2_s, bind3_s, ↓reduceIte, Bool.false_eq_true, rZM_0, rZM_1, rZP_0, rZP_1, ptZ_0, ptZ_1, c32i, c64i, ncI, Int.natCast_add, Int.natCast_mul, q32_neg, q64_neg, q32_add, q32_sub, q32_mul, q64_add, q64_sub, q64_mul, q32_64i, q64_32, q32_lt_t, q32_lt_f, q32_le_t, q32_le_f, q32_eq_t, q32_eq_f, q64_lt_t, q64_lt_f, q64_le_t, q64_le_f, q64_eq_t, q64_eq_f, rdI_i, rdL_i, rdR_i, rdN_i, stI_i, stL_i, stR_i, wI_s, wI_n, wL_s, wL_n, wI_2, wI_3, wL_1, wL_3, wR_1, wR_2, Int.toNat_natCast, tnO, tn_add, tn_sub, tn_mul, Nat.add_sub_cancel, Nat.add_zero, Nat.zero_add, lnO, win_t, win_f, a1, d1, r0, d6]
    · obtain ⟨⟨q1, q2, q3, q4⟩, ⟨b1, b2⟩, c, f, t, g1, g2, g3, g4⟩ := h2
      refine ⟨⟨by rw [wI_n (by omega)]; exact q1, wI_s .., by rw [wI_n (by omega)]; exact q3, by rw [wI_n (by omega)]; exact q4⟩, ⟨by rw [wI_n (by omega)]; exact b1, by rw [wI_n (by omega)]; exact b2⟩, by rw [wI_n (by omega)]; exact c, ?_, ?_, by rw [wI_n (by omega)]; exact g1, fun b hb h0 => by rw [wI_n (by omega)]; exact g2 b hb h0, by rw [wI_n (by omega)]; exact g3, fun k hk => by rw [wI_n (by omega)]; exact g4 k hk⟩
      · unfold F9 at f ⊢
        refine ⟨by rw [wI_n (by omega)]; exact f.1, f.2.1, f.2.2.1, fun k hk => ?_, fun k hk => ?_⟩
        · rw [wI_n (by omega), wI_n (by omega)]
          refine ⟨(f.2.2.2.1 k hk).1, (f.2.2.2.1 k hk).2.1, fun y hy => ?_⟩
          rw [wI_n (by omega)]; exact (f.2.2.2.1 k hk).2.2 y hy
        · rw [wI_n (by omega)]; exact f.2.2.2.2 k hk
      · unfold T9 at t ⊢
        refine ⟨by rw [wI_n (by omega)]; exact t.1, t.2.1, t.2.2.1, fun k hk => ?_⟩
        rw [wI_n (by omega), wI_n (by omega)]; exact t.2.2.2 k hk
