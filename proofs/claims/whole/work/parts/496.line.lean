theorem F9.w {s : List Sh} {m : Mem} {n fc : Nat} {U L : Nat → Int} {X : Nat → Nat → Nat} {O : Nat → Nat} (f : F9 s m n fc U L X O) {k : Nat} (hk : k ≠ 9) (x : Int32) : F9 s (wI m n k x) n fc U L X O := by
  unfold F9 at f ⊢
  refine ⟨by rw [wI_n (by omega)]; exact f.1, f.2.1, f.2.2.1, fun k hk => ?_, fun k hk => ?_⟩
  · rw [wI_n (by omega), wI_n (by omega)]
    refine ⟨(f.2.2.2.1 k hk).1, (f.2.2.2.1 k hk).2.1, fun y hy => ?_⟩
    rw [wI_n (by omega)]; exact (f.2.2.2.1 k hk).2.2 y hy
  · rw [wI_n (by omega)]; exact f.2.2.2.2 k hk
theorem T9.w {s : List Sh} {m : Mem} {n tc : Nat} {V W : Nat → Int} (t : T9 s m n tc V W) {k : Nat} (hk : k ≠ 15) (x : Int32) : T9 s (wI m n k x) n tc V W := by
  unfold T9 at t ⊢
  refine ⟨by rw [wI_n (by omega)]; exact t.1, t.2.1, t.2.2.1, fun k hk => ?_⟩
  rw [wI_n (by omega), wI_n (by omega)]; exact t.2.2.2 k hk
theorem top9 {s : List Sh} {m : Mem} {r z K N : Nat} {T : Nat → Int} (hT : ∀ k, k < N → 0 ≤ T k ∧ T k < 256) (hx : RCX s m r z K T N) {i : Nat} (hi : i < K) (hk4 : kdF T N i = 4) (hc : CUR m r T N i) {h : HSS} (hh : HCL s m r z h) (hp : HPP h) (hcl : (hCd h).length ≤ i) : LN9 s T N K m r z i (if h.2.2.1 = true ∨ 0 < hFc h ∨ 0 < hTc h then .inl (csF (kdF T N) i, i) else match numW (kdF T N) (amF T N) (i + 1) 1 9 with | .inl e => .inl e | .inr (j, v) => .inr (j, sTop h v.toNat)) (n_X3_topLine s m r) := by
  have zr : z ≠ r := by have := hx.sep.2; omega
  have r0 := hx.2.1.1
  have f9 := hh.2.2.2.1.1
  have t15 := hh.2.2.2.2.1.1
  have q9 := hh.2.2.1
  have fc8 := hp.2.2.2.1.1
  have tc6 := hp.2.2.2.2.1.1
  have hi1 := hx.nx hi (by omega) (by omega)
  by_cases cb : h.2.2.1 = true ∨ 0 < hFc h ∨ 0 < hTc h
  · rw [if_pos cb]
    obtain ⟨m', a1, a2, a3⟩ := cant9 (s := s) (z := z) hc
    refine ⟨hi, m', ?_, a2, a3⟩
    unfold n_X3_topLine nb_X3_topLine_0 nb_X3_topLine_27
    by_cases c1 : h.2.2.1 = true
    · rw [c1] at q9
      have q9' : m.1 r 9 = q32 1 := q9
      simp (disch := omega) only [Option.bind_some, bindv, bindv0, bind2_s, bind3_s, ↓reduceIte, Bool.false_eq_true, rZM_0, rZM_1, rZP_0, rZP_1, ptZ_0, ptZ_1, c32i, c64i, ncI, Int.natCast_add, Int.natCast_mul, q32_neg, q64_neg, q32_add, q32_sub, q32_mul, q64_add, q64_sub, q64_mul, q32_64i, q64_32, q32_lt_t, q32_lt_f, q32_le_t, q32_le_f, q32_eq_t, q32_eq_f, q64_lt_t, q64_lt_f, q64_le_t, q64_le_f, q64_eq_t, q64_eq_f, rdI_i, rdL_i, rdR_i, rdN_i, stI_i, stL_i, stR_i, wI_s, wI_n, wL_s, wL_n, wI_2, wI_3, wL_1, wL_3, wR_1, wR_2, Int.toNat_natCast, tnO, tn_add, tn_sub, tn_mul, Nat.add_sub_cancel, Nat.add_zero, Nat.zero_add, lnO, win_t, win_f, q9', a1]
    · have c1' : h.2.2.1 = false := by cases hb : h.2.2.1 with | true => exact absurd hb c1 | false => rfl
      rw [c1'] at q9
      have q9' : m.1 r 9 = q32 0 := q9
      by_cases c2 : 0 < hFc h
      · generalize hFc h = fc at *
        simp (disch := omega) only [Option.bind_some, bindv, bindv0, bind2_s, bind3_s, ↓reduceIte, Bool.false_eq_true, rZM_0, rZM_1, rZP_0, rZP_1, ptZ_0, ptZ_1, c32i, c64i, ncI, Int.natCast_add, Int.natCast_mul, q32_neg, q64_neg, q32_add, q32_sub, q32_mul, q64_add, q64_sub, q64_mul, q32_64i, q64_32, q32_lt_t, q32_lt_f, q32_le_t, q32_le_f, q32_eq_t, q32_eq_f, q64_lt_t, q64_lt_f, q64_le_t, q64_le_f, q64_eq_t, q64_eq_f, rdI_i, rdL_i, rdR_i, rdN_i, stI_i, stL_i, stR_i, wI_s, wI_n, wL_s, wL_n, wI_2, wI_3, wL_1, wL_3, wR_1, wR_2, Int.toNat_natCast, tnO, tn_add, tn_sub, tn_mul, Nat.add_sub_cancel, Nat.add_zero, Nat.zero_add, lnO, win_t, win_f, q9', r0, f9, a1]
      · have c3 : 0 < hTc h := (cb.resolve_left c1).resolve_left c2
        generalize hFc h = fc at *
        generalize hTc h = tc at *
        simp (disch := omega) only [Option.bind_some, bindv, bindv0, bind2_s, bind3_s, ↓reduceIte, Bool.false_eq_true, rZM_0, rZM_1, rZP_0, rZP_1, ptZ_0, ptZ_1, c32i, c64i, ncI, Int.natCast_add, Int.natCast_mul, q32_neg, q64_neg, q32_add, q32_sub, q32_mul, q64_add, q64_sub, q64_mul, q32_64i, q64_32, q32_lt_t, q32_lt_f, q32_le_t, q32_le_f, q32_eq_t, q32_eq_f, q64_lt_t, q64_lt_f, q64_le_t, q64_le_f, q64_eq_t, q64_eq_f, rdI_i, rdL_i, rdR_i, rdN_i, stI_i, stL_i, stR_i, wI_s, wI_n, wL_s, wL_n, wI_2, wI_3, wL_1, wL_3, wR_1, wR_2, Int.toNat_natCast, tnO, tn_add, tn_sub, tn_mul, Nat.add_sub_cancel, Nat.add_zero, Nat.zero_add, lnO, win_t, win_f, q9', r0, f9, t15, a1]
  · rw [if_neg cb]
    have c1' : h.2.2.1 = false := by cases hb : h.2.2.1 with | true => exact absurd (Or.inl hb) cb | false => rfl
    rw [c1'] at q9
    have q9' : m.1 r 9 = q32 0 := q9
    have c2 : hFc h = 0 := by omega
    have c3 : hTc h = 0 := by omega
    rw [c2] at f9
    rw [c3] at t15
    have f9' : m.1 z 9 = q32 0 := f9
    have t15' : m.1 z 15 = q32 0 := t15
    obtain ⟨m1, a1, a2, a3, a4, a5, a6⟩ := nxt9 hx hc hi1
    have hx1 := hx.k a2
    have n1 := numW9 hT hx1 hi1 a3 (lo := 1) (hh := 9) (by omega) (by omega)
    cases e : numW (kdF T N) (amF T N) (i + 1) 1 9 with
    | inl p =>
      obtain ⟨k, j⟩ := p
      rw [e] at n1
      obtain ⟨d0, m2, d1, d2, d3⟩ := n1
      refine ⟨d0, m2, ?_, a2.tr d2, d3⟩
      unfold n_X3_topLine nb_X3_topLine_0
      simp (disch := omega) only [Option.bind_some, bindv, bindv0, bind2_s, bind3_s, ↓reduceIte, Bool.false_eq_true, rZM_0, rZM_1, rZP_0, rZP_1, ptZ_0, ptZ_1, c32i, c64i, ncI, Int.natCast_add, Int.natCast_mul, q32_neg, q64_neg, q32_add, q32_sub, q32_mul, q64_add, q64_sub, q64_mul, q32_64i, q64_32, q32_lt_t, q32_lt_f, q32_le_t, q32_le_f, q32_eq_t, q32_eq_f, q64_lt_t, q64_lt_f, q64_le_t, q64_le_f, q64_eq_t, q64_eq_f, rdI_i, rdL_i, rdR_i, rdN_i, stI_i, stL_i, stR_i, wI_s, wI_n, wL_s, wL_n, wI_2, wI_3, wL_1, wL_3, wR_1, wR_2, Int.toNat_natCast, tnO, tn_add, tn_sub, tn_mul, Nat.add_sub_cancel, Nat.add_zero, Nat.zero_add, lnO, win_t, win_f, q9', r0, f9', t15', a1, d1]
    | inr p =>
      obtain ⟨j, v⟩ := p
      have je := numW_j e
      rw [e] at n1
      obtain ⟨d0, v0, v1, v2, v3, m2, d1, d2, d3, d4, d5, d6⟩ := n1
      have r02 := (hx1.k d2).2.1.1
      obtain ⟨w, rfl⟩ := Int.eq_ofNat_of_zero_le v0
      have h2 : HCL s m2 r z h := HCL.k hx hh (fun a k ha => by rw [d3.2 a k ha, a5 a k ha]) (by rw [d3.1 9 (by omega), a4 9 (by omega)]) (by rw [d3.1 10 (by omega), a4 10 (by omega)]) (by rw [d4, a6])
      refine ⟨by omega, d0, by show (hCd h).length ≤ j; omega, wI m2 z 0 (q32 (w : Nat)), ?_, (a2.tr d2).tr ⟨fun a k p1 p2 p3 => by rw [wI_n (by omega)], fun _ _ _ => rfl, rfl⟩, d5.k (fun k _ _ => by rw [wI_n (by omega)]), ?_, by rw [wI_n (by omega), d3.1 1 (by omega), a4 1 (by omega)], by rw [wI_n (by omega), d3.1 2 (by omega), a4 2 (by omega)]⟩
      · unfold n_X3_topLine nb_X3_topLine_0
        simp (disch := omega) only [Option.bind_some, bindv, bindv0, bind2_s, bind3_s, ↓reduceIte, Bool.false_eq_true, rZM_0, rZM_1, rZP_0, rZP_1, ptZ_0, ptZ_1, c32i, c64i, ncI, Int.natCast_add, Int.natCast_mul, q32_neg, q64_neg, q32_add, q32_sub, q32_mul, q64_add, q64_sub, q64_mul, q32_64i, q64_32, q32_lt_t, q32_lt_f, q32_le_t, q32_le_f, q32_eq_t, q32_eq_f, q64_lt_t, q64_lt_f, q64_le_t, q64_le_f, q64_eq_t, q64_eq_f, rdI_i, rdL_i, rdR_i, rdN_i, stI_i, stL_i, stR_i, wI_s, wI_n, wL_s, wL_n, wI_2, wI_3, wL_1, wL_3, wR_1, wR_2, Int.toNat_natCast, tnO, tn_add, tn_sub, tn_mul, Nat.add_sub_cancel, Nat.add_zero, Nat.zero_add, lnO, win_t, win_f, q9', r0, f9', t15', a1, d1, r02, d6]
      · obtain ⟨⟨q1, q2, q3, q4⟩, ⟨b1, b2⟩, c, f, t, g1, g2, g3, g4⟩ := h2
        exact ⟨⟨wI_s .., by rw [wI_n (by omega)]; exact q2, by rw [wI_n (by omega)]; exact q3, by rw [wI_n (by omega)]; exact q4⟩, ⟨by rw [wI_n (by omega)]; exact b1, by rw [wI_n (by omega)]; exact b2⟩, by rw [wI_n (by omega)]; exact c, f.w (by omega) _, t.w (by omega) _, by rw [wI_n (by omega)]; exact g1, fun b hb h0 => by rw [wI_n (by omega)]; exact g2 b hb h0, by rw [wI_n (by omega)]; exact g3, fun k hk => by rw [wI_n (by omega)]; exact g4 k hk⟩
theorem atl9 {F : Nat} (hF : 20000 ≤ F) {s : List Sh} {m : Mem} {r z K N : Nat} {T : Nat → Int} (hT : ∀ k, k < N → 0 ≤ T k ∧ T k < 256) (hx : RCX s m r z K T N) {i : Nat} (hi1 : i + 1 < K) (hc : CUR m r T N i) {h : HSS} (hh : HCL s m r z h) (hp : HPP h) (hcl : (hCd h).length ≤ i) : LN9 s T N K m r z i (match frcT (kdF T N) (amF T N) (i + 1) 59 (hTop h) with | .inl e => .inl e | .inr (j, f) => .inr (j, sAt h f)) (n_X3_atLine F s m r) := by
  have zr : z ≠ r := by have := hx.sep.2; omega
  obtain ⟨m1, a1, a2, a3, a4, a5, a6⟩ := nxt9 hx hc hi1
  have hx1 := hx.k a2
  have n1 := frac9 hF hT hx1 hi1 a3 (ex := 59) (by omega) hp.1 (by rw [a5 z 0 zr]; exact hh.1.1)
  cases e : frcT (kdF T N) (amF T N) (i + 1) 59 (hTop h) with
  | inl p =>
    obtain ⟨k, j⟩ := p
    rw [e] at n1
    obtain ⟨d0, m2, d1, d2, d3⟩ := n1
    refine ⟨d0, m2, ?_, a2.tr d2, d3⟩
    unfold n_X3_atLine nb_X3_atLine_0
    simp (disch := omega) only [Option.bind_some, bindv, bindv0, bind2_s, bind3_s, ↓reduceIte, Bool.false_eq_true, rZM_0, rZM_1, rZP_0, rZP_1, ptZ_0, ptZ_1, c32i, c64i, ncI, Int.natCast_add, Int.natCast_mul, q32_neg, q64_neg, q32_add, q32_sub, q32_mul, q64_add, q64_sub, q64_mul, q32_64i, q64_32, q32_lt_t, q32_lt_f, q32_le_t, q32_le_f, q32_eq_t, q32_eq_f, q64_lt_t, q64_lt_f, q64_le_t, q64_le_f, q64_eq_t, q64_eq_f, rdI_i, rdL_i, rdR_i, rdN_i, stI_i, stL_i, stR_i, wI_s, wI_n, wL_s, wL_n, wI_2, wI_3, wL_1, wL_3, wR_1, wR_2, Int.toNat_natCast, tnO, tn_add, tn_sub, tn_mul, Nat.add_sub_cancel, Nat.add_zero, Nat.zero_add, lnO, win_t, win_f, a1, d1]
  | inr p =>
    obtain ⟨j, f⟩ := p
    have je := frcT_j e
    rw [e] at n1
    obtain ⟨d0, -, fl, f1, f2, m2, d1, d2, d3, d5, d6, d7⟩ := n1
    obtain ⟨r0, -, -, r13⟩ := (hx1.k d2).2.1
    have h2 : HCL s m2 r z h := HCL.k hx hh (fun a k ha => by rw [d3.2 a k ha, a5 a k ha]) (by rw [d3.1 9 (by omega), a4 9 (by omega)]) (by rw [d3.1 10 (by omega), a4 10 (by omega)]) (by rw [d2.2.2, a6])
    refine ⟨by omega, d0, by show (hCd h).length ≤ j; omega, wI (wI (wI m2 z 4 (q32 f.1)) z 5 (q32 f.2)) r 9 (q32 1), ?_, (a2.tr d2).tr ⟨fun a k p1 p2 p3 => by rw [wI_n (by omega), wI_n (by omega), wI_n (by omega)], fun _ _ _ => rfl, rfl⟩, d5.k (fun k _ _ => by rw [wI_n (by omega), wI_n (by omega), wI_n (by omega)]), ?_, by rw [wI_n (by omega), wI_n (by omega), wI_n (by omega), d3.1 1 (by omega), a4 1 (by omega)], by rw [wI_n (by omega), wI_n (by omega), wI_n (by omega), d3.1 2 (by omega), a4 2 (by omega)]⟩
    · unfold n_X3_atLine nb_X3_atLine_0
      simp (disch := omega) only [Option.bind_some, bindv, bindv0, bind2_s, bind3_s, ↓reduceIte, Bool.false_eq_true, rZM_0, rZM_1, rZP_0, rZP_1, ptZ_0, ptZ_1, c32i, c64i, ncI, Int.natCast_add, Int.natCast_mul, q32_neg, q64_neg, q32_add, q32_sub, q32_mul, q64_add, q64_sub, q64_mul, q32_64i, q64_32, q32_lt_t, q32_lt_f, q32_le_t, q32_le_f, q32_eq_t, q32_eq_f, q64_lt_t, q64_lt_f, q64_le_t, q64_le_f, q64_eq_t, q64_eq_f, rdI_i, rdL_i, rdR_i, rdN_i, stI_i, stL_i, stR_i, wI_s, wI_n, wL_s, wL_n, wI_2, wI_3, wL_1, wL_3, wR_1, wR_2, Int.toNat_natCast, tnO, tn_add, tn_sub, tn_mul, Nat.add_sub_cancel, Nat.add_zero, Nat.zero_add, lnO, win_t, win_f, a1, d1, r0, r13, d6, d7, q64_32]
    · have h3 : HCL s (wI (wI m2 z 4 (q32 f.1)) z 5 (q32 f.2)) r z (h.1, f, h.2.2) := by
        obtain ⟨⟨q1, q2, q3, q4⟩, ⟨b1, b2⟩, c, ff, t, g1, g2, g3, g4⟩ := h2
        exact ⟨⟨by rw [wI_n (by omega), wI_n (by omega)]; exact q1, by rw [wI_n (by omega), wI_n (by omega)]; exact q2, by rw [wI_n (by omega), wI_n (by omega)]; exact q3, by rw [wI_n (by omega), wI_n (by omega)]; exact q4⟩, ⟨by rw [wI_n (by omega), wI_s], wI_s ..⟩, by rw [wI_n (by omega), wI_n (by omega)]; exact c, (ff.w (by omega) _).w (by omega) _, (t.w (by omega) _).w (by omega) _, by rw [wI_n (by omega), wI_n (by omega)]; exact g1, fun b hb h0 => by rw [wI_n (by omega), wI_n (by omega)]; exact g2 b hb h0, by rw [wI_n (by omega), wI_n (by omega)]; exact g3, fun k hk => by rw [wI_n (by omega), wI_n (by omega)]; exact g4 k hk⟩
      have hx3 : RCX s (wI (wI m2 z 4 (q32 f.1)) z 5 (q32 f.2)) r z K T N := (hx1.k d2).k ⟨fun a k p1 p2 p3 => by rw [wI_n (by omega), wI_n (by omega)], fun _ _ _ => rfl, rfl⟩
      have sp := hx3.2.2.2.2.1
      have n : ∀ i, i < 10 → z + i ≠ r := fun i hi => (sp i hi).1
      have nn := n 1 (by omega)
      have nn2 := n 2 (by omega)
      obtain ⟨⟨q1, q2, q3, q4⟩, ⟨b1, b2⟩, c, ff, t, g1, g2, g3, g4⟩ := h3
      refine ⟨⟨by rw [wI_n (by omega)]; exact q1, by rw [wI_n (by omega)]; exact q2, by rw [wI_n (by omega)]; exact q3, by rw [wI_n (by omega)]; exact q4⟩, ⟨by rw [wI_n (by omega)]; exact b1, by rw [wI_n (by omega)]; exact b2⟩, wI_s .., ff.k (fun a k ha => by rw [wI_n (by have := n 3 (by omega); have := n 4 (by omega); have := n 5 (by omega); have := n 7 (by omega); omega)]) rfl, t.k (fun a k ha => by rw [wI_n (by have := n (a - z) (by omega); omega)]) rfl, by rw [wI_n (by omega)]; exact g1, fun b hb h0 => by rw [wI_n (by omega)]; exact g2 b hb h0, by rw [wI_n (by omega)]; exact g3, fun k hk => by rw [wI_n (by omega)]; exact g4 k hk⟩
