theorem ten9 {F : Nat} (hF : 20000 ≤ F) {s : List Sh} {m : Mem} {r z K N : Nat} {T : Nat → Int} (hT : ∀ k, k < N → 0 ≤ T k ∧ T k < 256) (hx : RCX s m r z K T N) {i : Nat} (hi1 : i + 1 < K) (hc : CUR m r T N i) {h : HSS} (hh : HCL s m r z h) (hp : HPP h) (hcl : (hCd h).length ≤ i) : LN9 s T N K m r z i (if 6 ≤ hTc h then .inl (4, i) else match frcT (kdF T N) (amF T N) (i + 1) 59 (hTop h) with | .inl e => .inl e | .inr (j, f) => .inr (j, sTen h f)) (n_X3_tenantLine F s m r) := by
  have zr : z ≠ r := by have := hx.sep.2; omega
  have r0 := hx.2.1.1
  have t15 := hh.2.2.2.2.1.1
  have tc6 := hp.2.2.2.2.1.1
  by_cases c6 : 6 ≤ hTc h
  · rw [if_pos c6]
    obtain ⟨m', a1, a2, a3⟩ := fail9 (s := s) (z := z) hc 4
    have a1' : n_X3_failed s m r (q32 4) = some (q32 0, m') := a1
    refine ⟨by omega, m', ?_, a2, a3⟩
    unfold n_X3_tenantLine nb_X3_tenantLine_0
    generalize hTc h = tc at *
    simp (disch := omega) only [Option.bind_some, bindv, bindv0, bind2_s, bind3_s, ↓reduceIte, Bool.false_eq_true, rZM_0, rZM_1, rZP_0, rZP_1, ptZ_0, ptZ_1, c32i, c64i, ncI, Int.natCast_add, Int.natCast_mul, q32_neg, q64_neg, q32_add, q32_sub, q32_mul, q64_add, q64_sub, q64_mul, q32_64i, q64_32, q32_lt_t, q32_lt_f, q32_le_t, q32_le_f, q32_eq_t, q32_eq_f, q64_lt_t, q64_lt_f, q64_le_t, q64_le_f, q64_eq_t, q64_eq_f, rdI_i, rdL_i, rdR_i, rdN_i, stI_i, stL_i, stR_i, wI_s, wI_n, wL_s, wL_n, wI_2, wI_3, wL_1, wL_3, wR_1, wR_2, Int.toNat_natCast, tnO, tn_add, tn_sub, tn_mul, Nat.add_sub_cancel, Nat.add_zero, Nat.zero_add, lnO, win_t, win_f, r0, t15, a1']
  · rw [if_neg c6]
    obtain ⟨m1, a1, a2, a3, a4, a5, a6⟩ := nxt9 hx hc hi1
    have hx1 := hx.k a2
    have n1 := frac9 hF hT hx1 hi1 a3 (ex := 59) (by omega) hp.1 (by rw [a5 z 0 zr]; exact hh.1.1)
    cases e : frcT (kdF T N) (amF T N) (i + 1) 59 (hTop h) with
    | inl p =>
      obtain ⟨k, j⟩ := p
      rw [e] at n1
      obtain ⟨d0, m2, d1, d2, d3⟩ := n1
      refine ⟨d0, m2, ?_, a2.tr d2, d3⟩
      unfold n_X3_tenantLine nb_X3_tenantLine_0
      generalize hTc h = tc at *
      simp (disch := omega) only [Option.bind_some, bindv, bindv0, bind2_s, bind3_s, ↓reduceIte, Bool.false_eq_true, rZM_0, rZM_1, rZP_0, rZP_1, ptZ_0, ptZ_1, c32i, c64i, ncI, Int.natCast_add, Int.natCast_mul, q32_neg, q64_neg, q32_add, q32_sub, q32_mul, q64_add, q64_sub, q64_mul, q32_64i, q64_32, q32_lt_t, q32_lt_f, q32_le_t, q32_le_f, q32_eq_t, q32_eq_f, q64_lt_t, q64_lt_f, q64_le_t, q64_le_f, q64_eq_t, q64_eq_f, rdI_i, rdL_i, rdR_i, rdN_i, stI_i, stL_i, stR_i, wI_s, wI_n, wL_s, wL_n, wI_2, wI_3, wL_1, wL_3, wR_1, wR_2, Int.toNat_natCast, tnO, tn_add, tn_sub, tn_mul, Nat.add_sub_cancel, Nat.add_zero, Nat.zero_add, lnO, win_t, win_f, r0, t15, a1, d1]
    | inr p =>
      obtain ⟨j, f⟩ := p
      have je := frcT_j e
      rw [e] at n1
      obtain ⟨d0, -, fl, f1, f2, m2, d1, d2, d3, d5, d6, d7⟩ := n1
      have hx2 := hx1.k d2
      obtain ⟨r02, -, -, r13⟩ := hx2.2.1
      have h2 : HCL s m2 r z h := HCL.k hx hh (fun a k ha => by rw [d3.2 a k ha, a5 a k ha]) (by rw [d3.1 9 (by omega), a4 9 (by omega)]) (by rw [d3.1 10 (by omega), a4 10 (by omega)]) (by rw [d2.2.2, a6])
      obtain ⟨⟨q1, q2, q3, q4⟩, ⟨b1, b2⟩, c, ff, ⟨t1, ⟨t2, t3⟩, ⟨t4, t5⟩, t6⟩, g1, g2, g3, g4⟩ := id h2
      have sp := hx2.2.2.2.2.1
      have n : ∀ i, i < 10 → z + i ≠ r := fun i hi => (sp i hi).1
      have n8 := n 8 (by omega)
      have n9 := n 9 (by omega)
      have ad : n_X0_addTenant s m2 z (q32 f.1) (q32 f.2) = some ((), wI (wI (wI m2 (z + 8) (hTc h) (q32 f.1)) (z + 9) (hTc h) (q32 f.2)) z 15 (q32 (hTc h + 1))) := by
        unfold n_X0_addTenant nb_X0_addTenant_0
        generalize hTc h = tc at *
        simp (disch := omega) only [Option.bind_some, bindv, bindv0, bind2_s, bind3_s, ↓reduceIte, Bool.false_eq_true, rZM_0, rZM_1, rZP_0, rZP_1, ptZ_0, ptZ_1, c32i, c64i, ncI, Int.natCast_add, Int.natCast_mul, q32_neg, q64_neg, q32_add, q32_sub, q32_mul, q64_add, q64_sub, q64_mul, q32_64i, q64_32, q32_lt_t, q32_lt_f, q32_le_t, q32_le_f, q32_eq_t, q32_eq_f, q64_lt_t, q64_lt_f, q64_le_t, q64_le_f, q64_eq_t, q64_eq_f, rdI_i, rdL_i, rdR_i, rdN_i, stI_i, stL_i, stR_i, wI_s, wI_n, wL_s, wL_n, wI_2, wI_3, wL_1, wL_3, wR_1, wR_2, Int.toNat_natCast, tnO, tn_add, tn_sub, tn_mul, Nat.add_sub_cancel, Nat.add_zero, Nat.zero_add, lnO, win_t, win_f, t1, t2, t3]
      have kk : KPR r z m2 (wI (wI (wI m2 (z + 8) (hTc h) (q32 f.1)) (z + 9) (hTc h) (q32 f.2)) z 15 (q32 (hTc h + 1))) := ⟨fun a k p1 p2 p3 => by rw [wI_n (by omega), wI_n (by omega), wI_n (by omega)], fun _ _ _ => rfl, rfl⟩
      refine ⟨by omega, d0, by show (hCd h).length ≤ j; omega, _, ?_, (a2.tr d2).tr kk, d5.k (fun k _ _ => by rw [wI_n (by omega), wI_n (by omega), wI_n (by omega)]), ?_, by rw [wI_n (by omega), wI_n (by omega), wI_n (by omega), d3.1 1 (by omega), a4 1 (by omega)], by rw [wI_n (by omega), wI_n (by omega), wI_n (by omega), d3.1 2 (by omega), a4 2 (by omega)]⟩
      · unfold n_X3_tenantLine nb_X3_tenantLine_0
        generalize hTc h = tc at *
        simp (disch := omega) only [Option.bind_some, bindv, bindv0, bind2_s, bind3_s, ↓reduceIte, Bool.false_eq_true, rZM_0, rZM_1, rZP_0, rZP_1, ptZ_0, ptZ_1, c32i, c64i, ncI, Int.natCast_add, Int.natCast_mul, q32_neg, q64_neg, q32_add, q32_sub, q32_mul, q64_add, q64_sub, q64_mul, q32_64i, q64_32, q32_lt_t, q32_lt_f, q32_le_t, q32_le_f, q32_eq_t, q32_eq_f, q64_lt_t, q64_lt_f, q64_le_t, q64_le_f, q64_eq_t, q64_eq_f, rdI_i, rdL_i, rdR_i, rdN_i, stI_i, stL_i, stR_i, wI_s, wI_n, wL_s, wL_n, wI_2, wI_3, wL_1, wL_3, wR_1, wR_2, Int.toNat_natCast, tnO, tn_add, tn_sub, tn_mul, Nat.add_sub_cancel, Nat.add_zero, Nat.zero_add, lnO, win_t, win_f, r0, t15, a1, d1, r02, r13, d6, d7, q64_32, ad]
      · have fk : F9 s (wI (wI (wI m2 (z + 8) (hTc h) (q32 f.1)) (z + 9) (hTc h) (q32 f.2)) z 15 (q32 (hTc h + 1))) z (hFc h) h.2.2.2.1.2.1 h.2.2.2.1.2.2.1 h.2.2.2.1.2.2.2.1 h.2.2.2.1.2.2.2.2 := by
          have f' : F9 s (wI (wI m2 (z + 8) (hTc h) (q32 f.1)) (z + 9) (hTc h) (q32 f.2)) z (hFc h) h.2.2.2.1.2.1 h.2.2.2.1.2.2.1 h.2.2.2.1.2.2.2.1 h.2.2.2.1.2.2.2.2 := ff.k (fun a k ha => by rw [wI_n (by omega), wI_n (by omega)]) rfl
          exact f'.w (by omega) _
        refine ⟨⟨by rw [wI_n (by omega), wI_n (by omega), wI_n (by omega)]; exact q1, by rw [wI_n (by omega), wI_n (by omega), wI_n (by omega)]; exact q2, by rw [wI_n (by omega), wI_n (by omega), wI_n (by omega)]; exact q3, by rw [wI_n (by omega), wI_n (by omega), wI_n (by omega)]; exact q4⟩, ⟨by rw [wI_n (by omega), wI_n (by omega), wI_n (by omega)]; exact b1, by rw [wI_n (by omega), wI_n (by omega), wI_n (by omega)]; exact b2⟩, by rw [wI_n (by omega), wI_n (by omega), wI_n (by omega)]; exact c, fk, ⟨?_, ⟨t2, t3⟩, ⟨t4, t5⟩, fun k hk => ?_⟩, by rw [wI_n (by omega), wI_n (by omega), wI_n (by omega)]; exact g1, fun b hb h0 => by rw [wI_n (by omega), wI_n (by omega), wI_n (by omega)]; exact g2 b hb h0, by rw [wI_n (by omega), wI_n (by omega), wI_n (by omega)]; exact g3, fun k hk => by rw [wI_n (by omega), wI_n (by omega), wI_n (by omega)]; exact g4 k hk⟩
        · show _ = q32 ((hTc h + 1 : Nat) : Int)
          rw [wI_s, Int.natCast_add]; rfl
        · have hk' : k < hTc h + 1 := hk
          show _ = q32 (insI h.2.2.2.2.1.2.1 (hTc h) f.1 k) ∧ _ = q32 (insI h.2.2.2.2.1.2.2 (hTc h) f.2 k)
          unfold insI
          by_cases ck : k = hTc h
          · rw [if_pos ck, if_pos ck, ck, wI_n (by omega), wI_n (by omega), wI_s, wI_n (by omega), wI_s]
            exact ⟨rfl, rfl⟩
          · rw [if_neg ck, if_neg ck, wI_n (by omega), wI_n (by omega), wI_n (by omega), wI_n (by omega), wI_n (by omega), wI_n (by omega)]
            exact t6 k (by omega)
