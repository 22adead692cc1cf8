/-! house, on both sides -/
theorem RF.rd {m m' : Mem} {r : Nat} (h : RF m) (r53 : 53 ≤ r) (e : ∀ a k, a < 53 → (a ≠ 0 ∨ k ≠ 4) → m'.2.2 a k = m.2.2 a k) : RF m' := fun q hq => by
  have d1 : ∀ q ∈ rfB, q.1 < 53 ∧ (q.1 ≠ 0 ∨ q.2.1 ≠ 4) := by decide
  have := d1 q hq
  rw [e _ _ this.1 this.2]
  exact h q hq
theorem house_core {F : Nat} (hF : 20000 ≤ F) {s : List Sh} {m : Mem} {ow : Nat → Nat} {nw r N tpd : Nat} (hst : ST s m ow nw) (h05 : m.2.2 0 5 = some r) (hN : N ≤ tpd) (t1 : tpd ≤ 900) (t4 : m.1 23 5 = q32 (tpd : Nat)) (t5 : ∀ k, k < tpd → m.1 1 k = m.1 26 k ∧ ∃ v : Nat, v < 256 ∧ m.1 1 k = q32 v) : ∃ x m1 m2 nw', nb_X9_house_33 F s m 0 (q32 (N : Nat)) = some (x, s, m1) ∧ n_X10_house F s m1 23 (q32 (N : Nat)) = some (x, m2) ∧ ST s m2 ow nw' ∧ m2.2.2 0 16 = m.2.2 0 16 := by
  have hl := hst.1
  have hp := hl.hp
  have hr := hl.rf
  have rn := hl.nw
  obtain ⟨z, rb, zb, zn, zo, ro, ro2, zi⟩ := hl.2.2.2.2.2.1 r h05
  have r53 := rb.1
  have z2 := zb.1
  have l4 := hl.2.2.2.1
  have n2 := l4.1
  have nzr : z ≠ r := ok_ne zb.2.1 rb.2.1 (by omega) (by omega) (by omega)
  have nnr : nw ≠ r := ok_ne l4.2.1 rb.2.1 (by omega) (by omega) (by omega)
  have sep' : ∀ n, OWN ow n 10 → n ≠ r → ∀ i, i < 10 → n + i ≠ r ∧ ∀ j, 11 ≤ j → j < 17 → n + i ≠ r + j := fun n no nr i hi => by
    have x1 := no i hi
    refine ⟨fun e => ?_, fun j h1 h2 e => ?_⟩
    · rw [e, ro] at x1
      exact nr x1.symm
    · rw [e, ro2 j h1 h2] at x1
      exact nr x1.symm
  have sep := sep' z zo nzr
  have sepn := sep' nw hl.2.2.2.2.1 nnr
  have apz := apart zo hl.2.2.2.2.1 zn
  have hT : ∀ k, k < N → m.1 1 k = q32 ((m.1 1 k).toInt) ∧ 0 ≤ (m.1 1 k).toInt ∧ (m.1 1 k).toInt < 256 := fun k hk => by
    obtain ⟨-, v, v1, v2⟩ := t5 k (by omega)
    rw [v2, q32_toInt (by unfold B31; omega)]
    exact ⟨rfl, by omega, by omega⟩
  generalize hTT : (fun k => (m.1 1 k).toInt) = T at *
  have hT' : ∀ k, k < N → m.1 1 k = q32 (T k) ∧ 0 ≤ T k ∧ T k < 256 := fun k hk => by rw [← hTT]; exact hT k hk
  have hk : RTK s m r := ⟨rb.1, ⟨rb.2.2.2.2.1, rb.2.2.2.2.2.1, rb.2.2.2.2.2.2.1⟩, rb.2.2.2.2.2.2.2.2.2.2.2.1, rb.2.2.2.2.2.2.2.2.2.2.2.2.1, rb.2.2.2.2.2.2.2.2.2.2.2.2.2.1⟩
  obtain ⟨K, m4, k1, tke, tle, rd, krd, mt⟩ := read9 hF (g := 901) (Nat.le_refl _) hk ⟨rb.2.2.1, rb.2.2.2.1, rb.2.2.2.2.2.2.2.1, rb.2.2.2.2.2.2.2.2.1⟩ rb.2.2.2.2.2.2.2.2.2.2.2.2.2.2 zb sep (ln1 hp) (by omega) hT'
  obtain ⟨kd1, kd2, kd3⟩ := krd
  have K9 := tke.2.1
  have q05 : m4.2.2 0 5 = some r := by rw [kd3 _ _ (by omega)]; exact h05
  have qr0 : m4.2.2 r 0 = some z := by rw [kd3 _ _ (by omega)]; exact rb.2.2.1
  have q04 : m4.2.2 0 4 = some nw := by rw [kd3 _ _ (by omega)]; exact rn
  have hrz : ∀ a, a < 53 → a ≠ 2 → ¬ (z ≤ a ∧ a < z + 10 ∧ z ≠ 2) := fun a _ _ => by omega
  have loI : ∀ a k, a = 0 ∨ a = 1 ∨ (12 ≤ a ∧ a < 53) → m4.1 a k = m.1 a k := fun a k ha => kd1 a k (by omega) (by omega) (by omega)
  -- what the class has noted
  have go : ∀ (c : Nat → Option (Int32 × List Sh × Mem)) (m9 : Mem), m9 = wI (wI (wI m4 0 1 (q32 0)) 0 2 (m4.1 r 1)) 0 3 (m4.1 r 2) → nb_X9_house_33 F s m 0 (q32 (N : Nat)) = (if (m9.1 0 2) = 0 then ((m9.2.2 0 5).bind fun a10 => ((m9.2.2 a10 0).bind fun a11 => ((m9.2.2 0 5).bind fun a12 => ((m9.2.2 0 4).bind fun a13 => (bindv (wR m9 a12 0 (some a13)) fun m14 => (bindv (wR m14 0 4 (some a11)) fun m15 => (bindv (wI m15 0 10 (0 : Int32)) fun m16 => ((m16.2.2 0 4).bind fun a17 => (some ((m16.1 a17 2), s, m16)))))))))) else (some ((((-30 : Int32) - (m9.1 0 2))), s, m9))) := fun _ m9 e9 => by
    unfold nb_X9_house_33
    rw [h05, Option.bind_some, rf0_0 hr, Option.bind_some, rd, bind2_s, bindv, bindv0]
    rw [show (0 : Int32) = q32 0 from rfl, wI_3, q05, Option.bind_some, bindv, bindv0, wI_n (show r ≠ 0 ∨ 1 ≠ 1 by omega), wI_3, wI_3, q05, Option.bind_some, bindv, bindv0, wI_n (show r ≠ 0 ∨ 2 ≠ 2 by omega), wI_n (show r ≠ 0 ∨ 2 ≠ 1 by omega), ← e9]
  cases hR : RDA (kdF T N) (amF T N) 901 K 0 hNew with
  | inl p =>
    obtain ⟨k, j⟩ := p
    rw [hR] at mt
    obtain ⟨w0, w1, w2⟩ := mt
    generalize h9 : wI (wI (wI m4 0 1 (q32 0)) 0 2 (m4.1 r 1)) 0 3 (m4.1 r 2) = m9
    have go9 := go (fun _ => none) m9 h9.symm
    have v2 : m9.2 = m4.2 := by rw [← h9]; rfl
    have vo : ∀ a k, a ≠ 0 → m9.1 a k = m4.1 a k := fun a k h => by rw [← h9, wI_n (by omega), wI_n (by omega), wI_n (by omega)]
    have v01 : m9.1 0 1 = q32 0 := by rw [← h9]; simp (disch := omega) only [Option.bind_some, bindv, bindv0, bind2_s, bind3_s, ↓reduceIte, Bool.false_eq_true, rZM_0, rZM_1, rZP_0, rZP_1, ptZ_0, ptZ_1, c32i, c64i, ncI, Int.natCast_add, Int.natCast_mul, q32_neg, q64_neg, q32_add, q32_sub, q32_mul, q64_add, q64_sub, q64_mul, q32_64i, q64_32, q32_lt_t, q32_lt_f, q32_le_t, q32_le_f, q32_eq_t, q32_eq_f, q64_lt_t, q64_lt_f, q64_le_t, q64_le_f, q64_eq_t, q64_eq_f, rdI_i, rdL_i, rdR_i, rdN_i, stI_i, stL_i, stR_i, wI_s, wI_n, wL_s, wL_n, wI_2, wI_3, wL_1, wL_3, wR_1, wR_2, Int.toNat_natCast, tnO, tn_add, tn_sub, tn_mul, Nat.add_sub_cancel, Nat.add_zero, Nat.zero_add, lnO, win_t, win_f]
    have v02 : m9.1 0 2 = q32 (k : Nat) := by rw [← h9, wI_n (by omega), wI_s, w1]
    have v03 : m9.1 0 3 = q32 (tpos T N j : Nat) := by rw [← h9, wI_s, w2]
    have v010 : m9.1 0 10 = m.1 0 10 := by rw [← h9, wI_n (by omega), wI_n (by omega), wI_n (by omega), loI _ _ (by omega)]
    have hr9 : RF m9 := hr.rd r53 (fun a k ha _ => by rw [v2, kd3 _ _ (by omega)])
    have ho := house10 hF hp hr9 (T := T) (N := N) (K := K) (g := 901) (tpd := tpd) (Nat.le_refl _) tke k1 (by rw [vo _ _ (by omega), loI _ _ (by omega)]; exact t4) hN t1 (fun k hk => by rw [vo _ _ (by omega), loI _ _ (by omega), ← (t5 k (by omega)).1]; exact (hT' k hk).1)
    rw [hR] at ho
    obtain ⟨-, y1, y4, m2, o1, o2, o3, o4, o5⟩ := ho
    obtain ⟨oa, ob, oc, od⟩ := o2
    have nz : ¬ q32 (k : Int) = (0 : Int32) := by rw [show (0 : Int32) = q32 0 from rfl, q32_eq_f (by omega)]; exact fun h => h
    rw [v02, if_neg nz] at go9
    have z0 : ∀ k, m2.1 0 k = m9.1 0 k := fun k => oa 0 k (by omega) (by omega) (by omega)
    have e1 : ∀ a k, a ≠ 0 → a ≠ 23 → a ≠ 27 → a ≠ r → ¬ (r + 11 ≤ a ∧ a ≤ r + 15) → ¬ (z ≤ a ∧ a < z + 10) → m2.1 a k = m.1 a k := fun a k q1 q2 q3 q4 q5 q6 => by
      by_cases c24 : a = 24
      · subst c24
        rw [o5, vo _ _ q1, kd1 _ _ q4 q5 q6]
      · rw [oa a k q2 (Or.inl c24) q3, vo a k q1, kd1 a k q4 q5 q6]
    have eRR : ∀ a k, ¬ (a = r + 11 ∧ k = 4) → m2.2.2 a k = m.2.2 a k := fun a k h => by rw [oc, v2, kd3 a k (by omega)]
    refine ⟨q32 (-30 - (k : Nat)), m9, m2, nw, ?_, o1, hst.hs h05 rb.2.2.1 (fun a k q1 q2 q3 q4 q5 q6 q7 => e1 a k q1 q2 q3 q5 q6 q7) (fun a k q1 q2 => by rw [ob a k q1, v2, kd2 a k q2]) (fun a k q1 q2 q3 => eRR a k q1) (by rw [eRR _ _ (by omega)]; exact rn) (by rw [eRR _ _ (by omega)]; exact rb.2.2.1) (Or.inl ⟨rfl, rfl⟩) ?_ ?_, by rw [eRR _ _ (by omega)]⟩
    · rw [go9]
      simp only [c32i, q32_neg, q32_sub]
    · refine hst.2.1.same (fun i hi => funext fun k => ?_) (fun k hk => e1 24 k (by omega) (by omega) (by omega) (by omega) (by omega) (by omega))
      have := sepn i hi
      have s11 := this.2 11 (by omega) (by omega)
      have s12 := this.2 12 (by omega) (by omega)
      have s13 := this.2 13 (by omega) (by omega)
      have s14 := this.2 14 (by omega) (by omega)
      have s15 := this.2 15 (by omega) (by omega)
      exact e1 _ k (by omega) (by omega) (by omega) this.1 (by omega) (by omega)
    · obtain ⟨-, ud, u1, u2, u3, u4⟩ := hst.2.2.1
      have e24 : m2.1 24 = m.1 24 := funext fun k => e1 24 k (by omega) (by omega) (by omega) (by omega) (by omega) (by omega)
      have e14 : m2.1 14 = m.1 14 := funext fun k => e1 14 k (by omega) (by omega) (by omega) (by omega) (by omega) (by omega)
      have e15 : m2.1 15 = m.1 15 := funext fun k => e1 15 k (by omega) (by omega) (by omega) (by omega) (by omega) (by omega)
      refine ⟨⟨0, by omega, rfl, by rw [z0]; exact v01, od, fun k hk => absurd hk (Nat.not_lt_zero _), by rw [o3, z0, v02], by rw [o4, z0, v03]⟩, ud, u1, by rw [z0, v010]; exact u2, by rw [e24]; exact u3, fun k hk => ?_⟩
      rw [e24, e14, e15]
      exact u4 k hk
  | inr p =>
    obtain ⟨j, h'⟩ := p
    rw [hR] at mt
    obtain ⟨w0, wl, wc, wp, w1, w2, wh⟩ := mt
    generalize h9 : wI (wI (wI m4 0 1 (q32 0)) 0 2 (m4.1 r 1)) 0 3 (m4.1 r 2) = m9
    have go9 := go (fun _ => none) m9 h9.symm
    have v2 : m9.2 = m4.2 := by rw [← h9]; rfl
    have vo : ∀ a k, a ≠ 0 → m9.1 a k = m4.1 a k := fun a k h => by rw [← h9, wI_n (by omega), wI_n (by omega), wI_n (by omega)]
    have v01 : m9.1 0 1 = q32 0 := by rw [← h9]; simp (disch := omega) only [Option.bind_some, bindv, bindv0, bind2_s, bind3_s, ↓reduceIte, Bool.false_eq_true, rZM_0, rZM_1, rZP_0, rZP_1, ptZ_0, ptZ_1, c32i, c64i, ncI, Int.natCast_add, Int.natCast_mul, q32_neg, q64_neg, q32_add, q32_sub, q32_mul, q64_add, q64_sub, q64_mul, q32_64i, q64_32, q32_lt_t, q32_lt_f, q32_le_t, q32_le_f, q32_eq_t, q32_eq_f, q64_lt_t, q64_lt_f, q64_le_t, q64_le_f, q64_eq_t, q64_eq_f, rdI_i, rdL_i, rdR_i, rdN_i, stI_i, stL_i, stR_i, wI_s, wI_n, wL_s, wL_n, wI_2, wI_3, wL_1, wL_3, wR_1, wR_2, Int.toNat_natCast, tnO, tn_add, tn_sub, tn_mul, Nat.add_sub_cancel, Nat.add_zero, Nat.zero_add, lnO, win_t, win_f]
    have v02 : m9.1 0 2 = q32 0 := by rw [← h9, wI_n (by omega), wI_s, w1]
    have v03 : m9.1 0 3 = q32 (-1) := by rw [← h9, wI_s, w2]
    generalize h16 : wI (wR (wR m9 r 0 (some nw)) 0 4 (some z)) 0 10 (q32 0) = m16
    have x1 : ∀ a k, (a ≠ 0 ∨ k ≠ 10) → m16.1 a k = m9.1 a k := fun a k h => by rw [← h16, wI_n h]; rfl
    have xL : m16.2.1 = m4.2.1 := by rw [← h16]; show m9.2.1 = _; rw [v2]
    have x4 : m16.2.2 0 4 = some z := by rw [← h16, wI_3, wR_3, if_pos ⟨rfl, rfl⟩]
    have xr : m16.2.2 r 0 = some nw := by rw [← h16, wI_3, wR_3, if_neg (by omega), wR_3, if_pos ⟨rfl, rfl⟩]
    have xR : ∀ a k, ¬ (a = r ∧ k = 0) → ¬ (a = 0 ∧ k = 4) → m16.2.2 a k = m4.2.2 a k := fun a k p1 p2 => by rw [← h16, wI_3, wR_3, if_neg p2, wR_3, if_neg p1, v2]
    have x10 : m16.1 0 10 = q32 0 := by rw [← h16, wI_s]
    rw [v02, if_pos (show q32 0 = (0 : Int32) from rfl), v2, q05, Option.bind_some, qr0, Option.bind_some, Option.bind_some, q04, Option.bind_some, bindv, bindv0, bindv, bindv0, bindv, bindv0, show (0 : Int32) = q32 0 from rfl, h16, x4, Option.bind_some] at go9
    have hr16 : RF m16 := hr.rd r53 (fun a k ha hb => by rw [xR _ _ (by omega) (by omega), kd3 _ _ (by omega)])
    have ho := house10 hF hp hr16 (T := T) (N := N) (K := K) (g := 901) (tpd := tpd) (Nat.le_refl _) tke k1 (by rw [x1 _ _ (by omega), vo _ _ (by omega), loI _ _ (by omega)]; exact t4) hN t1 (fun k hk => by rw [x1 _ _ (by omega), vo _ _ (by omega), loI _ _ (by omega), ← (t5 k (by omega)).1]; exact (hT' k hk).1)
    rw [hR] at ho
    obtain ⟨-, ht, m2, m3, o1, o2, o3, o4, o5, o6⟩ := ho
    obtain ⟨oa, ob, oc, od⟩ := o2
    have z0 : ∀ k, m2.1 0 k = m16.1 0 k := fun k => oa 0 k (by omega) (by omega) (by omega)
    have e1 : ∀ a k, a ≠ 0 → a ≠ 23 → a ≠ 27 → (a ≠ 24 ∨ 999 ≤ k) → a ≠ r → ¬ (r + 11 ≤ a ∧ a ≤ r + 15) → ¬ (z ≤ a ∧ a < z + 10) → m2.1 a k = m.1 a k := fun a k q1 q2 q3 q4 q5 q6 q7 => by
      rw [oa a k q2 q4 q3, x1 a k (Or.inl q1), vo a k q1, kd1 a k q5 q6 q7]
    have eRR : ∀ a k, ¬ (a = r + 11 ∧ k = 4) → ¬ (a = r ∧ k = 0) → ¬ (a = 0 ∧ k = 4) → m2.2.2 a k = m.2.2 a k := fun a k p1 p2 p3 => by rw [oc, xR a k p2 p3, kd3 a k (by omega)]
    have hH4 : HREL m4 z (m2.1 24) := told_HR wh o5 o6 wp ht (by omega) (by omega)
    have x73 : m2.1 24 73 = q32 0 := by rw [o6 73 (by omega)]; exact o5.2.2.2.2.2.2
    refine ⟨m16.1 z 2, m16, m2, z, go9, ?_, hst.hs h05 rb.2.2.1 e1 (fun a k q1 q2 => by rw [ob a k q1, xL, kd2 a k q2]) eRR (by rw [oc]; exact x4) (by rw [oc]; exact xr) (Or.inr ⟨rfl, rfl⟩) ?_ ?_, eRR _ _ (by omega) (by omega) (by omega)⟩
    · rw [o1, x1 _ _ (by omega), vo _ _ (by omega), wh.1.2.2.1]
    · exact hH4.same (fun i hi => funext fun k => by rw [oa _ k (by omega) (by omega) (by omega), x1 _ k (by omega), vo _ k (by omega)]) (fun _ _ => rfl)
    · exact ⟨⟨0, by omega, rfl, by rw [z0, x1 _ _ (by omega)]; exact v01, od, fun k hk => absurd hk (Nat.not_lt_zero _), by rw [o3, z0, x1 _ _ (by omega), v02], by rw [o4, z0, x1 _ _ (by omega), v03]⟩, 0, by omega, by rw [z0, x10]; rfl, by rw [x73]; rfl, fun k hk => absurd hk (Nat.not_lt_zero _)⟩
theorem opg_house {F : Nat} (hF : 20000 ≤ F) {s : List Sh} {m : Mem} (h : INV s m) (w : Int32) : OPG s m (n_X9_house F s m 0 w) (fun s1 m1 => n_X10_house F s1 m1 23 w) := by
  have h0 := h
  obtain ⟨hg, ow, nw, hst⟩ := h
  have hl := hst.1
  have hp := hl.hp
  have hr := hl.rf
  have hn := hl.hn
  have rn := hl.nw
  have r1 := rf23_1 hr
  have l24 := ln24 hp
  obtain ⟨v, hv, rfl⟩ := q32_of w
  obtain ⟨⟨tpd, t1, t2, t3, t4, t5, t6, t7⟩, hus⟩ := hst.2.2.1
  by_cases c : 0 ≤ v ∧ v ≤ tpd
  · obtain ⟨N, rfl⟩ := Int.eq_ofNat_of_zero_le c.1
    have hN : N ≤ tpd := by omega
    obtain ⟨s', m', ow', r, a1, a2, a3, a4, a5, a6⟩ := reader9 (F := F) hst t3 hN t1
    have hL : 53 ≤ s.length := by obtain ⟨t, ht⟩ := hp; rw [ht, List.length_append, sB_len]; omega
    obtain ⟨x, m1, m2, nw', b1, b2, b3, b4⟩ := house_core hF a2 a3 hN t1 (by rw [a5 23 (by omega)]; exact t4) (fun k hk => by rw [a5 1 (by omega), a5 26 (by omega)]; exact t5 k hk)
    have e1 : n_X9_house F s m 0 (q32 (N : Nat)) = some (x, s', m1) := by rw [a1]; exact b1
    obtain ⟨-, g1, g2⟩ := un_X9_house hg (okB hp).1 e1
    exact ⟨x, s', m1, m2, e1, b2, ⟨(un_X10_house g1 (okB a2.1.hp).2 b2).2, _, nw', b3⟩, a4, by rw [b4, a6]⟩
  · have e1 : n_X9_house F s m 0 (q32 v) = some (q32 (-3), s, m) := by
      unfold n_X9_house nb_X9_house_0
      by_cases c2 : v < 0
      · simp (disch := omega) only [Option.bind_some, bindv, bindv0, bind2_s, bind3_s, ↓reduceIte, Bool.false_eq_true, rZM_0, rZM_1, rZP_0, rZP_1, ptZ_0, ptZ_1, c32i, c64i, ncI, Int.natCast_add, Int.natCast_mul, q32_neg, q64_neg, q32_add, q32_sub, q32_mul, q64_add, q64_sub, q64_mul, q32_64i, q64_32, q32_lt_t, q32_lt_f, q32_le_t, q32_le_f, q32_eq_t, q32_eq_f, q64_lt_t, q64_lt_f, q64_le_t, q64_le_f, q64_eq_t, q64_eq_f, rdI_i, rdL_i, rdR_i, rdN_i, stI_i, stL_i, stR_i, wI_s, wI_n, wL_s, wL_n, wI_2, wI_3, wL_1, wL_3, wR_1, wR_2, Int.toNat_natCast, tnO, tn_add, tn_sub, tn_mul, Nat.add_sub_cancel, Nat.add_zero, Nat.zero_add, lnO, win_t, win_f]
      · simp (disch := omega) only [Option.bind_some, bindv, bindv0, bind2_s, bind3_s, ↓reduceIte, Bool.false_eq_true, rZM_0, rZM_1, rZP_0, rZP_1, ptZ_0, ptZ_1, c32i, c64i, ncI, Int.natCast_add, Int.natCast_mul, q32_neg, q64_neg, q32_add, q32_sub, q32_mul, q64_add, q64_sub, q64_mul, q32_64i, q64_32, q32_lt_t, q32_lt_f, q32_le_t, q32_le_f, q32_eq_t, q32_eq_f, q64_lt_t, q64_lt_f, q64_le_t, q64_le_f, q64_eq_t, q64_eq_f, rdI_i, rdL_i, rdR_i, rdN_i, stI_i, stL_i, stR_i, wI_s, wI_n, wL_s, wL_n, wI_2, wI_3, wL_1, wL_3, wR_1, wR_2, Int.toNat_natCast, tnO, tn_add, tn_sub, tn_mul, Nat.add_sub_cancel, Nat.add_zero, Nat.zero_add, lnO, win_t, win_f, t3]
    have e2 : n_X10_house F s m 23 (q32 v) = some (q32 (-3), wI m 23 0 (q32 0)) := by
      unfold n_X10_house nb_X10_house_0
      simp (disch := omega) only [Option.bind_some, bindv, bindv0, bind2_s, bind3_s, ↓reduceIte, Bool.false_eq_true, rZM_0, rZM_1, rZP_0, rZP_1, ptZ_0, ptZ_1, c32i, c64i, ncI, Int.natCast_add, Int.natCast_mul, q32_neg, q64_neg, q32_add, q32_sub, q32_mul, q64_add, q64_sub, q64_mul, q32_64i, q64_32, q32_lt_t, q32_lt_f, q32_le_t, q32_le_f, q32_eq_t, q32_eq_f, q64_lt_t, q64_lt_f, q64_le_t, q64_le_f, q64_eq_t, q64_eq_f, rdI_i, rdL_i, rdR_i, rdN_i, stI_i, stL_i, stR_i, wI_s, wI_n, wL_s, wL_n, wI_2, wI_3, wL_1, wL_3, wR_1, wR_2, Int.toNat_natCast, tnO, tn_add, tn_sub, tn_mul, Nat.add_sub_cancel, Nat.add_zero, Nat.zero_add, lnO, win_t, win_f, t4]
    exact opg_fin h0 e1 e2 (un_X10_house (un_X9_house hg (okB hp).1 e1).2.1 (okB hp).2 e2).2 (SC.k0 m)
