theorem but9 {F : Nat} (hF : 20000 ≤ F) {s : List Sh} {m : Mem} {r z K N g : Nat} {T : Nat → Int} (hg : K ≤ g) (hT : ∀ k, k < N → 0 ≤ T k ∧ T k < 256) (hx : RCX s m r z K T N) {i : Nat} (hi1 : i + 1 < K) (hc : CUR m r T N i) {h : HSS} (hh : HCL s m r z h) (hp : HPP h) (hcl : (hCd h).length ≤ i) : LN9 s T N K m r z i (if 6 ≤ hBc h then .inl (4, i) else if kdF T N (i + 1) = 58 then (match SUMp (kdF T N) (amF T N) g 10 0 (i + 2) with
    | .inl e => .inl e
    | .inr (j, c) => if kdF T N j = 59 then .inr (j, sBut h c) else .inl (csF (kdF T N) j, j)) else .inl (csF (kdF T N) (i + 1), i + 1)) (n_X3_buttonLine F s m r) := by
  have zr : z ≠ r := by have := hx.sep.2; omega
  have r0 := hx.2.1.1
  have z6 := hh.2.2.2.2.2.1
  have bc6 := hp.2.2.2.2.2.1
  have K9 := hx.2.2.2.2.2.2.2.1
  by_cases c6 : 6 ≤ hBc h
  · rw [if_pos c6]
    obtain ⟨m', a1, a2, a3⟩ := fail9 (s := s) (z := z) hc 4
    have a1' : n_X3_failed s m r (q32 4) = some (q32 0, m') := a1
    refine ⟨by omega, m', ?_, a2, a3⟩
    unfold n_X3_buttonLine nb_X3_buttonLine_0
    generalize hBc h = bc at *
    simp (disch := omega) only [Option.bind_some, bindv, bindv0, bind2_s, bind3_s, ↓reduceIte, Bool.false_eq_true, rZM_0, rZM_1, rZP_0, rZP_1, ptZ_0, ptZ_1, c32i, c64i, ncI, Int.natCast_add, Int.natCast_mul, q32_neg, q64_neg, q32_add, q32_sub, q32_mul, q64_add, q64_sub, q64_mul, q32_64i, q64_32, q32_lt_t, q32_lt_f, q32_le_t, q32_le_f, q32_eq_t, q32_eq_f, q64_lt_t, q64_lt_f, q64_le_t, q64_le_f, q64_eq_t, q64_eq_f, rdI_i, rdL_i, rdR_i, rdN_i, stI_i, stL_i, stR_i, wI_s, wI_n, wL_s, wL_n, wI_2, wI_3, wL_1, wL_3, wR_1, wR_2, Int.toNat_natCast, tnO, tn_add, tn_sub, tn_mul, Nat.add_sub_cancel, Nat.add_zero, Nat.zero_add, lnO, win_t, win_f, r0, z6, a1']
  · rw [if_neg c6]
    obtain ⟨m1, a1, a2, a3, a4, a5, a6⟩ := nxt9 hx hc hi1
    have hx1 := hx.k a2
    have k5 := a3.2.1
    have kb := kdT_b (T := T) (N := N) (p := tpos T N (i + 1))
    by_cases c58 : kdF T N (i + 1) = 58
    · rw [if_pos c58]
      have hi2 := hx1.nx hi1 (by omega) (by omega)
      rw [show kdT T N (tpos T N (i + 1)) = 58 from c58] at k5
      obtain ⟨m2, b1, b2, b3, b4, b5, b6⟩ := nxt9 hx1 a3 hi2
      have hx2 := hx1.k b2
      have sp := hx2.2.2.2.2.1
      have n : ∀ i, i < 10 → z + i ≠ r := fun i hi => (sp i hi).1
      have nn1 := n 1 (by omega)
      have nn2 := n 2 (by omega)
      have nn15 := (sp 1 (by omega)).2 15 (by omega) (by omega)
      have zn15 : z ≠ r + 15 := (sp 0 (by omega)).2 15 (by omega) (by omega)
      obtain ⟨-, -, ⟨z7, -⟩, l1, -⟩ := hx2.2.2.2.1
      have r02 := hx2.2.1.1
      have h2 : HCL s m2 r z h := HCL.k hx hh (fun a k ha => by rw [b5 a k ha, a5 a k ha]) (by rw [b4 9 (by omega), a4 9 (by omega)]) (by rw [b4 10 (by omega), a4 10 (by omega)]) (by rw [b6, a6])
      have cs := h2.2.2.2.2.2.2.2.1
      have kS : KPR r z m2 (wI (wI m2 (z + 1) (hBc h) (q32 ((hCd h).length : Nat))) r 12 (q32 0)) := ⟨fun a k p1 p2 p3 => by rw [wI_n (by omega), wI_n (by omega)], fun _ _ _ => rfl, rfl⟩
      have hx3 := hx2.k kS
      have sm := sumL9 hF hT (i0 := i + 2) K (i + 2) F 0 true [] (hCd h) (by omega) (by omega) hi2 (Nat.le_refl _) (by omega) ⟨[], [], Or.inl rfl, Or.inl rfl, rfl⟩ (by show (hCd h).length + 0 ≤ i + 2; omega) (wI (wI m2 (z + 1) (hBc h) (q32 ((hCd h).length : Nat))) r 12 (q32 0)) hx3 (b3.k (fun k _ _ => by rw [wI_n (by omega), wI_n (by omega)])) ⟨wI_s .., fun k hk => absurd hk (Nat.not_lt_zero _)⟩ ⟨by rw [wI_n (by omega), wI_n (by omega)]; exact cs, fun k hk => by rw [wI_n (by omega), wI_n (by omega)]; exact h2.2.2.2.2.2.2.2.2 k hk⟩
      rw [sum_alike hg hx.2.2.2.2.2.2.2.2.2.1 hi2 (hCd h), Nat.sub_self] at sm
      have pre : ∀ x m', nl_X3_sumToEnd_11 F s F (wI (wI m2 (z + 1) (hBc h) (q32 ((hCd h).length : Nat))) r 12 (q32 0)) r (q32 ((0 : Nat) : Int)) (q32 (if true then 1 else 0)) (q32 ((0 : Nat) : Int)) = some (x, m') → n_X3_buttonLine F s m r = (if x = 0 then (rZM (0 : Int32) m') else ((m'.2.2 r 0).bind fun a11 => ((m'.2.2 a11 7).bind fun a12 => ((stI s m' a12 ((q32 (hBc h : Int)) + (1 : Int32)) (m'.1 r 10)).bind fun m13 => ((m13.2.2 r 0).bind fun a14 => (bindv (wI m13 a14 6 ((q32 (hBc h : Int)) + (1 : Int32))) fun m15 => (rZM (1 : Int32) m15))))))) := fun x m' hs => by
        have st : stI s m2 (z + 1) (q32 (hBc h : Int)) (q32 ((hCd h).length : Int)) = some (wI m2 (z + 1) (hBc h) (q32 ((hCd h).length : Nat))) := by
          generalize hBc h = bc at *
          simp (disch := omega) only [Option.bind_some, bindv, bindv0, bind2_s, bind3_s, ↓reduceIte, Bool.false_eq_true, rZM_0, rZM_1, rZP_0, rZP_1, ptZ_0, ptZ_1, c32i, c64i, ncI, Int.natCast_add, Int.natCast_mul, q32_neg, q64_neg, q32_add, q32_sub, q32_mul, q64_add, q64_sub, q64_mul, q32_64i, q64_32, q32_lt_t, q32_lt_f, q32_le_t, q32_le_f, q32_eq_t, q32_eq_f, q64_lt_t, q64_lt_f, q64_le_t, q64_le_f, q64_eq_t, q64_eq_f, rdI_i, rdL_i, rdR_i, rdN_i, stI_i, stL_i, stR_i, wI_s, wI_n, wL_s, wL_n, wI_2, wI_3, wL_1, wL_3, wR_1, wR_2, Int.toNat_natCast, tnO, tn_add, tn_sub, tn_mul, Nat.add_sub_cancel, Nat.add_zero, Nat.zero_add, lnO, win_t, win_f]
        have su : n_X3_sumToEnd F s (wI m2 (z + 1) (hBc h) (q32 ((hCd h).length : Nat))) r = some (x, m') := hs
        unfold n_X3_buttonLine nb_X3_buttonLine_0
        rw [r0, Option.bind_some, z6, if_pos (show q32 (hBc h : Int) < (6 : Int32) by rw [show (6 : Int32) = q32 6 from rfl, q32_lt_t (by omega)]; trivial), a1, bind2_s, k5, if_pos (by decide), b1, bind2_s, r02, Option.bind_some, z7, Option.bind_some, cs, st, Option.bind_some, su, bind2_s]
      cases hr : SUMp (kdF T N) (amF T N) g 10 0 (i + 2) with
      | inl p =>
        obtain ⟨k, j⟩ := p
        rw [hr] at sm
        obtain ⟨d0, m3, d1, d2, d3⟩ := sm
        refine ⟨d0, m3, ?_, ((a2.tr b2).tr kS).tr d2, d3⟩
        rw [pre _ _ d1, if_pos (show q32 0 = (0 : Int32) from rfl)]
        rfl
      | inr p =>
        obtain ⟨j, c⟩ := p
        rw [hr] at sm
        dsimp only at sm ⊢
        by_cases c59 : kdF T N j = 59
        · rw [if_pos c59] at sm ⊢
          obtain ⟨d00, d0, -, dl, m3, d1, d2, d3, d4⟩ := sm
          have hx4 := hx3.k d2.pr
          have r03 := hx4.2.1.1
          obtain ⟨-, -, ⟨z73, -⟩, -⟩ := hx4.2.2.2.1
          have cd := d4.1
          -- what is left of the house before
          have zk : ∀ k, m3.1 z k = m2.1 z k := fun k => by rw [d2.1 z k (Or.inl zr) zn15 (by omega), wI_n (by omega), wI_n (by omega)]
          have oth : ∀ q k, 1 < q → q < 10 → q ≠ 2 → m3.1 (z + q) k = m2.1 (z + q) k := fun q k p1 p2 p3 => by
            rw [d2.1 (z + q) k (Or.inl (n q p2)) ((sp q p2).2 15 (by omega) (by omega)) (by omega), wI_n (by have := n q p2; omega), wI_n (by omega)]
          have st1 : ∀ b, m3.1 (z + 1) b = if b = hBc h then q32 ((hCd h).length : Nat) else m2.1 (z + 1) b := fun b => by
            rw [d2.1 (z + 1) b (Or.inl nn1) nn15 (by omega), wI_n (by omega)]
            by_cases e : b = hBc h
            · rw [if_pos e, e, wI_s]
            · rw [if_neg e, wI_n (by omega)]
          have rr : ∀ k, k = 1 ∨ k = 2 ∨ k = 9 → m3.1 r k = m.1 r k := fun k hk => by
            rw [d2.1 r k (by omega) (by omega) (by omega), wI_n (by omega), wI_n (by omega), b4 k (by omega), a4 k (by omega)]
          refine ⟨by omega, d0, dl, wI (wI m3 (z + 1) (hBc h + 1) (q32 ((hCd h ++ c).length : Nat))) z 6 (q32 (hBc h + 1)), ?_, (((a2.tr b2).tr kS).tr d2.pr).tr ⟨fun a k p1 p2 p3 => by rw [wI_n (by omega), wI_n (by omega)], fun _ _ _ => rfl, rfl⟩, d3.k (fun k _ _ => by rw [wI_n (by omega), wI_n (by omega)]), ?_, by rw [wI_n (by omega), wI_n (by omega)]; exact rr 1 (by omega), by rw [wI_n (by omega), wI_n (by omega)]; exact rr 2 (by omega)⟩
          · rw [pre _ _ d1, if_neg (by decide), r03, Option.bind_some, z73, Option.bind_some, cd]
            have en : ((hBc h : Int) + 1).toNat = hBc h + 1 := by omega
            generalize hBc h = bc at *
            simp (disch := omega) only [Option.bind_some, bindv, bindv0, bind2_s, bind3_s, ↓reduceIte, Bool.false_eq_true, rZM_0, rZM_1, rZP_0, rZP_1, ptZ_0, ptZ_1, c32i, c64i, ncI, Int.natCast_add, Int.natCast_mul, q32_neg, q64_neg, q32_add, q32_sub, q32_mul, q64_add, q64_sub, q64_mul, q32_64i, q64_32, q32_lt_t, q32_lt_f, q32_le_t, q32_le_f, q32_eq_t, q32_eq_f, q64_lt_t, q64_lt_f, q64_le_t, q64_le_f, q64_eq_t, q64_eq_f, rdI_i, rdL_i, rdR_i, rdN_i, stI_i, stL_i, stR_i, wI_s, wI_n, wL_s, wL_n, wI_2, wI_3, wL_1, wL_3, wR_1, wR_2, Int.toNat_natCast, en, r03]
          · obtain ⟨⟨q1, q2, q3, q4⟩, ⟨e5, e6⟩, cc, ff, t, t1, t2, t3, t4⟩ := h2
            refine ⟨⟨by rw [wI_n (by omega), wI_n (by omega), zk]; exact q1, by rw [wI_n (by omega), wI_n (by omega), zk]; exact q2, by rw [wI_n (by omega), wI_n (by omega), zk]; exact q3, by rw [wI_n (by omega), wI_n (by omega), zk]; exact q4⟩, ⟨by rw [wI_n (by omega), wI_n (by omega), zk]; exact e5, by rw [wI_n (by omega), wI_n (by omega), zk]; exact e6⟩, by rw [wI_n (by omega), wI_n (by omega), rr 9 (by omega)]; exact hh.2.2.1, ?_, ?_, ?_, fun b hb hb0 => ?_, ?_, fun k hk => ?_⟩
            · obtain ⟨o1, o2, o3, o4, o5⟩ := ff
              refine ⟨by rw [wI_n (by omega), wI_n (by omega), zk]; exact o1, by show _ ∧ _; rw [show (wI (wI m3 (z + 1) (hBc h + 1) (q32 ((hCd h ++ c).length : Nat))) z 6 (q32 (hBc h + 1))).2.2 = m2.2.2 by show m3.2.2 = _; rw [d2.2]; rfl]; exact o2, o3, fun k hk => ?_, fun k hk => ?_⟩
              · rw [wI_n (by omega), wI_n (by omega), oth 3 k (by omega) (by omega) (by omega), wI_n (by omega), wI_n (by omega), oth 4 k (by omega) (by omega) (by omega)]
                refine ⟨(o4 k hk).1, (o4 k hk).2.1, fun y hy => ?_⟩
                rw [wI_n (by omega), wI_n (by omega), oth 5 _ (by omega) (by omega) (by omega)]
                exact (o4 k hk).2.2 y hy
              · rw [wI_n (by omega), wI_n (by omega), oth 7 k (by omega) (by omega) (by omega)]; exact o5 k hk
            · obtain ⟨o1, o2, o3, o4⟩ := t
              refine ⟨by rw [wI_n (by omega), wI_n (by omega), zk]; exact o1, by rw [show (wI (wI m3 (z + 1) (hBc h + 1) (q32 ((hCd h ++ c).length : Nat))) z 6 (q32 (hBc h + 1))).2.2 = m2.2.2 by show m3.2.2 = _; rw [d2.2]; rfl]; exact o2, o3, fun k hk => ?_⟩
              rw [wI_n (by omega), wI_n (by omega), oth 8 k (by omega) (by omega) (by omega), wI_n (by omega), wI_n (by omega), oth 9 k (by omega) (by omega) (by omega)]
              exact o4 k hk
            · show _ = q32 ((hBc h + 1 : Nat) : Int)
              rw [wI_s, Int.natCast_add]; rfl
            · have hb' : b ≤ hBc h + 1 := hb
              show _ = q32 ((if b = hBc h then (hCd h).length else if b = hBc h + 1 then (hCd h ++ c).length else h.2.2.2.2.2.2.1 b : Nat) : Int)
              rw [wI_n (by omega)]
              by_cases e1 : b = hBc h
              · rw [if_pos e1, wI_n (by omega), st1, if_pos e1]
              · rw [if_neg e1]
                by_cases e2 : b = hBc h + 1
                · rw [if_pos e2, e2, wI_s]
                · rw [if_neg e2, wI_n (by omega), st1, if_neg e1]
                  exact t2 b (by omega) (by omega)
            · show _ = q32 ((hCd h ++ c).length : Int)
              rw [wI_n (by omega), wI_n (by omega)]; exact d4.1
            · show _ = q32 ((hCd h ++ c).getD k 0)
              rw [wI_n (by omega), wI_n (by omega)]; exact d4.2 k hk
        · rw [if_neg c59] at sm ⊢
          obtain ⟨d0, m3, d1, d2, d3⟩ := sm
          refine ⟨d0, m3, ?_, ((a2.tr b2).tr kS).tr d2, d3⟩
          rw [pre _ _ d1, if_pos (show q32 0 = (0 : Int32) from rfl)]
          rfl
    · rw [if_neg c58]
      obtain ⟨m', b1, b2, b3⟩ := cant9 (s := s) (z := z) a3
      refine ⟨hi1, m', ?_, a2.tr b2, b3⟩
      dsimp only [kdF] at c58
      generalize kdT T N (tpos T N (i + 1)) = k at *
      unfold n_X3_buttonLine nb_X3_buttonLine_0
      generalize hBc h = bc at *
      simp (disch := omega) only [Option.bind_some, bindv, bindv0, bind2_s, bind3_s, ↓reduceIte, Bool.false_eq_true, rZM_0, rZM_1, rZP_0, rZP_1, ptZ_0, ptZ_1, c32i, c64i, ncI, Int.natCast_add, Int.natCast_mul, q32_neg, q64_neg, q32_add, q32_sub, q32_mul, q64_add, q64_sub, q64_mul, q32_64i, q64_32, q32_lt_t, q32_lt_f, q32_le_t, q32_le_f, q32_eq_t, q32_eq_f, q64_lt_t, q64_lt_f, q64_le_t, q64_le_f, q64_eq_t, q64_eq_f, rdI_i, rdL_i, rdR_i, rdN_i, stI_i, stL_i, stR_i, wI_s, wI_n, wL_s, wL_n, wI_2, wI_3, wL_1, wL_3, wR_1, wR_2, Int.toNat_natCast, tnO, tn_add, tn_sub, tn_mul, Nat.add_sub_cancel, Nat.add_zero, Nat.zero_add, lnO, win_t, win_f, r0, z6, a1, k5, b1]
