theorem LINE_l {kd am : Nat → Int} {g i j : Nat} {h h' : HSS} (e : LINE kd am g i h = .inr (j, h')) : h'.1.2.2 = h.1.2.2 := by
  unfold LINE at e
  repeat' (first | (split at e) | (cases e; done) | (cases e; rfl))
theorem HCL.l {s : List Sh} {m : Mem} {r z : Nat} {h : HSS} (zr : z ≠ r) (hh : HCL s m r z h) : HCL s (wI m z 2 (q32 (h.1.2.2 + 1 : Nat))) r z (sLines h) := by
  obtain ⟨⟨q1, q2, q3, q4⟩, ⟨b1, b2⟩, c, f, t, g1, g2, g3, g4⟩ := hh
  exact ⟨⟨by rw [wI_n (by omega)]; exact q1, by rw [wI_n (by omega)]; exact q2, wI_s .., by rw [wI_n (by omega)]; exact q4⟩, ⟨by rw [wI_n (by omega)]; exact b1, by rw [wI_n (by omega)]; exact b2⟩, by rw [wI_n (by omega)]; exact c, f.w (by omega) _, t.w (by omega) _, by rw [wI_n (by omega)]; exact g1, fun b hb h0 => by rw [wI_n (by omega)]; exact g2 b hb h0, by rw [wI_n (by omega)]; exact g3, fun k hk => by rw [wI_n (by omega)]; exact g4 k hk⟩
theorem all9 {F : Nat} (hF : 20000 ≤ F) {s : List Sh} {r z K N g : Nat} {T : Nat → Int} (hg : K ≤ g) (hT : ∀ k, k < N → 0 ≤ T k ∧ T k < 256) : ∀ n i fuel c h, K - i ≤ n → n < fuel → i < K → c ≤ i → h.1.2.2 ≤ i → HPP h → (hCd h).length ≤ i → ∀ m : Mem, RCX s m r z K T N → CUR m r T N i → HCL s m r z h → match RDA (kdF T N) (amF T N) g n i h with
  | .inl (k, j) => j < K ∧ ∃ m', nl_X3_readAll_43 F s fuel m r (q32 (c : Nat)) = some ((), m') ∧ KPR r z m m' ∧ FLT m' r k (tpos T N j)
  | .inr (j, h') => j < K ∧ h'.1.2.2 ≤ j ∧ (hCd h').length ≤ j ∧ HPP h' ∧ ∃ m', nl_X3_readAll_43 F s fuel m r (q32 (c : Nat)) = some ((), m') ∧ KPR r z m m' ∧ HCL s m' r z h' ∧ m'.1 r 1 = m.1 r 1 ∧ m'.1 r 2 = m.1 r 2 := by
  intro n
  induction n with
  | zero => intro i fuel c h h1 h2 h3; omega
  | succ n ih =>
    intro i fuel c h hf hfu hi hci hli hp hcl m hx hc hh
    obtain ⟨fuel, rfl⟩ : ∃ f, fuel = f + 1 := ⟨fuel - 1, by omega⟩
    have zr : z ≠ r := by have := hx.sep.2; omega
    have r3 := hx.2.1.2.1
    have szK := hx.2.2.2.2.2.1.1
    have K9 := hx.2.2.2.2.2.2.2.1
    have h5 := hc.2.1
    have kb := kdT_b (T := T) (N := N) (p := tpos T N i)
    have ln := line9 hF hg hT hx hi hc hh hp hcl
    have pre : nl_X3_readAll_43 F s (fuel + 1) m r (q32 (c : Nat)) = if q32 (kdT T N (tpos T N i)) = (1 : Int32) then (some ((), m)) else (bind2 (n_X3_line F s m r) fun x2 m3 => (if x2 = 0 then (some ((), m3)) else (bind2 (n_X3_closes s m3 r) fun x4 m5 => (if x4 = 0 then (some ((), m5)) else (bindv (q32 (c : Nat) + (1)) fun x6 => (nl_X3_readAll_43 F s fuel m5 r x6)))))) := by
      show nb_X3_readAll_43 F s (nl_X3_readAll_43 F s fuel) m r _ = _
      unfold nb_X3_readAll_43
      rw [r3, Option.bind_some, szK, if_neg (by rw [q32_le_f (by omega)]; exact fun h => h), h5]
    unfold RDA
    rw [pre]
    by_cases c1 : kdF T N i = 1
    · rw [if_pos c1, if_pos (show q32 (kdT T N (tpos T N i)) = (1 : Int32) by rw [show kdT T N (tpos T N i) = 1 from c1]; rfl)]
      exact ⟨hi, hli, hcl, hp, m, rfl, KPR.rf m, hh, rfl, rfl⟩
    · rw [if_neg c1, if_neg (show ¬ q32 (kdT T N (tpos T N i)) = (1 : Int32) by rw [show (1 : Int32) = q32 1 from rfl, q32_eq_f (by have : kdT T N (tpos T N i) ≠ 1 := c1; omega)]; exact fun h => h)]
      cases hL : LINE (kdF T N) (amF T N) g i h with
      | inl p =>
        obtain ⟨k, j⟩ := p
        rw [hL] at ln
        obtain ⟨d0, m2, d1, d2, d3⟩ := ln
        exact ⟨d0, m2, by rw [d1, bind2_s, if_pos (show q32 0 = (0 : Int32) from rfl)], d2, d3⟩
      | inr p =>
        obtain ⟨j, h'⟩ := p
        have hp' := LINE_ok hp hL
        have hl' : h'.1.2.2 = h.1.2.2 := LINE_l hL
        rw [hL] at ln
        obtain ⟨d00, d0, dl, m2, d1, d2, d3, d4, d5, d6⟩ := ln
        have hx2 := hx.k d2
        have k5 := d3.2.1
        have kb2 := kdT_b (T := T) (N := N) (p := tpos T N j)
        dsimp only
        rw [d1, bind2_s, if_neg (show ¬ q32 1 = (0 : Int32) by decide)]
        by_cases c59 : kdF T N j = 59
        · rw [if_pos c59]
          have hj1 := hx2.nx d0 (by omega) (by omega)
          rw [show kdT T N (tpos T N j) = 59 from c59] at k5
          have r0 := hx2.2.1.1
          have z2 := d4.1.2.2.1
          have kw : KPR r z m2 (wI m2 z 2 (q32 (h'.1.2.2 + 1 : Nat))) := ⟨fun a k p1 p2 p3 => by rw [wI_n (by omega)], fun _ _ _ => rfl, rfl⟩
          have hw := HCL.l zr d4
          obtain ⟨m3, b1, b2, b3, b4, b5, b6⟩ := nxt9 (hx2.k kw) (d3.k (fun k _ _ => by rw [wI_n (by omega)])) hj1
          have h3 : HCL s m3 r z (sLines h') := HCL.k (hx2.k kw) hw b5 (b4 9 (by omega)) (b4 10 (by omega)) (by rw [b6])
          have cl : n_X3_closes s m2 r = some (q32 1, m3) := by
            unfold n_X3_closes nb_X3_closes_0
            rw [k5, if_pos (by decide), r0, Option.bind_some, z2, bindv, bindv0, show q32 (h'.1.2.2 : Int) + 1 = q32 ((h'.1.2.2 + 1 : Nat) : Int) by rw [show (1 : Int32) = q32 1 from rfl, q32_add, Int.natCast_add]; rfl, b1, bind2_s]
            rfl
          have rr := ih (j + 1) fuel (c + 1) (sLines h') (by omega) (by omega) hj1 (by omega) (by show h'.1.2.2 + 1 ≤ j + 1; omega) hp' (by show (hCd h').length ≤ j + 1; omega) m3 ((hx2.k kw).k b2) b3 h3
          rw [cl, bind2_s, if_neg (show ¬ q32 1 = (0 : Int32) by decide), bindv, bindv0, show q32 (c : Int) + 1 = q32 ((c + 1 : Nat) : Int) by rw [show (1 : Int32) = q32 1 from rfl, q32_add, Int.natCast_add]; rfl]
          cases hR : RDA (kdF T N) (amF T N) g n (j + 1) (sLines h') with
          | inl p =>
            obtain ⟨k, j2⟩ := p
            rw [hR] at rr
            obtain ⟨w0, m4, w1, w2, w3⟩ := rr
            exact ⟨w0, m4, w1, ((d2.tr kw).tr b2).tr w2, w3⟩
          | inr p =>
            obtain ⟨j2, h2⟩ := p
            rw [hR] at rr
            obtain ⟨w0, wl, wc, wp, m4, w1, w2, w3, w4, w5⟩ := rr
            exact ⟨w0, wl, wc, wp, m4, w1, ((d2.tr kw).tr b2).tr w2, w3, by rw [w4, b4 1 (by omega), wI_n (by omega), d5], by rw [w5, b4 2 (by omega), wI_n (by omega), d6]⟩
        · rw [if_neg c59]
          obtain ⟨m', b1, b2, b3⟩ := cant9 (s := s) (z := z) d3
          have cl : n_X3_closes s m2 r = some (q32 0, m') := by
            unfold n_X3_closes nb_X3_closes_0
            rw [k5, if_neg (show ¬ q32 (kdT T N (tpos T N j)) = (59 : Int32) by rw [show (59 : Int32) = q32 59 from rfl, q32_eq_f (by have : kdT T N (tpos T N j) ≠ 59 := c59; omega)]; exact fun h => h), b1, bind2_s]
            rfl
          exact ⟨d0, m', by rw [cl, bind2_s, if_pos (show q32 0 = (0 : Int32) from rfl)], d2.tr b2, b3⟩
