/-! the reference reads all lines -/
theorem all10 {F : Nat} (hF : 20000 ≤ F) {s : List Sh} (hp : ∃ t, s = sB ++ t) {T : Nat → Int} {N K g : Nat} (hg : K ≤ g) (hK : TKE T N K) (ham : ∀ i, kdF T N i = 2 → 0 ≤ amF T N i ∧ amF T N i ≤ 999) : ∀ n i fuel h, K - i ≤ n → n + 1 < fuel → i < K → h.1.2.2 ≤ i → HPP h → HBT h → (hCd h).length ≤ i → ∀ m : Mem, RF m → CN10 s m T N K i → H10 m h → match RDA (kdF T N) (amF T N) g n i h with
  | .inl (k, j) => j < K ∧ ∃ m', nl_X10_house_58 F s fuel m 23 = nb_X10_house_105 F s m' 23 ∧ KL10 m m' ∧ FLT10 m' k (tpos T N j)
  | .inr (j, h') => j < K ∧ HBT h' ∧ ∃ m', nl_X10_house_58 F s fuel m 23 = nb_X10_house_105 F s m' 23 ∧ KL10 m m' ∧ m'.1 23 11 = q32 0 ∧ H10 m' h' := by
  have l27 := ln27 hp
  have n1 : ¬ q32 1 = (0 : Int32) := by decide
  have n0 : q32 0 = (0 : Int32) := rfl
  -- a line's end is a fault, and all ends
  have fend : ∀ fuel (m : Mem) k p, RF m → FLT10 m k p → ∃ x, nb_X10_house_92 F s (nl_X10_house_58 F s (fuel + 1)) m 23 = nb_X10_house_105 F s (wI m 27 0 x) 23 := fun fuel m k p hr hf => by
    refine ⟨m.1 27 0 + 1, ?_⟩
    unfold nb_X10_house_92
    rw [rf23_4 hr, Option.bind_some, rdI_c 0 (by omega) (by omega), Option.bind_some, stI_c 0 (by omega) (by omega), Option.bind_some]
    show nb_X10_house_58 F s (nl_X10_house_58 F s fuel) _ 23 = _
    unfold nb_X10_house_58
    rw [if_neg (flt_ne (hf.I (Or.inl rfl)))]
  intro n
  induction n with
  | zero => intro i fuel h h1 h2 h3; omega
  | succ n ih =>
    intro i fuel h hf hfu hi hli hpp hbt hcl m hr hc hh
    obtain ⟨fuel, rfl⟩ : ∃ f, fuel = f + 1 + 1 := ⟨fuel - 2, by omega⟩
    have h0 := hc.2.1
    have h9 := hc.2.2.1.2.2.2.1
    have rq := rk_q (T := T) (N := N) (p := tpos T N i) (c := 1) (by decide) (by decide)
    have ln := line10 hF hp hr hg hK hpp hbt.bs hh hcl hc
    have pre : nl_X10_house_58 F s (fuel + 1 + 1) m 23 = if (m.1 23 9) = (17 : Int32) then (nb_X10_house_105 F s m 23) else (bind2 (n_X10_readLine F s m 23) fun _ m2 => (bind2 (n_X10_eats F s m2 23 (20 : Int32)) fun x3 m4 => (if x3 = 0 then (bind2 (n_X10_fails s m4 23 (2 : Int32)) fun _ m6 => (nb_X10_house_92 F s (nl_X10_house_58 F s (fuel + 1)) m6 23)) else (nb_X10_house_92 F s (nl_X10_house_58 F s (fuel + 1)) m4 23)))) := by
      show nb_X10_house_58 F s (nl_X10_house_58 F s (fuel + 1)) m 23 = _
      unfold nb_X10_house_58
      rw [h0, if_pos n0]
    unfold RDA
    rw [pre, h9]
    by_cases c1 : kdF T N i = 1
    · rw [if_pos c1, if_pos (show q32 (rk (kdT T N (tpos T N i))) = (17 : Int32) from rq.mpr c1)]
      exact ⟨hi, hbt, m, rfl, KL10.rf m, h0, hh⟩
    · rw [if_neg c1, if_neg (show ¬ q32 (rk (kdT T N (tpos T N i))) = (17 : Int32) from fun e => c1 (rq.mp e))]
      -- where a fault was found
      have fin : ∀ k j (m2 : Mem), j < K → n_X10_readLine F s m 23 = some ((), m2) → KL10 m m2 → (FLT10 m2 k (tpos T N j) ∨ (CN10 s m2 T N K j ∧ kdF T N j ≠ 59 ∧ k = csF (kdF T N) j)) → ∃ m', (bind2 (n_X10_readLine F s m 23) fun _ m2 => (bind2 (n_X10_eats F s m2 23 (20 : Int32)) fun x3 m4 => (if x3 = 0 then (bind2 (n_X10_fails s m4 23 (2 : Int32)) fun _ m6 => (nb_X10_house_92 F s (nl_X10_house_58 F s (fuel + 1)) m6 23)) else (nb_X10_house_92 F s (nl_X10_house_58 F s (fuel + 1)) m4 23)))) = nb_X10_house_105 F s m' 23 ∧ KL10 m m' ∧ FLT10 m' k (tpos T N j) := fun k j m2 hj e1 e2 e3 => by
        have hr2 : RF m2 := hr.same (by rw [e2.2.2])
        rcases e3 with e3 | ⟨e3, e4, e5⟩
        · obtain ⟨x, hx⟩ := fend fuel m2 k _ hr2 e3
          refine ⟨wI m2 27 0 x, ?_, e2.tr KL10.I, e3.I (Or.inl rfl)⟩
          rw [e1, bind2_s, eat10f e3, bind2_s, if_pos rfl, fai10f e3, bind2_s]
          exact hx
        · have e59 : n_X10_eats F s m2 23 (20 : Int32) = some (q32 0, m2) := (eat10 hF e3.1 e3.2.1 e3.2.2.1 (c := 59) (by decide) (by decide) (by decide)).2 e4
          obtain ⟨m3, a1, a2, a3⟩ := fai10a (s := s) e3.2.1 e3.2.2.1 (k := 2) (by omega)
          have a1' : n_X10_fails s m2 23 (2 : Int32) = some ((), m3) := a1
          have a3' : FLT10 m3 k (tpos T N j) := by rw [e5]; exact a3
          obtain ⟨x, hx⟩ := fend fuel m3 k _ (hr2.same (by rw [a2.2.2])) a3'
          refine ⟨wI m3 27 0 x, ?_, (e2.tr a2.kl).tr KL10.I, a3'.I (Or.inl rfl)⟩
          rw [e1, bind2_s, e59, bind2_s, if_pos n0, a1', bind2_s]
          exact hx
      cases hL : LINE (kdF T N) (amF T N) g i h with
      | inl p =>
        obtain ⟨k, j⟩ := p
        rw [hL] at ln
        obtain ⟨d0, m2, d1, d2, d3⟩ := ln
        exact ⟨d0, fin k j m2 d0 d1 d2 d3⟩
      | inr p =>
        obtain ⟨j, h'⟩ := p
        have hp' := LINE_ok hpp hL
        have hl' : h'.1.2.2 = h.1.2.2 := LINE_l hL
        have ht' := LINE_t ham hbt hL
        rw [hL] at ln
        obtain ⟨d00, d0, m2, d1, d2, d3, d4⟩ := ln
        have hn' := LINE_n hcl (by omega) hL
        have hr2 : RF m2 := hr.same (by rw [d2.2.2])
        dsimp only
        by_cases c59 : kdF T N j = 59
        · rw [if_pos c59]
          have hj1 := hK.nx d0 (by omega) (by omega)
          obtain ⟨m3, a1, a2, a3⟩ := (eat10 hF d3.1 d3.2.1 d3.2.2.1 (c := 59) (by decide) (by decide) (by decide)).1 c59
          have a1' : n_X10_eats F s m2 23 (20 : Int32) = some (q32 1, m3) := a1
          have cn3 : CN10 s m3 T N K (j + 1) := ⟨d3.1.x a2, a2.n11 d3.2.1, a3, hj1⟩
          have hr3 : RF m3 := hr2.same (by rw [a2.2])
          have h3 := d4.ka a2.ka
          have go : (bind2 (n_X10_readLine F s m 23) fun _ m2 => (bind2 (n_X10_eats F s m2 23 (20 : Int32)) fun x3 m4 => (if x3 = 0 then (bind2 (n_X10_fails s m4 23 (2 : Int32)) fun _ m6 => (nb_X10_house_92 F s (nl_X10_house_58 F s (fuel + 1)) m6 23)) else (nb_X10_house_92 F s (nl_X10_house_58 F s (fuel + 1)) m4 23)))) = nl_X10_house_58 F s (fuel + 1) (wI m3 27 0 (q32 (h'.1.2.2 + 1 : Nat))) 23 := by
            rw [d1, bind2_s, a1', bind2_s, if_neg n1]
            unfold nb_X10_house_92
            rw [rf23_4 hr3, Option.bind_some, rdI_c 0 (by omega) (by omega), Option.bind_some, stI_c 0 (by omega) (by omega), Option.bind_some, h3.1.1, show q32 (h'.1.2.2 : Int) + 1 = q32 ((h'.1.2.2 + 1 : Nat) : Int) by rw [show (1 : Int32) = q32 1 from rfl, q32_add, Int.natCast_add]; rfl]
          have rr := ih (j + 1) (fuel + 1) (sLines h') (by omega) (by omega) hj1 (by show h'.1.2.2 + 1 ≤ j + 1; omega) hp' ht' (by show (hCd h').length ≤ j + 1; omega) _ (hr3.same (by rw [wI_3])) (cn3.I (Or.inl rfl)) h3.l
          rw [go]
          cases hR : RDA (kdF T N) (amF T N) g n (j + 1) (sLines h') with
          | inl p =>
            obtain ⟨k, j2⟩ := p
            rw [hR] at rr
            obtain ⟨w0, m4, w1, w2, w3⟩ := rr
            exact ⟨w0, m4, w1, ((d2.tr a2.kl).tr KL10.I).tr w2, w3⟩
          | inr p =>
            obtain ⟨j2, h2⟩ := p
            rw [hR] at rr
            obtain ⟨w0, wt, m4, w1, w2, w3, w4⟩ := rr
            exact ⟨w0, wt, m4, w1, ((d2.tr a2.kl).tr KL10.I).tr w2, w3, w4⟩
        · rw [if_neg c59]
          exact ⟨d0, fin (csF (kdF T N) j) j m2 d0 d1 d2 (Or.inr ⟨d3, c59, rfl⟩)⟩
