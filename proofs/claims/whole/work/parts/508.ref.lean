/-! the reference's button -/
theorem sum10f {F : Nat} (hF : 20000 ≤ F) {s : List Sh} {m : Mem} {k p : Nat} (h : FLT10 m k p) (d : Nat) (x : Int32) : n_X10_readSum F (d + 1) s m 23 x = some ((), m) := by
  obtain ⟨f2, rfl⟩ : ∃ f2, F = f2 + 1 := ⟨F - 1, by omega⟩
  show nb_X10_readSum_0 (nd_X10_readSum (f2 + 1) s d) (f2 + 1) s m 23 x = _
  have at0 : ng_X10_readAtom (nd_X10_readSum (f2 + 1) s d) (f2 + 1) s m 23 x = some ((), m) := by
    show nb_X10_readAtom_0 _ _ s m 23 x = _
    unfold nb_X10_readAtom_0
    rw [is10f h, Option.bind_some, if_pos rfl, eat10f h, bind2_s, if_pos rfl, eat10f h, bind2_s, if_pos rfl, is10f h, Option.bind_some, if_pos rfl, fai10f h, bind2_s]
  have tm0 : ng_X10_readTerm (nd_X10_readSum (f2 + 1) s d) (f2 + 1) s m 23 x = some ((), m) := by
    show nb_X10_readTerm_0 _ _ s m 23 x = _
    unfold nb_X10_readTerm_0
    rw [at0, bind2_s]
    show nb_X10_readTerm_5 _ _ s _ m 23 x = _
    unfold nb_X10_readTerm_5
    rw [is10f h, Option.bind_some, if_pos rfl, is10f h, Option.bind_some, if_pos rfl]
  unfold nb_X10_readSum_0
  rw [tm0, bind2_s]
  show nb_X10_readSum_5 _ _ s _ m 23 x = _
  unfold nb_X10_readSum_5
  rw [is10f h, Option.bind_some, if_pos rfl, is10f h, Option.bind_some, if_pos rfl]
/-- where buttons' codes begin and end -/
def HBS (h : HSS) : Prop := (0 < hBc h → h.2.2.2.2.2.2.1 (hBc h) = (hCd h).length) ∧ (∀ b, b < hBc h → h.2.2.2.2.2.2.1 b ≤ h.2.2.2.2.2.2.1 (b + 1)) ∧ (0 < hBc h → h.2.2.2.2.2.2.1 0 = 0) ∧ (hBc h = 0 → hCd h = [])
theorem but10 {F : Nat} (hF : 20000 ≤ F) {s : List Sh} (hp : ∃ t, s = sB ++ t) {m : Mem} (hr : RF m) {T : Nat → Int} {N K i g : Nat} (hg : K ≤ g) (hK : TKE T N K) {h : HSS} (hpp : HPP h) (hbs : HBS h) (hh : H10 m h) (hcl : (hCd h).length ≤ i) (hc : CN10 s m T N K i) (hk5 : kdF T N i = 5) : LN10 s T N K m i (if 6 ≤ hBc h then .inl (4, i) else if kdF T N (i + 1) = 58 then (match SUMp (kdF T N) (amF T N) g 10 0 (i + 2) with
    | .inl e => .inl e
    | .inr (j, c) => if kdF T N j = 59 then .inr (j, sBut h c) else .inl (csF (kdF T N) j, j)) else .inl (csF (kdF T N) (i + 1), i + 1)) (bind2 (n_X10_readButton F s m 23) fun _ m23 => (some ((), m23))) := by
  have l27 := ln27 hp
  have r4 := rf23_4 hr
  obtain ⟨hx, h0, hs, hi⟩ := id hc
  have k5' : kdT T N (tpos T N i) = 5 := hk5
  have b6 := hpp.2.2.2.2.2.1
  have q2 := hh.1.2.2.1
  have K9 := hK.2.1
  have flt : ∀ k j (m1 : Mem), j < K → n_X10_readButton F s m 23 = some ((), m1) → KL10 m m1 → (FLT10 m1 k (tpos T N j) ∨ (CN10 s m1 T N K j ∧ kdF T N j ≠ 59 ∧ k = csF (kdF T N) j)) → LN10 s T N K m i (.inl (k, j)) (bind2 (n_X10_readButton F s m 23) fun _ m23 => (some ((), m23))) := fun k j m1 hj e k1 f1 => ⟨hj, m1, by rw [e, bind2_s], k1, f1⟩
  have begin0 : n_X10_readButton F s m 23 = if q32 (hBc h : Nat) = (6 : Int32) then (bind2 (n_X10_fails s m 23 (4 : Int32)) fun _ m4 => (nb_X10_readButton_18 F s m4 23 (q32 (hBc h : Nat)))) else (nb_X10_readButton_18 F s m 23 (q32 (hBc h : Nat))) := by
    unfold n_X10_readButton nb_X10_readButton_0
    rw [r4, Option.bind_some, rdI_c 2 (by omega) (by omega), Option.bind_some, q2]
  by_cases c6 : 6 ≤ hBc h
  · have e6 : hBc h = 6 := by omega
    rw [if_pos c6]
    rw [e6, if_pos (show q32 ((6 : Nat) : Int) = (6 : Int32) by decide)] at begin0
    obtain ⟨m1, a1, a2, a3⟩ := fai10a (s := s) h0 hs (k := 4) (by omega)
    rw [if_neg (by omega)] at a3
    have a1' : n_X10_fails s m 23 (4 : Int32) = some ((), m1) := a1
    refine flt 4 i m1 hi ?_ a2.kl (Or.inl a3)
    rw [begin0, a1', bind2_s]
    unfold nb_X10_readButton_18
    rw [if_neg (flt_ne a3)]
  rw [if_neg c6]
  rw [if_neg (by rw [show (6 : Int32) = q32 6 from rfl, q32_eq_f (by omega)]; exact fun h => h)] at begin0
  have hi1 := hK.nx hi (by omega) (by omega)
  obtain ⟨m1, a1, a2, a3⟩ := step10 hF hx hs (hK.2.2.2 i hi1)
  have x1 := hx.x a2
  have n1 := a2.n11 h0
  have hh1 := hh.ka a2.ka
  have e58 := eat10 hF x1 n1 a3 (c := 58) (by decide) (by decide) (by decide)
  by_cases c58 : kdF T N (i + 1) = 58
  · rw [if_pos c58]
    have hi2 : i + 2 < K := hK.nx hi1 (by omega) (by omega)
    obtain ⟨m2, d1, d2, d3⟩ := e58.1 c58
    have d1' : n_X10_eats F s m1 23 (21 : Int32) = some (q32 1, m2) := d1
    have hh2 := hh1.ka d2.ka
    have hr2 : RF m2 := hr.same (by rw [d2.2, a2.2])
    have cn : CND s m2 T N K (i + 2) (hCd h) 0 := ⟨x1.x d2, hr2, d2.n11 n1, d3, hh2.2.2.2.2.1, hi2, by omega⟩
    have su := sum10 hF hp hg hK 10 0 (i + 2) (hCd h) 0 m2 (by omega) (by omega) cn
    have begin1 : ∀ m3 : Mem, n_X10_readSum F 10 s m2 23 (0 : Int32) = some ((), m3) → n_X10_readButton F s m 23 = (if (m3.1 23 11) = 0 then ((m3.2.2 23 4).bind fun a5 => ((stI s m3 a5 (((61 : Int32) + q32 (hBc h : Nat))) (q32 ((hCd h).length : Nat))).bind fun m6 => ((m6.2.2 23 4).bind fun a7 => ((m6.2.2 23 4).bind fun a8 => ((rdI s m6 a8 (98 : Int32)).bind fun x9 => ((stI s m6 a7 (((67 : Int32) + q32 (hBc h : Nat))) (x9 - q32 ((hCd h).length : Nat))).bind fun m10 => ((m10.2.2 23 4).bind fun a11 => ((rdI s m10 a11 (2 : Int32)).bind fun x12 => ((stI s m10 a11 (2 : Int32) ((x12 + (1 : Int32)))).bind fun m13 => (some ((), m13))))))))))) else (some ((), m3))) := fun m3 e => by
      rw [begin0]
      unfold nb_X10_readButton_18
      rw [h0, if_pos (show q32 0 = (0 : Int32) from rfl), a1, bind2_s, d1', bind2_s, if_neg (show ¬ q32 1 = (0 : Int32) by decide)]
      unfold nb_X10_readButton_44
      rw [rf23_4 hr2, Option.bind_some, rdI_c 98 (by omega) (by omega), Option.bind_some, hh2.2.2.2.2.1.1, e, bind2_s]
    cases es : SUMp (kdF T N) (amF T N) g 10 0 (i + 2) with
    | inl p =>
      obtain ⟨k, j⟩ := p
      rw [es] at su
      obtain ⟨w0, m3, w1, w2, w3⟩ := su
      have w1' : n_X10_readSum F 10 s m2 23 (0 : Int32) = some ((), m3) := w1
      refine flt k j m3 w0 ?_ ((a2.kl.tr d2.kl).tr w2.kl) (Or.inl w3)
      rw [begin1 m3 w1', if_neg (flt_ne w3)]
    | inr p =>
      obtain ⟨j, c⟩ := p
      rw [es] at su
      obtain ⟨w0, w00, wl, m3, w1, w2, w3, w4, w5⟩ := su
      have w1' : n_X10_readSum F 10 s m2 23 (0 : Int32) = some ((), m3) := w1
      have r43 : m3.2.2 23 4 = some 27 := by rw [w2.2]; exact rf23_4 hr2
      have e61 : (61 : Int32) + q32 (hBc h : Nat) = q32 ((61 + hBc h : Nat) : Int) := by rw [show (61 : Int32) = q32 61 from rfl, q32_add, Int.natCast_add]; rfl
      have e67 : (67 : Int32) + q32 (hBc h : Nat) = q32 ((67 + hBc h : Nat) : Int) := by rw [show (67 : Int32) = q32 67 from rfl, q32_add, Int.natCast_add]; rfl
      have e1 : q32 (hBc h : Int) + 1 = q32 ((hBc h + 1 : Nat) : Int) := by rw [show (1 : Int32) = q32 1 from rfl, q32_add, Int.natCast_add]; rfl
      have ll : (hCd h).length ≤ (hCd h ++ c).length := by rw [List.length_append]; omega
      have ed : q32 ((hCd h ++ c).length : Nat) - q32 ((hCd h).length : Nat) = q32 (((hCd h ++ c).length - (hCd h).length : Nat) : Int) := by
        rw [q32_sub, Int.natCast_sub ll]
      have z2 : m3.1 27 2 = q32 (hBc h : Nat) := by rw [w2.1 _ _ (by omega) (by omega)]; exact hh2.1.2.2.1
      have cn3 : CN10 s m3 T N K j := ⟨(x1.x d2).ks w2, w3, w4, w00⟩
      have rd : n_X10_readButton F s m 23 = some ((), wI (wI (wI m3 27 (61 + hBc h) (q32 ((hCd h).length : Nat))) 27 (67 + hBc h) (q32 (((hCd h ++ c).length - (hCd h).length : Nat) : Int))) 27 2 (q32 ((hBc h + 1 : Nat) : Int))) := by
        rw [begin1 m3 w1', w3, if_pos (show q32 0 = (0 : Int32) from rfl), r43, Option.bind_some, e61, stI_q (by omega) (by omega), Option.bind_some, wI_3, r43, Option.bind_some, Option.bind_some, rdI_c 98 (by omega) (by omega), Option.bind_some, wI_n (by omega), w5.1, e67, ed, stI_q (by omega) (by omega), Option.bind_some, wI_3, wI_3, r43, Option.bind_some, rdI_c 2 (by omega) (by omega), Option.bind_some, wI_n (by omega), wI_n (by omega), z2, e1, stI_c 2 (by omega) (by omega), Option.bind_some]
      have kl3 : KL10 m m3 := (a2.kl.tr d2.kl).tr w2.kl
      dsimp only
      by_cases c59 : kdF T N j = 59
      · rw [if_pos c59]
        obtain ⟨⟨q0, q1, q2, q3, q4, q5, q6, q7, q8⟩, fl, t, b, -, gg, g73⟩ := hh2
        have Y : ∀ k, k ≠ 2 → k < 98 → k ≠ 61 + hBc h → k ≠ 67 + hBc h → (wI (wI (wI m3 27 (61 + hBc h) (q32 ((hCd h).length : Nat))) 27 (67 + hBc h) (q32 (((hCd h ++ c).length - (hCd h).length : Nat) : Int))) 27 2 (q32 ((hBc h + 1 : Nat) : Int))).1 27 k = m2.1 27 k := fun k p1 p0 p2 p3 => by rw [wI_n (by omega), wI_n (by omega), wI_n (by omega), w2.1 _ _ (by omega) (by omega)]
        have f8 := hpp.2.2.2.1.1
        have t6 := hpp.2.2.2.2.1.1
        refine ⟨by omega, w00, wI (wI (wI m3 27 (61 + hBc h) (q32 ((hCd h).length : Nat))) 27 (67 + hBc h) (q32 (((hCd h ++ c).length - (hCd h).length : Nat) : Int))) 27 2 (q32 ((hBc h + 1 : Nat) : Int)), by rw [rd, bind2_s], ((kl3.tr KL10.I).tr KL10.I).tr KL10.I, ((cn3.I (Or.inl rfl)).I (Or.inl rfl)).I (Or.inl rfl), ⟨by rw [Y 0 (by omega) (by omega) (by omega) (by omega)]; exact q0, by rw [Y 1 (by omega) (by omega) (by omega) (by omega)]; exact q1, ?_, by rw [Y 3 (by omega) (by omega) (by omega) (by omega)]; exact q3, by rw [Y 4 (by omega) (by omega) (by omega) (by omega)]; exact q4, by rw [Y 5 (by omega) (by omega) (by omega) (by omega)]; exact q5, by rw [Y 6 (by omega) (by omega) (by omega) (by omega)]; exact q6, by rw [Y 7 (by omega) (by omega) (by omega) (by omega)]; exact q7, by rw [Y 8 (by omega) (by omega) (by omega) (by omega)]; exact q8⟩, fun k hk => ?_, fun k hk => ?_, fun k hk => ?_, ⟨?_, fun k hk => ?_⟩, ?_, by rw [Y 73 (by omega) (by omega) (by omega) (by omega)]; exact g73⟩
        · rw [wI_s]; rfl
        · have : k < hFc h := hk
          have := fl k hk
          rw [Y _ (by omega) (by omega) (by omega) (by omega), Y _ (by omega) (by omega) (by omega) (by omega)]
          exact ⟨this.1, this.2.1, fun z hz => by rw [Y _ (by omega) (by omega) (by omega) (by omega)]; exact this.2.2 z hz⟩
        · have : k < hTc h := hk
          rw [Y _ (by omega) (by omega) (by omega) (by omega), Y _ (by omega) (by omega) (by omega) (by omega)]; exact t k hk
        · have hk' : k < hBc h + 1 := hk
          show _ = q32 (((fun b => if b = hBc h then (hCd h).length else if b = hBc h + 1 then (hCd h ++ c).length else h.2.2.2.2.2.2.1 b) k : Nat) : Int) ∧ _ = q32 ((((fun b => if b = hBc h then (hCd h).length else if b = hBc h + 1 then (hCd h ++ c).length else h.2.2.2.2.2.2.1 b) (k + 1)) - ((fun b => if b = hBc h then (hCd h).length else if b = hBc h + 1 then (hCd h ++ c).length else h.2.2.2.2.2.2.1 b) k) : Nat) : Int)
          dsimp only
          by_cases ck : k = hBc h
          · rw [if_pos ck, if_neg (show ¬ k + 1 = hBc h by omega), if_pos (show k + 1 = hBc h + 1 by omega), ck, wI_n (by omega), wI_n (by omega), wI_s, wI_n (by omega), wI_s]
            exact ⟨rfl, rfl⟩
          · have bb := b k (by omega)
            rw [if_neg ck, if_neg (show ¬ k = hBc h + 1 by omega), Y _ (by omega) (by omega) (by omega) (by omega), Y _ (by omega) (by omega) (by omega) (by omega)]
            by_cases ck2 : k + 1 = hBc h
            · rw [if_pos ck2, ← hbs.1 (by omega), ← ck2]
              exact bb
            · rw [if_neg ck2, if_neg (show ¬ k + 1 = hBc h + 1 by omega)]
              exact bb
        · rw [wI_n (by omega), wI_n (by omega), wI_n (by omega)]; exact w5.1
        · rw [wI_n (by omega), wI_n (by omega), wI_n (by omega)]; exact w5.2 k hk
        · rw [wI_n (by omega), wI_n (by omega), wI_n (by omega), w2.1 _ _ (by omega) (by omega)]; exact gg
      · rw [if_neg c59]
        exact flt _ j _ w00 rd (((kl3.tr KL10.I).tr KL10.I).tr KL10.I) (Or.inr ⟨((cn3.I (Or.inl rfl)).I (Or.inl rfl)).I (Or.inl rfl), c59, rfl⟩)
  · rw [if_neg c58]
    have d1' : n_X10_eats F s m1 23 (21 : Int32) = some (q32 0, m1) := e58.2 c58
    obtain ⟨m3, g1, g2, g3⟩ := fai10a (s := s) n1 a3 (k := 2) (by omega)
    have g1' : n_X10_fails s m1 23 (2 : Int32) = some ((), m3) := g1
    have r43 : m3.2.2 23 4 = some 27 := by rw [g2.2.2, a2.2]; exact r4
    refine flt _ (i + 1) m3 hi1 ?_ (a2.kl.tr g2.kl) (Or.inl g3)
    rw [begin0]
    unfold nb_X10_readButton_18
    rw [h0, if_pos (show q32 0 = (0 : Int32) from rfl), a1, bind2_s, d1', bind2_s, if_pos (show q32 0 = (0 : Int32) from rfl), g1', bind2_s]
    unfold nb_X10_readButton_44
    rw [r43, Option.bind_some, rdI_c 98 (by omega) (by omega), Option.bind_some, sum10f hF g3 9, bind2_s, if_neg (flt_ne g3)]
