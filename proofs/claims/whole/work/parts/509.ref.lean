/-! the reference's lines, all -/
theorem LN10.pre {s : List Sh} {T : Nat → Int} {N K : Nat} {m0 m : Mem} {i : Nat} {res : LRZ} {o : Option (Unit × Mem)} (e : KL10 m0 m) (h : LN10 s T N K m i res o) : LN10 s T N K m0 i res o := by
  cases res with
  | inl p =>
    obtain ⟨k, j⟩ := p
    obtain ⟨a, m', b, c, d⟩ := h
    exact ⟨a, m', b, e.tr c, d⟩
  | inr p =>
    obtain ⟨j, h'⟩ := p
    obtain ⟨a, b, m', c, d, f⟩ := h
    exact ⟨a, b, m', c, e.tr d, f⟩
theorem line10 {F : Nat} (hF : 20000 ≤ F) {s : List Sh} (hp : ∃ t, s = sB ++ t) {m : Mem} (hr : RF m) {T : Nat → Int} {N K i g : Nat} (hg : K ≤ g) (hK : TKE T N K) {h : HSS} (hpp : HPP h) (hbs : HBS h) (hh : H10 m h) (hcl : (hCd h).length ≤ i) (hc : CN10 s m T N K i) : LN10 s T N K m i (LINE (kdF T N) (amF T N) g i h) (n_X10_readLine F s m 23) := by
  obtain ⟨hx, h0, hs, hi⟩ := id hc
  have i4 : n_X10_is s m 23 (0 : Int32) = some (if kdF T N i = 4 then q32 1 else q32 0) := is10 (s := s) h0 hs (c := 4) (by decide) (by decide)
  have i5 : n_X10_is s m 23 (1 : Int32) = some (if kdF T N i = 5 then q32 1 else q32 0) := is10 (s := s) h0 hs (c := 5) (by decide) (by decide)
  have i6 : n_X10_is s m 23 (2 : Int32) = some (if kdF T N i = 6 then q32 1 else q32 0) := is10 (s := s) h0 hs (c := 6) (by decide) (by decide)
  have i7 : n_X10_is s m 23 (4 : Int32) = some (if kdF T N i = 7 then q32 1 else q32 0) := is10 (s := s) h0 hs (c := 7) (by decide) (by decide)
  have e8 := eat10 hF hx h0 hs (c := 8) (by decide) (by decide) (by decide)
  have e9 := eat10 hF hx h0 hs (c := 9) (by decide) (by decide) (by decide)
  have n1 : ¬ q32 1 = (0 : Int32) := by decide
  have n0 : q32 0 = (0 : Int32) := rfl
  have fl := hh.2.2.2.2.2.1
  -- no line begins so
  have oth : ¬ kdF T N i = 5 → ¬ kdF T N i = 6 → ¬ kdF T N i = 7 → ¬ kdF T N i = 8 → ¬ kdF T N i = 9 → LN10 s T N K m i (.inl (csF (kdF T N) i, i)) (nb_X10_readLine_35 F s m 23) := fun c5 c6 c7 c8 c9 => by
    obtain ⟨m1, a1, a2, a3⟩ := fai10a (s := s) h0 hs (k := 2) (by omega)
    have a1' : n_X10_fails s m 23 (2 : Int32) = some ((), m1) := a1
    have e8' : n_X10_eats F s m 23 (5 : Int32) = some (q32 0, m) := e8.2 c8
    have e9' : n_X10_eats F s m 23 (6 : Int32) = some (q32 0, m) := e9.2 c9
    refine ⟨hi, m1, ?_, a2.kl, Or.inl a3⟩
    unfold nb_X10_readLine_35
    rw [i5, if_neg c5, Option.bind_some, if_pos n0, i6, if_neg c6, Option.bind_some, if_pos n0, i7, if_neg c7, Option.bind_some, if_pos n0, e8', bind2_s, if_pos n0, e9', bind2_s, if_pos n0, a1', bind2_s]
  unfold n_X10_readLine nb_X10_readLine_0 LINE
  rw [i4, Option.bind_some]
  by_cases c4 : kdF T N i = 4
  · rw [if_pos c4, if_pos c4, if_neg n1, fl]
    by_cases cb : h.2.2.1 = true ∨ 0 < hFc h ∨ 0 < hTc h
    · rw [if_pos cb, if_pos cb, if_neg n1]
      exact oth (by omega) (by omega) (by omega) (by omega) (by omega)
    · rw [if_neg cb, if_neg cb, if_pos n0]
      have hi1 := hK.nx hi (by omega) (by omega)
      obtain ⟨m1, a1, a2, a3⟩ := step10 hF hx hs (hK.2.2.2 i hi1)
      have hr1 : RF m1 := hr.same (by rw [a2.2])
      rw [a1, bind2_s, rf23_4 hr1, Option.bind_some]
      exact (top10 hF hp hr1 hK (hh.ka a2.ka) ⟨hx.x a2, a2.n11 h0, a3, hi1⟩ cb).pre a2.kl
  rw [if_neg c4, if_neg c4, if_pos n0]
  unfold nb_X10_readLine_35
  rw [i5, Option.bind_some]
  by_cases c5 : kdF T N i = 5
  · rw [if_pos c5, if_pos c5, if_neg n1]
    exact but10 hF hp hr hg hK hpp hbs hh hcl hc c5
  rw [if_neg c5, if_neg c5, if_pos n0, i6, Option.bind_some]
  by_cases c6 : kdF T N i = 6
  · rw [if_pos c6, if_pos c6, if_neg n1]
    exact flo10 hF hp hr hK hpp hh hc c6
  rw [if_neg c6, if_neg c6, if_pos n0, i7, Option.bind_some]
  by_cases c7 : kdF T N i = 7
  · rw [if_pos c7, if_pos c7, if_neg n1]
    exact ten10 hF hp hr hK hpp hh hc c7
  rw [if_neg c7, if_neg c7, if_pos n0]
  by_cases c8 : kdF T N i = 8
  · rw [if_pos c8]
    have hi1 := hK.nx hi (by omega) (by omega)
    obtain ⟨m1, a1, a2, a3⟩ := e8.1 c8
    have a1' : n_X10_eats F s m 23 (5 : Int32) = some (q32 1, m1) := a1
    rw [a1', bind2_s, if_neg n1]
    exact (atl10 hF hp (hr.same (by rw [a2.2])) hK hpp (hh.ka a2.ka) ⟨hx.x a2, a2.n11 h0, a3, hi1⟩).pre a2.kl
  have e8' : n_X10_eats F s m 23 (5 : Int32) = some (q32 0, m) := e8.2 c8
  rw [if_neg c8, e8', bind2_s, if_pos n0]
  by_cases c9 : kdF T N i = 9
  · rw [if_pos c9]
    have hi1 := hK.nx hi (by omega) (by omega)
    obtain ⟨m1, a1, a2, a3⟩ := e9.1 c9
    have a1' : n_X10_eats F s m 23 (6 : Int32) = some (q32 1, m1) := a1
    have hr1 : RF m1 := hr.same (by rw [a2.2])
    rw [a1', bind2_s, if_neg n1, rf23_4 hr1, Option.bind_some]
    exact (stk10 hF hp hr1 hK (hh.ka a2.ka) ⟨hx.x a2, a2.n11 h0, a3, hi1⟩).pre a2.kl
  have e9' : n_X10_eats F s m 23 (6 : Int32) = some (q32 0, m) := e9.2 c9
  rw [if_neg c9, e9', bind2_s, if_pos n0]
  obtain ⟨m1, a1, a2, a3⟩ := fai10a (s := s) h0 hs (k := 2) (by omega)
  have a1' : n_X10_fails s m 23 (2 : Int32) = some ((), m1) := a1
  exact ⟨hi, m1, by rw [a1', bind2_s], a2.kl, Or.inl a3⟩
/-- a line is counted -/
theorem H10.l {m : Mem} {h : HSS} (hh : H10 m h) : H10 (wI m 27 0 (q32 (h.1.2.2 + 1 : Nat))) (sLines h) := by
  obtain ⟨⟨q0, q1, q2, q3, q4, q5, q6, q7, q8⟩, f, t, b, c, g, g73⟩ := hh
  have W : ∀ k, k ≠ 0 → (wI m 27 0 (q32 (h.1.2.2 + 1 : Nat))).1 27 k = m.1 27 k := fun k hk => wI_n (by omega)
  refine ⟨⟨wI_s .., by rw [W 1 (by omega)]; exact q1, by rw [W 2 (by omega)]; exact q2, by rw [W 3 (by omega)]; exact q3, by rw [W 4 (by omega)]; exact q4, by rw [W 5 (by omega)]; exact q5, by rw [W 6 (by omega)]; exact q6, by rw [W 7 (by omega)]; exact q7, by rw [W 8 (by omega)]; exact q8⟩, fun k hk => ?_, fun k hk => ?_, fun k hk => ?_, ⟨by rw [W 98 (by omega)]; exact c.1, fun k hk => by rw [W _ (by omega)]; exact c.2 k hk⟩, by rw [wI_n (by omega)]; exact g, by rw [W 73 (by omega)]; exact g73⟩
  · have := f k hk
    rw [W _ (by omega), W _ (by omega)]
    exact ⟨this.1, this.2.1, fun z hz => by rw [W _ (by omega)]; exact this.2.2 z hz⟩
  · rw [W _ (by omega), W _ (by omega)]; exact t k hk
  · rw [W _ (by omega), W _ (by omega)]; exact b k hk
