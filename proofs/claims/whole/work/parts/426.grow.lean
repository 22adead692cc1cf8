/-! cells are made -/
theorem ok_lt {s : List Sh} {a c : Nat} (h : ok s a c) : a < s.length := by
  unfold ok at h
  split at h
  · exact (List.getElem?_eq_some_iff.mp h).1
  · obtain ⟨n, h⟩ := h
    exact (List.getElem?_eq_some_iff.mp h).1
theorem ln_lt {s : List Sh} {a : Nat} (h : ln s a ≠ 0) : a < s.length := by
  apply Classical.byContradiction
  intro hn
  apply h
  unfold ln
  rw [List.getElem?_eq_none (by omega)]
theorem ln_ap {s t : List Sh} {a : Nat} (h : a < s.length) : ln (s ++ t) a = ln s a := by
  unfold ln
  rw [List.getElem?_append_left h]
theorem ok_ap {s t : List Sh} {a c : Nat} (h : ok s a c) : ok (s ++ t) a c := by
  have hl := ok_lt h
  unfold ok at h ⊢
  rw [List.getElem?_append_left hl]
  exact h
/-- below n both memories are the same -/
def BE (n : Nat) (m m' : Mem) : Prop := ∀ a, a < n → m'.1 a = m.1 a ∧ m'.2.1 a = m.2.1 a ∧ m'.2.2 a = m.2.2 a
theorem HB.lt {s : List Sh} {m : Mem} {n : Nat} (h : HB s m n) : n + 10 ≤ s.length := by
  have := ln_lt (s := s) (a := n + 9) (by rw [h.2.2.2.2.2.2.2.2.2.2.2]; decide)
  omega
theorem HB.grow {s t : List Sh} {m m' : Mem} {n : Nat} (h : HB s m n) (e : BE s.length m m') : HB (s ++ t) m' n := by
  have hl := h.lt
  unfold HB at h ⊢
  obtain ⟨a1, a2, a3, a4, a5, a6, a7, a8, a9, a10, a11, a12⟩ := h
  rw [(e n (by omega)).2.2, ln_ap (by omega), ln_ap (by omega), ln_ap (by omega), ln_ap (by omega), ln_ap (by omega), ln_ap (by omega), ln_ap (by omega), ln_ap (by omega), ln_ap (by omega)]
  exact ⟨a1, ok_ap a2, a3, a4, a5, a6, a7, a8, a9, a10, a11, a12⟩
theorem HREL.grow {m m' : Mem} {n L : Nat} {al : Nat → Int32} (h : HREL m n al) (hn : n + 10 ≤ L) (e : BE L m m') : HREL m' n al := h.same (fun j hj => (e _ (by omega)).1) (fun _ _ => rfl)
theorem TB.grow {s t : List Sh} {m m' : Mem} {n : Nat} (h : TB s m n) (e : BE s.length m m') : TB (s ++ t) m' n ∧ n + 2 ≤ s.length := by
  unfold TB at h ⊢
  have hl := ln_lt (s := s) (a := n + 1) (by rw [h.2.2.2]; decide)
  rw [(e n (by omega)).2.2, ln_ap hl]
  exact ⟨⟨h.1, ok_ap h.2.1, h.2.2⟩, by omega⟩
theorem RB.grow {s t : List Sh} {m m' : Mem} {r z : Nat} (h : RB s m r z) (e : BE s.length m m') : RB (s ++ t) m' r z ∧ r + 17 ≤ s.length := by
  unfold RB at h ⊢
  obtain ⟨h0, h1, h2, h3, h4, h5, h6, h7, h8, h9, h10, h11, h12, h13, h14⟩ := h
  have hl := ok_lt h10
  rw [(e r (by omega)).2.2, (e (r + 11) (by omega)).2.2, ln_ap (by omega), ln_ap (by omega), ln_ap (by omega), ln_ap (by omega)]
  exact ⟨⟨h0, ok_ap h1, h2, h3, h4, h5, h6, h7, h8, ok_ap h9, ok_ap h10, h11, h12, h13, h14⟩, by omega⟩
theorem QB.grow {s t : List Sh} {m m' : Mem} {q : Nat} (h : QB s m q) (e : BE s.length m m') : QB (s ++ t) m' q ∧ q + 10 ≤ s.length := by
  unfold QB at h ⊢
  obtain ⟨h0, h1, h2, h3, h4, h5, h6, h7, h8, h9, h10, h11, h12, h13, h14, h15, h16, h17, h18, h19, h20⟩ := h
  have hl := ln_lt (s := s) (a := q + 9) (by rw [h20]; decide)
  rw [(e q (by omega)).2.2, (e (q + 1) (by omega)).2.2, ln_ap (by omega), ln_ap (by omega), ln_ap (by omega), ln_ap (by omega), ln_ap (by omega), ln_ap (by omega), ln_ap (by omega), ln_ap (by omega)]
  exact ⟨⟨h0, ok_ap h1, ok_ap h2, h3, h4, h5, h6, h7, h8, h9, h10, h11, h12, h13, h14, h15, h16, h17, h18, h19, h20⟩, by omega⟩
theorem WB.grow {s t : List Sh} {m m' : Mem} {w : Nat} (h : WB s m w) (e : BE s.length m m') : WB (s ++ t) m' w ∧ w + 3 ≤ s.length := by
  unfold WB at h ⊢
  obtain ⟨h0, h1, h2, h3, h4, h5, h6⟩ := h
  have hl := ln_lt (s := s) (a := w + 2) (by rw [h6]; decide)
  rw [(e w (by omega)).2.2, ln_ap (by omega), ln_ap (by omega)]
  exact ⟨⟨h0, ok_ap h1, h2, h3, h4, h5, h6⟩, by omega⟩
theorem sB_len : sB.length = 53 := rfl
theorem OWN.grow {ow ow' : Nat → Nat} {b n L : Nat} (h : OWN ow b n) (hb : b + n ≤ L) (e : ∀ a, a < L → ow' a = ow a) : OWN ow' b n := fun j hj => by rw [e _ (by omega)]; exact h j hj
theorem ST.grow {s t : List Sh} {m m' : Mem} {ow ow' : Nat → Nat} {nw : Nat} (h : ST s m ow nw) (e : BE s.length m m') (ho : ∀ a, a < s.length → ow' a = ow a) : ST (s ++ t) m' ow' nw := by
  obtain ⟨⟨⟨t0, ht0⟩, l2, l3, l4, l5, l6, l7, l8, l9, l10, l11, l12⟩, r1, r2, r3, r4⟩ := h
  have hL : 53 ≤ s.length := by rw [ht0, List.length_append, sB_len]; omega
  have i := fun a (ha : a < 53) => (e a (by omega)).1
  have il := fun a (ha : a < 53) => (e a (by omega)).2.1
  have ir := fun a (ha : a < 53) => (e a (by omega)).2.2
  have c0 : m'.2.2 0 = m.2.2 0 := ir 0 (by omega)
  have c12 : m'.2.2 12 = m.2.2 12 := ir 12 (by omega)
  have c13 : m'.2.2 13 = m.2.2 13 := ir 13 (by omega)
  refine ⟨⟨⟨t0 ++ t, by rw [ht0, List.append_assoc]⟩, fun q hq => ?_, by rw [c0]; exact l3, l4.grow e, l5.grow l4.lt ho, fun r hr => ?_, fun q hq => ?_, fun w hw => ?_, fun i n hi hn => ?_, ?_, fun i t' hi ht' => ?_, ?_⟩, ?_, ?_, fun j hj => ?_, fun j hj => ?_⟩
  · have : q.1 < 53 := by
      have : ∀ q ∈ rfB, q.1 < 53 := by decide
      exact this q hq
    rw [ir _ this]
    exact l2 q hq
  · rw [c0] at hr
    obtain ⟨z, z1, z2, z3, z4, z5, z6, z7⟩ := l6 r hr
    obtain ⟨g1, g2⟩ := z1.grow (t := t) e
    refine ⟨z, g1, z2.grow e, z3, z4.grow z2.lt ho, by rw [ho _ (by omega)]; exact z5, fun j h1 h2 => by rw [ho _ (by omega)]; exact z6 j h1 h2, ?_⟩
    rw [c12]
    exact z7
  · rw [c0] at hq
    obtain ⟨z1, z2⟩ := l7 q hq
    obtain ⟨g1, g2⟩ := z1.grow (t := t) e
    exact ⟨g1, z2.grow g2 ho⟩
  · rw [c0] at hw
    obtain ⟨z1, z2⟩ := l8 w hw
    obtain ⟨g1, g2⟩ := z1.grow (t := t) e
    exact ⟨g1, z2.grow g2 ho⟩
  · rw [c12] at hn
    obtain ⟨z1, z2, z3, z4⟩ := l9 i n hi hn
    exact ⟨z1.grow e, z2.grow z1.lt ho, z3, z4⟩
  · rw [c12]; exact l10
  · rw [c13] at ht'
    obtain ⟨z1, z2⟩ := l11 i t' hi ht'
    obtain ⟨g1, g2⟩ := z1.grow (t := t) e
    exact ⟨g1, z2.grow g2 ho⟩
  · rw [c13]; exact l12
  · rw [i 24 (by omega)]; exact r1.grow l4.lt e
  · unfold FXR TPR US at r2 ⊢
    rw [i 0 (by omega), i 1 (by omega), i 14 (by omega), i 15 (by omega), i 23 (by omega), i 24 (by omega), i 26 (by omega)]
    exact r2
  · rw [c12, i 25 (by omega), i 24 (by omega)]
    rcases r3 j hj with h | ⟨n, h1, h2, h3⟩
    · exact Or.inl h
    · exact Or.inr ⟨n, h1, h2, h3.grow (l9 j n hj h1).1.lt e⟩
  · rw [c13, i 50 (by omega)]
    rcases r4 j hj with h | ⟨t', h1, h2⟩
    · exact Or.inl h
    · obtain ⟨g1, g2⟩ := (l11 j t' hj h1).1.grow (t := t) e
      refine Or.inr ⟨t', h1, ?_⟩
      unfold TREL at h2 ⊢
      rw [(e t' (by omega)).1, (e (t' + 1) (by omega)).2.1, i 50 (by omega), i 51 (by omega), il 52 (by omega)]
      exact h2
