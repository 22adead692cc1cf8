/-! an image is kept -/
def OPG (s : List Sh) (m : Mem) (o9 : Option (Int32 × List Sh × Mem)) (o10 : List Sh → Mem → Option (Int32 × Mem)) : Prop := ∃ r s1 m1 m2, o9 = some (r, s1, m1) ∧ o10 s1 m1 = some (r, m2) ∧ INV s1 m2 ∧ (∃ t, s1 = s ++ t) ∧ m2.2.2 0 16 = m.2.2 0 16
theorem opg_fin {s : List Sh} {m : Mem} {o9 : Option (Int32 × List Sh × Mem)} {o10 : List Sh → Mem → Option (Int32 × Mem)} (h : INV s m) {r : Int32} {m1 m2 : Mem} (e1 : o9 = some (r, s, m1)) (e2 : o10 s m1 = some (r, m2)) (g2 : GS s m2) (sc : SC m m2) : OPG s m o9 o10 := ⟨r, s, m1, m2, e1, e2, h.sc g2 sc, ⟨[], by simp⟩, by rw [sc.r]⟩
theorem HB.at {s : List Sh} {m m' : Mem} {n : Nat} (h : HB s m n) (e : m'.2.2 n = m.2.2 n) : HB s m' n := by unfold HB at h ⊢; rw [e]; exact h
theorem RB.at {s : List Sh} {m m' : Mem} {r z : Nat} (h : RB s m r z) (e : ∀ a, 53 ≤ a → m'.2.2 a = m.2.2 a) : RB s m' r z := by
  have := h.1
  unfold RB at h ⊢; rw [e r (by omega), e (r + 11) (by omega)]; exact h
theorem QB.at {s : List Sh} {m m' : Mem} {q : Nat} (h : QB s m q) (e : ∀ a, 53 ≤ a → m'.2.2 a = m.2.2 a) : QB s m' q := by
  have := h.1
  unfold QB at h ⊢; rw [e q (by omega), e (q + 1) (by omega)]; exact h
theorem WB.at {s : List Sh} {m m' : Mem} {w : Nat} (h : WB s m w) (e : ∀ a, 53 ≤ a → m'.2.2 a = m.2.2 a) : WB s m' w := by
  have := h.1
  unfold WB at h ⊢; rw [e w (by omega)]; exact h
theorem TB.at {s : List Sh} {m m' : Mem} {t : Nat} (h : TB s m t) (e : ∀ a, 53 ≤ a → m'.2.2 a = m.2.2 a) : TB s m' t := by
  have := h.1
  unfold TB at h ⊢; rw [e t (by omega)]; exact h
theorem ST.im {s : List Sh} {m m' : Mem} {ow : Nat → Nat} {nw i n : Nat} (h : ST s m ow nw) (hi : i < 2) (hbn : HB s m n) (own : OWN ow n 10) (hne : n ≠ nw) (h53 : 53 ≤ n) (hoth : m.2.2 12 (1 - i) ≠ some n) (hz : ∀ r z, m.2.2 0 5 = some r → m.2.2 r 0 = some z → n ≠ z) (eR : m'.2.2 = (wR m 12 i (some n)).2.2) (e1 : ∀ a k, (a < n ∨ n + 10 ≤ a) → (a ≠ 23 ∨ k ≠ 0) → (a ≠ 24 ∨ k < 999 * (i + 1) ∨ 999 * (i + 2) ≤ k) → (a ≠ 25 ∨ k ≠ i) → m'.1 a k = m.1 a k) (eL : m'.2.1 = m.2.1) (e25 : m'.1 25 i = 1) (hH : HREL m' n (fun k => m'.1 24 (999 * (i + 1) + k))) : ST s m' ow nw := by
  obtain ⟨⟨l1, l2, l3, l4, l5, l6, l7, l8, l9, l10, l11, l12⟩, r1, r2, r3, r4⟩ := h
  have c : ∀ a, a ≠ 12 → m'.2.2 a = m.2.2 a := fun a ha => by rw [eR]; funext k; rw [wR_3, if_neg (by omega)]
  have ci : m'.2.2 12 i = some n := by rw [eR, wR_3, if_pos ⟨rfl, rfl⟩]
  have cj : ∀ j, j ≠ i → m'.2.2 12 j = m.2.2 12 j := fun j hj => by rw [eR, wR_3, if_neg (by omega)]
  have c53 : ∀ a, 53 ≤ a → m'.2.2 a = m.2.2 a := fun a ha => c a (by omega)
  have n2 := l4.1
  have apw := apart l5 own (fun e => hne e.symm)
  refine ⟨⟨l1, fun q hq => ?_, by rw [c 0 (by omega)]; exact l3, l4.at (c _ (by omega)), l5, fun r hr => ?_, fun q hq => ?_, fun w hw => ?_, fun j x hj hx => ?_, ?_, fun j t' hj ht' => ?_, ?_⟩, ?_, ?_, fun j hj => ?_, fun j hj => ?_⟩
  · have : ∀ q ∈ rfB, q.1 ≠ 12 := by decide
    rw [c _ (this q hq)]
    exact l2 q hq
  · rw [c 0 (by omega)] at hr
    obtain ⟨z, z1, z2, z3, z4, z5, z6, z7⟩ := l6 r hr
    have := z2.1
    refine ⟨z, z1.at c53, z2.at (c _ (by omega)), z3, z4, z5, z6, fun j x hj hx => ?_⟩
    by_cases e : j = i
    · subst e
      rw [ci] at hx
      cases hx
      exact hz r z hr z1.2.2.1
    · rw [cj j e] at hx
      exact z7 j x hj hx
  · rw [c 0 (by omega)] at hq
    obtain ⟨z1, z2⟩ := l7 q hq
    exact ⟨z1.at c53, z2⟩
  · rw [c 0 (by omega)] at hw
    obtain ⟨z1, z2⟩ := l8 w hw
    exact ⟨z1.at c53, z2⟩
  · by_cases e : j = i
    · subst e
      rw [ci] at hx
      cases hx
      exact ⟨hbn.at (c _ (by omega)), own, hne, h53⟩
    · rw [cj j e] at hx
      obtain ⟨z1, z2, z3, z4⟩ := l9 j x hj hx
      exact ⟨z1.at (c _ (by omega)), z2, z3, z4⟩
  · intro x hx
    rcases (show i = 0 ∨ i = 1 by omega) with rfl | rfl
    · rw [ci] at hx
      cases hx
      rw [cj 1 (by omega)]
      exact hoth
    · rw [ci]
      rw [cj 0 (by omega)] at hx
      intro e
      cases e
      exact hoth hx
  · rw [c 13 (by omega)] at ht'
    obtain ⟨z1, z2⟩ := l11 j t' hj ht'
    exact ⟨z1.at c53, z2⟩
  · rw [c 13 (by omega)]; exact l12
  · refine r1.same (fun j hj => funext fun k => e1 _ k (by omega) (by omega) (by omega) (by omega)) (fun k hk => e1 24 k (by omega) (by omega) (by omega) (by omega))
  · unfold FXR TPR US at r2 ⊢
    have f : ∀ a k, a < 53 → a ≠ 23 → a ≠ 25 → (a ≠ 24 ∨ k < 999) → m'.1 a k = m.1 a k := fun a k h1 h2 h3 h4 => e1 a k (by omega) (by omega) (by omega) (by omega)
    obtain ⟨⟨tpd, t1, t2, t3, t4, t5, t6, t7⟩, ud, u1, u2, u3, u4⟩ := r2
    refine ⟨⟨tpd, t1, t2, by rw [f 0 1 (by omega) (by omega) (by omega) (by omega)]; exact t3, by rw [e1 23 5 (by omega) (by omega) (by omega) (by omega)]; exact t4, fun k hk => by rw [f 1 k (by omega) (by omega) (by omega) (by omega), f 26 k (by omega) (by omega) (by omega) (by omega)]; exact t5 k hk, by rw [e1 23 13 (by omega) (by omega) (by omega) (by omega), f 0 2 (by omega) (by omega) (by omega) (by omega)]; exact t6, by rw [e1 23 14 (by omega) (by omega) (by omega) (by omega), f 0 3 (by omega) (by omega) (by omega) (by omega)]; exact t7⟩, ud, u1, by rw [f 0 10 (by omega) (by omega) (by omega) (by omega)]; exact u2, by rw [f 24 73 (by omega) (by omega) (by omega) (by omega)]; exact u3, fun k hk => ?_⟩
    rw [f 24 (74 + k) (by omega) (by omega) (by omega) (by omega), f 24 (86 + k) (by omega) (by omega) (by omega) (by omega), f 14 k (by omega) (by omega) (by omega) (by omega), f 15 k (by omega) (by omega) (by omega) (by omega), f 24 1 (by omega) (by omega) (by omega) (by omega)]
    exact u4 k hk
  · by_cases e : j = i
    · subst e
      exact Or.inr ⟨n, ci, e25, hH⟩
    · rw [cj j e, e1 25 j (by omega) (by omega) (by omega) (by omega)]
      rcases r3 j hj with h | ⟨x, h1, h2, h3⟩
      · exact Or.inl h
      · obtain ⟨z1, z2, z3, z4⟩ := l9 j x hj h1
        have hxn : x ≠ n := fun e' => by
          subst e'
          apply hoth
          rw [show 1 - i = j by omega]
          exact h1
        have ap := apart z2 own hxn
        refine Or.inr ⟨x, h1, h2, h3.same (fun b hb => funext fun k => e1 _ k (by omega) (by omega) (by omega) (by omega)) (fun k hk => e1 24 _ (by omega) (by omega) ?_ (by omega))⟩
        right
        rcases (show (i = 0 ∧ j = 1) ∨ (i = 1 ∧ j = 0) by omega) with ⟨rfl, rfl⟩ | ⟨rfl, rfl⟩ <;> omega
  · rw [c 13 (by omega), e1 50 j (by omega) (by omega) (by omega) (by omega)]
    rcases r4 j hj with h | ⟨t', h1, h2⟩
    · exact Or.inl h
    · obtain ⟨z1, z2⟩ := l11 j t' hj h1
      have tn : t' ≠ n := ok_ne z1.2.1 hbn.2.1 (by omega) (by omega) (by omega)
      have tn2 : t' < n ∨ n + 10 ≤ t' := by
        apply Classical.byContradiction
        intro hh
        have x1 := own (t' - n) (by omega)
        have x2 := z2 0 (by omega)
        rw [show n + (t' - n) = t' by omega] at x1
        rw [Nat.add_zero] at x2
        omega
      have := z1.1
      refine Or.inr ⟨t', h1, ?_⟩
      unfold TREL at h2 ⊢
      obtain ⟨so, sz, b1, b2, b3, b4, b5, b6, b7⟩ := h2
      refine ⟨so, sz, b1, b2, by rw [e1 t' 0 tn2 (by omega) (by omega) (by omega)]; exact b3, by rw [e1 t' 1 tn2 (by omega) (by omega) (by omega)]; exact b4, by rw [e1 50 j (by omega) (by omega) (by omega) (by omega)]; exact b5, by rw [e1 51 j (by omega) (by omega) (by omega) (by omega)]; exact b6, by rw [eL]; exact b7⟩
