/-! the watcher is made, and told what to watch -/
theorem ow_out {ow : Nat → Nat} {a b n k : Nat} (h1 : OWN ow a n) (h2 : OWN ow b k) (h : a ≠ b) {i j : Nat} (hi : i < n) (hj : j < k) : a + i ≠ b + j := fun e => by
  have x1 := h1 i hi
  have x2 := h2 j hj
  rw [e, x2] at x1
  exact h x1.symm
theorem ST.wt {s : List Sh} {m m' : Mem} {ow : Nat → Nat} {nw w : Nat} (h : ST s m ow nw) (hw : m.2.2 0 17 = some w) (e1 : ∀ a k, (16 ≤ a ∧ a ≤ 22) ∨ (27 ≤ a ∧ a ≤ 49) ∨ (a = 23 ∧ k ≠ 5 ∧ k ≠ 13 ∧ k ≠ 14) ∨ a = w ∨ a = w + 1 ∨ a = w + 2 ∨ m'.1 a k = m.1 a k) (eL : ∀ a k, (16 ≤ a ∧ a ≤ 23) ∨ (27 ≤ a ∧ a ≤ 49) ∨ m'.2.1 a k = m.2.1 a k) (eR : ∀ a k, a ≠ w ∨ (k ≠ 5 ∧ k ≠ 6) → m'.2.2 a k = m.2.2 a k) : ST s m' ow nw := by
  obtain ⟨⟨l1, l2, l3, l4, l5, l6, l7, l8, l9, l10, l11, l12⟩, r1, r2, r3, r4⟩ := h
  obtain ⟨wb, wo⟩ := l8 w hw
  have w53 := wb.1
  have c : ∀ a, a ≠ w → m'.2.2 a = m.2.2 a := fun a ha => funext fun k => eR a k (Or.inl ha)
  have co : ∀ {a d : Nat}, ok s a d → d < 100 → d ≠ 8 → m'.2.2 a = m.2.2 a := fun h1 h2 h3 => c _ (ok_ne h1 wb.2.1 h2 (by omega) h3)
  have i1 : ∀ a k, (a < 16 ∨ (23 < a ∧ a < 27) ∨ 49 < a) → a ≠ w → a ≠ w + 1 → a ≠ w + 2 → m'.1 a k = m.1 a k := fun a k h1 h2 h3 h4 => by
    rcases e1 a k with h | h | h | h | h | h | h
    · omega
    · omega
    · omega
    · omega
    · omega
    · omega
    · exact h
  have i23 : ∀ k, k = 5 ∨ k = 13 ∨ k = 14 → m'.1 23 k = m.1 23 k := fun k hk => by
    rcases e1 23 k with h | h | h | h | h | h | h
    · omega
    · omega
    · omega
    · omega
    · omega
    · omega
    · exact h
  have iL : ∀ a, 49 < a → m'.2.1 a = m.2.1 a := fun a ha => funext fun k => by
    rcases eL a k with h | h | h
    · omega
    · omega
    · exact h
  have lo : ∀ a, (a < 16 ∨ (23 < a ∧ a < 27) ∨ (49 < a ∧ a < 53)) → m'.1 a = m.1 a := fun a ha => funext fun k => i1 a k (by omega) (by omega) (by omega) (by omega)
  have hh : ∀ n, HB s m n → OWN ow n 10 → ∀ i, i < 10 → m'.1 (n + i) = m.1 (n + i) := fun n hb ho i hi => funext fun k => by
    have hne : n ≠ w := ok_ne hb.2.1 wb.2.1 (by omega) (by omega) (by omega)
    have d0 := ow_out ho wo hne hi (show 0 < 3 by omega)
    have d1 := ow_out ho wo hne hi (show 1 < 3 by omega)
    have d2 := ow_out ho wo hne hi (show 2 < 3 by omega)
    have := hb.1
    exact i1 _ _ (by omega) d0 d1 d2
  refine ⟨⟨l1, fun q hq => ?_, by rw [c 0 (by omega)]; exact l3, l4.at (co l4.2.1 (by omega) (by omega)), l5, fun r hr => ?_, fun q hq => ?_, fun w' hw' => ?_, fun j x hj hx => ?_, ?_, fun j t' hj ht' => ?_, ?_⟩, ?_, ?_, fun j hj => ?_, fun j hj => ?_⟩
  · have : ∀ q ∈ rfB, q.1 < 53 := by decide
    have := this q hq
    rw [c _ (by omega)]
    exact l2 q hq
  · rw [c 0 (by omega)] at hr
    obtain ⟨z, z1, z2, z3, z4, z5, z6, z7⟩ := l6 r hr
    refine ⟨z, ?_, z2.at (co z2.2.1 (by omega) (by omega)), z3, z4, z5, z6, by rw [c 12 (by omega)]; exact z7⟩
    unfold RB at z1 ⊢
    rw [co z1.2.1 (by omega) (by omega), co z1.2.2.2.2.2.2.2.2.2.1 (by omega) (by omega)]
    exact z1
  · rw [c 0 (by omega)] at hq
    obtain ⟨z1, z2⟩ := l7 q hq
    refine ⟨?_, z2⟩
    unfold QB at z1 ⊢
    rw [co z1.2.1 (by omega) (by omega), co z1.2.2.1 (by omega) (by omega)]
    exact z1
  · rw [c 0 (by omega), hw] at hw'
    cases hw'
    refine ⟨?_, wo⟩
    unfold WB at wb ⊢
    rw [eR w 2 (by omega), eR w 3 (by omega), eR w 4 (by omega)]
    exact wb
  · rw [c 12 (by omega)] at hx
    obtain ⟨z1, z2, z3, z4⟩ := l9 j x hj hx
    exact ⟨z1.at (co z1.2.1 (by omega) (by omega)), z2, z3, z4⟩
  · rw [c 12 (by omega)]; exact l10
  · rw [c 13 (by omega)] at ht'
    obtain ⟨z1, z2⟩ := l11 j t' hj ht'
    refine ⟨?_, z2⟩
    unfold TB at z1 ⊢
    rw [co z1.2.1 (by omega) (by omega)]
    exact z1
  · rw [c 13 (by omega)]; exact l12
  · rw [lo 24 (by omega)]; exact r1.same (fun i hi => hh nw l4 l5 i hi) (fun _ _ => rfl)
  · unfold FXR TPR US at r2 ⊢
    rw [lo 0 (by omega), lo 1 (by omega), lo 14 (by omega), lo 15 (by omega), lo 24 (by omega), lo 26 (by omega), i23 5 (by omega), i23 13 (by omega), i23 14 (by omega)]
    exact r2
  · rw [c 12 (by omega), lo 25 (by omega), lo 24 (by omega)]
    rcases r3 j hj with h | ⟨x, h1, h2, h3⟩
    · exact Or.inl h
    · obtain ⟨z1, z2, -⟩ := l9 j x hj h1
      exact Or.inr ⟨x, h1, h2, h3.same (fun i hi => hh x z1 z2 i hi) (fun _ _ => rfl)⟩
  · rw [c 13 (by omega), lo 50 (by omega)]
    rcases r4 j hj with h | ⟨t', h1, h2⟩
    · exact Or.inl h
    · obtain ⟨z1, z2⟩ := l11 j t' hj h1
      have t53 := z1.1
      have hne : t' ≠ w := ok_ne z1.2.1 wb.2.1 (by omega) (by omega) (by omega)
      have d0 := ow_out z2 wo hne (show 0 < 2 by omega) (show 0 < 3 by omega)
      have d1 := ow_out z2 wo hne (show 0 < 2 by omega) (show 1 < 3 by omega)
      have d2 := ow_out z2 wo hne (show 0 < 2 by omega) (show 2 < 3 by omega)
      refine Or.inr ⟨t', h1, ?_⟩
      unfold TREL at h2 ⊢
      rw [show m'.1 t' = m.1 t' from funext fun k => i1 t' k (by omega) (by omega) (by omega) (by omega), lo 50 (by omega), lo 51 (by omega), iL (t' + 1) (by omega), iL 52 (by omega)]
      exact h2
/-- a watcher that stands is linked -/
theorem ST.wl {s : List Sh} {m : Mem} {ow : Nat → Nat} {nw w : Nat} (h : ST s m ow nw) (wb : WB s m w) (wo : OWN ow w 3) : ST s (wR m 0 17 (some w)) ow nw := by
  obtain ⟨⟨l1, l2, l3, l4, l5, l6, l7, l8, l9, l10, l11, l12⟩, r1, r2, r3, r4⟩ := h
  have c : ∀ a, a ≠ 0 → (wR m 0 17 (some w)).2.2 a = m.2.2 a := fun a ha => funext fun k => by rw [wR_3, if_neg (by omega)]
  have c0 : ∀ k, k ≠ 17 → (wR m 0 17 (some w)).2.2 0 k = m.2.2 0 k := fun k hk => by rw [wR_3, if_neg (by omega)]
  have c53 : ∀ a, 53 ≤ a → (wR m 0 17 (some w)).2.2 a = m.2.2 a := fun a ha => c a (by omega)
  have n2 := l4.1
  refine ⟨⟨l1, fun q hq => ?_, by rw [c0 4 (by omega)]; exact l3, l4.at (c _ (by omega)), l5, fun r hr => ?_, fun q hq => ?_, fun w' hw' => ?_, fun j x hj hx => ?_, ?_, fun j t' hj ht' => ?_, ?_⟩, r1, r2, fun j hj => ?_, fun j hj => ?_⟩
  · have : ∀ q ∈ rfB, q.1 ≠ 0 ∨ q.2.1 ≠ 17 := by decide
    have := this q hq
    rw [wR_3, if_neg (by omega)]
    exact l2 q hq
  · rw [c0 5 (by omega)] at hr
    obtain ⟨z, z1, z2, z3, z4, z5, z6, z7⟩ := l6 r hr
    have := z2.1
    exact ⟨z, z1.at c53, z2.at (c _ (by omega)), z3, z4, z5, z6, by rw [c 12 (by omega)]; exact z7⟩
  · rw [c0 16 (by omega)] at hq
    obtain ⟨z1, z2⟩ := l7 q hq
    exact ⟨z1.at c53, z2⟩
  · rw [wR_3, if_pos ⟨rfl, rfl⟩] at hw'
    cases hw'
    exact ⟨wb.at c53, wo⟩
  · rw [c 12 (by omega)] at hx
    obtain ⟨z1, z2, z3, z4⟩ := l9 j x hj hx
    exact ⟨z1.at (c _ (by omega)), z2, z3, z4⟩
  · rw [c 12 (by omega)]; exact l10
  · rw [c 13 (by omega)] at ht'
    obtain ⟨z1, z2⟩ := l11 j t' hj ht'
    exact ⟨z1.at c53, z2⟩
  · rw [c 13 (by omega)]; exact l12
  · rw [c 12 (by omega)]; exact r3 j hj
  · rw [c 13 (by omega)]; exact r4 j hj
def wT : List Sh := [.inl 8, .inr (0, 8), .inr (0, 8)]
theorem watcher {s : List Sh} {m : Mem} {ow : Nat → Nat} {nw : Nat} (h : ST s m ow nw) : ∃ s' m' ow' w, n_X9_watcherHere s m 0 = some (w, s', m') ∧ ST s' m' ow' nw ∧ m'.2.2 0 17 = some w ∧ (∃ t, s' = s ++ t) ∧ (∀ a, a < s.length → m'.1 a = m.1 a ∧ m'.2.1 a = m.2.1 a) ∧ (∀ a k, a < s.length → (a ≠ 0 ∨ k ≠ 17) → m'.2.2 a k = m.2.2 a k) := by
  have hp := h.1.hp
  have hr := h.1.rf
  have r11 := rf0_11 hr
  cases hq : m.2.2 0 17 with
  | some w =>
    refine ⟨s, m, ow, w, ?_, h, hq, ⟨[], by simp⟩, fun a _ => ⟨rfl, rfl⟩, fun a k _ _ => rfl⟩
    unfold n_X9_watcherHere nb_X9_watcherHere_0
    rw [hq]
    rfl
  | none =>
    have hL : 53 ≤ s.length := by obtain ⟨t, ht⟩ := hp; rw [ht, List.length_append, sB_len]; omega
    have be : BE s.length m (wR (wR (wR m s.length 4 (some 16)) s.length 2 (some (s.length + 1))) s.length 3 (some (s.length + 2))) := fun a ha => ⟨rfl, rfl, funext fun k => by rw [wR_3, if_neg (by omega), wR_3, if_neg (by omega), wR_3, if_neg (by omega)]⟩
    have st := h.grow (t := wT) (ow' := fun a => if a < s.length then ow a else s.length) be (fun a ha => if_pos ha)
    have wb : WB (s ++ wT) (wR (wR (wR m s.length 4 (some 16)) s.length 2 (some (s.length + 1))) s.length 3 (some (s.length + 2))) s.length := by
      refine ⟨hL, ok_i ?_ (by omega), ?_, ?_, ?_, ?_, ?_⟩
      · rw [List.getElem?_append_right (by omega), Nat.sub_self]
        rfl
      · simp [wR_3]
      · simp [wR_3]
      · simp [wR_3]
      · unfold ln
        rw [List.getElem?_append_right (by omega), show s.length + 1 - s.length = 1 by omega]
        rfl
      · unfold ln
        rw [List.getElem?_append_right (by omega), show s.length + 2 - s.length = 2 by omega]
        rfl
    refine ⟨s ++ wT, _, _, s.length, ?_, st.wl wb (fun j hj => if_neg (by omega)), by rw [wR_3, if_pos ⟨rfl, rfl⟩], ⟨wT, rfl⟩, fun a ha => ⟨rfl, rfl⟩, fun a k ha hk => ?_⟩
    · unfold n_X9_watcherHere nb_X9_watcherHere_0 n_X8_init nb_X8_init_0 wT
      rw [hq]
      simp only [bindv, bindv0, bind3_s, r11, Option.bind_some, ↓reduceIte, List.length_append, List.length_cons, List.length_nil, List.append_assoc, List.cons_append, List.nil_append, Nat.add_assoc, Nat.zero_add, Nat.reduceAdd]
      rw [wR_3, if_pos ⟨rfl, rfl⟩]
      rfl
    · rw [wR_3, if_neg (by omega)]
      rw [(be a ha).2.2]
