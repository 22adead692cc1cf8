/-! the searcher is made, and begins -/
theorem ST.rt {s : List Sh} {m m' : Mem} {ow : Nat → Nat} {nw q : Nat} (h : ST s m ow nw) (hq : m.2.2 0 16 = some q) (e1 : ∀ a k, (16 ≤ a ∧ a ≤ 22) ∨ (27 ≤ a ∧ a ≤ 49) ∨ (a = 23 ∧ k ≠ 5 ∧ k ≠ 13 ∧ k ≠ 14) ∨ (q ≤ a ∧ a < q + 10) ∨ m'.1 a k = m.1 a k) (eL : ∀ a k, (16 ≤ a ∧ a ≤ 23) ∨ (27 ≤ a ∧ a ≤ 49) ∨ a = q + 7 ∨ m'.2.1 a k = m.2.1 a k) (eR : ∀ a k, a ≠ q ∨ k ≠ 5 → m'.2.2 a k = m.2.2 a k) : ST s m' ow nw := by
  obtain ⟨⟨l1, l2, l3, l4, l5, l6, l7, l8, l9, l10, l11, l12⟩, r1, r2, r3, r4⟩ := h
  obtain ⟨qb, qo⟩ := l7 q hq
  have q53 := qb.1
  have c : ∀ a, a ≠ q → m'.2.2 a = m.2.2 a := fun a ha => funext fun k => eR a k (Or.inl ha)
  have co : ∀ {a d : Nat}, ok s a d → d < 100 → d ≠ 5 → m'.2.2 a = m.2.2 a := fun h1 h2 h3 => c _ (ok_ne h1 qb.2.1 h2 (by omega) h3)
  have i1 : ∀ a k, (a < 16 ∨ (23 < a ∧ a < 27) ∨ 49 < a) → ¬ (q ≤ a ∧ a < q + 10) → m'.1 a k = m.1 a k := fun a k h1 h2 => by
    rcases e1 a k with h | h | h | h | h
    · omega
    · omega
    · omega
    · omega
    · exact h
  have i23 : ∀ k, k = 5 ∨ k = 13 ∨ k = 14 → m'.1 23 k = m.1 23 k := fun k hk => by
    rcases e1 23 k with h | h | h | h | h
    · omega
    · omega
    · omega
    · omega
    · exact h
  have iL : ∀ a, 49 < a → a ≠ q + 7 → m'.2.1 a = m.2.1 a := fun a ha hb => funext fun k => by
    rcases eL a k with h | h | h | h
    · omega
    · omega
    · omega
    · exact h
  have lo : ∀ a, (a < 16 ∨ (23 < a ∧ a < 27) ∨ (49 < a ∧ a < 53)) → m'.1 a = m.1 a := fun a ha => funext fun k => i1 a k (by omega) (by omega)
  have out : ∀ n k, OWN ow n k → n ≠ q → ∀ i, i < k → ¬ (q ≤ n + i ∧ n + i < q + 10) := fun n k ho hne i hi hc => by
    have := ow_out ho qo hne hi (show n + i - q < 10 by omega)
    omega
  have hh : ∀ n, HB s m n → OWN ow n 10 → ∀ i, i < 10 → m'.1 (n + i) = m.1 (n + i) := fun n hb ho i hi => funext fun k => by
    have hne : n ≠ q := ok_ne hb.2.1 qb.2.1 (by omega) (by omega) (by omega)
    have d0 := out n 10 ho hne i hi
    have := hb.1
    exact i1 _ _ (by omega) d0
  refine ⟨⟨l1, fun q hq => ?_, by rw [c 0 (by omega)]; exact l3, l4.at (co l4.2.1 (by omega) (by omega)), l5, fun r hr => ?_, fun q' hq' => ?_, fun w' hw' => ?_, fun j x hj hx => ?_, ?_, fun j t' hj ht' => ?_, ?_⟩, ?_, ?_, fun j hj => ?_, fun j hj => ?_⟩
  · have : ∀ q ∈ rfB, q.1 < 53 := by decide
    have := this q hq
    rw [c _ (by omega)]
    exact l2 q hq
  · rw [c 0 (by omega)] at hr
    obtain ⟨z, z1, z2, z3, z4, z5, z6, z7⟩ := l6 r hr
    refine ⟨z, ?_, z2.at (co z2.2.1 (by omega) (by omega)), z3, z4, z5, z6, by rw [c 12 (by omega)]; exact z7⟩
    unfold RB at z1 ⊢
    rw [co z1.2.1 (by omega) (by omega), co z1.2.2.2.2.2.2.2.2.2.1 (by omega) (by omega)]
    exact z1
  · rw [c 0 (by omega), hq] at hq'
    cases hq'
    refine ⟨?_, qo⟩
    unfold QB at qb ⊢
    rw [eR q 0 (by omega), eR q 1 (by omega), eR q 2 (by omega), eR q 4 (by omega), c (q + 1) (by omega)]
    exact qb
  · rw [c 0 (by omega)] at hw'
    obtain ⟨z1, z2⟩ := l8 w' hw'
    refine ⟨?_, z2⟩
    unfold WB at z1 ⊢
    rw [co z1.2.1 (by omega) (by omega)]
    exact z1
  · rw [c 12 (by omega)] at hx
    obtain ⟨z1, z2, z3, z4⟩ := l9 j x hj hx
    exact ⟨z1.at (co z1.2.1 (by omega) (by omega)), z2, z3, z4⟩
  · rw [c 12 (by omega)]; exact l10
  · rw [c 13 (by omega)] at ht'
    obtain ⟨z1, z2⟩ := l11 j t' hj ht'
    refine ⟨?_, z2⟩
    unfold TB at z1 ⊢
    rw [co z1.2.1 (by omega) (by omega)]
    exact z1
  · rw [c 13 (by omega)]; exact l12
  · rw [lo 24 (by omega)]; exact r1.same (fun i hi => hh nw l4 l5 i hi) (fun _ _ => rfl)
  · unfold FXR TPR US at r2 ⊢
    rw [lo 0 (by omega), lo 1 (by omega), lo 14 (by omega), lo 15 (by omega), lo 24 (by omega), lo 26 (by omega), i23 5 (by omega), i23 13 (by omega), i23 14 (by omega)]
    exact r2
  · rw [c 12 (by omega), lo 25 (by omega), lo 24 (by omega)]
    rcases r3 j hj with h | ⟨x, h1, h2, h3⟩
    · exact Or.inl h
    · obtain ⟨z1, z2, -⟩ := l9 j x hj h1
      exact Or.inr ⟨x, h1, h2, h3.same (fun i hi => hh x z1 z2 i hi) (fun _ _ => rfl)⟩
  · rw [c 13 (by omega), lo 50 (by omega)]
    rcases r4 j hj with h | ⟨t', h1, h2⟩
    · exact Or.inl h
    · obtain ⟨z1, z2⟩ := l11 j t' hj h1
      have t53 := z1.1
      have hne : t' ≠ q := ok_ne z1.2.1 qb.2.1 (by omega) (by omega) (by omega)
      have d0 := out t' 2 z2 hne 0 (by omega)
      have d1 := out t' 2 z2 hne 1 (by omega)
      refine Or.inr ⟨t', h1, ?_⟩
      unfold TREL at h2 ⊢
      rw [show m'.1 t' = m.1 t' from funext fun k => i1 t' k (by omega) (by omega), lo 50 (by omega), lo 51 (by omega), iL (t' + 1) (by omega) (by omega), iL 52 (by omega) (by omega)]
      exact h2
theorem ST.rl {s : List Sh} {m : Mem} {ow : Nat → Nat} {nw q : Nat} (h : ST s m ow nw) (qb : QB s m q) (qo : OWN ow q 10) : ST s (wR m 0 16 (some q)) ow nw := by
  obtain ⟨⟨l1, l2, l3, l4, l5, l6, l7, l8, l9, l10, l11, l12⟩, r1, r2, r3, r4⟩ := h
  have c : ∀ a, a ≠ 0 → (wR m 0 16 (some q)).2.2 a = m.2.2 a := fun a ha => funext fun k => by rw [wR_3, if_neg (by omega)]
  have c0 : ∀ k, k ≠ 16 → (wR m 0 16 (some q)).2.2 0 k = m.2.2 0 k := fun k hk => by rw [wR_3, if_neg (by omega)]
  have c53 : ∀ a, 53 ≤ a → (wR m 0 16 (some q)).2.2 a = m.2.2 a := fun a ha => c a (by omega)
  have n2 := l4.1
  refine ⟨⟨l1, fun q hq => ?_, by rw [c0 4 (by omega)]; exact l3, l4.at (c _ (by omega)), l5, fun r hr => ?_, fun q' hq' => ?_, fun w' hw' => ?_, fun j x hj hx => ?_, ?_, fun j t' hj ht' => ?_, ?_⟩, r1, r2, fun j hj => ?_, fun j hj => ?_⟩
  · have : ∀ q ∈ rfB, q.1 ≠ 0 ∨ q.2.1 ≠ 16 := by decide
    have := this q hq
    rw [wR_3, if_neg (by omega)]
    exact l2 q hq
  · rw [c0 5 (by omega)] at hr
    obtain ⟨z, z1, z2, z3, z4, z5, z6, z7⟩ := l6 r hr
    have := z2.1
    exact ⟨z, z1.at c53, z2.at (c _ (by omega)), z3, z4, z5, z6, by rw [c 12 (by omega)]; exact z7⟩
  · rw [wR_3, if_pos ⟨rfl, rfl⟩] at hq'
    cases hq'
    exact ⟨qb.at c53, qo⟩
  · rw [c0 17 (by omega)] at hw'
    obtain ⟨z1, z2⟩ := l8 w' hw'
    exact ⟨z1.at c53, z2⟩
  · rw [c 12 (by omega)] at hx
    obtain ⟨z1, z2, z3, z4⟩ := l9 j x hj hx
    exact ⟨z1.at (c _ (by omega)), z2, z3, z4⟩
  · rw [c 12 (by omega)]; exact l10
  · rw [c 13 (by omega)] at ht'
    obtain ⟨z1, z2⟩ := l11 j t' hj ht'
    exact ⟨z1.at c53, z2⟩
  · rw [c 13 (by omega)]; exact l12
  · rw [c 12 (by omega)]; exact r3 j hj
  · rw [c 13 (by omega)]; exact r4 j hj
def qT : List Sh := [.inl 5, .inl 1, .inr (0, 9331), .inr (0, 9331), .inr (0, 9331), .inr (0, 9331), .inr (0, 8192), .inr (1, 511), .inr (0, 8), .inr (0, 8)]
/-- the searcher stands: made, or there already; it hasn't begun yet -/
theorem searcher {F : Nat} {s : List Sh} {m : Mem} {ow : Nat → Nat} {nw : Nat} (h : ST s m ow nw) : ∃ s' m' ow' q, n_X9_routesFromHere F s m 0 = nb_X9_routesFromHere_22 F s' m' 0 ∧ ST s' m' ow' nw ∧ m'.2.2 0 16 = some q ∧ (∃ t, s' = s ++ t) ∧ (∀ a, a < s.length → m'.1 a = m.1 a ∧ m'.2.1 a = m.2.1 a) ∧ (∀ a k, a < s.length → (a ≠ 0 ∨ k ≠ 16) → m'.2.2 a k = m.2.2 a k) ∧ (m.2.2 0 16 = none ∨ (m.2.2 0 16 = some q ∧ nq_routes F s m 0 = n_X9_routesFromHere F s m 0)) := by
  have hp := h.1.hp
  have hr := h.1.rf
  have r11 := rf0_11 hr
  cases hq : m.2.2 0 16 with
  | some q =>
    refine ⟨s, m, ow, q, ?_, h, hq, ⟨[], by simp⟩, fun a _ => ⟨rfl, rfl⟩, fun a k _ _ => rfl, Or.inr ⟨rfl, ?_⟩⟩
    · unfold n_X9_routesFromHere nb_X9_routesFromHere_0
      rw [hq, if_neg (by intro h; cases h)]
    · unfold nq_routes
      rw [hq, if_neg (by intro h; cases h)]
  | none =>
    have hL : 53 ≤ s.length := by obtain ⟨t, ht⟩ := hp; rw [ht, List.length_append, sB_len]; omega
    generalize hM : (wR (wR (wR (wR (wR (wR (wR (wR (wR (wR m s.length 4 (some 16)) (s.length + 1) 0 (some (s.length + 2))) (s.length + 1) 1 (some (s.length + 3))) (s.length + 1) 2 (some (s.length + 4))) (s.length + 1) 6 (some (s.length + 5))) (s.length + 1) 5 (some (s.length + 6))) (s.length + 1) 3 (some (s.length + 7))) s.length 0 (some (s.length + 1))) s.length 1 (some (s.length + 8))) s.length 2 (some (s.length + 9))) = M
    have be : BE s.length m M := fun a ha => ⟨by rw [← hM]; rfl, by rw [← hM]; rfl, funext fun k => by
      rw [← hM]
      simp only [wR_3]
      rw [if_neg (by omega), if_neg (by omega), if_neg (by omega), if_neg (by omega), if_neg (by omega), if_neg (by omega), if_neg (by omega), if_neg (by omega), if_neg (by omega), if_neg (by omega)]⟩
    have st := h.grow (t := qT) (ow' := fun a => if a < s.length then ow a else s.length) be (fun a ha => if_pos ha)
    have gl : ∀ i, (s ++ qT)[s.length + i]? = qT[i]? := fun i => by rw [List.getElem?_append_right (by omega), Nat.add_sub_cancel_left]
    have qb : QB (s ++ qT) M s.length := by
      refine ⟨hL, ok_i ?_ (by omega), ok_i ?_ (by omega), ?_, ?_, ?_, ?_, ?_, ?_, ?_, ?_, ?_, ?_, ?_, ?_, ?_, ?_, ?_, ?_, ?_, ?_⟩
      · rw [List.getElem?_append_right (by omega), Nat.sub_self]
        rfl
      · rw [gl 1]; rfl
      · rw [← hM]; simp [wR_3]
      · rw [← hM]; simp [wR_3]
      · rw [← hM]; simp [wR_3]
      · rw [← hM]; simp [wR_3]
      · rw [← hM]; simp [wR_3]
      · rw [← hM]; simp [wR_3]
      · rw [← hM]; simp [wR_3]
      · rw [← hM]; simp [wR_3]
      · rw [← hM]; simp [wR_3]
      · rw [← hM]; simp [wR_3]
      · unfold ln; rw [gl 2]; rfl
      · unfold ln; rw [gl 3]; rfl
      · unfold ln; rw [gl 4]; rfl
      · unfold ln; rw [gl 5]; rfl
      · unfold ln; rw [gl 6]; rfl
      · unfold ln; rw [gl 7]; rfl
      · unfold ln; rw [gl 8]; rfl
      · unfold ln; rw [gl 9]; rfl
    refine ⟨s ++ qT, wR M 0 16 (some s.length), _, s.length, ?_, st.rl qb (fun j hj => if_neg (by omega)), by rw [wR_3, if_pos ⟨rfl, rfl⟩], ⟨qT, rfl⟩, fun a ha => ⟨(be a ha).1, (be a ha).2.1⟩, fun a k ha hk => ?_, Or.inl rfl⟩
    · unfold n_X9_routesFromHere nb_X9_routesFromHere_0 n_X5_init nb_X5_init_0 n_X1_init nb_X1_init_0
      rw [hq, ← hM]
      simp only [bindv, bindv0, bind3_s, r11, Option.bind_some, ↓reduceIte, List.length_append, List.length_cons, List.length_nil, List.append_assoc, List.cons_append, List.nil_append, Nat.add_assoc, Nat.zero_add, Nat.reduceAdd]
      rfl
    · rw [wR_3, if_neg (by omega)]
      rw [(be a ha).2.2]
