/-! an image is kept -/
def OPG (s : List Sh) (m : Mem) (o9 : Option (Int32 × List Sh × Mem)) (o10 : List Sh → Mem → Option (Int32 × Mem)) : Prop := ∃ r s1 m1 m2, o9 = some (r, s1, m1) ∧ o10 s1 m1 = some (r, m2) ∧ INV s1 m2 ∧ (∃ t, s1 = s ++ t) ∧ m2.2.2 0 16 = m.2.2 0 16
theorem opg_fin {s : List Sh} {m : Mem} {o9 : Option (Int32 × List Sh × Mem)} {o10 : List Sh → Mem → Option (Int32 × Mem)} (h : INV s m) {r : Int32} {m1 m2 : Mem} (e1 : o9 = some (r, s, m1)) (e2 : o10 s m1 = some (r, m2)) (g2 : GS s m2) (sc : SC m m2) : OPG s m o9 o10 := ⟨r, s, m1, m2, e1, e2, h.sc g2 sc, ⟨[], by simp⟩, by rw [sc.r]⟩
theorem HB.at {s : List Sh} {m m' : Mem} {n : Nat} (h : HB s m n) (e : m'.2.2 n = m.2.2 n) : HB s m' n := by unfold HB at h ⊢; rw [e]; exact h
theorem RB.at {s : List Sh} {m m' : Mem} {r z : Nat} (h : RB s m r z) (e : ∀ a, 53 ≤ a → m'.2.2 a = m.2.2 a) : RB s m' r z := by
  have := h.1
  unfold RB at h ⊢; rw [e r (by omega), e (r + 11) (by omega)]; exact h
theorem QB.at {s : List Sh} {m m' : Mem} {q : Nat} (h : QB s m q) (e : ∀ a, 53 ≤ a → m'.2.2 a = m.2.2 a) : QB s m' q := by
  have := h.1
  unfold QB at h ⊢; rw [e q (by omega), e (q + 1) (by omega)]; exact h
theorem WB.at {s : List Sh} {m m' : Mem} {w : Nat} (h : WB s m w) (e : ∀ a, 53 ≤ a → m'.2.2 a = m.2.2 a) : WB s m' w := by
  have := h.1
  unfold WB at h ⊢; rw [e w (by omega)]; exact h
theorem TB.at {s : List Sh} {m m' : Mem} {t : Nat} (h : TB s m t) (e : ∀ a, 53 ≤ a → m'.2.2 a = m.2.2 a) : TB s m' t := by
  have := h.1
  unfold TB at h ⊢; rw [e t (by omega)]; exact h
theorem ST.im {s : List Sh} {m m' : Mem} {ow : Nat → Nat} {nw i n : Nat} (h : ST s m ow nw) (hi : i < 2) (hbn : HB s m n) (own : OWN ow n 10) (hne : n ≠ nw) (h53 : 53 ≤ n) (hoth : m.2.2 12 (1 - i) ≠ some n) (hz : ∀ r z, m.2.2 0 5 = some r → m.2.2 r 0 = some z → n ≠ z) (eR : m'.2.2 = (wR m 12 i (some n)).2.2) (e1 : ∀ a k, (a < n ∨ n + 10 ≤ a) → (a ≠ 23 ∨ k ≠ 0) → (a ≠ 24 ∨ k < 999 * (i + 1) ∨ 999 * (i + 2) ≤ k) → (a ≠ 25 ∨ k ≠ i) → m'.1 a k = m.1 a k) (eL : m'.2.1 = m.2.1) (e25 : m'.1 25 i = 1) (hH : HREL m' n (fun k => m'.1 24 (999 * (i + 1) + k))) : ST s m' ow nw := by
  obtain ⟨⟨l1, l2, l3, l4, l5, l6, l7, l8, l9, l10, l11, l12⟩, r1, r2, r3, r4⟩ := h
  have c : ∀ a, a ≠ 12 → m'.2.2 a = m.2.2 a := fun a ha => by rw [eR]; funext k; rw [wR_3, if_neg (by omega)]
  have ci : m'.2.2 12 i = some n := by rw [eR, wR_3, if_pos ⟨rfl, rfl⟩]
  have cj : ∀ j, j ≠ i → m'.2.2 12 j = m.2.2 12 j := fun j hj => by rw [eR, wR_3, if_neg (by omega)]
  have c53 : ∀ a, 53 ≤ a → m'.2.2 a = m.2.2 a := fun a ha => c a (by omega)
  have n2 := l4.1
  have apw := apart l5 own (fun e => hne e.symm)
  refine ⟨⟨l1, fun q hq => ?_, by rw [c 0 (by omega)]; exact l3, l4.at (c _ (by omega)), l5, fun r hr => ?_, fun q hq => ?_, fun w hw => ?_, fun j x hj hx => ?_, ?_, fun j t' hj ht' => ?_, ?_⟩, ?_, ?_, fun j hj => ?_, fun j hj => ?_⟩
  · have : ∀ q ∈ rfB, q.1 ≠ 12 := by decide
    rw [c _ (this q hq)]
    exact l2 q hq
  · rw [c 0 (by omega)] at hr
    obtain ⟨z, z1, z2, z3, z4, z5, z6, z7⟩ := l6 r hr
    have := z2.1
    refine ⟨z, z1.at c53, z2.at (c _ (by omega)), z3, z4, z5, z6, fun j x hj hx => ?_⟩
    by_cases e : j = i
    · subst e
      rw [ci] at hx
      cases hx
      exact hz r z hr z1.2.2.1
    · rw [cj j e] at hx
      exact z7 j x hj hx
  · rw [c 0 (by omega)] at hq
    obtain ⟨z1, z2⟩ := l7 q hq
    exact ⟨z1.at c53, z2⟩
  · rw [c 0 (by omega)] at hw
    obtain ⟨z1, z2⟩ := l8 w hw
    exact ⟨z1.at c53, z2⟩
  · by_cases e : j = i
    · subst e
      rw [ci] at hx
      cases hx
      exact ⟨hbn.at (c _ (by omega)), own, hne, h53⟩
    · rw [cj j e] at hx
      obtain ⟨z1, z2, z3, z4⟩ := l9 j x hj hx
      exact ⟨z1.at (c _ (by omega)), z2, z3, z4⟩
  · intro x hx
    rcases (show i = 0 ∨ i = 1 by omega) with rfl | rfl
    · rw [ci] at hx
      cases hx
      rw [cj 1 (by omega)]
      exact hoth
    · rw [ci]
      rw [cj 0 (by omega)] at hx
      intro e
      cases e
      exact hoth hx
  · rw [c 13 (by omega)] at ht'
    obtain ⟨z1, z2⟩ := l11 j t' hj ht'
    exact ⟨z1.at c53, z2⟩
  · rw [c 13 (by omega)]; exact l12
  · refine r1.same (fun j hj => funext fun k => e1 _ k (by omega) (by omega) (by omega) (by omega)) (fun k hk => e1 24 k (by omega) (by omega) (by omega) (by omega))
  · unfold FXR TPR US at r2 ⊢
    have f : ∀ a k, a < 53 → a ≠ 23 → a ≠ 25 → (a ≠ 24 ∨ k < 999) → m'.1 a k = m.1 a k := fun a k h1 h2 h3 h4 => e1 a k (by omega) (by omega) (by omega) (by omega)
    obtain ⟨⟨tpd, t1, t2, t3, t4, t5, t6, t7⟩, ud, u1, u2, u3, u4⟩ := r2
    refine ⟨⟨tpd, t1, t2, by rw [f 0 1 (by omega) (by omega) (by omega) (by omega)]; exact t3, by rw [e1 23 5 (by omega) (by omega) (by omega) (by omega)]; exact t4, fun k hk => by rw [f 1 k (by omega) (by omega) (by omega) (by omega), f 26 k (by omega) (by omega) (by omega) (by omega)]; exact t5 k hk, by rw [e1 23 13 (by omega) (by omega) (by omega) (by omega), f 0 2 (by omega) (by omega) (by omega) (by omega)]; exact t6, by rw [e1 23 14 (by omega) (by omega) (by omega) (by omega), f 0 3 (by omega) (by omega) (by omega) (by omega)]; exact t7⟩, ud, u1, by rw [f 0 10 (by omega) (by omega) (by omega) (by omega)]; exact u2, by rw [f 24 73 (by omega) (by omega) (by omega) (by omega)]; exact u3, fun k hk => ?_⟩
    rw [f 24 (74 + k) (by omega) (by omega) (by omega) (by omega), f 24 (86 + k) (by omega) (by omega) (by omega) (by omega), f 14 k (by omega) (by omega) (by omega) (by omega), f 15 k (by omega) (by omega) (by omega) (by omega), f 24 1 (by omega) (by omega) (by omega) (by omega)]
    exact u4 k hk
  · by_cases e : j = i
    · subst e
      exact Or.inr ⟨n, ci, e25, hH⟩
    · rw [cj j e, e1 25 j (by omega) (by omega) (by omega) (by omega)]
      rcases r3 j hj with h | ⟨x, h1, h2, h3⟩
      · exact Or.inl h
      · obtain ⟨z1, z2, z3, z4⟩ := l9 j x hj h1
        have hxn : x ≠ n := fun e' => by
          subst e'
          apply hoth
          rw [show 1 - i = j by omega]
          exact h1
        have ap := apart z2 own hxn
        refine Or.inr ⟨x, h1, h2, h3.same (fun b hb => funext fun k => e1 _ k (by omega) (by omega) (by omega) (by omega)) (fun k hk => e1 24 _ (by omega) (by omega) ?_ (by omega))⟩
        right
        rcases (show (i = 0 ∧ j = 1) ∨ (i = 1 ∧ j = 0) by omega) with ⟨rfl, rfl⟩ | ⟨rfl, rfl⟩ <;> omega
  · rw [c 13 (by omega), e1 50 j (by omega) (by omega) (by omega) (by omega)]
    rcases r4 j hj with h | ⟨t', h1, h2⟩
    · exact Or.inl h
    · obtain ⟨z1, z2⟩ := l11 j t' hj h1
      have tn : t' ≠ n := ok_ne z1.2.1 hbn.2.1 (by omega) (by omega) (by omega)
      have tn2 : t' < n ∨ n + 10 ≤ t' := by
        apply Classical.byContradiction
        intro hh
        have x1 := own (t' - n) (by omega)
        have x2 := z2 0 (by omega)
        rw [show n + (t' - n) = t' by omega] at x1
        rw [Nat.add_zero] at x2
        omega
      have := z1.1
      refine Or.inr ⟨t', h1, ?_⟩
      unfold TREL at h2 ⊢
      obtain ⟨so, sz, b1, b2, b3, b4, b5, b6, b7⟩ := h2
      refine ⟨so, sz, b1, b2, by rw [e1 t' 0 tn2 (by omega) (by omega) (by omega)]; exact b3, by rw [e1 t' 1 tn2 (by omega) (by omega) (by omega)]; exact b4, by rw [e1 50 j (by omega) (by omega) (by omega) (by omega)]; exact b5, by rw [e1 51 j (by omega) (by omega) (by omega) (by omega)]; exact b6, by rw [eL]; exact b7⟩
def hT : List Sh := [.inl 0, .inr (0, 7), .inr (0, 900), .inr (0, 8), .inr (0, 8), .inr (0, 24), .inr (0, 3), .inr (0, 8), .inr (0, 6), .inr (0, 6)]
theorem ln_hT {s : List Sh} {j : Nat} : ln (s ++ hT) (s.length + j) = ln hT j := by
  unfold ln
  rw [List.getElem?_append_right (by omega), show s.length + j - s.length = j by omega]
theorem initH {s : List Sh} {m : Mem} (h53 : 53 ≤ s.length) : ∃ m', n_X0_init (s ++ [.inl 0]) m s.length = some ((), s ++ hT, m') ∧ BE s.length m m' ∧ HB (s ++ hT) m' s.length ∧ m'.2.1 = m.2.1 ∧ (∀ a, s.length < a → m'.2.2 a = m.2.2 a) ∧ (∀ a k, a ≠ s.length → m'.1 a k = m.1 a k) := by
  refine ⟨wR (wR (wR (wR (wR (wR (wR (wR (wR (wI (wI m s.length 0 4) s.length 5 1) s.length 7 (some (s.length + 1))) s.length 8 (some (s.length + 2))) s.length 10 (some (s.length + 3))) s.length 11 (some (s.length + 4))) s.length 12 (some (s.length + 5))) s.length 13 (some (s.length + 6))) s.length 14 (some (s.length + 7))) s.length 16 (some (s.length + 8))) s.length 17 (some (s.length + 9)), ?_, fun a ha => ⟨funext fun k => ?_, rfl, funext fun k => ?_⟩, ?_, rfl, fun a ha => funext fun k => ?_, fun a k ha => ?_⟩
  · unfold n_X0_init nb_X0_init_0 hT
    simp only [bindv, bindv0, List.length_append, List.length_cons, List.length_nil, List.append_assoc, List.cons_append, List.nil_append, Nat.add_assoc, Nat.zero_add, Nat.reduceAdd]
  · simp only [wR_1]
    rw [wI_n (by omega), wI_n (by omega)]
  · simp only [wR_3]
    rw [if_neg (by omega), if_neg (by omega), if_neg (by omega), if_neg (by omega), if_neg (by omega), if_neg (by omega), if_neg (by omega), if_neg (by omega), if_neg (by omega)]
    rfl
  · refine ⟨Or.inr h53, ok_i ?_ (by omega), ?_, ?_⟩
    · rw [List.getElem?_append_right (by omega), Nat.sub_self]
      rfl
    · simp [wR_3]
    · rw [ln_hT, ln_hT, ln_hT, ln_hT, ln_hT, ln_hT, ln_hT, ln_hT, ln_hT]
      decide
  · simp only [wR_3]
    rw [if_neg (by omega), if_neg (by omega), if_neg (by omega), if_neg (by omega), if_neg (by omega), if_neg (by omega), if_neg (by omega), if_neg (by omega), if_neg (by omega)]
    rfl
  · simp only [wR_1]
    rw [wI_n (by omega), wI_n (by omega)]
theorem imaL10 {F : Nat} {s : List Sh} (hp : ∃ t, s = sB ++ t) {i : Nat} (hi : i < 2) : ∀ (n fuel : Nat), n < fuel → ∀ (m : Mem) (j : Nat), RF m → j + n = 999 → ∃ m', nl_X10_image_20 F s fuel m 23 (q32 i) (q32 j) = some (q32 0, m') ∧ m'.2 = m.2 ∧ (∀ c k, (c ≠ 24 ∨ k < 999 * (i + 1) ∨ 999 * (i + 2) ≤ k) → (c ≠ 25 ∨ k ≠ i) → m'.1 c k = m.1 c k) ∧ m'.1 25 i = 1 ∧ ∀ k, k < 999 → m'.1 24 (999 * (i + 1) + k) = if j ≤ k then m.1 24 k else m.1 24 (999 * (i + 1) + k) := by
  have l24 := ln24 hp
  have l25 := ln25 hp
  intro n
  induction n with
  | zero =>
    intro fuel hf m j hr hj
    obtain ⟨fuel, rfl⟩ : ∃ f, fuel = f + 1 := ⟨fuel - 1, by omega⟩
    have r2 := rf23_2 hr
    refine ⟨wI m 25 i (q32 1), ?_, rfl, fun c k h1 h2 => wI_n (by omega), wI_s _ _ _ _, fun k hk => ?_⟩
    · show nb_X10_image_20 F s (nl_X10_image_20 F s fuel) m 23 _ _ = _
      unfold nb_X10_image_20 stZ
      simp (disch := omega) only [Option.bind_some, bindv, bindv0, bind2_s, bind3_s, ↓reduceIte, Bool.false_eq_true, rZM_0, rZM_1, rZP_0, rZP_1, ptZ_0, ptZ_1, c32i, c64i, ncI, Int.natCast_add, Int.natCast_mul, q32_neg, q64_neg, q32_add, q32_sub, q32_mul, q64_add, q64_sub, q64_mul, q32_64i, q64_32, q32_lt_t, q32_lt_f, q32_le_t, q32_le_f, q32_eq_t, q32_eq_f, q64_lt_t, q64_lt_f, q64_le_t, q64_le_f, q64_eq_t, q64_eq_f, rdI_i, rdL_i, rdR_i, rdN_i, stI_i, stL_i, stR_i, wI_s, wI_n, wL_s, wL_n, wI_2, wI_3, wL_1, wL_3, wR_1, wR_2, Int.toNat_natCast, tnO, tn_add, tn_sub, tn_mul, Nat.add_sub_cancel, Nat.add_zero, Nat.zero_add, lnO, win_t, win_f, r2]
      rfl
    · rw [if_neg (by omega), wI_n (by omega)]
  | succ n ih =>
    intro fuel hf m j hr hj
    obtain ⟨fuel, rfl⟩ : ∃ f, fuel = f + 1 := ⟨fuel - 1, by omega⟩
    have r1 := rf23_1 hr
    obtain ⟨m', e1, e2, e3, e4, e5⟩ := ih fuel (by omega) (wI m 24 (999 * (i + 1) + j) (m.1 24 j)) (j + 1) (hr.same rfl) (by omega)
    rw [Int.natCast_add] at e1
    have ei : ((999 : Int) * (i + 1) + j).toNat = 999 * (i + 1) + j := by omega
    refine ⟨m', ?_, e2, fun c k h1 h2 => by rw [e3 c k h1 h2, wI_n (by omega)], e4, fun k hk => ?_⟩
    · show nb_X10_image_20 F s (nl_X10_image_20 F s fuel) m 23 _ _ = _
      unfold nb_X10_image_20
      simp (disch := omega) only [Option.bind_some, bindv, bindv0, bind2_s, bind3_s, ↓reduceIte, Bool.false_eq_true, rZM_0, rZM_1, rZP_0, rZP_1, ptZ_0, ptZ_1, c32i, c64i, ncI, Int.natCast_add, Int.natCast_mul, q32_neg, q64_neg, q32_add, q32_sub, q32_mul, q64_add, q64_sub, q64_mul, q32_64i, q64_32, q32_lt_t, q32_lt_f, q32_le_t, q32_le_f, q32_eq_t, q32_eq_f, q64_lt_t, q64_lt_f, q64_le_t, q64_le_f, q64_eq_t, q64_eq_f, rdI_i, rdL_i, rdR_i, rdN_i, stI_i, stL_i, stR_i, wI_s, wI_n, wL_s, wL_n, wI_2, wI_3, wL_1, wL_3, wR_1, wR_2, Int.toNat_natCast, r1, ei]
      exact e1
    · rw [e5 k hk]
      by_cases c2 : j + 1 ≤ k
      · rw [if_pos c2, if_pos (by omega), wI_n (by omega)]
      · rw [if_neg c2]
        by_cases c3 : k = j
        · subst c3; rw [if_pos (by omega), wI_s]
        · rw [if_neg (by omega), wI_n (by omega)]
/-- both keep an image in a house n that is linked -/
theorem img_core {F : Nat} (hF : 2000 ≤ F) {s : List Sh} {m : Mem} {ow : Nat → Nat} {nw i n : Nat} (hst : ST s m ow nw) (hi : i < 2) (hbn : HB s m n) (own : OWN ow n 10) (hne : n ≠ nw) (h53 : 53 ≤ n) (hoth : m.2.2 12 (1 - i) ≠ some n) (hz : ∀ r z, m.2.2 0 5 = some r → m.2.2 r 0 = some z → n ≠ z) : ∃ m1 m2, nb_X9_image_34 s (wR m 12 i (some n)) 0 (q32 i) = some (q32 0, s, m1) ∧ n_X10_image F s m1 23 (q32 i) = some (q32 0, m2) ∧ ST s m2 ow nw ∧ m2.2.2 = (wR m 12 i (some n)).2.2 := by
  have hl := hst.1
  have hp := hl.hp
  have hr := hl.rf
  have rn := hl.nw
  have hb := hl.2.2.2.1
  have n2 := hb.1
  have l12 := ln12 hp
  have ap := apart own hl.2.2.2.2.1 hne
  have cw : ∀ a, a ≠ 12 → (wR m 12 i (some n)).2.2 a = m.2.2 a := fun a ha => by funext k; rw [wR_3, if_neg (by omega)]
  have hrW : RF (wR m 12 i (some n)) := fun q hq => by
    have : ∀ q ∈ rfB, q.1 ≠ 12 := by decide
    rw [cw _ (this q hq)]
    exact hr q hq
  obtain ⟨m1, t1, t2, t3, t4, t5, t6, t7, t8, t9, t10, t11, t12⟩ := takeH (m := wR m 12 i (some n)) (hbn.at (cw _ (by omega))) (hb.at (cw _ (by omega))) ap
  have hrM : RF (wI m1 23 0 (q32 0)) := hrW.same (by show m1.2.2 = _; rw [t2])
  obtain ⟨m2, g1, g2, g3, g4, g5⟩ := imaL10 (F := F) hp hi 999 F (by omega) (wI m1 23 0 (q32 0)) 0 hrM (by omega)
  have rR : rdR s (wR m 12 i (some n)) 12 (q32 i) = some n := by
    rw [rdR_q (by omega) (by omega), wR_3, if_pos ⟨rfl, rfl⟩]
  have r6 := rf0_6 hrW
  have rn' : (wR m 12 i (some n)).2.2 0 4 = some nw := by rw [cw 0 (by omega)]; exact rn
  have eR : m2.2.2 = (wR m 12 i (some n)).2.2 := by rw [g2]; show m1.2.2 = _; rw [t2]
  have o1 : ∀ a k, (a < n ∨ n + 10 ≤ a) → (a ≠ 23 ∨ k ≠ 0) → (a ≠ 24 ∨ k < 999 * (i + 1) ∨ 999 * (i + 2) ≤ k) → (a ≠ 25 ∨ k ≠ i) → m2.1 a k = m.1 a k := fun a k h1 h2 h3 h4 => by
    rw [g3 a k h3 h4, wI_n h2, t3 a k h1]; rfl
  have oN : ∀ c k, n ≤ c → c < n + 10 → m2.1 c k = m1.1 c k := fun c k h1 h2 => by
    rw [g3 c k (by omega) (by omega), wI_n (by omega)]
  refine ⟨m1, m2, ?_, ?_, hst.im hi hbn own hne h53 hoth hz eR o1 ?_ g4 ?_, eR⟩
  · unfold nb_X9_image_34
    simp (disch := omega) only [Option.bind_some, bindv, bindv0, bind2_s, bind3_s, ↓reduceIte, Bool.false_eq_true, rZM_0, rZM_1, rZP_0, rZP_1, ptZ_0, ptZ_1, c32i, c64i, ncI, Int.natCast_add, Int.natCast_mul, q32_neg, q64_neg, q32_add, q32_sub, q32_mul, q64_add, q64_sub, q64_mul, q32_64i, q64_32, q32_lt_t, q32_lt_f, q32_le_t, q32_le_f, q32_eq_t, q32_eq_f, q64_lt_t, q64_lt_f, q64_le_t, q64_le_f, q64_eq_t, q64_eq_f, rdI_i, rdL_i, rdR_i, rdN_i, stI_i, stL_i, stR_i, wI_s, wI_n, wL_s, wL_n, wI_2, wI_3, wL_1, wL_3, wR_1, wR_2, Int.toNat_natCast, tnO, tn_add, tn_sub, tn_mul, Nat.add_sub_cancel, Nat.add_zero, Nat.zero_add, lnO, win_t, win_f, r6, rR, rn', t1]
  · unfold n_X10_image nb_X10_image_0
    simp (disch := omega) only [Option.bind_some, bindv, bindv0, bind2_s, bind3_s, ↓reduceIte, Bool.false_eq_true, rZM_0, rZM_1, rZP_0, rZP_1, ptZ_0, ptZ_1, c32i, c64i, ncI, Int.natCast_add, Int.natCast_mul, q32_neg, q64_neg, q32_add, q32_sub, q32_mul, q64_add, q64_sub, q64_mul, q32_64i, q64_32, q32_lt_t, q32_lt_f, q32_le_t, q32_le_f, q32_eq_t, q32_eq_f, q64_lt_t, q64_lt_f, q64_le_t, q64_le_f, q64_eq_t, q64_eq_f, rdI_i, rdL_i, rdR_i, rdN_i, stI_i, stL_i, stR_i, wI_s, wI_n, wL_s, wL_n, wI_2, wI_3, wL_1, wL_3, wR_1, wR_2, Int.toNat_natCast, tnO, tn_add, tn_sub, tn_mul, Nat.add_sub_cancel, Nat.add_zero, Nat.zero_add, lnO, win_t, win_f]
    exact g1
  · rw [g2]; show m1.2.1 = _; rw [t2]; rfl
  · have hH := hst.2.1
    unfold HREL at hH ⊢
    exact HR.cp hH (fun k hk => by rw [oN _ _ (by omega) (by omega)]; exact t4 k hk) (fun k hk => by rw [oN _ _ (by omega) (by omega)]; exact t5 k hk) (fun k hk => by rw [oN _ _ (by omega) (by omega)]; exact t6 k hk) (fun k hk => by rw [oN _ _ (by omega) (by omega)]; exact t7 k hk) (fun k hk => by rw [oN _ _ (by omega) (by omega)]; exact t8 k hk) (fun k hk => by rw [oN _ _ (by omega) (by omega)]; exact t9 k hk) (fun k hk => by rw [oN _ _ (by omega) (by omega)]; exact t10 k hk) (fun k hk => by rw [oN _ _ (by omega) (by omega)]; exact t11 k hk) (fun k hk => by rw [oN _ _ (by omega) (by omega)]; exact t12 k hk) (fun k hk h73 => by
      rw [g5 k hk, if_pos (by omega), wI_n (by omega), t3 _ _ (by omega)]; rfl)
theorem opg_image {F : Nat} (hF : 2000 ≤ F) {s : List Sh} {m : Mem} (h : INV s m) (w : Int32) : OPG s m (n_X9_image s m 0 w) (fun s1 m1 => n_X10_image F s1 m1 23 w) := by
  have h0 := h
  obtain ⟨hg, ow, nw, hst⟩ := h
  have hl := hst.1
  have hp := hl.hp
  have hr := hl.rf
  have hn := hl.hn
  have rn := hl.nw
  have r1 := rf23_1 hr
  have l24 := ln24 hp
  obtain ⟨v, hv, rfl⟩ := q32_of w
  have r6 := rf0_6 hr
  have l12 := ln12 hp
  by_cases c : 0 ≤ v ∧ v < 2
  · obtain ⟨i, rfl⟩ := Int.eq_ofNat_of_zero_le c.1
    have hi : i < 2 := by omega
    have rN : rdN s m 12 (q32 i) = some (m.2.2 12 i) := rdN_q (by omega) (by omega)
    rcases hst.2.2.2.1 i hi with ⟨n1, n2⟩ | ⟨n, n1, n2, n3⟩
    · rw [n1] at rN
      have hL : 53 ≤ s.length := by obtain ⟨t, ht⟩ := hp; rw [ht, List.length_append, sB_len]; omega
      obtain ⟨m8, i1, i2, i3, i4, i5, i6⟩ := initH (s := s) (m := m) hL
      have hst8 : ST (s ++ hT) m8 (fun a => if a < s.length then ow a else s.length) nw := hst.grow i2 (fun a ha => if_pos ha)
      have e12 : m8.2.2 12 = m.2.2 12 := (i2 12 (by omega)).2.2
      have e0 : m8.2.2 0 = m.2.2 0 := (i2 0 (by omega)).2.2
      have hbl := hst.1.2.2.2.1.lt
      obtain ⟨m1, m2, c1, c2, c3, c4⟩ := img_core hF hst8 hi i3 (fun j hj => if_neg (by omega)) (by omega) hL (by
        rw [e12]
        intro e
        have := (hl.2.2.2.2.2.2.2.2.1 (1 - i) s.length (by omega) e).1.lt
        omega) (fun r z h1 h2 => by
        rw [e0] at h1
        obtain ⟨z', z1, z2, -⟩ := hl.2.2.2.2.2.1 r h1
        have rl := ok_lt z1.2.1
        rw [(i2 r rl).2.2, z1.2.2.1] at h2
        cases h2
        have := z2.lt
        omega)
      have hp8 : ∃ t, s ++ hT = sB ++ t := hst8.1.hp
      have l12' := ln12 hp8
      have sR : stR (s ++ hT) m8 12 (q32 i) s.length = some (wR m8 12 i (some s.length)) := by
        simp (disch := omega) only [Option.bind_some, bindv, bindv0, bind2_s, bind3_s, ↓reduceIte, Bool.false_eq_true, rZM_0, rZM_1, rZP_0, rZP_1, ptZ_0, ptZ_1, c32i, c64i, ncI, Int.natCast_add, Int.natCast_mul, q32_neg, q64_neg, q32_add, q32_sub, q32_mul, q64_add, q64_sub, q64_mul, q32_64i, q64_32, q32_lt_t, q32_lt_f, q32_le_t, q32_le_f, q32_eq_t, q32_eq_f, q64_lt_t, q64_lt_f, q64_le_t, q64_le_f, q64_eq_t, q64_eq_f, rdI_i, rdL_i, rdR_i, rdN_i, stI_i, stL_i, stR_i, wI_s, wI_n, wL_s, wL_n, wI_2, wI_3, wL_1, wL_3, wR_1, wR_2, Int.toNat_natCast, tnO, tn_add, tn_sub, tn_mul, Nat.add_sub_cancel, Nat.add_zero, Nat.zero_add, lnO, win_t, win_f]
      have e1 : n_X9_image s m 0 (q32 i) = some (q32 0, s ++ hT, m1) := by
        unfold n_X9_image nb_X9_image_0
        simp (disch := omega) only [Option.bind_some, bindv, bindv0, bind2_s, bind3_s, ↓reduceIte, Bool.false_eq_true, rZM_0, rZM_1, rZP_0, rZP_1, ptZ_0, ptZ_1, c32i, c64i, ncI, Int.natCast_add, Int.natCast_mul, q32_neg, q64_neg, q32_add, q32_sub, q32_mul, q64_add, q64_sub, q64_mul, q32_64i, q64_32, q32_lt_t, q32_lt_f, q32_le_t, q32_le_f, q32_eq_t, q32_eq_f, q64_lt_t, q64_lt_f, q64_le_t, q64_le_f, q64_eq_t, q64_eq_f, rdI_i, rdL_i, rdR_i, rdN_i, stI_i, stL_i, stR_i, wI_s, wI_n, wL_s, wL_n, wI_2, wI_3, wL_1, wL_3, wR_1, wR_2, Int.toNat_natCast, tnO, tn_add, tn_sub, tn_mul, Nat.add_sub_cancel, Nat.add_zero, Nat.zero_add, lnO, win_t, win_f, r6, rN, i1, sR]
        exact c1
      obtain ⟨-, g1, g2⟩ := un_X9_image hg (okB hp).1 e1
      refine ⟨q32 0, s ++ hT, m1, m2, e1, c2, ⟨(un_X10_image g1 (okB hp8).2 c2).2, _, nw, c3⟩, ⟨hT, rfl⟩, ?_⟩
      rw [c4, wR_3, if_neg (by omega), e0]
    · rw [n1] at rN
      obtain ⟨hbn, own, hne, h53⟩ := hl.2.2.2.2.2.2.2.2.1 i n hi n1
      have wm : wR m 12 i (some n) = m := by
        have : (wR m 12 i (some n)).2.2 = m.2.2 := by
          funext a k
          rw [wR_3]
          split
          · rename_i e; rw [e.1, e.2, n1]
          · rfl
        exact Prod.ext rfl (Prod.ext rfl this)
      obtain ⟨m1, m2, c1, c2, c3, c4⟩ := img_core hF hst hi hbn own hne h53 (by
        have l10 := hl.2.2.2.2.2.2.2.2.2.1
        rcases (show i = 0 ∨ i = 1 by omega) with rfl | rfl
        · exact l10 n n1
        · exact fun e => l10 n e n1) (fun r z h1 h2 => by
        obtain ⟨z', z1, z2, z3, z4, z5, z6, z7⟩ := hl.2.2.2.2.2.1 r h1
        rw [z1.2.2.1] at h2
        cases h2
        exact z7 i n hi n1)
      rw [wm] at c1 c4
      have e1 : n_X9_image s m 0 (q32 i) = some (q32 0, s, m1) := by
        unfold n_X9_image nb_X9_image_0
        simp (disch := omega) only [Option.bind_some, bindv, bindv0, bind2_s, bind3_s, ↓reduceIte, Bool.false_eq_true, rZM_0, rZM_1, rZP_0, rZP_1, ptZ_0, ptZ_1, c32i, c64i, ncI, Int.natCast_add, Int.natCast_mul, q32_neg, q64_neg, q32_add, q32_sub, q32_mul, q64_add, q64_sub, q64_mul, q32_64i, q64_32, q32_lt_t, q32_lt_f, q32_le_t, q32_le_f, q32_eq_t, q32_eq_f, q64_lt_t, q64_lt_f, q64_le_t, q64_le_f, q64_eq_t, q64_eq_f, rdI_i, rdL_i, rdR_i, rdN_i, stI_i, stL_i, stR_i, wI_s, wI_n, wL_s, wL_n, wI_2, wI_3, wL_1, wL_3, wR_1, wR_2, Int.toNat_natCast, tnO, tn_add, tn_sub, tn_mul, Nat.add_sub_cancel, Nat.add_zero, Nat.zero_add, lnO, win_t, win_f, r6, rN]
        exact c1
      exact ⟨q32 0, s, m1, m2, e1, c2, ⟨(un_X10_image (un_X9_image hg (okB hp).1 e1).2.1 (okB hp).2 c2).2, ow, nw, c3⟩, ⟨[], by simp⟩, by rw [c4]⟩
  · have e1 : n_X9_image s m 0 (q32 v) = some (q32 (-2), s, m) := by
      unfold n_X9_image nb_X9_image_0
      by_cases c2 : v < 0
      · simp (disch := omega) only [Option.bind_some, bindv, bindv0, bind2_s, bind3_s, ↓reduceIte, Bool.false_eq_true, rZM_0, rZM_1, rZP_0, rZP_1, ptZ_0, ptZ_1, c32i, c64i, ncI, Int.natCast_add, Int.natCast_mul, q32_neg, q64_neg, q32_add, q32_sub, q32_mul, q64_add, q64_sub, q64_mul, q32_64i, q64_32, q32_lt_t, q32_lt_f, q32_le_t, q32_le_f, q32_eq_t, q32_eq_f, q64_lt_t, q64_lt_f, q64_le_t, q64_le_f, q64_eq_t, q64_eq_f, rdI_i, rdL_i, rdR_i, rdN_i, stI_i, stL_i, stR_i, wI_s, wI_n, wL_s, wL_n, wI_2, wI_3, wL_1, wL_3, wR_1, wR_2, Int.toNat_natCast, tnO, tn_add, tn_sub, tn_mul, Nat.add_sub_cancel, Nat.add_zero, Nat.zero_add, lnO, win_t, win_f]
      · simp (disch := omega) only [Option.bind_some, bindv, bindv0, bind2_s, bind3_s, ↓reduceIte, Bool.false_eq_true, rZM_0, rZM_1, rZP_0, rZP_1, ptZ_0, ptZ_1, c32i, c64i, ncI, Int.natCast_add, Int.natCast_mul, q32_neg, q64_neg, q32_add, q32_sub, q32_mul, q64_add, q64_sub, q64_mul, q32_64i, q64_32, q32_lt_t, q32_lt_f, q32_le_t, q32_le_f, q32_eq_t, q32_eq_f, q64_lt_t, q64_lt_f, q64_le_t, q64_le_f, q64_eq_t, q64_eq_f, rdI_i, rdL_i, rdR_i, rdN_i, stI_i, stL_i, stR_i, wI_s, wI_n, wL_s, wL_n, wI_2, wI_3, wL_1, wL_3, wR_1, wR_2, Int.toNat_natCast, tnO, tn_add, tn_sub, tn_mul, Nat.add_sub_cancel, Nat.add_zero, Nat.zero_add, lnO, win_t, win_f]
    have e2 : n_X10_image F s m 23 (q32 v) = some (q32 (-2), wI m 23 0 (q32 0)) := by
      unfold n_X10_image nb_X10_image_0
      simp (disch := omega) only [Option.bind_some, bindv, bindv0, bind2_s, bind3_s, ↓reduceIte, Bool.false_eq_true, rZM_0, rZM_1, rZP_0, rZP_1, ptZ_0, ptZ_1, c32i, c64i, ncI, Int.natCast_add, Int.natCast_mul, q32_neg, q64_neg, q32_add, q32_sub, q32_mul, q64_add, q64_sub, q64_mul, q32_64i, q64_32, q32_lt_t, q32_lt_f, q32_le_t, q32_le_f, q32_eq_t, q32_eq_f, q64_lt_t, q64_lt_f, q64_le_t, q64_le_f, q64_eq_t, q64_eq_f, rdI_i, rdL_i, rdR_i, rdN_i, stI_i, stL_i, stR_i, wI_s, wI_n, wL_s, wL_n, wI_2, wI_3, wL_1, wL_3, wR_1, wR_2, Int.toNat_natCast, tnO, tn_add, tn_sub, tn_mul, Nat.add_sub_cancel, Nat.add_zero, Nat.zero_add, lnO, win_t, win_f]
    exact opg_fin h0 e1 e2 (un_X10_image (un_X9_image hg (okB hp).1 e1).2.1 (okB hp).2 e2).2 (SC.k0 m)
