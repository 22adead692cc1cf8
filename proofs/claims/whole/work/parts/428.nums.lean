/-! a tray is laid out -/
theorem fillL {F : Nat} {s : List Sh} {a L : Nat} (hl : ln s a = L) (hL : L ≤ 1000) : ∀ (n fuel : Nat), n < fuel → ∀ (m : Mem) (j : Nat), j + n = L → ∃ m', nl_J7_fill_d0a16_6 F s fuel m a (q64 0) (q32 j) (q32 L) = some ((), m') ∧ m'.1 = m.1 ∧ m'.2.2 = m.2.2 ∧ (∀ c k, c ≠ a → m'.2.1 c k = m.2.1 c k) ∧ ∀ k, k < L → m'.2.1 a k = if j ≤ k then q64 0 else m.2.1 a k := by
  intro n
  induction n with
  | zero =>
    intro fuel hf m j hj
    obtain ⟨fuel, rfl⟩ : ∃ f, fuel = f + 1 := ⟨fuel - 1, by omega⟩
    refine ⟨m, ?_, rfl, rfl, fun _ _ _ => rfl, fun k hk => by rw [if_neg (by omega)]⟩
    show nb_J7_fill_d0a16_6 F s (nl_J7_fill_d0a16_6 F s fuel) m a _ _ _ = _
    unfold nb_J7_fill_d0a16_6
    simp (disch := omega) only [Option.bind_some, bindv, bindv0, bind2_s, bind3_s, ↓reduceIte, Bool.false_eq_true, rZM_0, rZM_1, rZP_0, rZP_1, ptZ_0, ptZ_1, c32i, c64i, ncI, Int.natCast_add, Int.natCast_mul, q32_neg, q64_neg, q32_add, q32_sub, q32_mul, q64_add, q64_sub, q64_mul, q32_64i, q64_32, q32_lt_t, q32_lt_f, q32_le_t, q32_le_f, q32_eq_t, q32_eq_f, q64_lt_t, q64_lt_f, q64_le_t, q64_le_f, q64_eq_t, q64_eq_f, rdI_i, rdL_i, rdR_i, rdN_i, stI_i, stL_i, stR_i, wI_s, wI_n, wL_s, wL_n, wI_2, wI_3, wL_1, wL_3, wR_1, wR_2, Int.toNat_natCast, tnO, tn_add, tn_sub, tn_mul, Nat.add_sub_cancel, Nat.add_zero, Nat.zero_add, lnO, win_t, win_f]
  | succ n ih =>
    intro fuel hf m j hj
    obtain ⟨fuel, rfl⟩ : ∃ f, fuel = f + 1 := ⟨fuel - 1, by omega⟩
    obtain ⟨m', e1, e2, e3, e4, e5⟩ := ih fuel (by omega) (wL m a j (q64 0)) (j + 1) (by omega)
    rw [Int.natCast_add] at e1
    refine ⟨m', ?_, e2, e3, fun c k h => by rw [e4 c k h, wL_n (Or.inl h)], fun k hk => ?_⟩
    · show nb_J7_fill_d0a16_6 F s (nl_J7_fill_d0a16_6 F s fuel) m a _ _ _ = _
      unfold nb_J7_fill_d0a16_6
      simp (disch := omega) only [Option.bind_some, bindv, bindv0, bind2_s, bind3_s, ↓reduceIte, Bool.false_eq_true, rZM_0, rZM_1, rZP_0, rZP_1, ptZ_0, ptZ_1, c32i, c64i, ncI, Int.natCast_add, Int.natCast_mul, q32_neg, q64_neg, q32_add, q32_sub, q32_mul, q64_add, q64_sub, q64_mul, q32_64i, q64_32, q32_lt_t, q32_lt_f, q32_le_t, q32_le_f, q32_eq_t, q32_eq_f, q64_lt_t, q64_lt_f, q64_le_t, q64_le_f, q64_eq_t, q64_eq_f, rdI_i, rdL_i, rdR_i, rdN_i, stI_i, stL_i, stR_i, wI_s, wI_n, wL_s, wL_n, wI_2, wI_3, wL_1, wL_3, wR_1, wR_2, Int.toNat_natCast, tnO, tn_add, tn_sub, tn_mul, Nat.add_sub_cancel, Nat.add_zero, Nat.zero_add, lnO, win_t, win_f]
      exact e1
    · rw [e5 k hk]
      by_cases c2 : j + 1 ≤ k
      · rw [if_pos c2, if_pos (by omega)]
      · rw [if_neg c2]
        by_cases c3 : k = j
        · subst c3; rw [if_pos (by omega), wL_s]
        · rw [if_neg (by omega), wL_n (by omega)]
theorem num9 {F : Nat} (hF : 1000 ≤ F) {s : List Sh} (hp : ∃ t, s = sB ++ t) {M : Mem} (hr : RF M) {i t so sz : Nat} (hi : i < 4) (ht : M.2.2 13 i = some t) (hb : TB s M t) (h40 : sz ≤ 40) : ∃ m1, nb_X9_numbers_56 F s M 0 (q32 i) (q32 so) (q32 sz) = some (q32 0, s, m1) ∧ m1.2.2 = M.2.2 ∧ (∀ a k, a ≠ t → m1.1 a k = M.1 a k) ∧ m1.1 t 0 = q32 so ∧ m1.1 t 1 = q32 sz ∧ (∀ a k, a ≠ t + 1 → m1.2.1 a k = M.2.1 a k) ∧ ∀ k, k < 40 → m1.2.1 (t + 1) k = q64 0 := by
  obtain ⟨h53, -, t2, l40⟩ := hb
  have r7 := rf0_7 hr
  have l13 := ln13 hp
  obtain ⟨m1, e1, e2, e3, e4, e5⟩ := fillL (F := F) l40 (by omega) 40 F (by omega) (wI (wI M t 0 (q32 so)) t 1 (q32 sz)) 0 (by omega)
  have rR : rdR s M 13 (q32 i) = some t := by rw [rdR_q (by omega) (by omega)]; exact ht
  have jm' : jmin (q32 (sz : Int)) (40 : Int32) = q32 sz := by
    rw [show (40 : Int32) = q32 ((40 : Nat) : Int) from rfl, jmin_q (by omega) (by omega)]
    congr 1
    omega
  refine ⟨m1, ?_, e3, fun a k h => by rw [e2, wI_n (Or.inl h), wI_n (Or.inl h)], by rw [e2, wI_n (by omega), wI_s], by rw [e2, wI_s], e4, fun k hk => by rw [e5 k hk, if_pos (by omega)]⟩
  have fl : n_J7_fill_d0a16 F s (wI (wI M t 0 (q32 so)) t 1 (q32 sz)) (t + 1) (0 : Int64) = some ((), m1) := by
    unfold n_J7_fill_d0a16 nb_J7_fill_d0a16_0
    rw [l40]
    exact e1
  have lo : n_X7_layOut F s M t (q32 so) (q32 sz) = some ((), m1) := by
    unfold n_X7_layOut nb_X7_layOut_0
    rw [jm']
    have t2' : (wI (wI M t 0 (q32 so)) t 1 (q32 sz)).2.2 t 2 = some (t + 1) := t2
    simp only [bindv, bindv0, t2', Option.bind_some, fl, bind2_s]
  unfold nb_X9_numbers_56
  simp (disch := omega) only [Option.bind_some, bindv, bindv0, bind2_s, bind3_s, ↓reduceIte, Bool.false_eq_true, rZM_0, rZM_1, rZP_0, rZP_1, ptZ_0, ptZ_1, c32i, c64i, ncI, Int.natCast_add, Int.natCast_mul, q32_neg, q64_neg, q32_add, q32_sub, q32_mul, q64_add, q64_sub, q64_mul, q32_64i, q64_32, q32_lt_t, q32_lt_f, q32_le_t, q32_le_f, q32_eq_t, q32_eq_f, q64_lt_t, q64_lt_f, q64_le_t, q64_le_f, q64_eq_t, q64_eq_f, rdI_i, rdL_i, rdR_i, rdN_i, stI_i, stL_i, stR_i, wI_s, wI_n, wL_s, wL_n, wI_2, wI_3, wL_1, wL_3, wR_1, wR_2, Int.toNat_natCast, tnO, tn_add, tn_sub, tn_mul, Nat.add_sub_cancel, Nat.add_zero, Nat.zero_add, lnO, win_t, win_f, r7, rR, lo]
theorem numL10 {F : Nat} {s : List Sh} (hp : ∃ t, s = sB ++ t) {i sz : Nat} (hi : i < 4) (h40 : sz ≤ 40) : ∀ (n fuel : Nat), n < fuel → ∀ (m : Mem) (j : Nat), RF m → j + n = sz → ∃ m', nl_X10_numbers_64 F s fuel m 23 (q32 i) (q32 sz) (q32 j) = some (q32 0, m') ∧ m'.1 = m.1 ∧ m'.2.2 = m.2.2 ∧ (∀ c k, c ≠ 52 ∨ k < 40 * i ∨ 40 * i + 40 ≤ k → m'.2.1 c k = m.2.1 c k) ∧ ∀ k, k < sz → m'.2.1 52 (40 * i + k) = if j ≤ k then q64 0 else m.2.1 52 (40 * i + k) := by
  have l52 := ln52 hp
  intro n
  induction n with
  | zero =>
    intro fuel hf m j hr hj
    obtain ⟨fuel, rfl⟩ : ∃ f, fuel = f + 1 := ⟨fuel - 1, by omega⟩
    refine ⟨m, ?_, rfl, rfl, fun _ _ _ => rfl, fun k hk => by rw [if_neg (by omega)]⟩
    show nb_X10_numbers_64 F s (nl_X10_numbers_64 F s fuel) m 23 _ _ _ = _
    unfold nb_X10_numbers_64
    simp (disch := omega) only [Option.bind_some, bindv, bindv0, bind2_s, bind3_s, ↓reduceIte, Bool.false_eq_true, rZM_0, rZM_1, rZP_0, rZP_1, ptZ_0, ptZ_1, c32i, c64i, ncI, Int.natCast_add, Int.natCast_mul, q32_neg, q64_neg, q32_add, q32_sub, q32_mul, q64_add, q64_sub, q64_mul, q32_64i, q64_32, q32_lt_t, q32_lt_f, q32_le_t, q32_le_f, q32_eq_t, q32_eq_f, q64_lt_t, q64_lt_f, q64_le_t, q64_le_f, q64_eq_t, q64_eq_f, rdI_i, rdL_i, rdR_i, rdN_i, stI_i, stL_i, stR_i, wI_s, wI_n, wL_s, wL_n, wI_2, wI_3, wL_1, wL_3, wR_1, wR_2, Int.toNat_natCast, tnO, tn_add, tn_sub, tn_mul, Nat.add_sub_cancel, Nat.add_zero, Nat.zero_add, lnO, win_t, win_f]
  | succ n ih =>
    intro fuel hf m j hr hj
    obtain ⟨fuel, rfl⟩ : ∃ f, fuel = f + 1 := ⟨fuel - 1, by omega⟩
    have r54 := rf23_54 hr
    obtain ⟨m', e1, e2, e3, e4, e5⟩ := ih fuel (by omega) (wL m 52 (40 * i + j) (q64 0)) (j + 1) (hr.same rfl) (by omega)
    rw [Int.natCast_add] at e1
    have ei : ((40 : Int) * i + j).toNat = 40 * i + j := by omega
    refine ⟨m', ?_, e2, e3, fun c k h => by rw [e4 c k h, wL_n (by omega)], fun k hk => ?_⟩
    · show nb_X10_numbers_64 F s (nl_X10_numbers_64 F s fuel) m 23 _ _ _ = _
      unfold nb_X10_numbers_64
      simp (disch := omega) only [Option.bind_some, bindv, bindv0, bind2_s, bind3_s, ↓reduceIte, Bool.false_eq_true, rZM_0, rZM_1, rZP_0, rZP_1, ptZ_0, ptZ_1, c32i, c64i, ncI, Int.natCast_add, Int.natCast_mul, q32_neg, q64_neg, q32_add, q32_sub, q32_mul, q64_add, q64_sub, q64_mul, q32_64i, q64_32, q32_lt_t, q32_lt_f, q32_le_t, q32_le_f, q32_eq_t, q32_eq_f, q64_lt_t, q64_lt_f, q64_le_t, q64_le_f, q64_eq_t, q64_eq_f, rdI_i, rdL_i, rdR_i, rdN_i, stI_i, stL_i, stR_i, wI_s, wI_n, wL_s, wL_n, wI_2, wI_3, wL_1, wL_3, wR_1, wR_2, Int.toNat_natCast, r54, ei]
      exact e1
    · rw [e5 k hk]
      by_cases c2 : j + 1 ≤ k
      · rw [if_pos c2, if_pos (by omega)]
      · rw [if_neg c2]
        by_cases c3 : k = j
        · subst c3; rw [if_pos (by omega), wL_s]
        · rw [if_neg (by omega), wL_n (by omega)]
theorem num10 {F : Nat} (hF : 1000 ≤ F) {s : List Sh} (hp : ∃ t, s = sB ++ t) {m : Mem} (hr : RF m) {i so sz : Nat} (hi : i < 4) (h3 : so ≤ 3) (h40 : sz ≤ 40) : ∃ m2, n_X10_numbers F s m 23 (q32 i) (q32 so) (q32 sz) = some (q32 0, m2) ∧ m2.2.2 = m.2.2 ∧ (∀ a k, (a ≠ 23 ∨ k ≠ 0) → (a ≠ 50 ∨ k ≠ i) → (a ≠ 51 ∨ k ≠ i) → m2.1 a k = m.1 a k) ∧ m2.1 50 i = q32 so ∧ m2.1 51 i = q32 sz ∧ (∀ c k, c ≠ 52 ∨ k < 40 * i ∨ 40 * i + 40 ≤ k → m2.2.1 c k = m.2.1 c k) ∧ ∀ k, k < sz → m2.2.1 52 (40 * i + k) = q64 0 := by
  have l50 := ln50 hp
  have l51 := ln51 hp
  have r52 := rf23_52 hr
  have r53 := rf23_53 hr
  obtain ⟨m2, e1, e2, e3, e4, e5⟩ := numL10 (F := F) hp hi h40 sz F (by omega) (wI (wI (wI m 23 0 (q32 0)) 50 i (q32 so)) 51 i (q32 sz)) 0 (hr.same rfl) (by omega)
  refine ⟨m2, ?_, e3, fun a k h1 h2 h3 => by rw [e2, wI_n h3, wI_n h2, wI_n h1], by rw [e2, wI_n (by omega), wI_s], by rw [e2, wI_s], e4, fun k hk => by rw [e5 k hk, if_pos (by omega)]⟩
  unfold n_X10_numbers nb_X10_numbers_0
  simp (disch := omega) only [Option.bind_some, bindv, bindv0, bind2_s, bind3_s, ↓reduceIte, Bool.false_eq_true, rZM_0, rZM_1, rZP_0, rZP_1, ptZ_0, ptZ_1, c32i, c64i, ncI, Int.natCast_add, Int.natCast_mul, q32_neg, q64_neg, q32_add, q32_sub, q32_mul, q64_add, q64_sub, q64_mul, q32_64i, q64_32, q32_lt_t, q32_lt_f, q32_le_t, q32_le_f, q32_eq_t, q32_eq_f, q64_lt_t, q64_lt_f, q64_le_t, q64_le_f, q64_eq_t, q64_eq_f, rdI_i, rdL_i, rdR_i, rdN_i, stI_i, stL_i, stR_i, wI_s, wI_n, wL_s, wL_n, wI_2, wI_3, wL_1, wL_3, wR_1, wR_2, Int.toNat_natCast, tnO, tn_add, tn_sub, tn_mul, Nat.add_sub_cancel, Nat.add_zero, Nat.zero_add, lnO, win_t, win_f, r52, r53]
  exact e1
/-- a tray t that is linked, with nothing laid out -/
theorem ST.tl {s : List Sh} {m : Mem} {ow : Nat → Nat} {nw i t : Nat} (h : ST s m ow nw) (hi : i < 4) (hb : TB s m t) (own : OWN ow t 2) (hnew : ∀ j, j < 4 → m.2.2 13 j ≠ some t) (z0 : m.1 t 0 = q32 0) (z1 : m.1 t 1 = q32 0) : ST s (wI (wI (wR m 13 i (some t)) 50 i (q32 0)) 51 i (q32 0)) ow nw := by
  obtain ⟨⟨l1, l2, l3, l4, l5, l6, l7, l8, l9, l10, l11, l12⟩, r1, r2, r3, r4⟩ := h
  generalize hm' : wI (wI (wR m 13 i (some t)) 50 i (q32 0)) 51 i (q32 0) = m'
  have eR : m'.2.2 = (wR m 13 i (some t)).2.2 := by rw [← hm']; rfl
  have eL : m'.2.1 = m.2.1 := by rw [← hm']; rfl
  have e1 : ∀ a k, (a ≠ 50 ∨ k ≠ i) → (a ≠ 51 ∨ k ≠ i) → m'.1 a k = m.1 a k := fun a k h1 h2 => by rw [← hm', wI_n h2, wI_n h1]; rfl
  have e50 : m'.1 50 i = q32 0 := by rw [← hm', wI_n (by omega), wI_s]
  have e51 : m'.1 51 i = q32 0 := by rw [← hm', wI_s]
  have ea : ∀ a, a ≠ 50 → a ≠ 51 → m'.1 a = m.1 a := fun a h1 h2 => funext fun k => e1 a k (by omega) (by omega)
  have c : ∀ a, a ≠ 13 → m'.2.2 a = m.2.2 a := fun a ha => by rw [eR]; funext k; rw [wR_3, if_neg (by omega)]
  have ci : m'.2.2 13 i = some t := by rw [eR, wR_3, if_pos ⟨rfl, rfl⟩]
  have cj : ∀ j, j ≠ i → m'.2.2 13 j = m.2.2 13 j := fun j hj => by rw [eR, wR_3, if_neg (by omega)]
  have c53 : ∀ a, 53 ≤ a → m'.2.2 a = m.2.2 a := fun a ha => c a (by omega)
  have n2 := l4.1
  have t53 := hb.1
  refine ⟨⟨l1, fun q hq => ?_, by rw [c 0 (by omega)]; exact l3, l4.at (c _ (by omega)), l5, fun r hr => ?_, fun q hq => ?_, fun w hw => ?_, fun j x hj hx => ?_, ?_, fun j t' hj ht' => ?_, fun j k x hj hk hx hy => ?_⟩, ?_, ?_, fun j hj => ?_, fun j hj => ?_⟩
  · have : ∀ q ∈ rfB, q.1 ≠ 13 := by decide
    rw [c _ (this q hq)]
    exact l2 q hq
  · rw [c 0 (by omega)] at hr
    obtain ⟨z, z1, z2, z3, z4, z5, z6, z7⟩ := l6 r hr
    have := z2.1
    exact ⟨z, z1.at c53, z2.at (c _ (by omega)), z3, z4, z5, z6, by rw [c 12 (by omega)]; exact z7⟩
  · rw [c 0 (by omega)] at hq
    obtain ⟨z1, z2⟩ := l7 q hq
    exact ⟨z1.at c53, z2⟩
  · rw [c 0 (by omega)] at hw
    obtain ⟨z1, z2⟩ := l8 w hw
    exact ⟨z1.at c53, z2⟩
  · rw [c 12 (by omega)] at hx
    obtain ⟨z1, z2, z3, z4⟩ := l9 j x hj hx
    exact ⟨z1.at (c _ (by omega)), z2, z3, z4⟩
  · rw [c 12 (by omega)]; exact l10
  · by_cases e : j = i
    · subst e
      rw [ci] at ht'
      cases ht'
      exact ⟨hb.at c53, own⟩
    · rw [cj j e] at ht'
      obtain ⟨z1, z2⟩ := l11 j t' hj ht'
      exact ⟨z1.at c53, z2⟩
  · by_cases e : j = i
    · by_cases e' : k = i
      · omega
      · subst e
        rw [ci] at hx
        cases hx
        rw [cj k e'] at hy
        exact absurd hy (hnew k hk)
    · by_cases e' : k = i
      · subst e'
        rw [ci] at hy
        cases hy
        rw [cj j e] at hx
        exact absurd hx (hnew j hj)
      · rw [cj j e] at hx
        rw [cj k e'] at hy
        exact l12 j k x hj hk hx hy
  · rw [ea 24 (by omega) (by omega)]
    exact r1.same (fun j hj => ea _ (by omega) (by omega)) (fun k hk => rfl)
  · unfold FXR TPR US at r2 ⊢
    rw [ea 0 (by omega) (by omega), ea 1 (by omega) (by omega), ea 14 (by omega) (by omega), ea 15 (by omega) (by omega), ea 23 (by omega) (by omega), ea 24 (by omega) (by omega), ea 26 (by omega) (by omega)]
    exact r2
  · rw [c 12 (by omega), ea 25 (by omega) (by omega), ea 24 (by omega) (by omega)]
    rcases r3 j hj with h | ⟨x, h1, h2, h3⟩
    · exact Or.inl h
    · have := (l9 j x hj h1).2.2.2
      exact Or.inr ⟨x, h1, h2, h3.same (fun b hb => ea _ (by omega) (by omega)) (fun k hk => rfl)⟩
  · by_cases e : j = i
    · subst e
      refine Or.inr ⟨t, ci, 0, 0, by omega, by omega, ?_, ?_, e50, e51, fun k hk => by omega⟩
      · rw [ea t (by omega) (by omega)]; exact z0
      · rw [ea t (by omega) (by omega)]; exact z1
    · rw [cj j e, e1 50 j (by omega) (by omega)]
      rcases r4 j hj with h | ⟨t', h1, h2⟩
      · exact Or.inl h
      · have := (l11 j t' hj h1).1.1
        refine Or.inr ⟨t', h1, ?_⟩
        unfold TREL at h2 ⊢
        rw [ea t' (by omega) (by omega), e1 50 j (by omega) (by omega), e1 51 j (by omega) (by omega), eL]
        exact h2
def tT : List Sh := [.inl 7, .inr (1, 40)]
theorem opg_numbers {F : Nat} (hF : 1000 ≤ F) {s : List Sh} {m : Mem} (h : INV s m) (w1 w2 w3 : Int32) : OPG s m (n_X9_numbers F s m 0 w1 w2 w3) (fun s1 m1 => n_X10_numbers F s1 m1 23 w1 w2 w3) := by
  have h0 := h
  obtain ⟨hg, ow, nw, hst⟩ := h
  have hl := hst.1
  have hp := hl.hp
  have hr := hl.rf
  have hn := hl.hn
  have rn := hl.nw
  have r1 := rf23_1 hr
  have l24 := ln24 hp
  obtain ⟨v, hv, rfl⟩ := q32_of w1
  obtain ⟨so, hso, rfl⟩ := q32_of w2
  obtain ⟨sz, hsz, rfl⟩ := q32_of w3
  have r7 := rf0_7 hr
  have l13 := ln13 hp
  have bad : ∀ z : Int, n_X9_numbers F s m 0 (q32 v) (q32 so) (q32 sz) = some (q32 z, s, m) → n_X10_numbers F s m 23 (q32 v) (q32 so) (q32 sz) = some (q32 z, wI m 23 0 (q32 0)) → OPG s m (n_X9_numbers F s m 0 (q32 v) (q32 so) (q32 sz)) (fun s1 m1 => n_X10_numbers F s1 m1 23 (q32 v) (q32 so) (q32 sz)) := fun z e1 e2 =>
    opg_fin h0 e1 e2 (un_X10_numbers (un_X9_numbers hg (okB hp).1 e1).2.1 (okB hp).2 e2).2 (SC.k0 m)
  by_cases c1 : 0 ≤ v ∧ v < 4
  · by_cases c2 : 0 ≤ so ∧ so ≤ 3
    · by_cases c3 : 0 ≤ sz ∧ sz ≤ 40
      · obtain ⟨i, rfl⟩ := Int.eq_ofNat_of_zero_le c1.1
        obtain ⟨so, rfl⟩ := Int.eq_ofNat_of_zero_le c2.1
        obtain ⟨sz, rfl⟩ := Int.eq_ofNat_of_zero_le c3.1
        have hi : i < 4 := by omega
        have rN : rdN s m 13 (q32 i) = some (m.2.2 13 i) := rdN_q (by omega) (by omega)
        -- from a state whose tray stands, and a memory that differs in what the tray tells
        have core : ∀ (s' : List Sh) (mi M : Mem) (ow' : Nat → Nat) (t : Nat), ST s' mi ow' nw → mi.2.2 13 i = some t → M.2.2 = mi.2.2 → M.2.1 = mi.2.1 → (∀ a k, a = t ∨ (a = 50 ∧ k = i) ∨ (a = 51 ∧ k = i) ∨ M.1 a k = mi.1 a k) → ∃ m1 m2, nb_X9_numbers_56 F s' M 0 (q32 i) (q32 so) (q32 sz) = some (q32 0, s', m1) ∧ n_X10_numbers F s' m1 23 (q32 i) (q32 so) (q32 sz) = some (q32 0, m2) ∧ ST s' m2 ow' nw ∧ m2.2.2 = mi.2.2 := fun s' mi M ow' t hs ht e2 e3 e4 => by
          have hp' := hs.1.hp
          have hrM : RF M := hs.1.rf.same e2
          obtain ⟨tb, to⟩ := hs.1.2.2.2.2.2.2.2.2.2.2.1 i t hi ht
          have t53 := tb.1
          obtain ⟨m1, a1, a2, a3, a4, a5, a6, a7⟩ := num9 hF hp' hrM hi (by rw [e2]; exact ht) (tb.at (fun a _ => by rw [e2])) (so := so) (sz := sz) (by omega)
          obtain ⟨m2, b1, b2, b3, b4, b5, b6, b7⟩ := num10 hF hp' (hrM.same a2) hi (so := so) (sz := sz) (by omega) (by omega)
          have eR : m2.2.2 = mi.2.2 := b2.trans (a2.trans e2)
          refine ⟨m1, m2, a1, b1, hs.tru hi ht eR (fun a k => ?_) (fun a k => ?_) ?_, eR⟩
          · by_cases x1 : a = 23 ∧ k = 0
            · omega
            · by_cases x2 : a = 50 ∧ k = i
              · omega
              · by_cases x3 : a = 51 ∧ k = i
                · omega
                · by_cases x4 : a = t
                  · omega
                  · rcases e4 a k with e | e | e | e
                    · omega
                    · omega
                    · omega
                    · right; right; right; right; right; right
                      rw [b3 a k (by omega) (by omega) (by omega), a3 a k x4, e]
          · by_cases x1 : a = 52 ∧ 40 * i ≤ k ∧ k < 40 * i + 40
            · omega
            · by_cases x2 : a = t + 1
              · omega
              · right; right; right; right
                rw [b6 a k (by omega), a6 a k x2, e3]
          · refine ⟨so, sz, by omega, by omega, ?_, ?_, b4, b5, fun k hk => ?_⟩
            · rw [b3 t 0 (by omega) (by omega) (by omega)]; exact a4
            · rw [b3 t 1 (by omega) (by omega) (by omega)]; exact a5
            · rw [b7 k hk, b6 (t + 1) k (by omega), a7 k (by omega)]
        have tail : ∀ (s' : List Sh) (M m1 m2 : Mem) (ow' : Nat → Nat), n_X9_numbers F s m 0 (q32 i) (q32 so) (q32 sz) = nb_X9_numbers_56 F s' M 0 (q32 i) (q32 so) (q32 sz) → nb_X9_numbers_56 F s' M 0 (q32 i) (q32 so) (q32 sz) = some (q32 0, s', m1) → n_X10_numbers F s' m1 23 (q32 i) (q32 so) (q32 sz) = some (q32 0, m2) → ST s' m2 ow' nw → m2.2.2 0 16 = m.2.2 0 16 → OPG s m (n_X9_numbers F s m 0 (q32 i) (q32 so) (q32 sz)) (fun s1 m1 => n_X10_numbers F s1 m1 23 (q32 i) (q32 so) (q32 sz)) := fun s' M m1 m2 ow' x0 x1 x2 x3 x4 => by
          have e1 := x0.trans x1
          obtain ⟨-, g1, g2⟩ := un_X9_numbers hg (okB hp).1 e1
          exact ⟨q32 0, s', m1, m2, e1, x2, ⟨(un_X10_numbers g1 (okB x3.1.hp).2 x2).2, ow', nw, x3⟩, g2, x4⟩
        cases ht : m.2.2 13 i with
        | some t =>
          rw [ht] at rN
          obtain ⟨m1, m2, x1, x2, x3, x4⟩ := core s m m ow t hst ht rfl rfl (fun a k => Or.inr (Or.inr (Or.inr rfl)))
          refine tail s m m1 m2 ow ?_ x1 x2 x3 (by rw [x4])
          unfold n_X9_numbers nb_X9_numbers_0
          simp (disch := omega) only [Option.bind_some, bindv, bindv0, bind2_s, bind3_s, ↓reduceIte, Bool.false_eq_true, rZM_0, rZM_1, rZP_0, rZP_1, ptZ_0, ptZ_1, c32i, c64i, ncI, Int.natCast_add, Int.natCast_mul, q32_neg, q64_neg, q32_add, q32_sub, q32_mul, q64_add, q64_sub, q64_mul, q32_64i, q64_32, q32_lt_t, q32_lt_f, q32_le_t, q32_le_f, q32_eq_t, q32_eq_f, q64_lt_t, q64_lt_f, q64_le_t, q64_le_f, q64_eq_t, q64_eq_f, rdI_i, rdL_i, rdR_i, rdN_i, stI_i, stL_i, stR_i, wI_s, wI_n, wL_s, wL_n, wI_2, wI_3, wL_1, wL_3, wR_1, wR_2, Int.toNat_natCast, tnO, tn_add, tn_sub, tn_mul, Nat.add_sub_cancel, Nat.add_zero, Nat.zero_add, lnO, win_t, win_f, r7, rN]
          first | rfl | skip
        | none =>
          rw [ht] at rN
          have hL : 53 ≤ s.length := by obtain ⟨t, ht⟩ := hp; rw [ht, List.length_append, sB_len]; omega
          have in7 : n_X7_init (s ++ [.inl 7]) m s.length = some ((), s ++ tT, wR m s.length 2 (some (s.length + 1))) := by
            unfold n_X7_init nb_X7_init_0 tT
            simp only [bindv, bindv0, List.length_append, List.length_cons, List.length_nil, List.append_assoc, List.cons_append, List.nil_append, Nat.zero_add]
          have g9 : BE s.length m (wI (wI (wR m s.length 2 (some (s.length + 1))) s.length 0 (q32 0)) s.length 1 (q32 0)) := fun a ha => ⟨funext fun k => by rw [wI_n (by omega), wI_n (by omega)]; rfl, rfl, funext fun k => by rw [wI_3, wI_3, wR_3, if_neg (by omega)]⟩
          have st9 := hst.grow (t := tT) (ow' := fun a => if a < s.length then ow a else s.length) g9 (fun a ha => if_pos ha)
          have tb9 : TB (s ++ tT) (wI (wI (wR m s.length 2 (some (s.length + 1))) s.length 0 (q32 0)) s.length 1 (q32 0)) s.length := by
            refine ⟨hL, ok_i ?_ (by omega), ?_, ?_⟩
            · rw [List.getElem?_append_right (by omega), Nat.sub_self]
              rfl
            · rw [wI_3, wI_3, wR_3, if_pos ⟨rfl, rfl⟩]
            · unfold ln
              rw [List.getElem?_append_right (by omega), show s.length + 1 - s.length = 1 by omega]
              rfl
          have mi := st9.tl hi tb9 (fun j hj => if_neg (by omega)) (fun j hj => by
            rw [(g9 13 (by omega)).2.2]
            intro e
            have := ok_lt (hl.2.2.2.2.2.2.2.2.2.2.1 j _ hj e).1.2.1
            omega) (by rw [wI_n (by omega), wI_s]) (by rw [wI_s])
          obtain ⟨m1, m2, x1, x2, x3, x4⟩ := core _ _ (wR (wR m s.length 2 (some (s.length + 1))) 13 i (some s.length)) _ s.length mi (by rw [wI_3, wI_3, wR_3, if_pos ⟨rfl, rfl⟩]) rfl rfl (fun a k => by
            by_cases y1 : a = s.length
            · omega
            · by_cases y2 : a = 50 ∧ k = i
              · omega
              · by_cases y3 : a = 51 ∧ k = i
                · omega
                · right; right; right
                  rw [wI_n (by omega), wI_n (by omega)]
                  show _ = (wI (wI (wR m s.length 2 (some (s.length + 1))) s.length 0 (q32 0)) s.length 1 (q32 0)).1 a k
                  rw [wI_n (by omega), wI_n (by omega)]
                  rfl)
          have l13' := ln13 mi.1.hp
          have sR : stR (s ++ tT) (wR m s.length 2 (some (s.length + 1))) 13 (q32 i) s.length = some (wR (wR m s.length 2 (some (s.length + 1))) 13 i (some s.length)) := by
            simp (disch := omega) only [Option.bind_some, bindv, bindv0, bind2_s, bind3_s, ↓reduceIte, Bool.false_eq_true, rZM_0, rZM_1, rZP_0, rZP_1, ptZ_0, ptZ_1, c32i, c64i, ncI, Int.natCast_add, Int.natCast_mul, q32_neg, q64_neg, q32_add, q32_sub, q32_mul, q64_add, q64_sub, q64_mul, q32_64i, q64_32, q32_lt_t, q32_lt_f, q32_le_t, q32_le_f, q32_eq_t, q32_eq_f, q64_lt_t, q64_lt_f, q64_le_t, q64_le_f, q64_eq_t, q64_eq_f, rdI_i, rdL_i, rdR_i, rdN_i, stI_i, stL_i, stR_i, wI_s, wI_n, wL_s, wL_n, wI_2, wI_3, wL_1, wL_3, wR_1, wR_2, Int.toNat_natCast, tnO, tn_add, tn_sub, tn_mul, Nat.add_sub_cancel, Nat.add_zero, Nat.zero_add, lnO, win_t, win_f]
          refine tail _ (wR (wR m s.length 2 (some (s.length + 1))) 13 i (some s.length)) m1 m2 _ ?_ x1 x2 x3 ?_
          · unfold n_X9_numbers nb_X9_numbers_0
            simp (disch := omega) only [Option.bind_some, bindv, bindv0, bind2_s, bind3_s, ↓reduceIte, Bool.false_eq_true, rZM_0, rZM_1, rZP_0, rZP_1, ptZ_0, ptZ_1, c32i, c64i, ncI, Int.natCast_add, Int.natCast_mul, q32_neg, q64_neg, q32_add, q32_sub, q32_mul, q64_add, q64_sub, q64_mul, q32_64i, q64_32, q32_lt_t, q32_lt_f, q32_le_t, q32_le_f, q32_eq_t, q32_eq_f, q64_lt_t, q64_lt_f, q64_le_t, q64_le_f, q64_eq_t, q64_eq_f, rdI_i, rdL_i, rdR_i, rdN_i, stI_i, stL_i, stR_i, wI_s, wI_n, wL_s, wL_n, wI_2, wI_3, wL_1, wL_3, wR_1, wR_2, Int.toNat_natCast, tnO, tn_add, tn_sub, tn_mul, Nat.add_sub_cancel, Nat.add_zero, Nat.zero_add, lnO, win_t, win_f, r7, rN, in7, sR]
            first | rfl | skip
          · rw [x4, wI_3, wI_3, wR_3, if_neg (by omega), (g9 0 (by omega)).2.2]
      · obtain ⟨i, rfl⟩ := Int.eq_ofNat_of_zero_le c1.1
        refine bad (-3) ?_ ?_
        · unfold n_X9_numbers nb_X9_numbers_0
          by_cases d : sz < 0
          · simp (disch := omega) only [Option.bind_some, bindv, bindv0, bind2_s, bind3_s, ↓reduceIte, Bool.false_eq_true, rZM_0, rZM_1, rZP_0, rZP_1, ptZ_0, ptZ_1, c32i, c64i, ncI, Int.natCast_add, Int.natCast_mul, q32_neg, q64_neg, q32_add, q32_sub, q32_mul, q64_add, q64_sub, q64_mul, q32_64i, q64_32, q32_lt_t, q32_lt_f, q32_le_t, q32_le_f, q32_eq_t, q32_eq_f, q64_lt_t, q64_lt_f, q64_le_t, q64_le_f, q64_eq_t, q64_eq_f, rdI_i, rdL_i, rdR_i, rdN_i, stI_i, stL_i, stR_i, wI_s, wI_n, wL_s, wL_n, wI_2, wI_3, wL_1, wL_3, wR_1, wR_2, Int.toNat_natCast, tnO, tn_add, tn_sub, tn_mul, Nat.add_sub_cancel, Nat.add_zero, Nat.zero_add, lnO, win_t, win_f]
          · simp (disch := omega) only [Option.bind_some, bindv, bindv0, bind2_s, bind3_s, ↓reduceIte, Bool.false_eq_true, rZM_0, rZM_1, rZP_0, rZP_1, ptZ_0, ptZ_1, c32i, c64i, ncI, Int.natCast_add, Int.natCast_mul, q32_neg, q64_neg, q32_add, q32_sub, q32_mul, q64_add, q64_sub, q64_mul, q32_64i, q64_32, q32_lt_t, q32_lt_f, q32_le_t, q32_le_f, q32_eq_t, q32_eq_f, q64_lt_t, q64_lt_f, q64_le_t, q64_le_f, q64_eq_t, q64_eq_f, rdI_i, rdL_i, rdR_i, rdN_i, stI_i, stL_i, stR_i, wI_s, wI_n, wL_s, wL_n, wI_2, wI_3, wL_1, wL_3, wR_1, wR_2, Int.toNat_natCast, tnO, tn_add, tn_sub, tn_mul, Nat.add_sub_cancel, Nat.add_zero, Nat.zero_add, lnO, win_t, win_f]
        · unfold n_X10_numbers nb_X10_numbers_0
          simp (disch := omega) only [Option.bind_some, bindv, bindv0, bind2_s, bind3_s, ↓reduceIte, Bool.false_eq_true, rZM_0, rZM_1, rZP_0, rZP_1, ptZ_0, ptZ_1, c32i, c64i, ncI, Int.natCast_add, Int.natCast_mul, q32_neg, q64_neg, q32_add, q32_sub, q32_mul, q64_add, q64_sub, q64_mul, q32_64i, q64_32, q32_lt_t, q32_lt_f, q32_le_t, q32_le_f, q32_eq_t, q32_eq_f, q64_lt_t, q64_lt_f, q64_le_t, q64_le_f, q64_eq_t, q64_eq_f, rdI_i, rdL_i, rdR_i, rdN_i, stI_i, stL_i, stR_i, wI_s, wI_n, wL_s, wL_n, wI_2, wI_3, wL_1, wL_3, wR_1, wR_2, Int.toNat_natCast, tnO, tn_add, tn_sub, tn_mul, Nat.add_sub_cancel, Nat.add_zero, Nat.zero_add, lnO, win_t, win_f]
    · refine bad (-2) ?_ ?_
      · unfold n_X9_numbers nb_X9_numbers_0
        by_cases d : so < 0
        · simp (disch := omega) only [Option.bind_some, bindv, bindv0, bind2_s, bind3_s, ↓reduceIte, Bool.false_eq_true, rZM_0, rZM_1, rZP_0, rZP_1, ptZ_0, ptZ_1, c32i, c64i, ncI, Int.natCast_add, Int.natCast_mul, q32_neg, q64_neg, q32_add, q32_sub, q32_mul, q64_add, q64_sub, q64_mul, q32_64i, q64_32, q32_lt_t, q32_lt_f, q32_le_t, q32_le_f, q32_eq_t, q32_eq_f, q64_lt_t, q64_lt_f, q64_le_t, q64_le_f, q64_eq_t, q64_eq_f, rdI_i, rdL_i, rdR_i, rdN_i, stI_i, stL_i, stR_i, wI_s, wI_n, wL_s, wL_n, wI_2, wI_3, wL_1, wL_3, wR_1, wR_2, Int.toNat_natCast, tnO, tn_add, tn_sub, tn_mul, Nat.add_sub_cancel, Nat.add_zero, Nat.zero_add, lnO, win_t, win_f]
        · simp (disch := omega) only [Option.bind_some, bindv, bindv0, bind2_s, bind3_s, ↓reduceIte, Bool.false_eq_true, rZM_0, rZM_1, rZP_0, rZP_1, ptZ_0, ptZ_1, c32i, c64i, ncI, Int.natCast_add, Int.natCast_mul, q32_neg, q64_neg, q32_add, q32_sub, q32_mul, q64_add, q64_sub, q64_mul, q32_64i, q64_32, q32_lt_t, q32_lt_f, q32_le_t, q32_le_f, q32_eq_t, q32_eq_f, q64_lt_t, q64_lt_f, q64_le_t, q64_le_f, q64_eq_t, q64_eq_f, rdI_i, rdL_i, rdR_i, rdN_i, stI_i, stL_i, stR_i, wI_s, wI_n, wL_s, wL_n, wI_2, wI_3, wL_1, wL_3, wR_1, wR_2, Int.toNat_natCast, tnO, tn_add, tn_sub, tn_mul, Nat.add_sub_cancel, Nat.add_zero, Nat.zero_add, lnO, win_t, win_f]
      · unfold n_X10_numbers nb_X10_numbers_0
        simp (disch := omega) only [Option.bind_some, bindv, bindv0, bind2_s, bind3_s, ↓reduceIte, Bool.false_eq_true, rZM_0, rZM_1, rZP_0, rZP_1, ptZ_0, ptZ_1, c32i, c64i, ncI, Int.natCast_add, Int.natCast_mul, q32_neg, q64_neg, q32_add, q32_sub, q32_mul, q64_add, q64_sub, q64_mul, q32_64i, q64_32, q32_lt_t, q32_lt_f, q32_le_t, q32_le_f, q32_eq_t, q32_eq_f, q64_lt_t, q64_lt_f, q64_le_t, q64_le_f, q64_eq_t, q64_eq_f, rdI_i, rdL_i, rdR_i, rdN_i, stI_i, stL_i, stR_i, wI_s, wI_n, wL_s, wL_n, wI_2, wI_3, wL_1, wL_3, wR_1, wR_2, Int.toNat_natCast, tnO, tn_add, tn_sub, tn_mul, Nat.add_sub_cancel, Nat.add_zero, Nat.zero_add, lnO, win_t, win_f]
  · refine bad (-2) ?_ ?_
    · unfold n_X9_numbers nb_X9_numbers_0
      by_cases d : v < 0
      · simp (disch := omega) only [Option.bind_some, bindv, bindv0, bind2_s, bind3_s, ↓reduceIte, Bool.false_eq_true, rZM_0, rZM_1, rZP_0, rZP_1, ptZ_0, ptZ_1, c32i, c64i, ncI, Int.natCast_add, Int.natCast_mul, q32_neg, q64_neg, q32_add, q32_sub, q32_mul, q64_add, q64_sub, q64_mul, q32_64i, q64_32, q32_lt_t, q32_lt_f, q32_le_t, q32_le_f, q32_eq_t, q32_eq_f, q64_lt_t, q64_lt_f, q64_le_t, q64_le_f, q64_eq_t, q64_eq_f, rdI_i, rdL_i, rdR_i, rdN_i, stI_i, stL_i, stR_i, wI_s, wI_n, wL_s, wL_n, wI_2, wI_3, wL_1, wL_3, wR_1, wR_2, Int.toNat_natCast, tnO, tn_add, tn_sub, tn_mul, Nat.add_sub_cancel, Nat.add_zero, Nat.zero_add, lnO, win_t, win_f]
      · simp (disch := omega) only [Option.bind_some, bindv, bindv0, bind2_s, bind3_s, ↓reduceIte, Bool.false_eq_true, rZM_0, rZM_1, rZP_0, rZP_1, ptZ_0, ptZ_1, c32i, c64i, ncI, Int.natCast_add, Int.natCast_mul, q32_neg, q64_neg, q32_add, q32_sub, q32_mul, q64_add, q64_sub, q64_mul, q32_64i, q64_32, q32_lt_t, q32_lt_f, q32_le_t, q32_le_f, q32_eq_t, q32_eq_f, q64_lt_t, q64_lt_f, q64_le_t, q64_le_f, q64_eq_t, q64_eq_f, rdI_i, rdL_i, rdR_i, rdN_i, stI_i, stL_i, stR_i, wI_s, wI_n, wL_s, wL_n, wI_2, wI_3, wL_1, wL_3, wR_1, wR_2, Int.toNat_natCast, tnO, tn_add, tn_sub, tn_mul, Nat.add_sub_cancel, Nat.add_zero, Nat.zero_add, lnO, win_t, win_f]
    · unfold n_X10_numbers nb_X10_numbers_0
      simp (disch := omega) only [Option.bind_some, bindv, bindv0, bind2_s, bind3_s, ↓reduceIte, Bool.false_eq_true, rZM_0, rZM_1, rZP_0, rZP_1, ptZ_0, ptZ_1, c32i, c64i, ncI, Int.natCast_add, Int.natCast_mul, q32_neg, q64_neg, q32_add, q32_sub, q32_mul, q64_add, q64_sub, q64_mul, q32_64i, q64_32, q32_lt_t, q32_lt_f, q32_le_t, q32_le_f, q32_eq_t, q32_eq_f, q64_lt_t, q64_lt_f, q64_le_t, q64_le_f, q64_eq_t, q64_eq_f, rdI_i, rdL_i, rdR_i, rdN_i, stI_i, stL_i, stR_i, wI_s, wI_n, wL_s, wL_n, wI_2, wI_3, wL_1, wL_3, wR_1, wR_2, Int.toNat_natCast, tnO, tn_add, tn_sub, tn_mul, Nat.add_sub_cancel, Nat.add_zero, Nat.zero_add, lnO, win_t, win_f]
