/-- the reader is linked -/
theorem ST.rd {s : List Sh} {m : Mem} {ow : Nat → Nat} {nw r z : Nat} (h : ST s m ow nw) (rb : RB s m r z) (zb : HB s m z) (zn : z ≠ nw) (zo : OWN ow z 10) (ro : ow r = r) (ro2 : ∀ j, 11 ≤ j → j < 17 → ow (r + j) = r) (zi : ∀ i n, i < 2 → m.2.2 12 i = some n → n ≠ z) : ST s (wR m 0 5 (some r)) ow nw := by
  obtain ⟨⟨l1, l2, l3, l4, l5, l6, l7, l8, l9, l10, l11, l12⟩, r1, r2, r3, r4⟩ := h
  have c : ∀ a, a ≠ 0 → (wR m 0 5 (some r)).2.2 a = m.2.2 a := fun a ha => funext fun k => by rw [wR_3, if_neg (by omega)]
  have c0 : ∀ k, k ≠ 5 → (wR m 0 5 (some r)).2.2 0 k = m.2.2 0 k := fun k hk => by rw [wR_3, if_neg (by omega)]
  have c53 : ∀ a, 53 ≤ a → (wR m 0 5 (some r)).2.2 a = m.2.2 a := fun a ha => c a (by omega)
  have n2 := l4.1
  have z2 := zb.1
  refine ⟨⟨l1, fun q hq => ?_, by rw [c0 4 (by omega)]; exact l3, l4.at (c _ (by omega)), l5, fun r' hr' => ?_, fun q hq => ?_, fun w' hw' => ?_, fun j x hj hx => ?_, ?_, fun j t' hj ht' => ?_, ?_⟩, r1, r2, fun j hj => ?_, fun j hj => ?_⟩
  · have : ∀ q ∈ rfB, q.1 ≠ 0 ∨ q.2.1 ≠ 5 := by decide
    have := this q hq
    rw [wR_3, if_neg (by omega)]
    exact l2 q hq
  · rw [wR_3, if_pos ⟨rfl, rfl⟩] at hr'
    cases hr'
    exact ⟨z, rb.at c53, zb.at (c _ (by omega)), zn, zo, ro, ro2, by rw [c 12 (by omega)]; exact zi⟩
  · rw [c0 16 (by omega)] at hq
    obtain ⟨z1, z2⟩ := l7 q hq
    exact ⟨z1.at c53, z2⟩
  · rw [c0 17 (by omega)] at hw'
    obtain ⟨z1, z2⟩ := l8 w' hw'
    exact ⟨z1.at c53, z2⟩
  · rw [c 12 (by omega)] at hx
    obtain ⟨z1, z2, z3, z4⟩ := l9 j x hj hx
    exact ⟨z1.at (c _ (by omega)), z2, z3, z4⟩
  · rw [c 12 (by omega)]; exact l10
  · rw [c 13 (by omega)] at ht'
    obtain ⟨z1, z2⟩ := l11 j t' hj ht'
    exact ⟨z1.at c53, z2⟩
  · rw [c 13 (by omega)]; exact l12
  · rw [c 12 (by omega)]; exact r3 j hj
  · rw [c 13 (by omega)]; exact r4 j hj
def rT : List Sh := [.inl 3, .inl 0, .inr (0, 7), .inr (0, 900), .inr (0, 8), .inr (0, 8), .inr (0, 24), .inr (0, 3), .inr (0, 8), .inr (0, 6), .inr (0, 6), .inl 6, .inr (0, 901), .inr (0, 901), .inr (0, 901), .inr (0, 64), .inl 2]
/-- the reader stands: made, or there already -/
theorem reader9 {F : Nat} {s : List Sh} {m : Mem} {ow : Nat → Nat} {nw N tpd : Nat} (h : ST s m ow nw) (t3 : m.1 0 1 = q32 (tpd : Nat)) (hN : N ≤ tpd) (ht : tpd ≤ 900) : ∃ s' m' ow' r, n_X9_house F s m 0 (q32 (N : Nat)) = nb_X9_house_33 F s' m' 0 (q32 (N : Nat)) ∧ ST s' m' ow' nw ∧ m'.2.2 0 5 = some r ∧ (∃ t, s' = s ++ t) ∧ (∀ a, a < s.length → m'.1 a = m.1 a) ∧ m'.2.2 0 16 = m.2.2 0 16 := by
  have hp := h.1.hp
  have nn : ¬ q32 (N : Int) < 0 := by rw [show (0 : Int32) = q32 0 from rfl, q32_lt_f (by omega)]; exact fun h => h
  have le : q32 (N : Int) ≤ m.1 0 1 := by rw [t3, q32_le_t (by omega)]; trivial
  cases hq : m.2.2 0 5 with
  | some r =>
    refine ⟨s, m, ow, r, ?_, h, hq, ⟨[], by simp⟩, fun a _ => rfl, rfl⟩
    unfold n_X9_house nb_X9_house_0
    rw [if_neg nn, if_pos le, hq, if_neg (by intro h; cases h)]
  | none =>
    have hL : 53 ≤ s.length := by obtain ⟨t, ht⟩ := hp; rw [ht, List.length_append, sB_len]; omega
    generalize hLn : s.length = L at *
    obtain ⟨M, hM, be, f0, f3, f11, f13, g1, g2, g3, k7, k8, k10, k11, k12, k13, k14, k16, k17⟩ : ∃ M : Mem, n_X3_init (s ++ [.inl 3]) m L = some ((), s ++ rT, M) ∧ BE L m M ∧ M.2.2 L 0 = some (L + 1) ∧ M.2.2 L 3 = some (L + 11) ∧ M.2.2 L 11 = some (L + 15) ∧ M.2.2 L 13 = some (L + 16) ∧ M.2.2 (L + 11) 1 = some (L + 12) ∧ M.2.2 (L + 11) 2 = some (L + 13) ∧ M.2.2 (L + 11) 3 = some (L + 14) ∧ M.2.2 (L + 1) 7 = some (L + 1 + 1) ∧ M.2.2 (L + 1) 8 = some (L + 1 + 2) ∧ M.2.2 (L + 1) 10 = some (L + 1 + 3) ∧ M.2.2 (L + 1) 11 = some (L + 1 + 4) ∧ M.2.2 (L + 1) 12 = some (L + 1 + 5) ∧ M.2.2 (L + 1) 13 = some (L + 1 + 6) ∧ M.2.2 (L + 1) 14 = some (L + 1 + 7) ∧ M.2.2 (L + 1) 16 = some (L + 1 + 8) ∧ M.2.2 (L + 1) 17 = some (L + 1 + 9) := by
      refine ⟨?M, ?e, ?b, ?_⟩
      case e =>
        unfold n_X3_init nb_X3_init_0 n_X0_init nb_X0_init_0 n_X6_init nb_X6_init_0 n_X2_init nb_X2_init_0 rT
        simp only [bindv, bindv0, bind3_s, hLn, List.length_append, List.length_cons, List.length_nil, List.append_assoc, List.cons_append, List.nil_append, Nat.add_assoc, Nat.zero_add, Nat.reduceAdd]
        rfl
      case b =>
        refine fun a ha => ⟨funext fun k => ?_, funext fun k => ?_, funext fun k => ?_⟩
        · simp only [wR_1, wL_1]
          rw [wI_n (by omega), wI_n (by omega)]
        · simp only [wR_2, wL_2, wI_2]
          rw [if_neg (by omega), if_neg (by omega)]
        · simp only [wR_3, wL_3, wI_3]
          rw [if_neg (by omega), if_neg (by omega), if_neg (by omega), if_neg (by omega), if_neg (by omega), if_neg (by omega), if_neg (by omega), if_neg (by omega), if_neg (by omega), if_neg (by omega), if_neg (by omega), if_neg (by omega), if_neg (by omega), if_neg (by omega), if_neg (by omega), if_neg (by omega)]
      · simp [wR_3, wL_3, wI_3]
    have be' : BE s.length m M := by rw [hLn]; exact be
    have st := h.grow (t := rT) (ow' := fun a => if a < L then ow a else if L + 1 ≤ a ∧ a < L + 11 then L + 1 else L) be' (fun a ha => if_pos (by omega))
    have gl : ∀ i, (s ++ rT)[L + i]? = rT[i]? := fun i => by rw [List.getElem?_append_right (by omega), hLn, Nat.add_sub_cancel_left]
    have gn : ∀ i, ln (s ++ rT) (L + i) = ln rT i := fun i => by unfold ln; rw [gl i]
    have gk : ∀ i c, rT[i]? = some (.inl c) → c < 100 → ok (s ++ rT) (L + i) c := fun i c e hc => ok_i (by rw [gl i]; exact e) hc
    have rb : RB (s ++ rT) M L (L + 1) := ⟨hL, gk 0 3 rfl (by omega), f0, f3, g1, g2, g3, f11, f13, gk 11 6 rfl (by omega), gk 16 2 rfl (by omega), gn 12, gn 13, gn 14, gn 15⟩
    have zb : HB (s ++ rT) M (L + 1) := ⟨Or.inr (by omega), gk 1 0 rfl (by omega), ⟨k7, k8, k10, k11, k12, k13, k14, k16, k17⟩, gn 2, gn 3, gn 4, gn 5, gn 6, gn 7, gn 8, gn 9, gn 10⟩
    have nl := h.1.2.2.2.1.lt
    refine ⟨s ++ rT, wR M 0 5 (some L), _, L, ?_, st.rd rb zb (by omega) (fun j hj => ?_) ?_ (fun j h1 h2 => ?_) (fun i n hi hn => ?_), by rw [wR_3, if_pos ⟨rfl, rfl⟩], ⟨rT, rfl⟩, fun a ha => (be a (by omega)).1, ?_⟩
    · unfold n_X9_house nb_X9_house_0
      rw [if_neg nn, if_pos le, hq, if_pos rfl, bindv, bindv0, hLn, bindv, bindv0, hM, bind3_s, bindv, bindv0]
    · show (if L + 1 + j < L then ow (L + 1 + j) else if L + 1 ≤ L + 1 + j ∧ L + 1 + j < L + 11 then L + 1 else L) = L + 1
      rw [if_neg (by omega), if_pos (by omega)]
    · show (if L < L then ow L else if L + 1 ≤ L ∧ L < L + 11 then L + 1 else L) = L
      rw [if_neg (by omega), if_neg (by omega)]
    · show (if L + j < L then ow (L + j) else if L + 1 ≤ L + j ∧ L + j < L + 11 then L + 1 else L) = L
      rw [if_neg (by omega), if_neg (by omega)]
    · rw [(be 12 (by omega)).2.2] at hn
      have := (h.1.2.2.2.2.2.2.2.2.1 i n hi hn).1.lt
      omega
    · rw [wR_3, if_neg (by omega), (be 0 (by omega)).2.2]
