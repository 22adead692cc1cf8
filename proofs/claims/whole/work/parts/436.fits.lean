theorem watch9 {F : Nat} (hF : 1000 ≤ F) {s : List Sh} {m : Mem} {ow : Nat → Nat} {nw w : Nat} (hst : ST s m ow nw) (hw : m.2.2 0 17 = some w) {j t sz : Nat} (ht : TR s m j t sz) (hsz : sz ≤ 8) {fc tp : Nat} {U L : Nat → Int} {X : Nat → Nat → Nat} {O : Nat → Nat} (hd : FD fc tp U L X O) (f9 : F9 s m nw fc U L X O) {bc : Nat} (g6 : m.1 nw 6 = q32 bc) (hbc : bc ≤ 6) (htp : A (m.1 24) 1 = tp) {T : Nat → Int} (hTm : ∀ k, k < sz → m.2.1 52 (40 * j + k) = q64 (T k)) (hT : ∀ k, k < sz → -1 ≤ T k ∧ T k < fc) {v : Int} (hv : B31 v) (hpow : bc ^ sz ≤ 200000) : ∃ m1, n_X8_watchAll F s m w nw t (q32 v) = some ((), m1) ∧ ST s m1 ow nw ∧ W9 m1 w sz v (GO (m.1 24) U L T bc sz 0 (fun _ => 0) (A (m.1 24) 7, A (m.1 24) 8) []) ∧ RWS sz (GO (m.1 24) U L T bc sz 0 (fun _ => 0) (A (m.1 24) 7, A (m.1 24) 8) []) ∧ (∀ a k, a ≠ 16 ∧ a ≠ w ∧ a ≠ w + 1 ∧ a ≠ w + 2 → m1.1 a k = m.1 a k) ∧ (∀ a k, a ≠ 17 ∧ a ≠ 18 → m1.2.1 a k = m.2.1 a k) ∧ (∀ a k, a ≠ w ∨ (k ≠ 5 ∧ k ≠ 6) → m1.2.2 a k = m.2.2 a k) := by
  have hl := hst.1
  obtain ⟨wb, wo⟩ := hl.2.2.2.2.2.2.2.1 w hw
  have w53 := wb.1
  have hb := hl.2.2.2.1
  have n2 := hb.1
  have own := hl.2.2.2.2.1
  obtain ⟨tb, tow⟩ := hl.2.2.2.2.2.2.2.2.2.2.1 j t ht.1 ht.2.1
  have t53 := tb.1
  have nwne : nw ≠ w := ok_ne hb.2.1 wb.2.1 (by omega) (by omega) (by omega)
  have tne : t ≠ w := ok_ne tb.2.1 wb.2.1 (by omega) (by omega) (by omega)
  have on : ∀ i, i < 10 → nw + i ≠ 16 ∧ nw + i ≠ w ∧ nw + i ≠ w + 1 ∧ nw + i ≠ w + 2 := fun i hi => ⟨by omega, ow_out own wo nwne hi (show 0 < 3 by omega), ow_out own wo nwne hi (show 1 < 3 by omega), ow_out own wo nwne hi (show 2 < 3 by omega)⟩
  have ot : t ≠ 16 ∧ t ≠ w ∧ t ≠ w + 1 ∧ t ≠ w + 2 := ⟨by omega, tne, ow_out tow wo tne (show 0 < 2 by omega) (show 1 < 3 by omega), ow_out tow wo tne (show 0 < 2 by omega) (show 2 < 3 by omega)⟩
  obtain ⟨x4, x5, xf⟩ := hst.at
  rw [htp] at xf
  obtain ⟨d1, d2, d3, d4, -⟩ := hd
  obtain ⟨q9, ⟨q10, q11, -⟩, ⟨q3, q4, -⟩, qU, -⟩ := f9
  generalize hm5 : wI (wI (wI (wR (wR m w 5 (some nw)) w 6 (some t)) w 7 (q32 v)) w 0 (q32 0)) w 1 (q32 (-1)) = m5
  have a1 : ∀ a k, a ≠ w → m5.1 a k = m.1 a k := fun a k h => by rw [← hm5, wI_n (by omega), wI_n (by omega), wI_n (by omega)]; rfl
  have a2 : m5.2.1 = m.2.1 := by rw [← hm5]; rfl
  have a3 : ∀ a k, a ≠ w ∨ (k ≠ 5 ∧ k ≠ 6) → m5.2.2 a k = m.2.2 a k := fun a k h => by
    rw [← hm5]
    show (wR (wR m w 5 (some nw)) w 6 (some t)).2.2 a k = _
    rw [wR_3, if_neg (by omega), wR_3, if_neg (by omega)]
  have a5 : m5.2.2 w 5 = some nw := by
    rw [← hm5]
    show (wR (wR m w 5 (some nw)) w 6 (some t)).2.2 w 5 = _
    rw [wR_3, if_neg (by omega), wR_3, if_pos ⟨rfl, rfl⟩]
  have a6 : m5.2.2 w 6 = some t := by
    rw [← hm5]
    show (wR (wR m w 5 (some nw)) w 6 (some t)).2.2 w 6 = _
    rw [wR_3, if_pos ⟨rfl, rfl⟩]
  have fr : ∀ m', KW w m5 m' → (∀ a k, a ≠ 16 ∧ a ≠ w ∧ a ≠ w + 1 ∧ a ≠ w + 2 → m'.1 a k = m.1 a k) ∧ (∀ a k, a ≠ 17 ∧ a ≠ 18 → m'.2.1 a k = m.2.1 a k) ∧ (∀ a k, a ≠ w ∨ (k ≠ 5 ∧ k ≠ 6) → m'.2.2 a k = m.2.2 a k) := fun m' hk => ⟨fun a k h => (hk.1 a k h).trans (a1 a k h.2.1), fun a k h => by rw [hk.2.1 a k h, a2], fun a k h => by rw [hk.2.2]; exact a3 a k h⟩
  have stm : ∀ m', KW w m5 m' → ST s m' ow nw := fun m' hk => by
    obtain ⟨g1, g2, g3⟩ := fr m' hk
    refine hst.wt hw (fun a k => ?_) (fun a k => ?_) g3
    · by_cases c : a ≠ 16 ∧ a ≠ w ∧ a ≠ w + 1 ∧ a ≠ w + 2
      · have := g1 a k c
        right; right; right; right; right; right
        exact this
      · omega
    · by_cases c : a ≠ 17 ∧ a ≠ 18
      · right; right
        exact g2 a k c
      · omega
  have hE : E9 F s m5 w nw t sz bc fc tp (m.1 24) U L T := fun m' hk => by
    obtain ⟨g1, g2, g3⟩ := fr m' hk
    have st' := stm m' hk
    have e24 : m'.1 24 = m.1 24 := funext fun k => g1 24 k (by omega)
    have tr' : TR s m' j t sz := by
      obtain ⟨h1, h2, h3, h4, h5, h6, h7, h8, h9, ⟨so, k1, k2, k3⟩, h10⟩ := ht
      exact ⟨h1, by rw [g3 13 j (by omega)]; exact h2, h3, h4, by rw [g3 t 2 (by omega)]; exact h5, h6, h7, by rw [g1 t 1 ot]; exact h8, by rw [g1 51 j (by omega)]; exact h9, ⟨so, k1, by rw [g1 t 0 ot]; exact k2, by rw [g1 50 j (by omega)]; exact k3⟩, fun k hk => by rw [g2 _ _ (by omega), g2 _ _ (by omega)]; exact h10 k hk⟩
    refine ⟨⟨by rw [g3 w 2 (by omega)]; exact wb.2.2.1, by rw [g3 w 3 (by omega)]; exact wb.2.2.2.1, by rw [g3 w 4 (by omega)]; exact wb.2.2.2.2.1, by rw [hk.2.2]; exact a5, by rw [hk.2.2]; exact a6, by rw [g3 nw 10 (by omega)]; exact q10, by rw [g3 nw 11 (by omega)]; exact q11⟩, ⟨by rw [g1 nw 6 (on 0 (by omega))]; exact g6, by rw [g1 nw 9 (on 0 (by omega))]; exact q9, tr'.2.2.2.2.2.2.2.1⟩, fun k hk => ?_, fun k hk => ?_, fun x b hb hx => ?_⟩
    · rw [g1 _ _ (on 3 (by omega)), g1 _ _ (on 4 (by omega))]
      exact ⟨(qU k hk).1, (qU k hk).2.1⟩
    · rw [small9 tr' hk, g2 52 _ (by omega), hTm k hk]
      have hb := hT k hk
      have : smA (q64 (T k)) = T k := by
        unfold smA
        rw [q64_toInt (by unfold B63; omega)]
        split <;> omega
      rw [this]
    · have hx2 : FLR (A (m.1 24) 1) x.1 x.2 := by rw [htp]; exact hx
      obtain ⟨m'', y1, y2, y3⟩ := lead9 hF st'.1 (al := m.1 24) (by rw [← e24]; exact st'.2.1) (okf_of hx) (b := (b : Int)) (by omega)
      have lb := LE_b (m.1 24) b x
      exact ⟨m'', y1, y2, by omega, fun h0 => by
        obtain ⟨z1, z2, z3⟩ := y3 h0
        rw [htp] at z3
        exact ⟨z1, z2, z3⟩⟩
  have hW0 : W9 m5 w sz v [] := by
    refine ⟨by rw [← hm5, wI_n (by omega), wI_s]; rfl, by rw [← hm5, wI_n (by omega), wI_n (by omega), wI_s], ?_, fun k hk h => absurd rfl h⟩
    rw [← hm5, wI_s]
    have : KPT [] v sz = -1 := by
      unfold KPT
      split <;> rfl
    rw [this]
  obtain ⟨m1, e1, e2, e3, e4, -⟩ := go9 hF hE hsz hbc d1 w53 q3 q4 wb.2.2.2.2.2.1 wb.2.2.2.2.2.2 (fun k hk => by
    obtain ⟨⟨u1, u2, u3, u4, -⟩, -⟩ := d4 k hk
    omega) hv hT sz 10 (by omega) m5 0 (fun _ => 0) (A (m.1 24) 7, A (m.1 24) 8) [] (by omega) (KW.rf w m5) hW0 (fun Q hQ => (List.not_mem_nil hQ).elim) (fun i hi => by omega) xf (by show 0 + _ ≤ _; omega)
  refine ⟨m1, ?_, stm m1 e2, e3, e4, fr m1 e2⟩
  have z4 : m5.1 nw 4 = q32 (A (m.1 24) 7) := by rw [a1 nw 4 nwne]; exact x4
  have z5 : m5.1 nw 5 = q32 (A (m.1 24) 8) := by rw [a1 nw 5 nwne]; exact x5
  unfold n_X8_watchAll nb_X8_watchAll_0
  have hm5' : wI (wI (wI (wR (wR m w 5 (some nw)) w 6 (some t)) w 7 (q32 v)) w 0 (0 : Int32)) w 1 (-1 : Int32) = m5 := hm5
  simp only [bindv, bindv0, hm5', z4, z5]
  rw [show n_X8_goOn F 10 s m5 w (0 : Int32) (q32 (A (m.1 24) 7)) (q32 (A (m.1 24) 8)) = some ((), m1) from e1]
  rfl
theorem clrL10 {F : Nat} {s : List Sh} (hp : ∃ t, s = sB ++ t) (w1 w2 : Int32) : ∀ (n fuel : Nat), n < fuel → ∀ (m : Mem) (k : Nat), RF m → k + n = 48 → ∃ m' fuel', nl_X10_laysFits_135 F s fuel m 23 w1 w2 (q32 k) = nb_X10_laysFits_135 F s (nl_X10_laysFits_135 F s fuel') m' 23 w1 w2 (q32 48) ∧ m'.2 = m.2 ∧ (∀ a i, a ≠ 46 ∨ i < k → m'.1 a i = m.1 a i) ∧ ∀ i, k ≤ i → i < 48 → m'.1 46 i = q32 0 := by
  have l46 := ln46 hp
  intro n
  induction n with
  | zero =>
    intro fuel hf m k hr hk
    obtain ⟨fuel, rfl⟩ : ∃ f, fuel = f + 1 := ⟨fuel - 1, by omega⟩
    obtain rfl : k = 48 := by omega
    exact ⟨m, fuel, rfl, rfl, fun _ _ _ => rfl, fun i h1 h2 => by omega⟩
  | succ n ih =>
    intro fuel hf m k hr hk
    obtain ⟨fuel, rfl⟩ : ∃ f, fuel = f + 1 := ⟨fuel - 1, by omega⟩
    have r45 := rf23_45 hr
    obtain ⟨m', f', i1, i2, i3, i4⟩ := ih fuel (by omega) (wI m 46 k (q32 0)) (k + 1) (hr.same rfl) (by omega)
    rw [Int.natCast_add] at i1
    refine ⟨m', f', ?_, i2, fun a i h => by rw [i3 a i (by omega), wI_n (by omega)], fun i h1 h2 => ?_⟩
    · refine Eq.trans ?_ i1
      show nb_X10_laysFits_135 F s (nl_X10_laysFits_135 F s fuel) m 23 _ _ _ = _
      conv => lhs; unfold nb_X10_laysFits_135
      simp (disch := omega) only [Option.bind_some, bindv, bindv0, bind2_s, bind3_s, ↓reduceIte, Bool.false_eq_true, rZM_0, rZM_1, rZP_0, rZP_1, ptZ_0, ptZ_1, c32i, c64i, ncI, Int.natCast_add, Int.natCast_mul, q32_neg, q64_neg, q32_add, q32_sub, q32_mul, q64_add, q64_sub, q64_mul, q32_64i, q64_32, q32_lt_t, q32_lt_f, q32_le_t, q32_le_f, q32_eq_t, q32_eq_f, q64_lt_t, q64_lt_f, q64_le_t, q64_le_f, q64_eq_t, q64_eq_f, rdI_i, rdL_i, rdR_i, rdN_i, stI_i, stL_i, stR_i, wI_s, wI_n, wL_s, wL_n, wI_2, wI_3, wL_1, wL_3, wR_1, wR_2, Int.toNat_natCast, tnO, tn_add, tn_sub, tn_mul, Nat.add_sub_cancel, Nat.add_zero, Nat.zero_add, lnO, win_t, win_f, r45]
      first | rfl | skip
    · by_cases e : i = k
      · subst e
        rw [i3 46 i (by omega), wI_s]
      · exact i4 i (by omega) h2
theorem watch10 {F : Nat} (hF : 1000 ≤ F) {s : List Sh} (hp : ∃ t, s = sB ++ t) {M : Mem} (hr : RF M) {al : Nat → Int32} (hwa : WA al) (h24 : ∀ k, k < 999 → M.1 24 k = al k) {j sz : Nat} (hj : j < 4) (hsz : sz ≤ 8) (h51 : M.1 51 j = q32 sz) {fc tp bc : Nat} {U L : Nat → Int} (hfc : fc ≤ 8) (hUb : ∀ k, k < fc → 0 ≤ U k ∧ U k ≤ 1000000 ∧ 0 ≤ L k ∧ L k ≤ 1000000) (hU : ∀ k, k < fc → al (9 + k) = q32 (U k) ∧ al (17 + k) = q32 (L k)) (hb2 : al 2 = q32 bc) (hbc : bc ≤ 6) (htp : A al 1 = tp) (x7 : al 7 = q32 (A al 7)) (x8 : al 8 = q32 (A al 8)) (xf : FLR tp (A al 7) (A al 8)) {T : Nat → Int} (hTm : ∀ k, k < sz → M.2.1 52 (40 * j + k) = q64 (T k)) (hT : ∀ k, k < sz → -1 ≤ T k ∧ T k < fc) {v : Int} (hv : B31 v) (hpow : bc ^ sz ≤ 200000) : ∃ M2, nl_X10_laysFits_135 F s F M 23 (q32 j) (q32 v) (q32 0) = some (q32 0, M2) ∧ W10 M2 sz v (GO al U L T bc sz 0 (fun _ => 0) (A al 7, A al 8) []) ∧ SC M M2 := by
  have l24 := ln24 hp
  obtain ⟨m', f', c1, c2, c3, c4⟩ := clrL10 (F := F) hp (q32 j) (q32 v) 48 F (by omega) M 0 hr (by omega)
  have hr' : RF m' := hr.same (by rw [c2])
  generalize hm0 : wI (wI m' 23 46 (q32 0)) 23 47 (q32 v) = m0
  have a1 : ∀ a k, (a ≠ 23 ∨ (k ≠ 46 ∧ k ≠ 47)) → a ≠ 46 → m0.1 a k = M.1 a k := fun a k h h2 => by rw [← hm0, wI_n (by omega), wI_n (by omega), c3 a k (Or.inl h2)]
  have a2 : m0.2 = M.2 := by rw [← hm0]; exact c2
  have hE : E10 F s m0 j sz bc fc tp al U L T := fun m hk => by
    have hrm : RF m := hr.same (by rw [hk.2.2, a2])
    have g24 : ∀ k, k < 999 → m.1 24 k = al k := fun k hk' => by rw [hk.1 24 k (by omega) (by omega) (by omega) (by omega), a1 24 k (by omega) (by omega)]; exact h24 k hk'
    refine ⟨hrm, by rw [g24 2 (by omega)]; exact hb2, by rw [hk.1 51 j (by omega) (by omega) (by omega) (by omega), a1 51 j (by omega) (by omega)]; exact h51, fun k hk' => by rw [g24 _ (by omega), g24 _ (by omega)]; exact hU k hk', fun k hk' => by rw [hk.2.1 52 _ (by omega), a2]; exact hTm k hk', fun x b hb hx => ?_⟩
    obtain ⟨m'', y1, y2, y3⟩ := lead10 hF hp hrm hwa g24 (okf_of hx) (b := (b : Int)) (by omega)
    have lb := LE_b al b x
    exact ⟨m'', y1, y2, by omega, fun h0 => by
      obtain ⟨z1, z2⟩ := y3 h0
      have z3 := LE_flr hwa (b := (b : Int)) (okf_of hx) h0
      rw [htp] at z3
      exact ⟨z1, z2, z3⟩⟩
  have hW0 : W10 m0 sz v [] := by
    refine ⟨by rw [← hm0, wI_n (by omega), wI_s]; rfl, by rw [← hm0, wI_s], fun i b hi hb => ?_, fun h0 P hP => ?_⟩
    · rw [← hm0, wI_n (by omega), wI_n (by omega), c4 _ (by omega) (by omega)]
      rfl
    · cases hP
  obtain ⟨M2, e1, e2, e3, -⟩ := go10 hF hp hE hj hsz hbc hfc hUb hv hT sz 10 (by omega) m0 0 (fun _ => 0) (A al 7, A al 8) [] (by omega) (KV.rf m0) hW0 (fun i hi => by omega) xf (by show 0 + _ ≤ _; omega)
  refine ⟨M2, ?_, e3, ?_⟩
  · refine Eq.trans c1 ?_
    have r1 := rf23_1 hr'
    have k7 : m'.1 24 7 = q32 (A al 7) := by rw [c3 24 7 (by omega), h24 7 (by omega)]; exact x7
    have k8 : m'.1 24 8 = q32 (A al 8) := by rw [c3 24 8 (by omega), h24 8 (by omega)]; exact x8
    have xb := xf
    unfold FLR at xb
    unfold nb_X10_laysFits_135
    have e1' : n_X10_goesFit F 10 s (wI (wI m' 23 46 (q32 0)) 23 47 (q32 v)) 23 (q32 j) (q32 0) (q64 (A al 7)) (q64 (A al 8)) = some ((), M2) := by rw [hm0]; exact e1
    simp (disch := omega) only [Option.bind_some, bindv, bindv0, bind2_s, bind3_s, ↓reduceIte, Bool.false_eq_true, rZM_0, rZM_1, rZP_0, rZP_1, ptZ_0, ptZ_1, c32i, c64i, ncI, Int.natCast_add, Int.natCast_mul, q32_neg, q64_neg, q32_add, q32_sub, q32_mul, q64_add, q64_sub, q64_mul, q32_64i, q64_32, q32_lt_t, q32_lt_f, q32_le_t, q32_le_f, q32_eq_t, q32_eq_f, q64_lt_t, q64_lt_f, q64_le_t, q64_le_f, q64_eq_t, q64_eq_f, rdI_i, rdL_i, rdR_i, rdN_i, stI_i, stL_i, stR_i, wI_s, wI_n, wL_s, wL_n, wI_2, wI_3, wL_1, wL_3, wR_1, wR_2, Int.toNat_natCast, tnO, tn_add, tn_sub, tn_mul, Nat.add_sub_cancel, Nat.add_zero, Nat.zero_add, lnO, win_t, win_f, r1, k7, k8, e1']
  · refine SC.of (fun a k => ?_) (fun a k => ?_) (by rw [e2.2.2, a2])
    · by_cases c : a = 44 ∨ a = 45 ∨ a = 46 ∨ (a = 23 ∧ (k = 21 ∨ k = 46 ∨ k = 47))
      · omega
      · rw [e2.1 a k (by omega) (by omega) (by omega) (by omega), a1 a k (by omega) (by omega)]
        simp
    · by_cases c : a = 23 ∨ a = 28 ∨ a = 29
      · omega
      · rw [e2.2.1 a k (by omega), a2]
        simp
