theorem watch9 {F : Nat} (hF : 1000 ≤ F) {s : List Sh} {m : Mem} {ow : Nat → Nat} {nw w : Nat} (hst : ST s m ow nw) (hw : m.2.2 0 17 = some w) {j t sz : Nat} (ht : TR s m j t sz) (hsz : sz ≤ 8) {fc tp : Nat} {U L : Nat → Int} {X : Nat → Nat → Nat} {O : Nat → Nat} (hd : FD fc tp U L X O) (f9 : F9 s m nw fc U L X O) {bc : Nat} (g6 : m.1 nw 6 = q32 bc) (hbc : bc ≤ 6) (htp : A (m.1 24) 1 = tp) {T : Nat → Int} (hTm : ∀ k, k < sz → m.2.1 52 (40 * j + k) = q64 (T k)) (hT : ∀ k, k < sz → -1 ≤ T k ∧ T k < fc) {v : Int} (hv : B31 v) (hpow : bc ^ sz ≤ 200000) : ∃ m1, n_X8_watchAll F s m w nw t (q32 v) = some ((), m1) ∧ ST s m1 ow nw ∧ W9 m1 w sz v (GO (m.1 24) U L T bc sz 0 (fun _ => 0) (A (m.1 24) 7, A (m.1 24) 8) []) ∧ RWS sz (GO (m.1 24) U L T bc sz 0 (fun _ => 0) (A (m.1 24) 7, A (m.1 24) 8) []) ∧ (∀ a k, a ≠ 16 ∧ a ≠ w ∧ a ≠ w + 1 ∧ a ≠ w + 2 → m1.1 a k = m.1 a k) ∧ (∀ a k, a ≠ 17 ∧ a ≠ 18 → m1.2.1 a k = m.2.1 a k) ∧ (∀ a k, a ≠ w ∨ (k ≠ 5 ∧ k ≠ 6) → m1.2.2 a k = m.2.2 a k) := by
  have hl := hst.1
  obtain ⟨wb, wo⟩ := hl.2.2.2.2.2.2.2.1 w hw
  have w53 := wb.1
  have hb := hl.2.2.2.1
  have n2 := hb.1
  have own := hl.2.2.2.2.1
  obtain ⟨tb, tow⟩ := hl.2.2.2.2.2.2.2.2.2.2.1 j t ht.1 ht.2.1
  have t53 := tb.1
  have nwne : nw ≠ w := ok_ne hb.2.1 wb.2.1 (by omega) (by omega) (by omega)
  have tne : t ≠ w := ok_ne tb.2.1 wb.2.1 (by omega) (by omega) (by omega)
  have on : ∀ i, i < 10 → nw + i ≠ 16 ∧ nw + i ≠ w ∧ nw + i ≠ w + 1 ∧ nw + i ≠ w + 2 := fun i hi => ⟨by omega, ow_out own wo nwne hi (show 0 < 3 by omega), ow_out own wo nwne hi (show 1 < 3 by omega), ow_out own wo nwne hi (show 2 < 3 by omega)⟩
  have ot : t ≠ 16 ∧ t ≠ w ∧ t ≠ w + 1 ∧ t ≠ w + 2 := ⟨by omega, tne, ow_out tow wo tne (show 0 < 2 by omega) (show 1 < 3 by omega), ow_out tow wo tne (show 0 < 2 by omega) (show 2 < 3 by omega)⟩
  obtain ⟨x4, x5, xf⟩ := hst.at
  rw [htp] at xf
  obtain ⟨d1, d2, d3, d4, -⟩ := hd
  obtain ⟨q9, ⟨q10, q11, -⟩, ⟨q3, q4, -⟩, qU, -⟩ := f9
  generalize hm5 : wI (wI (wI (wR (wR m w 5 (some nw)) w 6 (some t)) w 7 (q32 v)) w 0 (q32 0)) w 1 (q32 (-1)) = m5
  have a1 : ∀ a k, a ≠ w → m5.1 a k = m.1 a k := fun a k h => by rw [← hm5, wI_n (by omega), wI_n (by omega), wI_n (by omega)]; rfl
  have a2 : m5.2.1 = m.2.1 := by rw [← hm5]; rfl
  have a3 : ∀ a k, a ≠ w ∨ (k ≠ 5 ∧ k ≠ 6) → m5.2.2 a k = m.2.2 a k := fun a k h => by
    rw [← hm5]
    show (wR (wR m w 5 (some nw)) w 6 (some t)).2.2 a k = _
    rw [wR_3, if_neg (by omega), wR_3, if_neg (by omega)]
  have a5 : m5.2.2 w 5 = some nw := by
    rw [← hm5]
    show (wR (wR m w 5 (some nw)) w 6 (some t)).2.2 w 5 = _
    rw [wR_3, if_neg (by omega), wR_3, if_pos ⟨rfl, rfl⟩]
  have a6 : m5.2.2 w 6 = some t := by
    rw [← hm5]
    show (wR (wR m w 5 (some nw)) w 6 (some t)).2.2 w 6 = _
    rw [wR_3, if_pos ⟨rfl, rfl⟩]
  have fr : ∀ m', KW w m5 m' → (∀ a k, a ≠ 16 ∧ a ≠ w ∧ a ≠ w + 1 ∧ a ≠ w + 2 → m'.1 a k = m.1 a k) ∧ (∀ a k, a ≠ 17 ∧ a ≠ 18 → m'.2.1 a k = m.2.1 a k) ∧ (∀ a k, a ≠ w ∨ (k ≠ 5 ∧ k ≠ 6) → m'.2.2 a k = m.2.2 a k) := fun m' hk => ⟨fun a k h => (hk.1 a k h).trans (a1 a k h.2.1), fun a k h => by rw [hk.2.1 a k h, a2], fun a k h => by rw [hk.2.2]; exact a3 a k h⟩
  have stm : ∀ m', KW w m5 m' → ST s m' ow nw := fun m' hk => by
    obtain ⟨g1, g2, g3⟩ := fr m' hk
    refine hst.wt hw (fun a k => ?_) (fun a k => ?_) g3
    · by_cases c : a ≠ 16 ∧ a ≠ w ∧ a ≠ w + 1 ∧ a ≠ w + 2
      · have := g1 a k c
        right; right; right; right; right; right
        exact this
      · omega
    · by_cases c : a ≠ 17 ∧ a ≠ 18
      · right; right
        exact g2 a k c
      · omega
  have hE : E9 F s m5 w nw t sz bc fc tp (m.1 24) U L T := fun m' hk => by
    obtain ⟨g1, g2, g3⟩ := fr m' hk
    have st' := stm m' hk
    have e24 : m'.1 24 = m.1 24 := funext fun k => g1 24 k (by omega)
    have tr' : TR s m' j t sz := by
      obtain ⟨h1, h2, h3, h4, h5, h6, h7, h8, h9, ⟨so, k1, k2, k3⟩, h10⟩ := ht
      exact ⟨h1, by rw [g3 13 j (by omega)]; exact h2, h3, h4, by rw [g3 t 2 (by omega)]; exact h5, h6, h7, by rw [g1 t 1 ot]; exact h8, by rw [g1 51 j (by omega)]; exact h9, ⟨so, k1, by rw [g1 t 0 ot]; exact k2, by rw [g1 50 j (by omega)]; exact k3⟩, fun k hk => by rw [g2 _ _ (by omega), g2 _ _ (by omega)]; exact h10 k hk⟩
    refine ⟨⟨by rw [g3 w 2 (by omega)]; exact wb.2.2.1, by rw [g3 w 3 (by omega)]; exact wb.2.2.2.1, by rw [g3 w 4 (by omega)]; exact wb.2.2.2.2.1, by rw [hk.2.2]; exact a5, by rw [hk.2.2]; exact a6, by rw [g3 nw 10 (by omega)]; exact q10, by rw [g3 nw 11 (by omega)]; exact q11⟩, ⟨by rw [g1 nw 6 (on 0 (by omega))]; exact g6, by rw [g1 nw 9 (on 0 (by omega))]; exact q9, tr'.2.2.2.2.2.2.2.1⟩, fun k hk => ?_, fun k hk => ?_, fun x b hb hx => ?_⟩
    · rw [g1 _ _ (on 3 (by omega)), g1 _ _ (on 4 (by omega))]
      exact ⟨(qU k hk).1, (qU k hk).2.1⟩
    · rw [small9 tr' hk, g2 52 _ (by omega), hTm k hk]
      have hb := hT k hk
      have : smA (q64 (T k)) = T k := by
        unfold smA
        rw [q64_toInt (by unfold B63; omega)]
        split <;> omega
      rw [this]
    · have hx2 : FLR (A (m.1 24) 1) x.1 x.2 := by rw [htp]; exact hx
      obtain ⟨m'', y1, y2, y3⟩ := lead9 hF st'.1 (al := m.1 24) (by rw [← e24]; exact st'.2.1) (okf_of hx) (b := (b : Int)) (by omega)
      have lb := LE_b (m.1 24) b x
      exact ⟨m'', y1, y2, by omega, fun h0 => by
        obtain ⟨z1, z2, z3⟩ := y3 h0
        rw [htp] at z3
        exact ⟨z1, z2, z3⟩⟩
  have hW0 : W9 m5 w sz v [] := by
    refine ⟨by rw [← hm5, wI_n (by omega), wI_s]; rfl, by rw [← hm5, wI_n (by omega), wI_n (by omega), wI_s], ?_, fun k hk h => absurd rfl h⟩
    rw [← hm5, wI_s]
    have : KPT [] v sz = -1 := by
      unfold KPT
      split <;> rfl
    rw [this]
  obtain ⟨m1, e1, e2, e3, e4, -⟩ := go9 hF hE hsz hbc d1 w53 q3 q4 wb.2.2.2.2.2.1 wb.2.2.2.2.2.2 (fun k hk => by
    obtain ⟨⟨u1, u2, u3, u4, -⟩, -⟩ := d4 k hk
    omega) hv hT sz 10 (by omega) m5 0 (fun _ => 0) (A (m.1 24) 7, A (m.1 24) 8) [] (by omega) (KW.rf w m5) hW0 (fun Q hQ => (List.not_mem_nil hQ).elim) (fun i hi => by omega) xf (by show 0 + _ ≤ _; omega)
  refine ⟨m1, ?_, stm m1 e2, e3, e4, fr m1 e2⟩
  have z4 : m5.1 nw 4 = q32 (A (m.1 24) 7) := by rw [a1 nw 4 nwne]; exact x4
  have z5 : m5.1 nw 5 = q32 (A (m.1 24) 8) := by rw [a1 nw 5 nwne]; exact x5
  unfold n_X8_watchAll nb_X8_watchAll_0
  have hm5' : wI (wI (wI (wR (wR m w 5 (some nw)) w 6 (some t)) w 7 (q32 v)) w 0 (0 : Int32)) w 1 (-1 : Int32) = m5 := hm5
  simp only [bindv, bindv0, hm5', z4, z5]
  rw [show n_X8_goOn F 10 s m5 w (0 : Int32) (q32 (A (m.1 24) 7)) (q32 (A (m.1 24) 8)) = some ((), m1) from e1]
  rfl
