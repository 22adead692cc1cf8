/-! the class goes through the rows -/
def KW (w : Nat) (m m' : Mem) : Prop := (∀ a k, a ≠ 16 ∧ a ≠ w ∧ a ≠ w + 1 ∧ a ≠ w + 2 → m'.1 a k = m.1 a k) ∧ (∀ a k, a ≠ 17 ∧ a ≠ 18 → m'.2.1 a k = m.2.1 a k) ∧ m'.2.2 = m.2.2
theorem KW.rf (w : Nat) (m : Mem) : KW w m m := ⟨fun _ _ _ => rfl, fun _ _ _ => rfl, rfl⟩
theorem KW.tr {w : Nat} {m m1 m2 : Mem} (h : KW w m m1) (h2 : KW w m1 m2) : KW w m m2 := ⟨fun a k p => (h2.1 a k p).trans (h.1 a k p), fun a k p => (h2.2.1 a k p).trans (h.2.1 a k p), h2.2.2.trans h.2.2⟩
theorem KW.k9 {w : Nat} {m m1 : Mem} (h : K9 m m1) : KW w m m1 := ⟨fun a k p => h.1 a k p.1, h.2.1, h.2.2⟩
def RWS (sz : Nat) (R : List ROW) : Prop := ∀ Q ∈ R, ∀ i, i < sz → Q i < 6
def E9 (F : Nat) (s : List Sh) (m0 : Mem) (w nw t sz bc fc tp : Nat) (al : Nat → Int32) (U L T : Nat → Int) : Prop := ∀ m, KW w m0 m → (m.2.2 w 2 = some (w + 1) ∧ m.2.2 w 3 = some (w + 2) ∧ m.2.2 w 4 = some 16 ∧ m.2.2 w 5 = some nw ∧ m.2.2 w 6 = some t ∧ m.2.2 nw 10 = some (nw + 3) ∧ m.2.2 nw 11 = some (nw + 4)) ∧ (m.1 nw 6 = q32 bc ∧ m.1 nw 9 = q32 fc ∧ m.1 t 1 = q32 sz) ∧ (∀ k, k < fc → m.1 (nw + 3) k = q32 (U k) ∧ m.1 (nw + 4) k = q32 (L k)) ∧ (∀ k, k < sz → n_X7_smallAt s m t (q32 k) = some (q32 (T k))) ∧ ∀ (x : FR) (b : Nat), b < bc → FLR tp x.1 x.2 → ∃ m', n_X4_lead F s m 16 nw (q32 b) (q64 x.1) (q64 x.2) = some (q32 (LE al b x).1, m') ∧ K9 m m' ∧ (0 ≤ (LE al b x).1 ∧ (LE al b x).1 ≤ 10) ∧ ((LE al b x).1 = 0 → m'.1 16 0 = q32 (LE al b x).2.1 ∧ m'.1 16 1 = q32 (LE al b x).2.2 ∧ FLR tp (LE al b x).2.1 (LE al b x).2.2)
theorem seenAt9 {s : List Sh} {m : Mem} {w nw fc : Nat} {U L : Nat → Int} (r4 : m.2.2 w 4 = some 16) (r5 : m.2.2 w 5 = some nw) (r10 : m.2.2 nw 10 = some (nw + 3)) (r11 : m.2.2 nw 11 = some (nw + 4)) (g9 : m.1 nw 9 = q32 fc) (hfc : fc ≤ 8) (l3 : ln s (nw + 3) = 8) (l4 : ln s (nw + 4) = 8) (hU : ∀ k, k < fc → m.1 (nw + 3) k = q32 (U k) ∧ m.1 (nw + 4) k = q32 (L k)) (hUb : ∀ k, k < fc → 0 ≤ U k ∧ U k ≤ 1000000 ∧ 0 ≤ L k ∧ L k ≤ 1000000) {f : FR} (hf : 0 ≤ f.1 ∧ f.1 ≤ 1000000 ∧ 0 ≤ f.2 ∧ f.2 ≤ 1000000) (x0 : m.1 16 0 = q32 f.1) (x1 : m.1 16 1 = q32 f.2) {tv : Int} (ht : -1 ≤ tv ∧ tv < fc) : n_X8_isSeenAt s m w (q32 tv) = some (if tv = -1 ∨ (U tv.toNat = f.1 ∧ L tv.toNat = f.2) then q32 1 else q32 0) := by
  unfold n_X8_isSeenAt nb_X8_isSeenAt_0
  by_cases c : tv = -1
  · rw [if_pos (Or.inl c)]
    simp (disch := omega) only [Option.bind_some, bindv, bindv0, bind2_s, bind3_s, ↓reduceIte, Bool.false_eq_true, rZM_0, rZM_1, rZP_0, rZP_1, ptZ_0, ptZ_1, c32i, c64i, ncI, Int.natCast_add, Int.natCast_mul, q32_neg, q64_neg, q32_add, q32_sub, q32_mul, q64_add, q64_sub, q64_mul, q32_64i, q64_32, q32_lt_t, q32_lt_f, q32_le_t, q32_le_f, q32_eq_t, q32_eq_f, q64_lt_t, q64_lt_f, q64_le_t, q64_le_f, q64_eq_t, q64_eq_f, rdI_i, rdL_i, rdR_i, rdN_i, stI_i, stL_i, stR_i, wI_s, wI_n, wL_s, wL_n, wI_2, wI_3, wL_1, wL_3, wR_1, wR_2, Int.toNat_natCast, tnO, tn_add, tn_sub, tn_mul, Nat.add_sub_cancel, Nat.add_zero, Nat.zero_add, lnO, win_t, win_f]
  · obtain ⟨k, rfl⟩ := Int.eq_ofNat_of_zero_le (show 0 ≤ tv by omega)
    have hk : k < fc := by omega
    obtain ⟨u1, u2⟩ := hU k hk
    obtain ⟨b1, b2, b3, b4⟩ := hUb k hk
    rw [show ((k : Int)).toNat = k from rfl]
    by_cases c1 : U k = f.1
    · by_cases c2 : L k = f.2
      · rw [if_pos (Or.inr ⟨c1, c2⟩)]
        simp (disch := omega) only [Option.bind_some, bindv, bindv0, bind2_s, bind3_s, ↓reduceIte, Bool.false_eq_true, rZM_0, rZM_1, rZP_0, rZP_1, ptZ_0, ptZ_1, c32i, c64i, ncI, Int.natCast_add, Int.natCast_mul, q32_neg, q64_neg, q32_add, q32_sub, q32_mul, q64_add, q64_sub, q64_mul, q32_64i, q64_32, q32_lt_t, q32_lt_f, q32_le_t, q32_le_f, q32_eq_t, q32_eq_f, q64_lt_t, q64_lt_f, q64_le_t, q64_le_f, q64_eq_t, q64_eq_f, rdI_i, rdL_i, rdR_i, rdN_i, stI_i, stL_i, stR_i, wI_s, wI_n, wL_s, wL_n, wI_2, wI_3, wL_1, wL_3, wR_1, wR_2, Int.toNat_natCast, tnO, tn_add, tn_sub, tn_mul, Nat.add_sub_cancel, Nat.add_zero, Nat.zero_add, lnO, win_t, win_f, r5, g9, r10, u1, r4, x0, r11, u2, x1]
      · rw [if_neg (show ¬ ((k : Int) = -1 ∨ (U k = f.1 ∧ L k = f.2)) by omega)]
        simp (disch := omega) only [Option.bind_some, bindv, bindv0, bind2_s, bind3_s, ↓reduceIte, Bool.false_eq_true, rZM_0, rZM_1, rZP_0, rZP_1, ptZ_0, ptZ_1, c32i, c64i, ncI, Int.natCast_add, Int.natCast_mul, q32_neg, q64_neg, q32_add, q32_sub, q32_mul, q64_add, q64_sub, q64_mul, q32_64i, q64_32, q32_lt_t, q32_lt_f, q32_le_t, q32_le_f, q32_eq_t, q32_eq_f, q64_lt_t, q64_lt_f, q64_le_t, q64_le_f, q64_eq_t, q64_eq_f, rdI_i, rdL_i, rdR_i, rdN_i, stI_i, stL_i, stR_i, wI_s, wI_n, wL_s, wL_n, wI_2, wI_3, wL_1, wL_3, wR_1, wR_2, Int.toNat_natCast, tnO, tn_add, tn_sub, tn_mul, Nat.add_sub_cancel, Nat.add_zero, Nat.zero_add, lnO, win_t, win_f, r5, g9, r10, u1, r4, x0, r11, u2, x1]
    · rw [if_neg (show ¬ ((k : Int) = -1 ∨ (U k = f.1 ∧ L k = f.2)) by omega)]
      simp (disch := omega) only [Option.bind_some, bindv, bindv0, bind2_s, bind3_s, ↓reduceIte, Bool.false_eq_true, rZM_0, rZM_1, rZP_0, rZP_1, ptZ_0, ptZ_1, c32i, c64i, ncI, Int.natCast_add, Int.natCast_mul, q32_neg, q64_neg, q32_add, q32_sub, q32_mul, q64_add, q64_sub, q64_mul, q32_64i, q64_32, q32_lt_t, q32_lt_f, q32_le_t, q32_le_f, q32_eq_t, q32_eq_f, q64_lt_t, q64_lt_f, q64_le_t, q64_le_f, q64_eq_t, q64_eq_f, rdI_i, rdL_i, rdR_i, rdN_i, stI_i, stL_i, stR_i, wI_s, wI_n, wL_s, wL_n, wI_2, wI_3, wL_1, wL_3, wR_1, wR_2, Int.toNat_natCast, tnO, tn_add, tn_sub, tn_mul, Nat.add_sub_cancel, Nat.add_zero, Nat.zero_add, lnO, win_t, win_f, r5, g9, r10, u1, r4, x0, r11, u2, x1]
theorem goL9 {nrc : Mem → Nat → Int32 → Int32 → Int32 → Option (Unit × Mem)} {F : Nat} {s : List Sh} {m0 : Mem} {w nw t sz bc fc tp : Nat} {al : Nat → Int32} {U L T : Nat → Int} (hE : E9 F s m0 w nw t sz bc fc tp al U L T) (hsz : sz ≤ 8) (hbc : bc ≤ 6) (hfc : fc ≤ 8) (hw : 53 ≤ w) (l3 : ln s (nw + 3) = 8) (l4 : ln s (nw + 4) = 8) (lw : ln s (w + 2) = 8) (hUb : ∀ k, k < fc → 0 ≤ U k ∧ U k ≤ 1000000 ∧ 0 ≤ L k ∧ L k ≤ 1000000) {v : Int} {k B : Nat} (hk : k < sz) (hT : -1 ≤ T k ∧ T k < fc) {G : ROW → FR → List ROW → List ROW} (hG : ∀ P y R, (G P y R).length ≤ R.length + B) (hrc : ∀ (m : Mem) (P : ROW) (x : FR) (R : List ROW), KW w m0 m → W9 m w sz v R → RWS sz R → (∀ i, i < k + 1 → m.1 (w + 2) i = q32 (P i) ∧ P i < 6) → FLR tp x.1 x.2 → R.length + B ≤ 2000000 → ∃ m', nrc m w (q32 ((k : Int) + 1)) (q32 x.1) (q32 x.2) = some ((), m') ∧ KW w m0 m' ∧ W9 m' w sz v (G P x R) ∧ RWS sz (G P x R) ∧ ∀ i, i < k + 1 → m'.1 (w + 2) i = m.1 (w + 2) i) {x : FR} (hx : FLR tp x.1 x.2) : ∀ (n fuel : Nat), n < fuel → ∀ (m : Mem) (b : Nat) (P : ROW) (R : List ROW), b + n = bc → KW w m0 m → W9 m w sz v R → RWS sz R → (∀ i, i < k → m.1 (w + 2) i = q32 (P i) ∧ P i < 6) → R.length + n * B ≤ 2000000 → ∃ m', nl_X8_goOn_36 nrc F s fuel m w (q32 k) (q32 x.1) (q32 x.2) (q32 (T k)) (q32 b) = some ((), m') ∧ KW w m0 m' ∧ W9 m' w sz v (GOL G al U L (T k) k x n b P R) ∧ RWS sz (GOL G al U L (T k) k x n b P R) ∧ ∀ i, i < k → m'.1 (w + 2) i = m.1 (w + 2) i := by
  have hx' := hx
  unfold FLR at hx'
  intro n
  induction n with
  | zero =>
    intro fuel hf m b P R hb hK hW hR hP hl
    obtain ⟨fuel, rfl⟩ : ∃ f, fuel = f + 1 := ⟨fuel - 1, by omega⟩
    obtain ⟨⟨r2, r3, r4, r5, r6, r10, r11⟩, ⟨g6, g9, g1⟩, -⟩ := hE m hK
    refine ⟨m, ?_, hK, hW, hR, fun _ _ => rfl⟩
    show nb_X8_goOn_36 nrc F s (nl_X8_goOn_36 nrc F s fuel) m w _ _ _ _ _ = _
    unfold nb_X8_goOn_36
    simp (disch := omega) only [Option.bind_some, bindv, bindv0, bind2_s, bind3_s, ↓reduceIte, Bool.false_eq_true, rZM_0, rZM_1, rZP_0, rZP_1, ptZ_0, ptZ_1, c32i, c64i, ncI, Int.natCast_add, Int.natCast_mul, q32_neg, q64_neg, q32_add, q32_sub, q32_mul, q64_add, q64_sub, q64_mul, q32_64i, q64_32, q32_lt_t, q32_lt_f, q32_le_t, q32_le_f, q32_eq_t, q32_eq_f, q64_lt_t, q64_lt_f, q64_le_t, q64_le_f, q64_eq_t, q64_eq_f, rdI_i, rdL_i, rdR_i, rdN_i, stI_i, stL_i, stR_i, wI_s, wI_n, wL_s, wL_n, wI_2, wI_3, wL_1, wL_3, wR_1, wR_2, Int.toNat_natCast, tnO, tn_add, tn_sub, tn_mul, Nat.add_sub_cancel, Nat.add_zero, Nat.zero_add, lnO, win_t, win_f, r5, g6]
  | succ n ih =>
    intro fuel hf m b P R hb hK hW hR hP hl
    obtain ⟨fuel, rfl⟩ : ∃ f, fuel = f + 1 := ⟨fuel - 1, by omega⟩
    rw [Nat.add_mul, Nat.one_mul] at hl
    obtain ⟨⟨r2, r3, r4, r5, r6, r10, r11⟩, ⟨g6, g9, g1⟩, hU, -, hL⟩ := hE m hK
    obtain ⟨m1, e1, e2, e3, e4⟩ := hL x b (by omega) hx
    have k1 : KW w m0 m1 := hK.tr (KW.k9 e2)
    have hW1 : W9 m1 w sz v R := by
      unfold W9 at hW ⊢
      rw [e2.1 w 0 (by omega), e2.1 w 7 (by omega), e2.1 w 1 (by omega), show m1.1 (w + 1) = m.1 (w + 1) from funext fun j => e2.1 _ _ (by omega)]
      exact hW
    have hrow1 : ∀ i, m1.1 (w + 2) i = m.1 (w + 2) i := fun i => e2.1 _ _ (by omega)
    obtain ⟨⟨s2, s3, s4, s5, s6, s10, s11⟩, ⟨t6, t9, t1⟩, hU1, -, -⟩ := hE m1 k1
    -- on with the next button, behind m'
    have skip : ¬ ((LE al b x).1 = 0 ∧ (T k = -1 ∨ (U (T k).toNat = (LE al b x).2.1 ∧ L (T k).toNat = (LE al b x).2.2))) → nl_X8_goOn_36 nrc F s (fuel + 1) m w (q32 k) (q32 x.1) (q32 x.2) (q32 (T k)) (q32 b) = nl_X8_goOn_36 nrc F s fuel m1 w (q32 k) (q32 x.1) (q32 x.2) (q32 (T k)) (q32 ((b : Int) + 1)) → ∃ m', nl_X8_goOn_36 nrc F s (fuel + 1) m w (q32 k) (q32 x.1) (q32 x.2) (q32 (T k)) (q32 b) = some ((), m') ∧ KW w m0 m' ∧ W9 m' w sz v (GOL G al U L (T k) k x (n + 1) b P R) ∧ RWS sz (GOL G al U L (T k) k x (n + 1) b P R) ∧ ∀ i, i < k → m'.1 (w + 2) i = m.1 (w + 2) i := fun hc st => by
      obtain ⟨m', i1, i2, i3, i4, i5⟩ := ih fuel (by omega) m1 (b + 1) P R (by omega) k1 hW1 hR (fun i hi => by rw [hrow1]; exact hP i hi) (by omega)
      rw [Int.natCast_add b] at i1
      unfold GOL
      rw [if_neg hc]
      exact ⟨m', st.trans i1, i2, i3, i4, fun i hi => (i5 i hi).trans (hrow1 i)⟩
    by_cases c1 : (LE al b x).1 = 0
    · obtain ⟨f1, f2, f3⟩ := e4 c1
      have f3' := f3
      unfold FLR at f3'
      have sa := seenAt9 (s := s) s4 s5 s10 s11 t9 hfc l3 l4 hU1 hUb (f := (LE al b x).2) (by omega) f1 f2 hT
      rw [c1] at e1
      by_cases c2 : T k = -1 ∨ (U (T k).toNat = (LE al b x).2.1 ∧ L (T k).toNat = (LE al b x).2.2)
      · rw [if_pos c2] at sa
        have km : KW w m0 (wI m1 (w + 2) k (q32 b)) := ⟨fun a j p => by rw [wI_n (by omega)]; exact k1.1 a j p, k1.2.1, k1.2.2⟩
        have hWm : W9 (wI m1 (w + 2) k (q32 b)) w sz v R := by
          unfold W9 at hW1 ⊢
          rw [wI_n (by omega), wI_n (by omega), wI_n (by omega), show (wI m1 (w + 2) k (q32 b)).1 (w + 1) = m1.1 (w + 1) from funext fun j => wI_n (by omega)]
          exact hW1
        obtain ⟨m2, q1, q2, q3, q4, q5⟩ := hrc (wI m1 (w + 2) k (q32 b)) (upN P k b) (LE al b x).2 R km hWm hR (fun i hi => by
          by_cases e : i = k
          · subst e; rw [wI_s, upN_s]; exact ⟨rfl, by omega⟩
          · rw [wI_n (by omega), upN_n e, hrow1]; exact hP i (by omega)) f3 (by omega)
        have hlen := hG (upN P k b) (LE al b x).2 R
        obtain ⟨m', i1, i2, i3, i4, i5⟩ := ih fuel (by omega) m2 (b + 1) (upN P k b) (G (upN P k b) (LE al b x).2 R) (by omega) q2 q3 q4 (fun i hi => by
          rw [q5 i (by omega), wI_n (by omega), upN_n (by omega), hrow1]; exact hP i hi) (by omega)
        rw [Int.natCast_add b] at i1
        unfold GOL
        rw [if_pos ⟨c1, c2⟩]
        refine ⟨m', ?_, i2, i3, i4, fun i hi => by rw [i5 i hi, q5 i (by omega), wI_n (by omega), hrow1]⟩
        refine Eq.trans ?_ i1
        show nb_X8_goOn_36 nrc F s (nl_X8_goOn_36 nrc F s fuel) m w _ _ _ _ _ = _
        unfold nb_X8_goOn_36 nb_X8_goOn_106
        have s3' : m1.2.2 w 3 = some (w + 2) := s3
        have y0 : (wI m1 (w + 2) k (q32 b)).1 16 0 = q32 (LE al b x).2.1 := by rw [wI_n (by omega)]; exact f1
        have y1 : (wI m1 (w + 2) k (q32 b)).1 16 1 = q32 (LE al b x).2.2 := by rw [wI_n (by omega)]; exact f2
        simp (disch := omega) only [Option.bind_some, bindv, bindv0, bind2_s, bind3_s, ↓reduceIte, Bool.false_eq_true, rZM_0, rZM_1, rZP_0, rZP_1, ptZ_0, ptZ_1, c32i, c64i, ncI, Int.natCast_add, Int.natCast_mul, q32_neg, q64_neg, q32_add, q32_sub, q32_mul, q64_add, q64_sub, q64_mul, q32_64i, q64_32, q32_lt_t, q32_lt_f, q32_le_t, q32_le_f, q32_eq_t, q32_eq_f, q64_lt_t, q64_lt_f, q64_le_t, q64_le_f, q64_eq_t, q64_eq_f, rdI_i, rdL_i, rdR_i, rdN_i, stI_i, stL_i, stR_i, wI_s, wI_n, wL_s, wL_n, wI_2, wI_3, wL_1, wL_3, wR_1, wR_2, Int.toNat_natCast, tnO, tn_add, tn_sub, tn_mul, Nat.add_sub_cancel, Nat.add_zero, Nat.zero_add, lnO, win_t, win_f, r5, g6, r4, e1, sa, s3', s4, f1, f2, q1]
      · rw [if_neg c2] at sa
        refine skip (fun h => c2 h.2) ?_
        show nb_X8_goOn_36 nrc F s (nl_X8_goOn_36 nrc F s fuel) m w _ _ _ _ _ = _
        unfold nb_X8_goOn_36 nb_X8_goOn_106
        simp (disch := omega) only [Option.bind_some, bindv, bindv0, bind2_s, bind3_s, ↓reduceIte, Bool.false_eq_true, rZM_0, rZM_1, rZP_0, rZP_1, ptZ_0, ptZ_1, c32i, c64i, ncI, Int.natCast_add, Int.natCast_mul, q32_neg, q64_neg, q32_add, q32_sub, q32_mul, q64_add, q64_sub, q64_mul, q32_64i, q64_32, q32_lt_t, q32_lt_f, q32_le_t, q32_le_f, q32_eq_t, q32_eq_f, q64_lt_t, q64_lt_f, q64_le_t, q64_le_f, q64_eq_t, q64_eq_f, rdI_i, rdL_i, rdR_i, rdN_i, stI_i, stL_i, stR_i, wI_s, wI_n, wL_s, wL_n, wI_2, wI_3, wL_1, wL_3, wR_1, wR_2, Int.toNat_natCast, tnO, tn_add, tn_sub, tn_mul, Nat.add_sub_cancel, Nat.add_zero, Nat.zero_add, lnO, win_t, win_f, r5, g6, r4, e1, sa]
    · refine skip (fun h => c1 h.1) ?_
      show nb_X8_goOn_36 nrc F s (nl_X8_goOn_36 nrc F s fuel) m w _ _ _ _ _ = _
      unfold nb_X8_goOn_36 nb_X8_goOn_106
      simp (disch := omega) only [Option.bind_some, bindv, bindv0, bind2_s, bind3_s, ↓reduceIte, Bool.false_eq_true, rZM_0, rZM_1, rZP_0, rZP_1, ptZ_0, ptZ_1, c32i, c64i, ncI, Int.natCast_add, Int.natCast_mul, q32_neg, q64_neg, q32_add, q32_sub, q32_mul, q64_add, q64_sub, q64_mul, q32_64i, q64_32, q32_lt_t, q32_lt_f, q32_le_t, q32_le_f, q32_eq_t, q32_eq_f, q64_lt_t, q64_lt_f, q64_le_t, q64_le_f, q64_eq_t, q64_eq_f, rdI_i, rdL_i, rdR_i, rdN_i, stI_i, stL_i, stR_i, wI_s, wI_n, wL_s, wL_n, wI_2, wI_3, wL_1, wL_3, wR_1, wR_2, Int.toNat_natCast, tnO, tn_add, tn_sub, tn_mul, Nat.add_sub_cancel, Nat.add_zero, Nat.zero_add, lnO, win_t, win_f, r5, g6, r4, e1]
theorem go9 {F : Nat} (hF : 1000 ≤ F) {s : List Sh} {m0 : Mem} {w nw t sz bc fc tp : Nat} {al : Nat → Int32} {U L T : Nat → Int} (hE : E9 F s m0 w nw t sz bc fc tp al U L T) (hsz : sz ≤ 8) (hbc : bc ≤ 6) (hfc : fc ≤ 8) (hw : 53 ≤ w) (l3 : ln s (nw + 3) = 8) (l4 : ln s (nw + 4) = 8) (lw1 : ln s (w + 1) = 8) (lw : ln s (w + 2) = 8) (hUb : ∀ k, k < fc → 0 ≤ U k ∧ U k ≤ 1000000 ∧ 0 ≤ L k ∧ L k ≤ 1000000) {v : Int} (hv : B31 v) (hT : ∀ k, k < sz → -1 ≤ T k ∧ T k < fc) : ∀ (n d : Nat), n < d → ∀ (m : Mem) (k : Nat) (P : ROW) (x : FR) (R : List ROW), k + n = sz → KW w m0 m → W9 m w sz v R → RWS sz R → (∀ i, i < k → m.1 (w + 2) i = q32 (P i) ∧ P i < 6) → FLR tp x.1 x.2 → R.length + bc ^ n ≤ 2000000 → ∃ m', nd_X8_goOn F s d m w (q32 k) (q32 x.1) (q32 x.2) = some ((), m') ∧ KW w m0 m' ∧ W9 m' w sz v (GO al U L T bc n k P x R) ∧ RWS sz (GO al U L T bc n k P x R) ∧ ∀ i, i < k → m'.1 (w + 2) i = m.1 (w + 2) i := by
  intro n
  induction n with
  | zero =>
    intro d hd m k P x R hk hK hW hR hP hx hl
    obtain ⟨d, rfl⟩ : ∃ f, d = f + 1 := ⟨d - 1, by omega⟩
    obtain rfl : k = sz := by omega
    obtain ⟨⟨r2, r3, r4, r5, r6, r10, r11⟩, ⟨g6, g9, g1⟩, -⟩ := hE m hK
    obtain ⟨m', e1, e2, e3, e4⟩ := take9 hF (s := s) (R := R) hv hsz (fun i hi => (hP i hi).2) hR lw1 lw (by omega) r2 r3 (fun i hi => (hP i hi).1) hW
    refine ⟨m', ?_, hK.tr ⟨fun a j p => e3 a j p.2.1 p.2.2.1, fun a j p => by rw [e2], by rw [e2]⟩, e4, ?_, fun i hi => e3 _ _ (by omega) (by omega)⟩
    · show nb_X8_goOn_0 (nd_X8_goOn F s d) F s m w _ _ _ = _
      unfold nb_X8_goOn_0 nb_X8_goOn_17
      simp (disch := omega) only [Option.bind_some, bindv, bindv0, bind2_s, bind3_s, ↓reduceIte, Bool.false_eq_true, rZM_0, rZM_1, rZP_0, rZP_1, ptZ_0, ptZ_1, c32i, c64i, ncI, Int.natCast_add, Int.natCast_mul, q32_neg, q64_neg, q32_add, q32_sub, q32_mul, q64_add, q64_sub, q64_mul, q32_64i, q64_32, q32_lt_t, q32_lt_f, q32_le_t, q32_le_f, q32_eq_t, q32_eq_f, q64_lt_t, q64_lt_f, q64_le_t, q64_le_f, q64_eq_t, q64_eq_f, rdI_i, rdL_i, rdR_i, rdN_i, stI_i, stL_i, stR_i, wI_s, wI_n, wL_s, wL_n, wI_2, wI_3, wL_1, wL_3, wR_1, wR_2, Int.toNat_natCast, tnO, tn_add, tn_sub, tn_mul, Nat.add_sub_cancel, Nat.add_zero, Nat.zero_add, lnO, win_t, win_f, r6, g1, e1]
    · intro Q hQ
      rcases List.mem_append.mp hQ with h | h
      · exact hR Q h
      · rw [List.mem_singleton.mp h]; exact fun i hi => (hP i hi).2
  | succ n ih =>
    intro d hd m k P x R hk hK hW hR hP hx hl
    obtain ⟨d, rfl⟩ : ∃ f, d = f + 1 := ⟨d - 1, by omega⟩
    obtain ⟨⟨r2, r3, r4, r5, r6, r10, r11⟩, ⟨g6, g9, g1⟩, -, hs, -⟩ := hE m hK
    have sm := hs k (by omega)
    rw [Nat.pow_succ, Nat.mul_comm] at hl
    obtain ⟨m', e1, e2, e3, e4, e5⟩ := goL9 (nrc := nd_X8_goOn F s d) hE hsz hbc hfc hw l3 l4 lw hUb (v := v) (k := k) (B := bc ^ n) (by omega) (hT k (by omega)) (G := GO al U L T bc n (k + 1)) (GO_len n (k + 1)) (fun m1 P1 x1 R1 h1 h2 h3 h4 h5 h6 => by
      have := ih d (by omega) m1 (k + 1) P1 x1 R1 (by omega) h1 h2 h3 h4 h5 h6
      rw [Int.natCast_add k] at this
      exact this) hx bc F (by omega) m 0 P R (by omega) hK hW hR hP hl
    refine ⟨m', ?_, e2, e3, e4, e5⟩
    show nb_X8_goOn_0 (nd_X8_goOn F s d) F s m w _ _ _ = _
    unfold nb_X8_goOn_0
    simp (disch := omega) only [Option.bind_some, bindv, bindv0, bind2_s, bind3_s, ↓reduceIte, Bool.false_eq_true, rZM_0, rZM_1, rZP_0, rZP_1, ptZ_0, ptZ_1, c32i, c64i, ncI, Int.natCast_add, Int.natCast_mul, q32_neg, q64_neg, q32_add, q32_sub, q32_mul, q64_add, q64_sub, q64_mul, q32_64i, q64_32, q32_lt_t, q32_lt_f, q32_le_t, q32_le_f, q32_eq_t, q32_eq_f, q64_lt_t, q64_lt_f, q64_le_t, q64_le_f, q64_eq_t, q64_eq_f, rdI_i, rdL_i, rdR_i, rdN_i, stI_i, stL_i, stR_i, wI_s, wI_n, wL_s, wL_n, wI_2, wI_3, wL_1, wL_3, wR_1, wR_2, Int.toNat_natCast, tnO, tn_add, tn_sub, tn_mul, Nat.add_sub_cancel, Nat.add_zero, Nat.zero_add, lnO, win_t, win_f, r6, g1, sm]
    exact e1
