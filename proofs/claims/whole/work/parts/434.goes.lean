/-! the reference goes through the rows -/
def KV (m m' : Mem) : Prop := (∀ a k, (a ≠ 23 ∨ (k ≠ 21 ∧ k ≠ 46)) → a ≠ 44 → a ≠ 45 → a ≠ 46 → m'.1 a k = m.1 a k) ∧ (∀ a k, a ≠ 23 ∧ a ≠ 28 ∧ a ≠ 29 → m'.2.1 a k = m.2.1 a k) ∧ m'.2.2 = m.2.2
theorem KV.rf (m : Mem) : KV m m := ⟨fun _ _ _ _ _ _ => rfl, fun _ _ _ => rfl, rfl⟩
theorem KV.tr {m m1 m2 : Mem} (h : KV m m1) (h2 : KV m1 m2) : KV m m2 := ⟨fun a k p q r t => (h2.1 a k p q r t).trans (h.1 a k p q r t), fun a k p => (h2.2.1 a k p).trans (h.2.1 a k p), h2.2.2.trans h.2.2⟩
theorem KV.k10 {m m1 : Mem} (h : K10 m m1) : KV m m1 := ⟨fun a k p _ _ _ => h.1 a k (by omega), fun a k p => h.2.1 a k ⟨Or.inl p.1, p.2⟩, h.2.2⟩
def E10 (F : Nat) (s : List Sh) (m0 : Mem) (j sz bc fc tp : Nat) (al : Nat → Int32) (U L T : Nat → Int) : Prop := ∀ m, KV m0 m → RF m ∧ m.1 24 2 = q32 bc ∧ m.1 51 j = q32 sz ∧ (∀ k, k < fc → m.1 24 (9 + k) = q32 (U k) ∧ m.1 24 (17 + k) = q32 (L k)) ∧ (∀ k, k < sz → m.2.1 52 (40 * j + k) = q64 (T k)) ∧ ∀ (x : FR) (b : Nat), b < bc → FLR tp x.1 x.2 → ∃ m', n_X10_leadsFrom F s m 23 (q32 b) (q64 x.1) (q64 x.2) = some (q32 (LE al b x).1, m') ∧ K10 m m' ∧ (0 ≤ (LE al b x).1 ∧ (LE al b x).1 ≤ 10) ∧ ((LE al b x).1 = 0 → m'.2.1 23 15 = q64 (LE al b x).2.1 ∧ m'.2.1 23 16 = q64 (LE al b x).2.2 ∧ FLR tp (LE al b x).2.1 (LE al b x).2.2)
theorem W10.k {m m' : Mem} {sz : Nat} {v : Int} {R : List ROW} (h : W10 m sz v R) (e : ∀ a k, (a = 23 ∧ (k = 46 ∨ k = 47)) ∨ a = 45 ∨ a = 46 → m'.1 a k = m.1 a k) : W10 m' sz v R := by
  unfold W10 at h ⊢
  rw [e 23 46 (by omega), e 23 47 (by omega), show m'.1 45 = m.1 45 from funext fun k => e 45 k (by omega), show m'.1 46 = m.1 46 from funext fun k => e 46 k (by omega)]
  exact h
theorem goL10 {nrc : Mem → Nat → Int32 → Int32 → Int64 → Int64 → Option (Unit × Mem)} {F : Nat} {s : List Sh} (hp : ∃ t, s = sB ++ t) {m0 : Mem} {j sz bc fc tp : Nat} {al : Nat → Int32} {U L T : Nat → Int} (hE : E10 F s m0 j sz bc fc tp al U L T) (hsz : sz ≤ 8) (hbc : bc ≤ 6) (hfc : fc ≤ 8) (hUb : ∀ k, k < fc → 0 ≤ U k ∧ U k ≤ 1000000 ∧ 0 ≤ L k ∧ L k ≤ 1000000) {v : Int} {k B : Nat} (hk : k < sz) (hT : -1 ≤ T k ∧ T k < fc) {G : ROW → FR → List ROW → List ROW} (hG : ∀ P y R, (G P y R).length ≤ R.length + B) (hrc : ∀ (m : Mem) (P : ROW) (x : FR) (R : List ROW), KV m0 m → W10 m sz v R → (∀ i, i < k + 1 → m.1 44 i = q32 (P i) ∧ P i < 6) → FLR tp x.1 x.2 → R.length + B ≤ 2000000 → ∃ m', nrc m 23 (q32 j) (q32 ((k : Int) + 1)) (q64 x.1) (q64 x.2) = some ((), m') ∧ KV m0 m' ∧ W10 m' sz v (G P x R) ∧ ∀ i, i < k + 1 → m'.1 44 i = m.1 44 i) {x : FR} (hx : FLR tp x.1 x.2) : ∀ (n fuel : Nat), n < fuel → ∀ (m : Mem) (b : Nat) (P : ROW) (R : List ROW), b + n = bc → KV m0 m → W10 m sz v R → (∀ i, i < k → m.1 44 i = q32 (P i) ∧ P i < 6) → R.length + n * B ≤ 2000000 → ∃ m', nl_X10_goesFit_109 nrc F s fuel m 23 (q32 j) (q32 k) (q64 x.1) (q64 x.2) (q64 (T k)) (q32 b) = some ((), m') ∧ KV m0 m' ∧ W10 m' sz v (GOL G al U L (T k) k x n b P R) ∧ ∀ i, i < k → m'.1 44 i = m.1 44 i := by
  have l24 := ln24 hp
  have l44 := ln44 hp
  have hx' := hx
  unfold FLR at hx'
  intro n
  induction n with
  | zero =>
    intro fuel hf m b P R hb hK hW hP hl
    obtain ⟨fuel, rfl⟩ : ∃ f, fuel = f + 1 := ⟨fuel - 1, by omega⟩
    obtain ⟨hr, b2, -⟩ := hE m hK
    have r1 := rf23_1 hr
    refine ⟨m, ?_, hK, hW, fun _ _ => rfl⟩
    show nb_X10_goesFit_109 nrc F s (nl_X10_goesFit_109 nrc F s fuel) m 23 _ _ _ _ _ _ = _
    unfold nb_X10_goesFit_109
    simp (disch := omega) only [Option.bind_some, bindv, bindv0, bind2_s, bind3_s, ↓reduceIte, Bool.false_eq_true, rZM_0, rZM_1, rZP_0, rZP_1, ptZ_0, ptZ_1, c32i, c64i, ncI, Int.natCast_add, Int.natCast_mul, q32_neg, q64_neg, q32_add, q32_sub, q32_mul, q64_add, q64_sub, q64_mul, q32_64i, q64_32, q32_lt_t, q32_lt_f, q32_le_t, q32_le_f, q32_eq_t, q32_eq_f, q64_lt_t, q64_lt_f, q64_le_t, q64_le_f, q64_eq_t, q64_eq_f, rdI_i, rdL_i, rdR_i, rdN_i, stI_i, stL_i, stR_i, wI_s, wI_n, wL_s, wL_n, wI_2, wI_3, wL_1, wL_3, wR_1, wR_2, Int.toNat_natCast, tnO, tn_add, tn_sub, tn_mul, Nat.add_sub_cancel, Nat.add_zero, Nat.zero_add, lnO, win_t, win_f, r1, b2]
  | succ n ih =>
    intro fuel hf m b P R hb hK hW hP hl
    obtain ⟨fuel, rfl⟩ : ∃ f, fuel = f + 1 := ⟨fuel - 1, by omega⟩
    rw [Nat.add_mul, Nat.one_mul] at hl
    obtain ⟨hr, b2, -, -, -, hL⟩ := hE m hK
    have r1 := rf23_1 hr
    obtain ⟨m1, e1, e2, e3, e4⟩ := hL x b (by omega) hx
    have k1 : KV m0 m1 := hK.tr (KV.k10 e2)
    obtain ⟨hr1, -, -, hU1, -⟩ := hE m1 k1
    have r1' := rf23_1 hr1
    have r43 := rf23_43 hr1
    have hW1 : W10 m1 sz v R := hW.k (fun a i h => e2.1 a i (by omega))
    have hrow1 : ∀ i, m1.1 44 i = m.1 44 i := fun i => e2.1 _ _ (by omega)
    have skip : ¬ ((LE al b x).1 = 0 ∧ (T k = -1 ∨ (U (T k).toNat = (LE al b x).2.1 ∧ L (T k).toNat = (LE al b x).2.2))) → nl_X10_goesFit_109 nrc F s (fuel + 1) m 23 (q32 j) (q32 k) (q64 x.1) (q64 x.2) (q64 (T k)) (q32 b) = nl_X10_goesFit_109 nrc F s fuel m1 23 (q32 j) (q32 k) (q64 x.1) (q64 x.2) (q64 (T k)) (q32 ((b : Int) + 1)) → ∃ m', nl_X10_goesFit_109 nrc F s (fuel + 1) m 23 (q32 j) (q32 k) (q64 x.1) (q64 x.2) (q64 (T k)) (q32 b) = some ((), m') ∧ KV m0 m' ∧ W10 m' sz v (GOL G al U L (T k) k x (n + 1) b P R) ∧ ∀ i, i < k → m'.1 44 i = m.1 44 i := fun hc st => by
      obtain ⟨m', i1, i2, i3, i5⟩ := ih fuel (by omega) m1 (b + 1) P R (by omega) k1 hW1 (fun i hi => by rw [hrow1]; exact hP i hi) (by omega)
      rw [Int.natCast_add b] at i1
      unfold GOL
      rw [if_neg hc]
      exact ⟨m', st.trans i1, i2, i3, fun i hi => (i5 i hi).trans (hrow1 i)⟩
    by_cases c1 : (LE al b x).1 = 0
    · obtain ⟨f1, f2, f3⟩ := e4 c1
      have f3' := f3
      unfold FLR at f3'
      rw [c1] at e1
      by_cases c2 : T k = -1 ∨ (U (T k).toNat = (LE al b x).2.1 ∧ L (T k).toNat = (LE al b x).2.2)
      · have km : KV m0 (wI m1 44 k (q32 b)) := ⟨fun a i p q r t => by rw [wI_n (by omega)]; exact k1.1 a i p q r t, k1.2.1, k1.2.2⟩
        have hWm : W10 (wI m1 44 k (q32 b)) sz v R := hW1.k (fun a i h => wI_n (by omega))
        obtain ⟨m2, q1, q2, q3, q5⟩ := hrc (wI m1 44 k (q32 b)) (upN P k b) (LE al b x).2 R km hWm (fun i hi => by
          by_cases e : i = k
          · subst e; rw [wI_s, upN_s]; exact ⟨rfl, by omega⟩
          · rw [wI_n (by omega), upN_n e, hrow1]; exact hP i (by omega)) f3 (by omega)
        have hlen := hG (upN P k b) (LE al b x).2 R
        obtain ⟨m', i1, i2, i3, i5⟩ := ih fuel (by omega) m2 (b + 1) (upN P k b) (G (upN P k b) (LE al b x).2 R) (by omega) q2 q3 (fun i hi => by
          rw [q5 i (by omega), wI_n (by omega), upN_n (by omega), hrow1]; exact hP i hi) (by omega)
        rw [Int.natCast_add b] at i1
        unfold GOL
        rw [if_pos ⟨c1, c2⟩]
        refine ⟨m', ?_, i2, i3, fun i hi => by rw [i5 i hi, q5 i (by omega), wI_n (by omega), hrow1]⟩
        refine Eq.trans ?_ i1
        show nb_X10_goesFit_109 nrc F s (nl_X10_goesFit_109 nrc F s fuel) m 23 _ _ _ _ _ _ = _
        have tk : nb_X10_goesFit_187 nrc F s (nl_X10_goesFit_109 nrc F s fuel) m1 23 (q32 j) (q32 k) (q64 x.1) (q64 x.2) (q64 (T k)) (q32 b) = nl_X10_goesFit_109 nrc F s fuel m2 23 (q32 j) (q32 k) (q64 x.1) (q64 x.2) (q64 (T k)) (q32 ((b : Int) + 1)) := by
          unfold nb_X10_goesFit_187 nb_X10_goesFit_211
          simp (disch := omega) only [Option.bind_some, bindv, bindv0, bind2_s, bind3_s, ↓reduceIte, Bool.false_eq_true, rZM_0, rZM_1, rZP_0, rZP_1, ptZ_0, ptZ_1, c32i, c64i, ncI, Int.natCast_add, Int.natCast_mul, q32_neg, q64_neg, q32_add, q32_sub, q32_mul, q64_add, q64_sub, q64_mul, q32_64i, q64_32, q32_lt_t, q32_lt_f, q32_le_t, q32_le_f, q32_eq_t, q32_eq_f, q64_lt_t, q64_lt_f, q64_le_t, q64_le_f, q64_eq_t, q64_eq_f, rdI_i, rdL_i, rdR_i, rdN_i, stI_i, stL_i, stR_i, wI_s, wI_n, wL_s, wL_n, wI_2, wI_3, wL_1, wL_3, wR_1, wR_2, Int.toNat_natCast, tnO, tn_add, tn_sub, tn_mul, Nat.add_sub_cancel, Nat.add_zero, Nat.zero_add, lnO, win_t, win_f, r43, f1, f2, q1]
        unfold nb_X10_goesFit_109
        by_cases c3 : T k = -1
        · simp (disch := omega) only [Option.bind_some, bindv, bindv0, bind2_s, bind3_s, ↓reduceIte, Bool.false_eq_true, rZM_0, rZM_1, rZP_0, rZP_1, ptZ_0, ptZ_1, c32i, c64i, ncI, Int.natCast_add, Int.natCast_mul, q32_neg, q64_neg, q32_add, q32_sub, q32_mul, q64_add, q64_sub, q64_mul, q32_64i, q64_32, q32_lt_t, q32_lt_f, q32_le_t, q32_le_f, q32_eq_t, q32_eq_f, q64_lt_t, q64_lt_f, q64_le_t, q64_le_f, q64_eq_t, q64_eq_f, rdI_i, rdL_i, rdR_i, rdN_i, stI_i, stL_i, stR_i, wI_s, wI_n, wL_s, wL_n, wI_2, wI_3, wL_1, wL_3, wR_1, wR_2, Int.toNat_natCast, tnO, tn_add, tn_sub, tn_mul, Nat.add_sub_cancel, Nat.add_zero, Nat.zero_add, lnO, win_t, win_f, r1, b2, e1]
          exact tk
        · obtain ⟨c4, c5⟩ := c2.resolve_left c3
          obtain ⟨tk', htk⟩ := Int.eq_ofNat_of_zero_le (show 0 ≤ T k by omega)
          obtain ⟨u1, u2⟩ := hU1 tk' (by omega)
          obtain ⟨z1, z2, z3, z4⟩ := hUb tk' (by omega)
          rw [htk] at c4 c5 tk ⊢
          rw [show ((tk' : Int)).toNat = tk' from rfl] at c4 c5
          have e9 : (9 + (tk' : Int)).toNat = 9 + tk' := by omega
          have e17 : (17 + (tk' : Int)).toNat = 17 + tk' := by omega
          simp (disch := omega) only [Option.bind_some, bindv, bindv0, bind2_s, bind3_s, ↓reduceIte, Bool.false_eq_true, rZM_0, rZM_1, rZP_0, rZP_1, ptZ_0, ptZ_1, c32i, c64i, ncI, Int.natCast_add, Int.natCast_mul, q32_neg, q64_neg, q32_add, q32_sub, q32_mul, q64_add, q64_sub, q64_mul, q32_64i, q64_32, q32_lt_t, q32_lt_f, q32_le_t, q32_le_f, q32_eq_t, q32_eq_f, q64_lt_t, q64_lt_f, q64_le_t, q64_le_f, q64_eq_t, q64_eq_f, rdI_i, rdL_i, rdR_i, rdN_i, stI_i, stL_i, stR_i, wI_s, wI_n, wL_s, wL_n, wI_2, wI_3, wL_1, wL_3, wR_1, wR_2, Int.toNat_natCast, tnO, tn_add, tn_sub, tn_mul, Nat.add_sub_cancel, Nat.add_zero, Nat.zero_add, lnO, win_t, win_f, r1, b2, e1, r1', e9, e17, u1, u2, f1, f2]
          exact tk
      · refine skip (fun h => c2 h.2) ?_
        show nb_X10_goesFit_109 nrc F s (nl_X10_goesFit_109 nrc F s fuel) m 23 _ _ _ _ _ _ = _
        unfold nb_X10_goesFit_109 nb_X10_goesFit_211
        obtain ⟨tk', htk⟩ := Int.eq_ofNat_of_zero_le (show 0 ≤ T k by omega)
        obtain ⟨u1, u2⟩ := hU1 tk' (by omega)
        obtain ⟨z1, z2, z3, z4⟩ := hUb tk' (by omega)
        rw [htk] at c2 ⊢
        rw [show ((tk' : Int)).toNat = tk' from rfl] at c2
        have e9 : (9 + (tk' : Int)).toNat = 9 + tk' := by omega
        have e17 : (17 + (tk' : Int)).toNat = 17 + tk' := by omega
        by_cases c4 : U tk' = (LE al b x).2.1
        · have c5 : ¬ L tk' = (LE al b x).2.2 := fun h => c2 (Or.inr ⟨c4, h⟩)
          simp (disch := omega) only [Option.bind_some, bindv, bindv0, bind2_s, bind3_s, ↓reduceIte, Bool.false_eq_true, rZM_0, rZM_1, rZP_0, rZP_1, ptZ_0, ptZ_1, c32i, c64i, ncI, Int.natCast_add, Int.natCast_mul, q32_neg, q64_neg, q32_add, q32_sub, q32_mul, q64_add, q64_sub, q64_mul, q32_64i, q64_32, q32_lt_t, q32_lt_f, q32_le_t, q32_le_f, q32_eq_t, q32_eq_f, q64_lt_t, q64_lt_f, q64_le_t, q64_le_f, q64_eq_t, q64_eq_f, rdI_i, rdL_i, rdR_i, rdN_i, stI_i, stL_i, stR_i, wI_s, wI_n, wL_s, wL_n, wI_2, wI_3, wL_1, wL_3, wR_1, wR_2, Int.toNat_natCast, tnO, tn_add, tn_sub, tn_mul, Nat.add_sub_cancel, Nat.add_zero, Nat.zero_add, lnO, win_t, win_f, r1, b2, e1, r1', e9, e17, u1, u2, f1, f2]
        · simp (disch := omega) only [Option.bind_some, bindv, bindv0, bind2_s, bind3_s, ↓reduceIte, Bool.false_eq_true, rZM_0, rZM_1, rZP_0, rZP_1, ptZ_0, ptZ_1, c32i, c64i, ncI, Int.natCast_add, Int.natCast_mul, q32_neg, q64_neg, q32_add, q32_sub, q32_mul, q64_add, q64_sub, q64_mul, q32_64i, q64_32, q32_lt_t, q32_lt_f, q32_le_t, q32_le_f, q32_eq_t, q32_eq_f, q64_lt_t, q64_lt_f, q64_le_t, q64_le_f, q64_eq_t, q64_eq_f, rdI_i, rdL_i, rdR_i, rdN_i, stI_i, stL_i, stR_i, wI_s, wI_n, wL_s, wL_n, wI_2, wI_3, wL_1, wL_3, wR_1, wR_2, Int.toNat_natCast, tnO, tn_add, tn_sub, tn_mul, Nat.add_sub_cancel, Nat.add_zero, Nat.zero_add, lnO, win_t, win_f, r1, b2, e1, r1', e9, e17, u1, u2, f1, f2]
    · refine skip (fun h => c1 h.1) ?_
      show nb_X10_goesFit_109 nrc F s (nl_X10_goesFit_109 nrc F s fuel) m 23 _ _ _ _ _ _ = _
      unfold nb_X10_goesFit_109 nb_X10_goesFit_211
      simp (disch := omega) only [Option.bind_some, bindv, bindv0, bind2_s, bind3_s, ↓reduceIte, Bool.false_eq_true, rZM_0, rZM_1, rZP_0, rZP_1, ptZ_0, ptZ_1, c32i, c64i, ncI, Int.natCast_add, Int.natCast_mul, q32_neg, q64_neg, q32_add, q32_sub, q32_mul, q64_add, q64_sub, q64_mul, q32_64i, q64_32, q32_lt_t, q32_lt_f, q32_le_t, q32_le_f, q32_eq_t, q32_eq_f, q64_lt_t, q64_lt_f, q64_le_t, q64_le_f, q64_eq_t, q64_eq_f, rdI_i, rdL_i, rdR_i, rdN_i, stI_i, stL_i, stR_i, wI_s, wI_n, wL_s, wL_n, wI_2, wI_3, wL_1, wL_3, wR_1, wR_2, Int.toNat_natCast, tnO, tn_add, tn_sub, tn_mul, Nat.add_sub_cancel, Nat.add_zero, Nat.zero_add, lnO, win_t, win_f, r1, b2, e1]
theorem go10 {F : Nat} (hF : 1000 ≤ F) {s : List Sh} (hp : ∃ t, s = sB ++ t) {m0 : Mem} {j sz bc fc tp : Nat} {al : Nat → Int32} {U L T : Nat → Int} (hE : E10 F s m0 j sz bc fc tp al U L T) (hj : j < 4) (hsz : sz ≤ 8) (hbc : bc ≤ 6) (hfc : fc ≤ 8) (hUb : ∀ k, k < fc → 0 ≤ U k ∧ U k ≤ 1000000 ∧ 0 ≤ L k ∧ L k ≤ 1000000) {v : Int} (hv : B31 v) (hT : ∀ k, k < sz → -1 ≤ T k ∧ T k < fc) : ∀ (n d : Nat), n < d → ∀ (m : Mem) (k : Nat) (P : ROW) (x : FR) (R : List ROW), k + n = sz → KV m0 m → W10 m sz v R → (∀ i, i < k → m.1 44 i = q32 (P i) ∧ P i < 6) → FLR tp x.1 x.2 → R.length + bc ^ n ≤ 2000000 → ∃ m', nd_X10_goesFit F s d m 23 (q32 j) (q32 k) (q64 x.1) (q64 x.2) = some ((), m') ∧ KV m0 m' ∧ W10 m' sz v (GO al U L T bc n k P x R) ∧ ∀ i, i < k → m'.1 44 i = m.1 44 i := by
  have l51 := ln51 hp
  have l52 := ln52 hp
  intro n
  induction n with
  | zero =>
    intro d hd m k P x R hk hK hW hP hx hl
    obtain ⟨d, rfl⟩ : ∃ f, d = f + 1 := ⟨d - 1, by omega⟩
    obtain rfl : k = sz := by omega
    obtain ⟨hr, b2, h51, -⟩ := hE m hK
    have r53 := rf23_53 hr
    obtain ⟨m', e1, e2, e3, e4⟩ := tally10 (nrc := nd_X10_goesFit F s d) hF hp hr hv (R := R) hsz (fun i hi => (hP i hi).2) (by omega) (fun i hi => (hP i hi).1) hW
    refine ⟨m', ?_, hK.tr ⟨fun a i p q r t => e3 a i (by omega) r t, fun a i p => by rw [e2], by rw [e2]⟩, e4, fun i hi => e3 _ _ (by omega) (by omega) (by omega)⟩
    show nb_X10_goesFit_0 (nd_X10_goesFit F s d) F s m 23 _ _ _ _ = _
    unfold nb_X10_goesFit_0
    simp (disch := omega) only [Option.bind_some, bindv, bindv0, bind2_s, bind3_s, ↓reduceIte, Bool.false_eq_true, rZM_0, rZM_1, rZP_0, rZP_1, ptZ_0, ptZ_1, c32i, c64i, ncI, Int.natCast_add, Int.natCast_mul, q32_neg, q64_neg, q32_add, q32_sub, q32_mul, q64_add, q64_sub, q64_mul, q32_64i, q64_32, q32_lt_t, q32_lt_f, q32_le_t, q32_le_f, q32_eq_t, q32_eq_f, q64_lt_t, q64_lt_f, q64_le_t, q64_le_f, q64_eq_t, q64_eq_f, rdI_i, rdL_i, rdR_i, rdN_i, stI_i, stL_i, stR_i, wI_s, wI_n, wL_s, wL_n, wI_2, wI_3, wL_1, wL_3, wR_1, wR_2, Int.toNat_natCast, tnO, tn_add, tn_sub, tn_mul, Nat.add_sub_cancel, Nat.add_zero, Nat.zero_add, lnO, win_t, win_f, r53, h51]
    exact e1
  | succ n ih =>
    intro d hd m k P x R hk hK hW hP hx hl
    obtain ⟨d, rfl⟩ : ∃ f, d = f + 1 := ⟨d - 1, by omega⟩
    obtain ⟨hr, b2, h51, -, hTm, -⟩ := hE m hK
    have r53 := rf23_53 hr
    have r54 := rf23_54 hr
    have tm := hTm k (by omega)
    have ei : ((40 : Int) * j + k).toNat = 40 * j + k := by omega
    rw [Nat.pow_succ, Nat.mul_comm] at hl
    obtain ⟨m', e1, e2, e3, e5⟩ := goL10 (nrc := nd_X10_goesFit F s d) hp hE hsz hbc hfc hUb (v := v) (k := k) (B := bc ^ n) (by omega) (hT k (by omega)) (G := GO al U L T bc n (k + 1)) (GO_len n (k + 1)) (fun m1 P1 x1 R1 h1 h2 h4 h5 h6 => by
      have := ih d (by omega) m1 (k + 1) P1 x1 R1 (by omega) h1 h2 h4 h5 h6
      rw [Int.natCast_add k] at this
      exact this) hx bc F (by omega) m 0 P R (by omega) hK hW hP hl
    refine ⟨m', ?_, e2, e3, e5⟩
    show nb_X10_goesFit_0 (nd_X10_goesFit F s d) F s m 23 _ _ _ _ = _
    unfold nb_X10_goesFit_0
    simp (disch := omega) only [Option.bind_some, bindv, bindv0, bind2_s, bind3_s, ↓reduceIte, Bool.false_eq_true, rZM_0, rZM_1, rZP_0, rZP_1, ptZ_0, ptZ_1, c32i, c64i, ncI, Int.natCast_add, Int.natCast_mul, q32_neg, q64_neg, q32_add, q32_sub, q32_mul, q64_add, q64_sub, q64_mul, q32_64i, q64_32, q32_lt_t, q32_lt_f, q32_le_t, q32_le_f, q32_eq_t, q32_eq_f, q64_lt_t, q64_lt_f, q64_le_t, q64_le_f, q64_eq_t, q64_eq_f, rdI_i, rdL_i, rdR_i, rdN_i, stI_i, stL_i, stR_i, wI_s, wI_n, wL_s, wL_n, wI_2, wI_3, wL_1, wL_3, wR_1, wR_2, Int.toNat_natCast, r53, h51, r54, ei, tm]
    exact e1
