theorem btA_in {al : Nat → Int32} {bc : Nat} (h2 : A al 2 = bc) {v : Int64} (h : 0 ≤ v.toInt ∧ v.toInt < bc) : btA al v = v.toInt := by
  unfold btA
  rw [h2, if_pos (by omega)]
theorem btA_out {al : Nat → Int32} {bc : Nat} (h2 : A al 2 = bc) {v : Int64} (h : ¬ (0 ≤ v.toInt ∧ v.toInt < bc)) : btA al v = -1 := by
  unfold btA
  rw [h2, if_neg (by omega)]
theorem noL10 {F : Nat} {s : List Sh} (hp : ∃ t, s = sB ++ t) {m : Mem} {al : Nat → Int32} (hr : RD m al) {bc : Nat} (h2 : al 2 = q32 bc) (hbc : bc ≤ 6) {j sz : Nat} (hj : j < 4) (hsz : sz ≤ 8) (h51 : m.1 51 j = q32 sz) {Z : Option (Int32 × Mem)} (hZ : ∀ fuel, nl_X10_noOdds_24 F s (fuel + 1) m 23 (q32 j) (q32 sz) = Z) : ∀ n k fuel, k + n = sz → n < fuel → (BAL (fun k => (m.2.1 52 (40 * j + k)).toInt) bc k n → nl_X10_noOdds_24 F s fuel m 23 (q32 j) (q32 (k : Nat)) = Z) ∧ (¬ BAL (fun k => (m.2.1 52 (40 * j + k)).toInt) bc k n → nl_X10_noOdds_24 F s fuel m 23 (q32 j) (q32 (k : Nat)) = some (q32 (-3), m)) := by
  have l51 := ln51 hp
  have r53 := rf23_53 hr.1
  have hA : A al 2 = bc := A_q h2 (by unfold B31; omega)
  intro n
  induction n with
  | zero =>
    intro k fuel hk hfu
    obtain ⟨fuel, rfl⟩ : ∃ f, fuel = f + 1 := ⟨fuel - 1, by omega⟩
    have hk' : k = sz := by omega
    subst hk'
    exact ⟨fun _ => hZ fuel, fun h => absurd (fun i h1 h2 => by omega) h⟩
  | succ n ih =>
    intro k fuel hk hfu
    obtain ⟨fuel, rfl⟩ : ∃ f, fuel = f + 1 := ⟨fuel - 1, by omega⟩
    have ih := ih (k + 1) fuel (by omega) (by omega)
    rw [Int.natCast_add] at ih
    have td := told10 (s := s) (m := m) hp hr.1 hbc h2 hr.2 (j := j) (k := k) hj (by omega)
    rw [BAL_s]
    show (_ → nb_X10_noOdds_24 F s (nl_X10_noOdds_24 F s fuel) m 23 _ _ = _) ∧ (_ → nb_X10_noOdds_24 F s (nl_X10_noOdds_24 F s fuel) m 23 _ _ = _)
    by_cases c : 0 ≤ (m.2.1 52 (40 * j + k)).toInt ∧ (m.2.1 52 (40 * j + k)).toInt < bc
    · rw [btA_in hA c] at td
      have go : nb_X10_noOdds_24 F s (nl_X10_noOdds_24 F s fuel) m 23 (q32 j) (q32 (k : Int)) = nl_X10_noOdds_24 F s fuel m 23 (q32 j) (q32 ((k : Int) + 1)) := by
        unfold nb_X10_noOdds_24
        generalize (m.2.1 52 (40 * j + k)).toInt = v at *
        simp (disch := omega) only [Option.bind_some, bindv, bindv0, bind2_s, bind3_s, ↓reduceIte, Bool.false_eq_true, rZM_0, rZM_1, rZP_0, rZP_1, ptZ_0, ptZ_1, c32i, c64i, ncI, Int.natCast_add, Int.natCast_mul, q32_neg, q64_neg, q32_add, q32_sub, q32_mul, q64_add, q64_sub, q64_mul, q32_64i, q64_32, q32_lt_t, q32_lt_f, q32_le_t, q32_le_f, q32_eq_t, q32_eq_f, q64_lt_t, q64_lt_f, q64_le_t, q64_le_f, q64_eq_t, q64_eq_f, rdI_i, rdL_i, rdR_i, rdN_i, stI_i, stL_i, stR_i, wI_s, wI_n, wL_s, wL_n, wI_2, wI_3, wL_1, wL_3, wR_1, wR_2, Int.toNat_natCast, tnO, tn_add, tn_sub, tn_mul, Nat.add_sub_cancel, Nat.add_zero, Nat.zero_add, lnO, win_t, win_f, r53, h51, td]
      rw [go]
      exact ⟨fun h => ih.1 h.2, fun h => ih.2 (fun hb' => h ⟨c, hb'⟩)⟩
    · rw [btA_out hA c] at td
      refine ⟨fun h => absurd h.1 c, fun _ => ?_⟩
      unfold nb_X10_noOdds_24
      simp (disch := omega) only [Option.bind_some, bindv, bindv0, bind2_s, bind3_s, ↓reduceIte, Bool.false_eq_true, rZM_0, rZM_1, rZP_0, rZP_1, ptZ_0, ptZ_1, c32i, c64i, ncI, Int.natCast_add, Int.natCast_mul, q32_neg, q64_neg, q32_add, q32_sub, q32_mul, q64_add, q64_sub, q64_mul, q32_64i, q64_32, q32_lt_t, q32_lt_f, q32_le_t, q32_le_f, q32_eq_t, q32_eq_f, q64_lt_t, q64_lt_f, q64_le_t, q64_le_f, q64_eq_t, q64_eq_f, rdI_i, rdL_i, rdR_i, rdN_i, stI_i, stL_i, stR_i, wI_s, wI_n, wL_s, wL_n, wI_2, wI_3, wL_1, wL_3, wR_1, wR_2, Int.toNat_natCast, tnO, tn_add, tn_sub, tn_mul, Nat.add_sub_cancel, Nat.add_zero, Nat.zero_add, lnO, win_t, win_f, r53, h51, td]
theorem odd10 {F : Nat} (hF : 20000 ≤ F) {s : List Sh} (hp : ∃ t, s = sB ++ t) {m : Mem} {al : Nat → Int32} (hw : WA al) (hr : RD m al) {bc sk : Nat} (h2 : al 2 = q32 bc) (hbc : bc ≤ 6) (h5 : al 5 = q32 sk) (hs9 : sk ≤ 9) {j sz : Nat} (hj : j < 4) (hsz : sz ≤ 8) (h51 : m.1 51 j = q32 sz) {V : Nat → Nat} (hV : ∀ k, k < sz → (m.2.1 52 (40 * j + k)).toInt = (V k : Nat) ∧ V k < bc) : ∃ m', nl_X10_noOdds_24 F s F m 23 (q32 j) (q32 0) = some (q32 0, m') ∧ KO m m' ∧ OGW m' (GOD al sk V sz 0 (A al 7, A al 8) 1 []) := by
  obtain ⟨tp, t1, t2, t3, t4, t5, t6, t7, -⟩ := hw.at
  have hx : FLR (A al 1) (A al 7, A al 8).1 (A al 7, A al 8).2 := by rw [t4]; exact t5
  have xb : 0 ≤ A al 7 ∧ A al 7 ≤ 1000000 ∧ 1 ≤ A al 8 ∧ A al 8 ≤ 1000000 := hx.b
  have l24 := ln24 hp
  have l51 := ln51 hp
  have r53 := rf23_53 hr.1
  have hA : A al 2 = bc := A_q h2 (by unfold B31; omega)
  have hr1 : RD (wI m 23 51 (q32 0)) al := ⟨hr.1.same rfl, fun k hk => by rw [wI_n (by omega)]; exact hr.2 k hk⟩
  have r1 := rf23_1 hr.1
  have h7 : m.1 24 7 = q32 (A al 7) := by rw [hr.2 7 (by omega)]; exact t6
  have h8 : m.1 24 8 = q32 (A al 8) := by rw [hr.2 8 (by omega)]; exact t7
  have h10 : 1 * 10 ^ sz ≤ 100000000 := by
    have h1 : 10 ^ sz ≤ 10 ^ 8 := Nat.pow_le_pow_right (by omega) hsz
    have h2 : 10 ^ 8 = 100000000 := by decide
    omega
  have h256 : 2 ^ sz ≤ 256 := by
    have h1 : 2 ^ sz ≤ 2 ^ 8 := Nat.pow_le_pow_right (by omega) hsz
    have h2 : 2 ^ 8 = 256 := by decide
    omega
  obtain ⟨m', i1, i2, i3, -⟩ := god10 hF hp hw h2 hbc h5 hs9 (j := j) hj hsz (V := V) (fun k hk => by have := (hV k hk).2; omega) sz 0 10 (by omega) (by omega) (wI m 23 51 (q32 0)) (A al 7, A al 8) 1 [] hr1 (by rw [wI_n (by omega)]; exact h51) (fun k hk => by
    show btA al (m.2.1 52 (40 * j + k)) = _
    obtain ⟨v1, v2⟩ := hV k hk
    rw [btA_in hA (by omega), v1]) ⟨wI_s .., fun i hi => absurd hi (Nat.not_lt_zero _)⟩ (fun y hy => (List.not_mem_nil hy).elim) List.nodup_nil hx h10 (by show 0 + _ ≤ _; omega)
  have i1' : n_X10_goesOdds F 10 s (wI m 23 51 (q32 0)) 23 (q32 j) (q32 0) (q64 (A al 7)) (q64 (A al 8)) (q64 1) = some ((), m') := i1
  have hZ : ∀ fuel, nl_X10_noOdds_24 F s (fuel + 1) m 23 (q32 j) (q32 sz) = some (q32 0, m') := fun fuel => by
    show nb_X10_noOdds_24 F s (nl_X10_noOdds_24 F s fuel) m 23 _ _ = _
    unfold nb_X10_noOdds_24
    simp (disch := omega) only [Option.bind_some, bindv, bindv0, bind2_s, bind3_s, ↓reduceIte, Bool.false_eq_true, rZM_0, rZM_1, rZP_0, rZP_1, ptZ_0, ptZ_1, c32i, c64i, ncI, Int.natCast_add, Int.natCast_mul, q32_neg, q64_neg, q32_add, q32_sub, q32_mul, q64_add, q64_sub, q64_mul, q32_64i, q64_32, q32_lt_t, q32_lt_f, q32_le_t, q32_le_f, q32_eq_t, q32_eq_f, q64_lt_t, q64_lt_f, q64_le_t, q64_le_f, q64_eq_t, q64_eq_f, rdI_i, rdL_i, rdR_i, rdN_i, stI_i, stL_i, stR_i, wI_s, wI_n, wL_s, wL_n, wI_2, wI_3, wL_1, wL_3, wR_1, wR_2, Int.toNat_natCast, tnO, tn_add, tn_sub, tn_mul, Nat.add_sub_cancel, Nat.add_zero, Nat.zero_add, lnO, win_t, win_f, r53, h51, r1, h7, h8, i1']
  refine ⟨m', (noL10 hp hr h2 hbc hj hsz h51 hZ sz 0 F (by omega) (by omega)).1 (fun i h1 h2 => ?_), ⟨fun a k p1 p2 p3 => by rw [i2.1 a k p1 p2 p3, wI_n (by omega)], i2.2.1, i2.2.2⟩, i3⟩
  obtain ⟨v1, v2⟩ := hV i (by omega)
  show 0 ≤ (m.2.1 52 (40 * j + i)).toInt ∧ (m.2.1 52 (40 * j + i)).toInt < bc
  omega
theorem fnd10 {F : Nat} {s : List Sh} (hp : ∃ t, s = sB ++ t) {m : Mem} (hr : RF m) {tp : Int} {R : RPL} (ho : OGW m R) (hf : FLS tp (R.map Prod.fst)) (hl : R.length ≤ 300) {y : FR} (hy : FLR tp y.1 y.2) : ∀ (Q : RPL) i fuel, i + Q.length = R.length → Q.length < fuel → (∀ j, j < Q.length → gp R (i + j) = gp Q j) → nl_X10_odds_48 F s fuel m 23 (q64 y.1) (q64 y.2) (q32 (i : Nat)) = some (q64 (wt Q y : Nat), m) := by
  have l47 := ln47 hp
  have l48 := ln48 hp
  have l49 := ln49 hp
  have r48 := rf23_48 hr
  have r49 := rf23_49 hr
  have r50 := rf23_50 hr
  have yb := hy.b
  obtain ⟨o1, o2⟩ := ho
  intro Q
  induction Q with
  | nil =>
    intro i fuel hi hfu hQ
    obtain ⟨fuel, rfl⟩ : ∃ f, fuel = f + 1 := ⟨fuel - 1, by omega⟩
    have hi' : i = R.length := hi
    show nb_X10_odds_48 F s (nl_X10_odds_48 F s fuel) m 23 _ _ _ = some (q64 0, m)
    unfold nb_X10_odds_48
    simp (disch := omega) only [Option.bind_some, bindv, bindv0, bind2_s, bind3_s, ↓reduceIte, Bool.false_eq_true, rZM_0, rZM_1, rZP_0, rZP_1, ptZ_0, ptZ_1, c32i, c64i, ncI, Int.natCast_add, Int.natCast_mul, q32_neg, q64_neg, q32_add, q32_sub, q32_mul, q64_add, q64_sub, q64_mul, q32_64i, q64_32, q32_lt_t, q32_lt_f, q32_le_t, q32_le_f, q32_eq_t, q32_eq_f, q64_lt_t, q64_lt_f, q64_le_t, q64_le_f, q64_eq_t, q64_eq_f, rdI_i, rdL_i, rdR_i, rdN_i, stI_i, stL_i, stR_i, wI_s, wI_n, wL_s, wL_n, wI_2, wI_3, wL_1, wL_3, wR_1, wR_2, Int.toNat_natCast, tnO, tn_add, tn_sub, tn_mul, Nat.add_sub_cancel, Nat.add_zero, Nat.zero_add, lnO, win_t, win_f, o1]
  | cons p Q ih =>
    intro i fuel hi hfu hQ
    rw [List.length_cons] at hi hfu
    obtain ⟨fuel, rfl⟩ : ∃ f, fuel = f + 1 := ⟨fuel - 1, by omega⟩
    have hpi : gp R i = p := by
      have := hQ 0 (by rw [List.length_cons]; omega)
      rw [Nat.add_zero] at this
      exact this
    obtain ⟨z1, z2, z3⟩ := o2 i (by omega)
    have xf := hf.at (i := i) (by rw [List.length_map]; omega)
    rw [gt_map (by omega)] at xf
    rw [hpi] at z1 z2 z3 xf
    have xb := xf.b
    have ih := ih (i + 1) fuel (by omega) (by omega) (fun j hj => by
      have := hQ (j + 1) (by rw [List.length_cons]; omega)
      rw [show i + 1 + j = i + (j + 1) by omega]
      exact this)
    rw [Int.natCast_add] at ih
    show nb_X10_odds_48 F s (nl_X10_odds_48 F s fuel) m 23 _ _ _ = _
    by_cases c : p.1 = y
    · have e : wt (p :: Q) y = p.2 := by unfold wt lk; rw [if_pos c]; rfl
      rw [e]
      rw [c] at z1 z2
      unfold nb_X10_odds_48
      simp (disch := omega) only [Option.bind_some, bindv, bindv0, bind2_s, bind3_s, ↓reduceIte, Bool.false_eq_true, rZM_0, rZM_1, rZP_0, rZP_1, ptZ_0, ptZ_1, c32i, c64i, ncI, Int.natCast_add, Int.natCast_mul, q32_neg, q64_neg, q32_add, q32_sub, q32_mul, q64_add, q64_sub, q64_mul, q32_64i, q64_32, q32_lt_t, q32_lt_f, q32_le_t, q32_le_f, q32_eq_t, q32_eq_f, q64_lt_t, q64_lt_f, q64_le_t, q64_le_f, q64_eq_t, q64_eq_f, rdI_i, rdL_i, rdR_i, rdN_i, stI_i, stL_i, stR_i, wI_s, wI_n, wL_s, wL_n, wI_2, wI_3, wL_1, wL_3, wR_1, wR_2, Int.toNat_natCast, tnO, tn_add, tn_sub, tn_mul, Nat.add_sub_cancel, Nat.add_zero, Nat.zero_add, lnO, win_t, win_f, o1, r48, r49, r50, z1, z2, z3]
    · have e : wt (p :: Q) y = wt Q y := by
        show (if p.1 = y then some p.2 else lk Q y).getD 0 = _
        rw [if_neg c]; rfl
      rw [e, ← ih]
      unfold nb_X10_odds_48 nb_X10_odds_93
      by_cases c4 : p.1.1 = y.1
      · have c5 : p.1.2 ≠ y.2 := fun h => c (Prod.ext c4 h)
        rw [c4] at z1
        simp (disch := omega) only [Option.bind_some, bindv, bindv0, bind2_s, bind3_s, ↓reduceIte, Bool.false_eq_true, rZM_0, rZM_1, rZP_0, rZP_1, ptZ_0, ptZ_1, c32i, c64i, ncI, Int.natCast_add, Int.natCast_mul, q32_neg, q64_neg, q32_add, q32_sub, q32_mul, q64_add, q64_sub, q64_mul, q32_64i, q64_32, q32_lt_t, q32_lt_f, q32_le_t, q32_le_f, q32_eq_t, q32_eq_f, q64_lt_t, q64_lt_f, q64_le_t, q64_le_f, q64_eq_t, q64_eq_f, rdI_i, rdL_i, rdR_i, rdN_i, stI_i, stL_i, stR_i, wI_s, wI_n, wL_s, wL_n, wI_2, wI_3, wL_1, wL_3, wR_1, wR_2, Int.toNat_natCast, tnO, tn_add, tn_sub, tn_mul, Nat.add_sub_cancel, Nat.add_zero, Nat.zero_add, lnO, win_t, win_f, o1, r48, r49, z1, z2]
        first | done | rfl
      · simp (disch := omega) only [Option.bind_some, bindv, bindv0, bind2_s, bind3_s, ↓reduceIte, Bool.false_eq_true, rZM_0, rZM_1, rZP_0, rZP_1, ptZ_0, ptZ_1, c32i, c64i, ncI, Int.natCast_add, Int.natCast_mul, q32_neg, q64_neg, q32_add, q32_sub, q32_mul, q64_add, q64_sub, q64_mul, q32_64i, q64_32, q32_lt_t, q32_lt_f, q32_le_t, q32_le_f, q32_eq_t, q32_eq_f, q64_lt_t, q64_lt_f, q64_le_t, q64_le_f, q64_eq_t, q64_eq_f, rdI_i, rdL_i, rdR_i, rdN_i, stI_i, stL_i, stR_i, wI_s, wI_n, wL_s, wL_n, wI_2, wI_3, wL_1, wL_3, wR_1, wR_2, Int.toNat_natCast, tnO, tn_add, tn_sub, tn_mul, Nat.add_sub_cancel, Nat.add_zero, Nat.zero_add, lnO, win_t, win_f, o1, r48, r49, z1, z2]
        first | done | rfl
theorem wof9 {F : Nat} (hF : 20000 ≤ F) {s : List Sh} {m : Mem} {q : Nat} {tp : Int} {B : List FR} {R : RPL} {C : Nat → Int} (hq : QB s m q) (hL : LG m q (B ++ R.map Prod.fst) C) (hW : ∀ i, i < R.length → m.2.1 (q + 7) (B.length + i) = q64 ((gp R i).2 : Nat)) (hf : FLS tp (B ++ R.map Prod.fst)) (nd : (R.map Prod.fst).Nodup) (hn : B.length + R.length ≤ 511) {y : FR} (hy : FLR tp y.1 y.2) : n_X1_weightOf F s m (q + 1) (q32 y.1) (q32 y.2) (q32 B.length) = some (q64 (wt R y : Nat)) := by
  have hml : (R.map Prod.fst).length = R.length := List.length_map _
  have hl : (B ++ R.map Prod.fst).length = B.length + (R.map Prod.fst).length := List.length_append
  have sz := hL.2.1
  obtain ⟨q1, q2, q3, q4, q5, q6, q7, q8, q9, q10, q11, q12, q13, l2, l3, l4, l5, l6, l7, l8, l9⟩ := id hq
  obtain ⟨r, i1, i2⟩ := find9 hF hq hL hf hy (b := B.length) (e := (B ++ R.map Prod.fst).length) (by omega) (Nat.le_refl _)
  unfold n_X1_weightOf nb_X1_weightOf_0
  rcases i2 with ⟨rfl, i3⟩ | ⟨j, rfl, p1, p2, p3⟩
  · have e : wt R y = 0 := by
      unfold wt
      rw [lk_n.mpr (fun p hp he => ?_)]
      · rfl
      · obtain ⟨k, k1, k2⟩ := mem_gp hp
        refine i3 (B.length + k) (by omega) (by omega) ?_
        rw [gt_r, gt_map k1, k2]
        exact he
    rw [e]
    simp (disch := omega) only [Option.bind_some, bindv, bindv0, bind2_s, bind3_s, ↓reduceIte, Bool.false_eq_true, rZM_0, rZM_1, rZP_0, rZP_1, ptZ_0, ptZ_1, c32i, c64i, ncI, Int.natCast_add, Int.natCast_mul, q32_neg, q64_neg, q32_add, q32_sub, q32_mul, q64_add, q64_sub, q64_mul, q32_64i, q64_32, q32_lt_t, q32_lt_f, q32_le_t, q32_le_f, q32_eq_t, q32_eq_f, q64_lt_t, q64_lt_f, q64_le_t, q64_le_f, q64_eq_t, q64_eq_f, rdI_i, rdL_i, rdR_i, rdN_i, stI_i, stL_i, stR_i, wI_s, wI_n, wL_s, wL_n, wI_2, wI_3, wL_1, wL_3, wR_1, wR_2, Int.toNat_natCast, tnO, tn_add, tn_sub, tn_mul, Nat.add_sub_cancel, Nat.add_zero, Nat.zero_add, lnO, win_t, win_f, sz, i1]
  · have hgj : (gp R (j - B.length)).1 = y := by
      have := gt_r (L := B) (R := R.map Prod.fst) (i := j - B.length)
      rw [show B.length + (j - B.length) = j by omega, p3, gt_map (by omega)] at this
      exact this.symm
    have wj := hW (j - B.length) (by omega)
    rw [show B.length + (j - B.length) = j by omega] at wj
    have e : wt R y = (gp R (j - B.length)).2 := by
      unfold wt
      rw [lk_s nd (c := (gp R (j - B.length)).2) (by
        have := gp_mem (L := R) (i := j - B.length) (by omega)
        rw [show gp R (j - B.length) = (y, (gp R (j - B.length)).2) from Prod.ext hgj rfl] at this
        exact this)]
      rfl
    rw [e]
    simp (disch := omega) only [Option.bind_some, bindv, bindv0, bind2_s, bind3_s, ↓reduceIte, Bool.false_eq_true, rZM_0, rZM_1, rZP_0, rZP_1, ptZ_0, ptZ_1, c32i, c64i, ncI, Int.natCast_add, Int.natCast_mul, q32_neg, q64_neg, q32_add, q32_sub, q32_mul, q64_add, q64_sub, q64_mul, q32_64i, q64_32, q32_lt_t, q32_lt_f, q32_le_t, q32_le_f, q32_eq_t, q32_eq_f, q64_lt_t, q64_lt_f, q64_le_t, q64_le_f, q64_eq_t, q64_eq_f, rdI_i, rdL_i, rdR_i, rdN_i, stI_i, stL_i, stR_i, wI_s, wI_n, wL_s, wL_n, wI_2, wI_3, wL_1, wL_3, wR_1, wR_2, Int.toNat_natCast, tnO, tn_add, tn_sub, tn_mul, Nat.add_sub_cancel, Nat.add_zero, Nat.zero_add, lnO, win_t, win_f, sz, i1, q13, wj]
