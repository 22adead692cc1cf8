/-! odds, by the reference -/
def OGW (m : Mem) (R : RPL) : Prop := m.1 23 51 = q32 R.length ∧ ∀ i, i < R.length → m.1 47 i = q32 (gp R i).1.1 ∧ m.1 48 i = q32 (gp R i).1.2 ∧ m.2.1 49 i = q64 ((gp R i).2 : Nat)
def KO (m m' : Mem) : Prop := (∀ a k, a ≠ 47 → a ≠ 48 → (a ≠ 23 ∨ (k ≠ 51 ∧ k ≠ 21)) → m'.1 a k = m.1 a k) ∧ (∀ a k, (a ≠ 23 ∨ (k ≠ 15 ∧ k ≠ 16)) → a ≠ 28 → a ≠ 29 → a ≠ 49 → m'.2.1 a k = m.2.1 a k) ∧ m'.2.2 = m.2.2
theorem KO.rf (m : Mem) : KO m m := ⟨fun _ _ _ _ _ => rfl, fun _ _ _ _ _ _ => rfl, rfl⟩
theorem KO.tr {m m1 m2 : Mem} (h : KO m m1) (h2 : KO m1 m2) : KO m m2 := ⟨fun a k p r t => (h2.1 a k p r t).trans (h.1 a k p r t), fun a k p r t u => (h2.2.1 a k p r t u).trans (h.2.1 a k p r t u), h2.2.2.trans h.2.2⟩
theorem KO.sc {m m' : Mem} (h : KO m m') : SC m m' := ⟨fun a p q => funext fun k => h.1 a k (by unfold Fx at p; omega) (by unfold Fx at p; omega) (Or.inl q), ⟨h.1 _ _ (by omega) (by omega) (by omega), h.1 _ _ (by omega) (by omega) (by omega), h.1 _ _ (by omega) (by omega) (by omega)⟩, fun a p q => funext fun k => h.2.1 a k (Or.inl q) (by unfold Fx at p; omega) (by unfold Fx at p; omega) (by unfold Fx at p; omega), h.2.2⟩
theorem K10.ko {m m' : Mem} (h : K10 m m') : KO m m' := ⟨fun a k p r t => h.1 a k (by omega), fun a k p r t _ => h.2.1 a k ⟨p, r, t⟩, h.2.2⟩
theorem comL10 {F : Nat} {s : List Sh} (hp : ∃ t, s = sB ++ t) {m : Mem} (hr : RF m) {tp : Int} {R : RPL} (ho : OGW m R) (hf : FLS tp (R.map Prod.fst)) (nd : (R.map Prod.fst).Nodup) (hl : R.length < 300) {y : FR} (hy : FLR tp y.1 y.2) {w : Nat} : ∀ n j fuel, j + n = R.length → n < fuel → (∀ i, i < j → (gp R i).1 ≠ y) → ∃ m', nl_X10_comes_11 F s fuel m 23 (q64 y.1) (q64 y.2) (q64 (w : Nat)) (q32 (j : Nat)) = some ((), m') ∧ KO m m' ∧ OGW m' (addW R y w) := by
  have l47 := ln47 hp
  have l48 := ln48 hp
  have l49 := ln49 hp
  have r48 := rf23_48 hr
  have r49 := rf23_49 hr
  have r50 := rf23_50 hr
  have yb := hy.b
  obtain ⟨o1, o2⟩ := ho
  intro n
  induction n with
  | zero =>
    intro j fuel hj hfu h
    obtain ⟨fuel, rfl⟩ : ∃ f, fuel = f + 1 := ⟨fuel - 1, by omega⟩
    have hj' : j = R.length := by omega
    subst hj'
    have cy : ¬ y ∈ R.map Prod.fst := fun hm => by
      obtain ⟨k, k1, k2⟩ := mem_gt hm
      rw [List.length_map] at k1
      rw [gt_map k1] at k2
      exact h k k1 k2
    rw [addW_new cy]
    refine ⟨wL (wI (wL (wI (wI m 47 R.length (q32 y.1)) 48 R.length (q32 y.2)) 49 R.length (q64 0)) 23 51 (q32 (R.length + 1))) 49 R.length (q64 w), ?_, ⟨fun a k p1 p2 p3 => ?_, fun a k p1 p2 p3 p4 => ?_, rfl⟩, ?_, fun i hi => ?_⟩
    · show nb_X10_comes_11 F s (nl_X10_comes_11 F s fuel) m 23 _ _ _ _ = _
      unfold nb_X10_comes_11 nb_X10_comes_52 nb_X10_comes_97
      simp (disch := omega) only [Option.bind_some, bindv, bindv0, bind2_s, bind3_s, ↓reduceIte, Bool.false_eq_true, rZM_0, rZM_1, rZP_0, rZP_1, ptZ_0, ptZ_1, c32i, c64i, ncI, Int.natCast_add, Int.natCast_mul, q32_neg, q64_neg, q32_add, q32_sub, q32_mul, q64_add, q64_sub, q64_mul, q32_64i, q64_32, q32_lt_t, q32_lt_f, q32_le_t, q32_le_f, q32_eq_t, q32_eq_f, q64_lt_t, q64_lt_f, q64_le_t, q64_le_f, q64_eq_t, q64_eq_f, rdI_i, rdL_i, rdR_i, rdN_i, stI_i, stL_i, stR_i, wI_s, wI_n, wL_s, wL_n, wI_2, wI_3, wL_1, wL_3, wR_1, wR_2, Int.toNat_natCast, tnO, tn_add, tn_sub, tn_mul, Nat.add_sub_cancel, Nat.add_zero, Nat.zero_add, lnO, win_t, win_f, o1, r48, r49, r50, q64_32, wL_s]
      rw [show (0 : Int) + (w : Int) = w by omega]
    · show (wI (wL (wI (wI m 47 R.length (q32 y.1)) 48 R.length (q32 y.2)) 49 R.length (q64 0)) 23 51 (q32 (R.length + 1))).1 a k = _
      rw [wI_n (by omega)]
      show (wI (wI m 47 R.length (q32 y.1)) 48 R.length (q32 y.2)).1 a k = _
      rw [wI_n (by omega), wI_n (by omega)]
    · rw [wL_n (by omega)]
      show (wL (wI (wI m 47 R.length (q32 y.1)) 48 R.length (q32 y.2)) 49 R.length (q64 0)).2.1 a k = _
      rw [wL_n (by omega)]
      rfl
    · rw [List.length_append, List.length_singleton, Int.natCast_add]
      show (wI (wL (wI (wI m 47 R.length (q32 y.1)) 48 R.length (q32 y.2)) 49 R.length (q64 0)) 23 51 (q32 (R.length + 1))).1 23 51 = _
      rw [wI_s]; rfl
    · rw [List.length_append, List.length_singleton] at hi
      show (wI (wL (wI (wI m 47 R.length (q32 y.1)) 48 R.length (q32 y.2)) 49 R.length (q64 0)) 23 51 (q32 (R.length + 1))).1 47 i = _ ∧ (wI (wL (wI (wI m 47 R.length (q32 y.1)) 48 R.length (q32 y.2)) 49 R.length (q64 0)) 23 51 (q32 (R.length + 1))).1 48 i = _ ∧ _
      rw [wI_n (by omega), wI_n (by omega)]
      show (wI (wI m 47 R.length (q32 y.1)) 48 R.length (q32 y.2)).1 47 i = _ ∧ (wI (wI m 47 R.length (q32 y.1)) 48 R.length (q32 y.2)).1 48 i = _ ∧ _
      by_cases ci : i = R.length
      · subst ci
        rw [gp_e, wI_n (by omega), wI_s, wI_s, wL_s]
        exact ⟨rfl, rfl, rfl⟩
      · obtain ⟨z1, z2, z3⟩ := o2 i (by omega)
        rw [gp_l (by omega), wI_n (by omega), wI_n (by omega), wI_n (by omega), wI_n (by omega), wL_n (by omega)]
        refine ⟨z1, z2, ?_⟩
        show (wL (wI (wI m 47 R.length (q32 y.1)) 48 R.length (q32 y.2)) 49 R.length (q64 0)).2.1 49 i = _
        rw [wL_n (by omega)]
        exact z3
  | succ n ih =>
    intro j fuel hj hfu h
    obtain ⟨fuel, rfl⟩ : ∃ f, fuel = f + 1 := ⟨fuel - 1, by omega⟩
    obtain ⟨z1, z2, z3⟩ := o2 j (by omega)
    have xf := hf.at (i := j) (by rw [List.length_map]; omega)
    rw [gt_map (by omega)] at xf
    have xb := xf.b
    by_cases c : (gp R j).1 = y
    · obtain ⟨a1, a2, a3⟩ := addW_old (w := w) nd (j := j) (by omega) c
      rw [c] at z1 z2
      refine ⟨wL m 49 j (q64 (((gp R j).2 : Int) + w)), ?_, ⟨fun _ _ _ _ _ => rfl, fun a k p1 p2 p3 p4 => by rw [wL_n (by omega)], rfl⟩, by rw [a2]; exact o1, fun i hi => ?_⟩
      · show nb_X10_comes_11 F s (nl_X10_comes_11 F s fuel) m 23 _ _ _ _ = _
        unfold nb_X10_comes_11 nb_X10_comes_52 nb_X10_comes_97
        simp (disch := omega) only [Option.bind_some, bindv, bindv0, bind2_s, bind3_s, ↓reduceIte, Bool.false_eq_true, rZM_0, rZM_1, rZP_0, rZP_1, ptZ_0, ptZ_1, c32i, c64i, ncI, Int.natCast_add, Int.natCast_mul, q32_neg, q64_neg, q32_add, q32_sub, q32_mul, q64_add, q64_sub, q64_mul, q32_64i, q64_32, q32_lt_t, q32_lt_f, q32_le_t, q32_le_f, q32_eq_t, q32_eq_f, q64_lt_t, q64_lt_f, q64_le_t, q64_le_f, q64_eq_t, q64_eq_f, rdI_i, rdL_i, rdR_i, rdN_i, stI_i, stL_i, stR_i, wI_s, wI_n, wL_s, wL_n, wI_2, wI_3, wL_1, wL_3, wR_1, wR_2, Int.toNat_natCast, tnO, tn_add, tn_sub, tn_mul, Nat.add_sub_cancel, Nat.add_zero, Nat.zero_add, lnO, win_t, win_f, o1, r48, r49, r50, z1, z2, z3]
      · rw [a2] at hi
        obtain ⟨v1, v2, v3⟩ := o2 i hi
        have ek : (gp (addW R y w) i).1 = (gp R i).1 := by
          rw [← gt_map (by omega), ← gt_map hi, a1]
        rw [ek, a3 i]
        refine ⟨v1, v2, ?_⟩
        by_cases ci : i = j
        · rw [if_pos ci, ci, wL_s, Int.natCast_add]
        · rw [if_neg ci, wL_n (by omega)]; exact v3
    · obtain ⟨m', i1, i2, i3⟩ := ih (j + 1) fuel (by omega) (by omega) (fun i hi => by
        by_cases e : i = j
        · rw [e]; exact c
        · exact h i (by omega))
      refine ⟨m', ?_, i2, i3⟩
      rw [← i1, Int.natCast_add]
      show nb_X10_comes_11 F s (nl_X10_comes_11 F s fuel) m 23 _ _ _ _ = _
      unfold nb_X10_comes_11 nb_X10_comes_46
      by_cases c4 : (gp R j).1.1 = y.1
      · have c5 : (gp R j).1.2 ≠ y.2 := fun h => c (Prod.ext c4 h)
        rw [c4] at z1
        simp (disch := omega) only [Option.bind_some, bindv, bindv0, bind2_s, bind3_s, ↓reduceIte, Bool.false_eq_true, rZM_0, rZM_1, rZP_0, rZP_1, ptZ_0, ptZ_1, c32i, c64i, ncI, Int.natCast_add, Int.natCast_mul, q32_neg, q64_neg, q32_add, q32_sub, q32_mul, q64_add, q64_sub, q64_mul, q32_64i, q64_32, q32_lt_t, q32_lt_f, q32_le_t, q32_le_f, q32_eq_t, q32_eq_f, q64_lt_t, q64_lt_f, q64_le_t, q64_le_f, q64_eq_t, q64_eq_f, rdI_i, rdL_i, rdR_i, rdN_i, stI_i, stL_i, stR_i, wI_s, wI_n, wL_s, wL_n, wI_2, wI_3, wL_1, wL_3, wR_1, wR_2, Int.toNat_natCast, tnO, tn_add, tn_sub, tn_mul, Nat.add_sub_cancel, Nat.add_zero, Nat.zero_add, lnO, win_t, win_f, o1, r48, r49, z1, z2]
        first | done | rfl
      · simp (disch := omega) only [Option.bind_some, bindv, bindv0, bind2_s, bind3_s, ↓reduceIte, Bool.false_eq_true, rZM_0, rZM_1, rZP_0, rZP_1, ptZ_0, ptZ_1, c32i, c64i, ncI, Int.natCast_add, Int.natCast_mul, q32_neg, q64_neg, q32_add, q32_sub, q32_mul, q64_add, q64_sub, q64_mul, q32_64i, q64_32, q32_lt_t, q32_lt_f, q32_le_t, q32_le_f, q32_eq_t, q32_eq_f, q64_lt_t, q64_lt_f, q64_le_t, q64_le_f, q64_eq_t, q64_eq_f, rdI_i, rdL_i, rdR_i, rdN_i, stI_i, stL_i, stR_i, wI_s, wI_n, wL_s, wL_n, wI_2, wI_3, wL_1, wL_3, wR_1, wR_2, Int.toNat_natCast, tnO, tn_add, tn_sub, tn_mul, Nat.add_sub_cancel, Nat.add_zero, Nat.zero_add, lnO, win_t, win_f, o1, r48, r49, z1, z2]
        first | done | rfl
theorem GOD_len {al : Nat → Int32} {sk : Nat} {B : Nat → Nat} : ∀ n k x w R, (GOD al sk B n k x w R).length ≤ R.length + 2 ^ n := by
  intro n
  induction n with
  | zero =>
    intro k x w R
    have := addW_len R x w
    unfold GOD
    split
    · omega
    · show _ ≤ _ + 1; omega
  | succ n ih =>
    intro k x w R
    have e : 2 ^ (n + 1) = 2 ^ n * 2 := Nat.pow_succ ..
    unfold GOD
    split
    · omega
    · split
      · have h1 := ih (k + 1) x (w * sk) R
        have h2 := ih (k + 1) (LE al (B k : Nat) x).2 (w * (10 - sk)) (GOD al sk B n (k + 1) x (w * sk) R)
        omega
      · have h1 := ih (k + 1) x (10 * w) R
        omega
theorem FLS.addw {tp : Int} {R : RPL} {x : FR} {w : Nat} (h : FLS tp (R.map Prod.fst)) (hx : FLR tp x.1 x.2) : FLS tp ((addW R x w).map Prod.fst) := fun y hy => by
  rcases addW_k.mp hy with h' | h'
  · exact h y h'
  · rw [h']; exact hx
theorem FLS.god {al : Nat → Int32} (hw : WA al) {sk : Nat} {B : Nat → Nat} : ∀ n k x w R, FLR (A al 1) x.1 x.2 → FLS (A al 1) (R.map Prod.fst) → FLS (A al 1) ((GOD al sk B n k x w R).map Prod.fst) := by
  intro n
  induction n with
  | zero =>
    intro k x w R hx h
    unfold GOD
    split
    · exact h
    · exact h.addw hx
  | succ n ih =>
    intro k x w R hx h
    unfold GOD
    split
    · exact h
    · split
      · next c => exact ih _ _ _ _ (LE_flr hw hx.ok c) (ih _ _ _ _ hx h)
      · exact ih _ _ _ _ hx h
