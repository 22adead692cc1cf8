/-! odds, by the class -/
/-- the landings from B on are R's floors; their weights -/
def LHW (m : Mem) (q : Nat) (B : List FR) (P R : RPL) (bg : Nat) : Prop := (∃ C, LG m q (B ++ R.map Prod.fst) C) ∧ bg + P.length ≤ B.length ∧ (∀ i, i < P.length → gt B (bg + i) = (gp P i).1 ∧ m.2.1 (q + 7) (bg + i) = q64 ((gp P i).2 : Nat)) ∧ ∀ i, i < R.length → m.2.1 (q + 7) (B.length + i) = q64 ((gp R i).2 : Nat)
theorem addW9 {F : Nat} (hF : 20000 ≤ F) {s : List Sh} {m : Mem} {q : Nat} {tp : Int} {B : List FR} {P R : RPL} {bg : Nat} (hq : QB s m q) (h : LHW m q B P R bg) (hf : FLS tp (B ++ R.map Prod.fst)) (nd : (R.map Prod.fst).Nodup) {y : FR} (hy : FLR tp y.1 y.2) {w : Nat} (hn : B.length + R.length < 511) : ∃ m', n_X1_addWeight F s m (q + 1) (q32 y.1) (q32 y.2) (q32 B.length) (q64 (w : Nat)) = some ((), m') ∧ KCQ q m m' ∧ LHW m' q B P (addW R y w) bg ∧ FLS tp (B ++ (addW R y w).map Prod.fst) ∧ ((addW R y w).map Prod.fst).Nodup := by
  obtain ⟨⟨C, hL⟩, h1, h2, h3⟩ := h
  have hml : (R.map Prod.fst).length = R.length := List.length_map _
  have hl : (B ++ R.map Prod.fst).length = B.length + (R.map Prod.fst).length := List.length_append
  have sz := hL.2.1
  obtain ⟨q1, q2, q3, q4, q5, q6, q7, q8, q9, q10, q11, q12, q13, l2, l3, l4, l5, l6, l7, l8, l9⟩ := id hq
  obtain ⟨r, i1, i2⟩ := find9 hF hq hL hf hy (b := B.length) (e := (B ++ R.map Prod.fst).length) (by omega) (Nat.le_refl _)
  by_cases cy : y ∈ R.map Prod.fst
  · obtain ⟨k, k1, k2⟩ := mem_gt cy
    rcases i2 with ⟨-, i3⟩ | ⟨j, rfl, p1, p2, p3⟩
    · exact absurd (by rw [gt_r]; exact k2) (i3 (B.length + k) (by omega) (by omega))
    · have hgj : (gp R (j - B.length)).1 = y := by
        have := gt_r (L := B) (R := R.map Prod.fst) (i := j - B.length)
        rw [show B.length + (j - B.length) = j by omega, p3, gt_map (by omega)] at this
        exact this.symm
      obtain ⟨a1, a2, a3⟩ := addW_old (w := w) nd (j := j - B.length) (by omega) hgj
      have wj := h3 (j - B.length) (by omega)
      rw [show B.length + (j - B.length) = j by omega] at wj
      refine ⟨wL m (q + 7) j (q64 (((gp R (j - B.length)).2 : Int) + w)), ?_, ⟨fun _ _ _ _ => rfl, fun a k _ _ hk => by rw [wL_n (by omega)], rfl⟩, ⟨⟨C, by rw [a1]; exact hL.k (fun _ _ _ _ => rfl)⟩, h1, fun i hi => ?_, fun i hi => ?_⟩, by rw [a1]; exact hf, by rw [a1]; exact nd⟩
      · unfold n_X1_addWeight nb_X1_addWeight_0 nb_X1_addWeight_48
        simp (disch := omega) only [Option.bind_some, bindv, bindv0, bind2_s, bind3_s, ↓reduceIte, Bool.false_eq_true, rZM_0, rZM_1, rZP_0, rZP_1, ptZ_0, ptZ_1, c32i, c64i, ncI, Int.natCast_add, Int.natCast_mul, q32_neg, q64_neg, q32_add, q32_sub, q32_mul, q64_add, q64_sub, q64_mul, q32_64i, q64_32, q32_lt_t, q32_lt_f, q32_le_t, q32_le_f, q32_eq_t, q32_eq_f, q64_lt_t, q64_lt_f, q64_le_t, q64_le_f, q64_eq_t, q64_eq_f, rdI_i, rdL_i, rdR_i, rdN_i, stI_i, stL_i, stR_i, wI_s, wI_n, wL_s, wL_n, wI_2, wI_3, wL_1, wL_3, wR_1, wR_2, Int.toNat_natCast, tnO, tn_add, tn_sub, tn_mul, Nat.add_sub_cancel, Nat.add_zero, Nat.zero_add, lnO, win_t, win_f, sz, i1, q13, wj]
      · rw [wL_n (by omega)]; exact h2 i hi
      · rw [a2] at hi
        rw [a3 i]
        by_cases c : i = j - B.length
        · rw [if_pos c, show B.length + i = j by omega, wL_s, Int.natCast_add]
        · rw [if_neg c, wL_n (by omega)]; exact h3 i hi
  · have hr : r = -1 := by
      rcases i2 with ⟨h, -⟩ | ⟨j, -, p1, p2, p3⟩
      · exact h
      · refine absurd ?_ cy
        have := gt_r (L := B) (R := R.map Prod.fst) (i := j - B.length)
        rw [show B.length + (j - B.length) = j by omega, p3] at this
        rw [this]
        exact gt_mem (by omega)
    rw [hr] at i1
    have aw := addW_new (w := w) cy
    have em : (R ++ [(y, w)]).map Prod.fst = R.map Prod.fst ++ [y] := by rw [List.map_append]; rfl
    obtain ⟨m1, p1, p2, p3, p4⟩ := putQ9 hq hL y (by omega) (-1)
    have q13' : m1.2.2 (q + 1) 3 = some (q + 7) := by rw [p3]; exact q13
    rw [aw, em]
    refine ⟨wL (wL m1 (q + 7) (B ++ R.map Prod.fst).length (q64 0)) (q + 7) (B ++ R.map Prod.fst).length (q64 w), ?_, ⟨fun a k _ hk => p4 a k (by omega), fun a k _ _ hk => by rw [wL_n (by omega), wL_n (by omega), p3], by rw [wL_3, wL_3, p3]⟩, ⟨⟨_, by rw [em, ← List.append_assoc]; exact p2.k (fun _ _ _ _ => rfl)⟩, h1, fun i hi => ?_, fun i hi => ?_⟩, by rw [← List.append_assoc]; exact hf.ap (FLS.one hy), ?_⟩
    · unfold n_X1_addWeight nb_X1_addWeight_0 nb_X1_addWeight_48
      simp (disch := omega) only [Option.bind_some, bindv, bindv0, bind2_s, bind3_s, ↓reduceIte, Bool.false_eq_true, rZM_0, rZM_1, rZP_0, rZP_1, ptZ_0, ptZ_1, c32i, c64i, ncI, Int.natCast_add, Int.natCast_mul, q32_neg, q64_neg, q32_add, q32_sub, q32_mul, q64_add, q64_sub, q64_mul, q32_64i, q64_32, q32_lt_t, q32_lt_f, q32_le_t, q32_le_f, q32_eq_t, q32_eq_f, q64_lt_t, q64_lt_f, q64_le_t, q64_le_f, q64_eq_t, q64_eq_f, rdI_i, rdL_i, rdR_i, rdN_i, stI_i, stL_i, stR_i, wI_s, wI_n, wL_s, wL_n, wI_2, wI_3, wL_1, wL_3, wR_1, wR_2, Int.toNat_natCast, tnO, tn_add, tn_sub, tn_mul, Nat.add_sub_cancel, Nat.add_zero, Nat.zero_add, lnO, win_t, win_f, sz, i1, p1, q13', wL_s]
      rw [show (0 : Int) + (w : Int) = w by omega]
    · rw [wL_n (by omega), wL_n (by omega), p3]; exact h2 i hi
    · rw [List.length_append, List.length_singleton] at hi
      by_cases c : i = R.length
      · rw [show B.length + i = (B ++ R.map Prod.fst).length by omega, wL_s, c, gp_e]
      · rw [wL_n (by omega), wL_n (by omega), p3, gp_l (by omega)]; exact h3 i (by omega)
    · exact List.nodup_append.mpr ⟨nd, by simp, fun a ha b hb => by rw [List.mem_singleton.mp hb]; exact fun h => cy (by rw [← h]; exact ha)⟩
theorem brn9 {F : Nat} (hF : 20000 ≤ F) {s : List Sh} {m : Mem} {ow : Nat → Nat} {nw q : Nat} {al : Nat → Int32} {bc sk b : Nat} (hc : RC s m ow nw q al bc) (hsk : m.1 nw 1 = q32 sk) (hs9 : sk ≤ 9) (hb : b ≤ 100) {B : List FR} {P R : RPL} {bg : Nat} (h : LHW m q B P R bg) (hf : FLS (A al 1) (B ++ R.map Prod.fst)) (nd : (R.map Prod.fst).Nodup) {i : Nat} (hi : i < P.length) (hn : B.length + R.length + 2 ≤ 511) : ∃ m', n_X5_branch F s m q (q32 (bg + i : Nat)) (q32 b) (q32 B.length) = some ((), m') ∧ KCQ q m m' ∧ LHW m' q B P (BRN al sk b (gp P i) R) bg ∧ FLS (A al 1) (B ++ (BRN al sk b (gp P i) R).map Prod.fst) ∧ ((BRN al sk b (gp P i) R).map Prod.fst).Nodup := by
  obtain ⟨⟨C, hL⟩, h1, h2, h3⟩ := id h
  have hml : (R.map Prod.fst).length = R.length := List.length_map _
  have hl : (B ++ R.map Prod.fst).length = B.length + (R.map Prod.fst).length := List.length_append
  obtain ⟨q1, q2, q3, q4, q5, q6, q7, q8, q9, q10, q11, q12, q13, l2, l3, l4, l5, l6, l7, l8, l9⟩ := hc.qb
  have h5 := hc.2.2.1
  obtain ⟨g1, g2⟩ := h2 i hi
  have hx := hf.at (i := bg + i) (by omega)
  obtain ⟨u1, u2, -⟩ := hL.2.2.1 (bg + i) (by omega)
  rw [gt_l (by omega), g1] at hx u1 u2
  have xb := hx.b
  have o1 := hc.out (i := 0) (by omega)
  have hn2 := hc.1.1.2.2.2.1.1
  obtain ⟨m1, e1, e2, e3, e4, e5⟩ := rlead hF hc hL hx (b := (b : Int)) (by omega)
  have q0 : m1.2.2 q 0 = some (q + 1) := by rw [e2.2.2]; exact q4
  have q40 : m1.2.2 q 4 = some 16 := by rw [e2.2.2]; exact q7
  have h51 : m1.2.2 q 5 = some nw := by rw [e2.2.2]; exact h5
  have sk1 : m1.1 nw 1 = q32 sk := by rw [e2.1 nw 1 (by omega) (by omega)]; exact hsk
  have le := LE_b al b (gp P i).1
  obtain ⟨mL, eL, kL⟩ : ∃ mL : Mem, (∀ k, mL.2.1 (q + 7) k = m.2.1 (q + 7) k) ∧ mL = m1 := ⟨m1, fun k => by
    obtain ⟨m', z1, z2, z3⟩ := lead9 (F := F) (by omega) hc.1.1 (by have := hc.1.2.1; rw [hc.2.2.2.1] at this; exact this) (x := (gp P i).1) hx.ok (b := (b : Int)) (by unfold B31; omega)
    have : m' = m1 := by
      have := z1.symm.trans e1
      exact (Prod.mk.inj (Option.some.inj this)).2
    rw [← this]
    exact z2.2.1 (q + 7) k (by omega), rfl⟩
  subst kL
  have lh1 : LHW mL q B P R bg := ⟨⟨C, e4⟩, h1, fun i hi => ⟨(h2 i hi).1, by rw [eL]; exact (h2 i hi).2⟩, fun i hi => by rw [eL]; exact h3 i hi⟩
  generalize hgi : bg + i = g at *
  unfold BRN
  by_cases c0 : (LE al b (gp P i).1).1 = 0
  · rw [if_pos c0]
    rw [c0] at e1
    obtain ⟨a0, a1, ay⟩ := e5 c0
    have yb := ay.b
    obtain ⟨m2, v1, v2, v3, v4, v5⟩ := addW9 hF e3.qb lh1 hf nd ay (w := (gp P i).2 * (10 - sk)) (by omega)
    have hc2 := e3.k v2
    have h52 := hc2.2.2.1
    have q02 := hc2.qb.2.2.2.1
    have sk2 : m2.1 nw 1 = q32 sk := by rw [v2.1 nw 1 (by omega) (by omega)]; exact sk1
    have ew : ((gp P i).2 : Int) * (10 - sk) = (((gp P i).2 * (10 - sk) : Nat) : Int) := by rw [Int.natCast_mul, Int.natCast_sub (by omega)]; rfl
    by_cases cs : 0 < sk
    · rw [if_pos cs]
      have al1 := addW_len R (LE al b (gp P i).1).2 ((gp P i).2 * (10 - sk))
      obtain ⟨m3, w1, w2, w3, w4, w5⟩ := addW9 hF hc2.qb v3 v4 v5 hx (w := (gp P i).2 * sk) (by omega)
      refine ⟨m3, ?_, (e2.tr v2).tr w2, w3, w4, w5⟩
      have ew2 : ((gp P i).2 : Int) * sk = (((gp P i).2 * sk : Nat) : Int) := by rw [Int.natCast_mul]
      rw [← ew] at v1
      rw [← ew2] at w1
      unfold n_X5_branch nb_X5_branch_0
      simp (disch := omega) only [Option.bind_some, bindv, bindv0, bind2_s, bind3_s, ↓reduceIte, Bool.false_eq_true, rZM_0, rZM_1, rZP_0, rZP_1, ptZ_0, ptZ_1, c32i, c64i, ncI, Int.natCast_add, Int.natCast_mul, q32_neg, q64_neg, q32_add, q32_sub, q32_mul, q64_add, q64_sub, q64_mul, q32_64i, q64_32, q32_lt_t, q32_lt_f, q32_le_t, q32_le_f, q32_eq_t, q32_eq_f, q64_lt_t, q64_lt_f, q64_le_t, q64_le_f, q64_eq_t, q64_eq_f, rdI_i, rdL_i, rdR_i, rdN_i, stI_i, stL_i, stR_i, wI_s, wI_n, wL_s, wL_n, wI_2, wI_3, wL_1, wL_3, wR_1, wR_2, Int.toNat_natCast, tnO, tn_add, tn_sub, tn_mul, Nat.add_sub_cancel, Nat.add_zero, Nat.zero_add, lnO, win_t, win_f, q4, q13, g2, q8, q9, u1, u2, q7, h5, e1, q0, q40, h51, a0, a1, sk1, v1, h52, sk2, q02, w1]
    · rw [if_neg cs]
      refine ⟨m2, ?_, e2.tr v2, v3, v4, v5⟩
      have hs0 : sk = 0 := by omega
      rw [← ew] at v1
      unfold n_X5_branch nb_X5_branch_0
      simp (disch := omega) only [Option.bind_some, bindv, bindv0, bind2_s, bind3_s, ↓reduceIte, Bool.false_eq_true, rZM_0, rZM_1, rZP_0, rZP_1, ptZ_0, ptZ_1, c32i, c64i, ncI, Int.natCast_add, Int.natCast_mul, q32_neg, q64_neg, q32_add, q32_sub, q32_mul, q64_add, q64_sub, q64_mul, q32_64i, q64_32, q32_lt_t, q32_lt_f, q32_le_t, q32_le_f, q32_eq_t, q32_eq_f, q64_lt_t, q64_lt_f, q64_le_t, q64_le_f, q64_eq_t, q64_eq_f, rdI_i, rdL_i, rdR_i, rdN_i, stI_i, stL_i, stR_i, wI_s, wI_n, wL_s, wL_n, wI_2, wI_3, wL_1, wL_3, wR_1, wR_2, Int.toNat_natCast, tnO, tn_add, tn_sub, tn_mul, Nat.add_sub_cancel, Nat.add_zero, Nat.zero_add, lnO, win_t, win_f, q4, q13, g2, q8, q9, u1, u2, q7, h5, e1, q0, q40, h51, a0, a1, sk1, v1, h52, sk2, q02]
  · rw [if_neg c0]
    obtain ⟨m2, v1, v2, v3, v4, v5⟩ := addW9 hF e3.qb lh1 hf nd hx (w := (gp P i).2 * 10) (by omega)
    refine ⟨m2, ?_, e2.tr v2, v3, v4, v5⟩
    rw [Int.natCast_mul] at v1
    unfold n_X5_branch nb_X5_branch_0
    simp (disch := omega) only [Option.bind_some, bindv, bindv0, bind2_s, bind3_s, ↓reduceIte, Bool.false_eq_true, rZM_0, rZM_1, rZP_0, rZP_1, ptZ_0, ptZ_1, c32i, c64i, ncI, Int.natCast_add, Int.natCast_mul, q32_neg, q64_neg, q32_add, q32_sub, q32_mul, q64_add, q64_sub, q64_mul, q32_64i, q64_32, q32_lt_t, q32_lt_f, q32_le_t, q32_le_f, q32_eq_t, q32_eq_f, q64_lt_t, q64_lt_f, q64_le_t, q64_le_f, q64_eq_t, q64_eq_f, rdI_i, rdL_i, rdR_i, rdN_i, stI_i, stL_i, stR_i, wI_s, wI_n, wL_s, wL_n, wI_2, wI_3, wL_1, wL_3, wR_1, wR_2, Int.toNat_natCast, tnO, tn_add, tn_sub, tn_mul, Nat.add_sub_cancel, Nat.add_zero, Nat.zero_add, lnO, win_t, win_f, q4, q13, g2, q8, q9, u1, u2, q7, h5, e1, q0]
    first | done | exact v1 | (rw [show (10 : Int) = ((10 : Nat) : Int) from rfl, v1]; rfl)
