/-! PURE: rows in trays; judge, perform, day -/
/-- the reference keeps its trays -/
def TK (m m' : Mem) : Prop := (∀ k, m'.1 50 k = m.1 50 k) ∧ (∀ k, m'.1 51 k = m.1 51 k) ∧ ∀ k, m'.2.1 52 k = m.2.1 52 k
/-- tray j stands at t with sz numbers -/
def TR (s : List Sh) (m : Mem) (j t sz : Nat) : Prop := j < 4 ∧ m.2.2 13 j = some t ∧ 53 ≤ t ∧ ok s t 7 ∧ m.2.2 t 2 = some (t + 1) ∧ ln s (t + 1) = 40 ∧ sz ≤ 40 ∧ m.1 t 1 = q32 sz ∧ m.1 51 j = q32 sz ∧ (∃ so : Nat, so ≤ 3 ∧ m.1 t 0 = q32 so ∧ m.1 50 j = q32 so) ∧ ∀ k, k < sz → m.2.1 (t + 1) k = m.2.1 52 (40 * j + k)
theorem ST.tray {s : List Sh} {m : Mem} {ow : Nat → Nat} {nw : Nat} (h : ST s m ow nw) {j : Nat} (hj : j < 4) : (m.2.2 13 j = none ∧ m.1 50 j = q32 (-1)) ∨ ∃ t sz, TR s m j t sz := by
  rcases h.2.2.2.2 j hj with h1 | ⟨t, h1, so, sz, a1, a2, a3, a4, a5, a6, a7⟩
  · exact Or.inl h1
  · obtain ⟨⟨b1, b2, b3, b4⟩, -⟩ := h.1.2.2.2.2.2.2.2.2.2.2.1 j t hj h1
    exact Or.inr ⟨t, sz, hj, h1, b1, b2, b3, b4, a2, a4, a6, ⟨so, a1, a3, a5⟩, a7⟩
theorem TR.sc {s : List Sh} {m m' : Mem} {j t sz : Nat} (h : TR s m j t sz) (e : SC m m') : TR s m' j t sz := by
  obtain ⟨h1, h2, h3, h4, h5, h6, h7, h8, h9, ⟨so, k1, k2, k3⟩, h10⟩ := h
  refine ⟨h1, by rw [e.r]; exact h2, h3, h4, by rw [e.r]; exact h5, h6, h7, by rw [e.i _ _ (by omega)]; exact h8, by rw [e.i _ _ (by omega)]; exact h9, ⟨so, k1, by rw [e.i _ _ (by omega)]; exact k2, by rw [e.i _ _ (by omega)]; exact k3⟩, fun k hk => ?_⟩
  rw [e.l _ _ (by omega), e.l _ _ (by omega)]
  exact h10 k hk
theorem row_cases {s : List Sh} {m m' : Mem} {ow : Nat → Nat} {nw : Nat} (h : ST s m ow nw) (hk : TK m m') (hr' : RF m') {i : Int} (hi : B31 i) {l : Nat} (hl : l = 1 ∨ l = 2) : (∃ r : Int, -10 ≤ r ∧ r ≤ 10 ∧ r ≠ 0 ∧ n_X9_refusedRow s m 0 (q32 i) (q32 l) = some (q32 r) ∧ n_X10_noRow s m' 23 (q32 i) (q32 (if l = 1 then 8 else 2)) = some (q32 r)) ∨ ∃ j t sz : Nat, i = j ∧ TR s m j t sz ∧ l ≤ sz ∧ sz ≤ 8 ∧ n_X9_refusedRow s m 0 (q32 i) (q32 l) = some (q32 0) ∧ n_X10_noRow s m' 23 (q32 i) (q32 (if l = 1 then 8 else 2)) = some (q32 0) := by
  have hp := h.1.hp
  have r7 := rf0_7 h.1.rf
  have r52 := rf23_52 hr'
  have r53 := rf23_53 hr'
  have l13 := ln13 hp
  have l50 := ln50 hp
  have l51 := ln51 hp
  by_cases c : 0 ≤ i ∧ i < 4
  · obtain ⟨j, rfl⟩ := Int.eq_ofNat_of_zero_le c.1
    rcases h.tray (j := j) (by omega) with ⟨t1, t2⟩ | ⟨t, sz, ht⟩
    · have t2' : m'.1 50 j = q32 (-1) := by rw [hk.1]; exact t2
      refine Or.inl ⟨-6, by omega, by omega, by omega, ?_, ?_⟩
      · unfold n_X9_refusedRow nb_X9_refusedRow_0 n_X9_refusedTray nb_X9_refusedTray_0
        simp (disch := omega) only [Option.bind_some, bindv, bindv0, bind2_s, bind3_s, ↓reduceIte, Bool.false_eq_true, rZM_0, rZM_1, rZP_0, rZP_1, ptZ_0, ptZ_1, c32i, c64i, ncI, Int.natCast_add, Int.natCast_mul, q32_neg, q64_neg, q32_add, q32_sub, q32_mul, q64_add, q64_sub, q64_mul, q32_64i, q64_32, q32_lt_t, q32_lt_f, q32_le_t, q32_le_f, q32_eq_t, q32_eq_f, q64_lt_t, q64_lt_f, q64_le_t, q64_le_f, q64_eq_t, q64_eq_f, rdI_i, rdL_i, rdR_i, rdN_i, stI_i, stL_i, stR_i, wI_s, wI_n, wL_s, wL_n, wI_2, wI_3, wL_1, wL_3, wR_1, wR_2, Int.toNat_natCast, tnO, tn_add, tn_sub, tn_mul, Nat.add_sub_cancel, Nat.add_zero, Nat.zero_add, lnO, win_t, win_f, r7, t1]
      · unfold n_X10_noRow nb_X10_noRow_0
        simp (disch := omega) only [Option.bind_some, bindv, bindv0, bind2_s, bind3_s, ↓reduceIte, Bool.false_eq_true, rZM_0, rZM_1, rZP_0, rZP_1, ptZ_0, ptZ_1, c32i, c64i, ncI, Int.natCast_add, Int.natCast_mul, q32_neg, q64_neg, q32_add, q32_sub, q32_mul, q64_add, q64_sub, q64_mul, q32_64i, q64_32, q32_lt_t, q32_lt_f, q32_le_t, q32_le_f, q32_eq_t, q32_eq_f, q64_lt_t, q64_lt_f, q64_le_t, q64_le_f, q64_eq_t, q64_eq_f, rdI_i, rdL_i, rdR_i, rdN_i, stI_i, stL_i, stR_i, wI_s, wI_n, wL_s, wL_n, wI_2, wI_3, wL_1, wL_3, wR_1, wR_2, Int.toNat_natCast, tnO, tn_add, tn_sub, tn_mul, Nat.add_sub_cancel, Nat.add_zero, Nat.zero_add, lnO, win_t, win_f, r52, t2']
    · have ht' := ht
      obtain ⟨h1, h2, h3, h4, h5, h6, h7, h8, h9, ⟨so, k1, k2, k3⟩, h10⟩ := ht
      have k3' : m'.1 50 j = q32 so := by rw [hk.1]; exact k3
      have h9' : m'.1 51 j = q32 sz := by rw [hk.2.1]; exact h9
      have en : (some t = (none : Option Nat)) = False := by simp
      by_cases cs : l ≤ sz ∧ sz ≤ 8
      · refine Or.inr ⟨j, t, sz, rfl, ht', cs.1, cs.2, ?_, ?_⟩
        · unfold n_X9_refusedRow nb_X9_refusedRow_0 n_X9_refusedTray nb_X9_refusedTray_0
          simp (disch := omega) only [Option.bind_some, bindv, bindv0, bind2_s, bind3_s, ↓reduceIte, Bool.false_eq_true, rZM_0, rZM_1, rZP_0, rZP_1, ptZ_0, ptZ_1, c32i, c64i, ncI, Int.natCast_add, Int.natCast_mul, q32_neg, q64_neg, q32_add, q32_sub, q32_mul, q64_add, q64_sub, q64_mul, q32_64i, q64_32, q32_lt_t, q32_lt_f, q32_le_t, q32_le_f, q32_eq_t, q32_eq_f, q64_lt_t, q64_lt_f, q64_le_t, q64_le_f, q64_eq_t, q64_eq_f, rdI_i, rdL_i, rdR_i, rdN_i, stI_i, stL_i, stR_i, wI_s, wI_n, wL_s, wL_n, wI_2, wI_3, wL_1, wL_3, wR_1, wR_2, Int.toNat_natCast, tnO, tn_add, tn_sub, tn_mul, Nat.add_sub_cancel, Nat.add_zero, Nat.zero_add, lnO, win_t, win_f, r7, h2, en, h8]
        · unfold n_X10_noRow nb_X10_noRow_0 nb_X10_noRow_48
          rcases hl with rfl | rfl
          · simp (disch := omega) only [Option.bind_some, bindv, bindv0, bind2_s, bind3_s, ↓reduceIte, Bool.false_eq_true, rZM_0, rZM_1, rZP_0, rZP_1, ptZ_0, ptZ_1, c32i, c64i, ncI, Int.natCast_add, Int.natCast_mul, q32_neg, q64_neg, q32_add, q32_sub, q32_mul, q64_add, q64_sub, q64_mul, q32_64i, q64_32, q32_lt_t, q32_lt_f, q32_le_t, q32_le_f, q32_eq_t, q32_eq_f, q64_lt_t, q64_lt_f, q64_le_t, q64_le_f, q64_eq_t, q64_eq_f, rdI_i, rdL_i, rdR_i, rdN_i, stI_i, stL_i, stR_i, wI_s, wI_n, wL_s, wL_n, wI_2, wI_3, wL_1, wL_3, wR_1, wR_2, Int.toNat_natCast, tnO, tn_add, tn_sub, tn_mul, Nat.add_sub_cancel, Nat.add_zero, Nat.zero_add, lnO, win_t, win_f, r52, r53, k3', h9', if_pos]
          · rw [if_neg (by omega)]
            simp (disch := omega) only [Option.bind_some, bindv, bindv0, bind2_s, bind3_s, ↓reduceIte, Bool.false_eq_true, rZM_0, rZM_1, rZP_0, rZP_1, ptZ_0, ptZ_1, c32i, c64i, ncI, Int.natCast_add, Int.natCast_mul, q32_neg, q64_neg, q32_add, q32_sub, q32_mul, q64_add, q64_sub, q64_mul, q32_64i, q64_32, q32_lt_t, q32_lt_f, q32_le_t, q32_le_f, q32_eq_t, q32_eq_f, q64_lt_t, q64_lt_f, q64_le_t, q64_le_f, q64_eq_t, q64_eq_f, rdI_i, rdL_i, rdR_i, rdN_i, stI_i, stL_i, stR_i, wI_s, wI_n, wL_s, wL_n, wI_2, wI_3, wL_1, wL_3, wR_1, wR_2, Int.toNat_natCast, tnO, tn_add, tn_sub, tn_mul, Nat.add_sub_cancel, Nat.add_zero, Nat.zero_add, lnO, win_t, win_f, r52, r53, k3', h9']
      · refine Or.inl ⟨-4, by omega, by omega, by omega, ?_, ?_⟩
        · unfold n_X9_refusedRow nb_X9_refusedRow_0 n_X9_refusedTray nb_X9_refusedTray_0
          by_cases c2 : sz < l
          · simp (disch := omega) only [Option.bind_some, bindv, bindv0, bind2_s, bind3_s, ↓reduceIte, Bool.false_eq_true, rZM_0, rZM_1, rZP_0, rZP_1, ptZ_0, ptZ_1, c32i, c64i, ncI, Int.natCast_add, Int.natCast_mul, q32_neg, q64_neg, q32_add, q32_sub, q32_mul, q64_add, q64_sub, q64_mul, q32_64i, q64_32, q32_lt_t, q32_lt_f, q32_le_t, q32_le_f, q32_eq_t, q32_eq_f, q64_lt_t, q64_lt_f, q64_le_t, q64_le_f, q64_eq_t, q64_eq_f, rdI_i, rdL_i, rdR_i, rdN_i, stI_i, stL_i, stR_i, wI_s, wI_n, wL_s, wL_n, wI_2, wI_3, wL_1, wL_3, wR_1, wR_2, Int.toNat_natCast, tnO, tn_add, tn_sub, tn_mul, Nat.add_sub_cancel, Nat.add_zero, Nat.zero_add, lnO, win_t, win_f, r7, h2, en, h8]
          · simp (disch := omega) only [Option.bind_some, bindv, bindv0, bind2_s, bind3_s, ↓reduceIte, Bool.false_eq_true, rZM_0, rZM_1, rZP_0, rZP_1, ptZ_0, ptZ_1, c32i, c64i, ncI, Int.natCast_add, Int.natCast_mul, q32_neg, q64_neg, q32_add, q32_sub, q32_mul, q64_add, q64_sub, q64_mul, q32_64i, q64_32, q32_lt_t, q32_lt_f, q32_le_t, q32_le_f, q32_eq_t, q32_eq_f, q64_lt_t, q64_lt_f, q64_le_t, q64_le_f, q64_eq_t, q64_eq_f, rdI_i, rdL_i, rdR_i, rdN_i, stI_i, stL_i, stR_i, wI_s, wI_n, wL_s, wL_n, wI_2, wI_3, wL_1, wL_3, wR_1, wR_2, Int.toNat_natCast, tnO, tn_add, tn_sub, tn_mul, Nat.add_sub_cancel, Nat.add_zero, Nat.zero_add, lnO, win_t, win_f, r7, h2, en, h8]
        · unfold n_X10_noRow nb_X10_noRow_0 nb_X10_noRow_48
          rcases hl with rfl | rfl
          · simp (disch := omega) only [Option.bind_some, bindv, bindv0, bind2_s, bind3_s, ↓reduceIte, Bool.false_eq_true, rZM_0, rZM_1, rZP_0, rZP_1, ptZ_0, ptZ_1, c32i, c64i, ncI, Int.natCast_add, Int.natCast_mul, q32_neg, q64_neg, q32_add, q32_sub, q32_mul, q64_add, q64_sub, q64_mul, q32_64i, q64_32, q32_lt_t, q32_lt_f, q32_le_t, q32_le_f, q32_eq_t, q32_eq_f, q64_lt_t, q64_lt_f, q64_le_t, q64_le_f, q64_eq_t, q64_eq_f, rdI_i, rdL_i, rdR_i, rdN_i, stI_i, stL_i, stR_i, wI_s, wI_n, wL_s, wL_n, wI_2, wI_3, wL_1, wL_3, wR_1, wR_2, Int.toNat_natCast, tnO, tn_add, tn_sub, tn_mul, Nat.add_sub_cancel, Nat.add_zero, Nat.zero_add, lnO, win_t, win_f, r52, r53, k3', h9', if_pos]
          · rw [if_neg (by omega)]
            simp (disch := omega) only [Option.bind_some, bindv, bindv0, bind2_s, bind3_s, ↓reduceIte, Bool.false_eq_true, rZM_0, rZM_1, rZP_0, rZP_1, ptZ_0, ptZ_1, c32i, c64i, ncI, Int.natCast_add, Int.natCast_mul, q32_neg, q64_neg, q32_add, q32_sub, q32_mul, q64_add, q64_sub, q64_mul, q32_64i, q64_32, q32_lt_t, q32_lt_f, q32_le_t, q32_le_f, q32_eq_t, q32_eq_f, q64_lt_t, q64_lt_f, q64_le_t, q64_le_f, q64_eq_t, q64_eq_f, rdI_i, rdL_i, rdR_i, rdN_i, stI_i, stL_i, stR_i, wI_s, wI_n, wL_s, wL_n, wI_2, wI_3, wL_1, wL_3, wR_1, wR_2, Int.toNat_natCast, tnO, tn_add, tn_sub, tn_mul, Nat.add_sub_cancel, Nat.add_zero, Nat.zero_add, lnO, win_t, win_f, r52, r53, k3', h9']
  · refine Or.inl ⟨-2, by omega, by omega, by omega, ?_, ?_⟩
    · unfold n_X9_refusedRow nb_X9_refusedRow_0 n_X9_refusedTray nb_X9_refusedTray_0
      by_cases c2 : i < 0
      · simp (disch := omega) only [Option.bind_some, bindv, bindv0, bind2_s, bind3_s, ↓reduceIte, Bool.false_eq_true, rZM_0, rZM_1, rZP_0, rZP_1, ptZ_0, ptZ_1, c32i, c64i, ncI, Int.natCast_add, Int.natCast_mul, q32_neg, q64_neg, q32_add, q32_sub, q32_mul, q64_add, q64_sub, q64_mul, q32_64i, q64_32, q32_lt_t, q32_lt_f, q32_le_t, q32_le_f, q32_eq_t, q32_eq_f, q64_lt_t, q64_lt_f, q64_le_t, q64_le_f, q64_eq_t, q64_eq_f, rdI_i, rdL_i, rdR_i, rdN_i, stI_i, stL_i, stR_i, wI_s, wI_n, wL_s, wL_n, wI_2, wI_3, wL_1, wL_3, wR_1, wR_2, Int.toNat_natCast, tnO, tn_add, tn_sub, tn_mul, Nat.add_sub_cancel, Nat.add_zero, Nat.zero_add, lnO, win_t, win_f]
      · simp (disch := omega) only [Option.bind_some, bindv, bindv0, bind2_s, bind3_s, ↓reduceIte, Bool.false_eq_true, rZM_0, rZM_1, rZP_0, rZP_1, ptZ_0, ptZ_1, c32i, c64i, ncI, Int.natCast_add, Int.natCast_mul, q32_neg, q64_neg, q32_add, q32_sub, q32_mul, q64_add, q64_sub, q64_mul, q32_64i, q64_32, q32_lt_t, q32_lt_f, q32_le_t, q32_le_f, q32_eq_t, q32_eq_f, q64_lt_t, q64_lt_f, q64_le_t, q64_le_f, q64_eq_t, q64_eq_f, rdI_i, rdL_i, rdR_i, rdN_i, stI_i, stL_i, stR_i, wI_s, wI_n, wL_s, wL_n, wI_2, wI_3, wL_1, wL_3, wR_1, wR_2, Int.toNat_natCast, tnO, tn_add, tn_sub, tn_mul, Nat.add_sub_cancel, Nat.add_zero, Nat.zero_add, lnO, win_t, win_f]
    · unfold n_X10_noRow nb_X10_noRow_0
      simp (disch := omega) only [Option.bind_some, bindv, bindv0, bind2_s, bind3_s, ↓reduceIte, Bool.false_eq_true, rZM_0, rZM_1, rZP_0, rZP_1, ptZ_0, ptZ_1, c32i, c64i, ncI, Int.natCast_add, Int.natCast_mul, q32_neg, q64_neg, q32_add, q32_sub, q32_mul, q64_add, q64_sub, q64_mul, q32_64i, q64_32, q32_lt_t, q32_lt_f, q32_le_t, q32_le_f, q32_eq_t, q32_eq_f, q64_lt_t, q64_lt_f, q64_le_t, q64_le_f, q64_eq_t, q64_eq_f, rdI_i, rdL_i, rdR_i, rdN_i, stI_i, stL_i, stR_i, wI_s, wI_n, wL_s, wL_n, wI_2, wI_3, wL_1, wL_3, wR_1, wR_2, Int.toNat_natCast, tnO, tn_add, tn_sub, tn_mul, Nat.add_sub_cancel, Nat.add_zero, Nat.zero_add, lnO, win_t, win_f]
/-- a number of a tray as the class takes it, as the reference takes it -/
def smA (v : Int64) : Int := if 0 ≤ v.toInt ∧ v.toInt < 100 then v.toInt else -1
def btA (al : Nat → Int32) (v : Int64) : Int := if 0 ≤ v.toInt ∧ v.toInt ≤ A al 2 - 1 then v.toInt else -1
theorem v64 (v : Int64) : v = q64 v.toInt := (Int64.ofInt_toInt v).symm
theorem v64b (v : Int64) : B63 v.toInt := ⟨by have := Int64.le_toInt v; omega, by have := Int64.toInt_lt v; omega⟩
theorem small9 {s : List Sh} {m : Mem} {j t sz : Nat} (ht : TR s m j t sz) {k : Nat} (hk : k < sz) : n_X7_smallAt s m t (q32 k) = some (q32 (smA (m.2.1 52 (40 * j + k)))) := by
  obtain ⟨h1, h2, h3, h4, h5, h6, h7, h8, h9, -, h10⟩ := ht
  have e := h10 k hk
  rw [v64 (m.2.1 52 (40 * j + k))] at e
  have hb := v64b (m.2.1 52 (40 * j + k))
  unfold smA
  generalize (m.2.1 52 (40 * j + k)).toInt = v at *
  unfold n_X7_smallAt nb_X7_smallAt_0
  by_cases c : v < 0
  · rw [show (if 0 ≤ v ∧ v < 100 then v else -1) = -1 from if_neg (by omega)]
    simp (disch := omega) only [Option.bind_some, bindv, bindv0, bind2_s, bind3_s, ↓reduceIte, Bool.false_eq_true, rZM_0, rZM_1, rZP_0, rZP_1, ptZ_0, ptZ_1, c32i, c64i, ncI, Int.natCast_add, Int.natCast_mul, q32_neg, q64_neg, q32_add, q32_sub, q32_mul, q64_add, q64_sub, q64_mul, q32_64i, q64_32, q32_lt_t, q32_lt_f, q32_le_t, q32_le_f, q32_eq_t, q32_eq_f, q64_lt_t, q64_lt_f, q64_le_t, q64_le_f, q64_eq_t, q64_eq_f, rdI_i, rdL_i, rdR_i, rdN_i, stI_i, stL_i, stR_i, wI_s, wI_n, wL_s, wL_n, wI_2, wI_3, wL_1, wL_3, wR_1, wR_2, Int.toNat_natCast, tnO, tn_add, tn_sub, tn_mul, Nat.add_sub_cancel, Nat.add_zero, Nat.zero_add, lnO, win_t, win_f, h8, h5, e]
  · by_cases c2 : v < 100
    · rw [show (if 0 ≤ v ∧ v < 100 then v else -1) = v from if_pos (by omega)]
      simp (disch := omega) only [Option.bind_some, bindv, bindv0, bind2_s, bind3_s, ↓reduceIte, Bool.false_eq_true, rZM_0, rZM_1, rZP_0, rZP_1, ptZ_0, ptZ_1, c32i, c64i, ncI, Int.natCast_add, Int.natCast_mul, q32_neg, q64_neg, q32_add, q32_sub, q32_mul, q64_add, q64_sub, q64_mul, q32_64i, q64_32, q32_lt_t, q32_lt_f, q32_le_t, q32_le_f, q32_eq_t, q32_eq_f, q64_lt_t, q64_lt_f, q64_le_t, q64_le_f, q64_eq_t, q64_eq_f, rdI_i, rdL_i, rdR_i, rdN_i, stI_i, stL_i, stR_i, wI_s, wI_n, wL_s, wL_n, wI_2, wI_3, wL_1, wL_3, wR_1, wR_2, Int.toNat_natCast, tnO, tn_add, tn_sub, tn_mul, Nat.add_sub_cancel, Nat.add_zero, Nat.zero_add, lnO, win_t, win_f, h8, h5, e]
    · rw [show (if 0 ≤ v ∧ v < 100 then v else -1) = -1 from if_neg (by omega)]
      simp (disch := omega) only [Option.bind_some, bindv, bindv0, bind2_s, bind3_s, ↓reduceIte, Bool.false_eq_true, rZM_0, rZM_1, rZP_0, rZP_1, ptZ_0, ptZ_1, c32i, c64i, ncI, Int.natCast_add, Int.natCast_mul, q32_neg, q64_neg, q32_add, q32_sub, q32_mul, q64_add, q64_sub, q64_mul, q32_64i, q64_32, q32_lt_t, q32_lt_f, q32_le_t, q32_le_f, q32_eq_t, q32_eq_f, q64_lt_t, q64_lt_f, q64_le_t, q64_le_f, q64_eq_t, q64_eq_f, rdI_i, rdL_i, rdR_i, rdN_i, stI_i, stL_i, stR_i, wI_s, wI_n, wL_s, wL_n, wI_2, wI_3, wL_1, wL_3, wR_1, wR_2, Int.toNat_natCast, tnO, tn_add, tn_sub, tn_mul, Nat.add_sub_cancel, Nat.add_zero, Nat.zero_add, lnO, win_t, win_f, h8, h5, e]
theorem told10 {s : List Sh} {m : Mem} (hp : ∃ t, s = sB ++ t) (hr : RF m) {al : Nat → Int32} {bc : Nat} (hbc : bc ≤ 6) (h2 : al 2 = q32 bc) (hm : ∀ k, k < 999 → m.1 24 k = al k) {j k : Nat} (hj : j < 4) (hk : k < 40) : n_X10_told s m 23 (q32 j) (q32 k) = some (q32 (btA al (m.2.1 52 (40 * j + k)))) := by
  have r1 := rf23_1 hr
  have r54 := rf23_54 hr
  have l24 := ln24 hp
  have l52 := ln52 hp
  have c2 : m.1 24 2 = q32 bc := by rw [hm 2 (by omega)]; exact h2
  have hA : A al 2 = bc := A_q h2 (by omega)
  have e := v64 (m.2.1 52 (40 * j + k))
  have hb := v64b (m.2.1 52 (40 * j + k))
  unfold btA
  rw [hA]
  generalize (m.2.1 52 (40 * j + k)).toInt = v at *
  unfold n_X10_told nb_X10_told_0
  by_cases c : 0 ≤ v ∧ v ≤ (bc : Int) - 1
  · rw [if_pos c]
    simp (disch := omega) only [Option.bind_some, bindv, bindv0, bind2_s, bind3_s, ↓reduceIte, Bool.false_eq_true, rZM_0, rZM_1, rZP_0, rZP_1, ptZ_0, ptZ_1, c32i, c64i, ncI, Int.natCast_add, Int.natCast_mul, q32_neg, q64_neg, q32_add, q32_sub, q32_mul, q64_add, q64_sub, q64_mul, q32_64i, q64_32, q32_lt_t, q32_lt_f, q32_le_t, q32_le_f, q32_eq_t, q32_eq_f, q64_lt_t, q64_lt_f, q64_le_t, q64_le_f, q64_eq_t, q64_eq_f, rdI_i, rdL_i, rdR_i, rdN_i, stI_i, stL_i, stR_i, wI_s, wI_n, wL_s, wL_n, wI_2, wI_3, wL_1, wL_3, wR_1, wR_2, Int.toNat_natCast, tnO, tn_add, tn_sub, tn_mul, Nat.add_sub_cancel, Nat.add_zero, Nat.zero_add, lnO, win_t, win_f, r1, r54, c2, e]
  · rw [if_neg c]
    simp (disch := omega) only [Option.bind_some, bindv, bindv0, bind2_s, bind3_s, ↓reduceIte, Bool.false_eq_true, rZM_0, rZM_1, rZP_0, rZP_1, ptZ_0, ptZ_1, c32i, c64i, ncI, Int.natCast_add, Int.natCast_mul, q32_neg, q64_neg, q32_add, q32_sub, q32_mul, q64_add, q64_sub, q64_mul, q32_64i, q64_32, q32_lt_t, q32_lt_f, q32_le_t, q32_le_f, q32_eq_t, q32_eq_f, q64_lt_t, q64_lt_f, q64_le_t, q64_le_f, q64_eq_t, q64_eq_f, rdI_i, rdL_i, rdR_i, rdN_i, stI_i, stL_i, stR_i, wI_s, wI_n, wL_s, wL_n, wI_2, wI_3, wL_1, wL_3, wR_1, wR_2, Int.toNat_natCast, tnO, tn_add, tn_sub, tn_mul, Nat.add_sub_cancel, Nat.add_zero, Nat.zero_add, lnO, win_t, win_f, r1, r54, c2, e]
theorem smA_b (v : Int64) : B31 (smA v) := by unfold smA; split <;> omega
theorem btA_b {al : Nat → Int32} (v : Int64) : B31 (btA al v) := by have := A_b al 2; unfold btA; split <;> omega
/-- both tell the same button -/
theorem LE_sm {al : Nat → Int32} {bc : Nat} (hbc : bc ≤ 6) (h2 : A al 2 = bc) (v : Int64) (x : FR) : LE al (smA v) x = LE al (btA al v) x := by
  unfold smA btA
  rw [h2]
  by_cases c : 0 ≤ v.toInt ∧ v.toInt ≤ (bc : Int) - 1
  · rw [if_pos c, if_pos (by omega)]
  · rw [if_neg c]
    have e1 : LE al (-1) x = (1, (0, 1)) := by unfold LE; rw [if_neg (by omega)]
    rw [e1]
    by_cases c2 : 0 ≤ v.toInt ∧ v.toInt < 100
    · rw [if_pos c2]
      unfold LE
      rw [if_neg (by omega)]
    · rw [if_neg c2]
      exact e1
theorem PR_sm {al : Nat → Int32} {bc : Nat} (hbc : bc ≤ 6) (h2 : A al 2 = bc) (v : Int64) : PR al (smA v) = PR al (btA al v) := by
  unfold PR
  rw [LE_sm hbc h2]
/-- where a button leads that can be is a floor -/
theorem LDF_flr {al cd : Nat → Int32} {tp e : Nat} (hA1 : A al 1 = tp) (htp : 1 ≤ tp ∧ tp ≤ 9) {x : FR} (hx : OKF x) (hct : ∀ i, i < e → CT (cd i) (al (99 + i))) : ∀ (n i d : Nat) (P : Nat → FR), (∀ k, k < d → OKF (P k)) → WFC cd n i d → i + n = e → (LDF al x n i d P).1 = 0 → FLR (A al 1) (LDF al x n i d P).2.1 (LDF al x n i d P).2.2 := by
  intro n
  induction n with
  | zero =>
    intro i d P hO hW hie
    have hd : d = 1 := hW
    subst hd
    have hO0 := hO 0 (by omega)
    unfold OKF at hO0
    unfold LDF
    dsimp only
    intro h0
    have hb : isF (A al 1) (P 0) = true := by
      apply Classical.byContradiction
      intro hn
      rw [if_neg hn] at h0
      omega
    have hb' := of_decide_eq_true hb
    exact ⟨by omega, by omega, by omega, by omega, hb'.2.2.2.2, hO0.2.2.2⟩
  | succ n ih =>
    intro i d P hO hW hie
    have hup : ∀ y, OKF y → ∀ k, k < d + 1 → OKF (up2 P d y k) := fun y hy k hk => by
      by_cases ek : k = d
      · subst ek; rw [up2_s]; exact hy
      · rw [up2_n ek]; exact hO k (by omega)
    unfold LDF
    unfold WFC at hW
    rcases hct i (by omega) with ⟨v, hv, hc1, hc2⟩ | ⟨hc1, hc2⟩ | ⟨hc1, hc2⟩ | hcj
    · have hA : A al (99 + i) = v := A_q hc2 (by omega)
      rw [if_pos (by rw [hc1, q32_toInt (by omega)]; omega)] at hW
      rw [hA, if_pos (by omega)]
      exact ih _ _ _ (hup _ ⟨by simp only; omega, by simp only; omega, by simp only; omega, by simp⟩) hW.2 (by omega)
    · have hA : A al (99 + i) = 1000 := A_q hc2 (by omega)
      rw [if_pos (by rw [hc1, q32_toInt (by omega)]; omega)] at hW
      rw [hA, if_neg (by omega), if_pos rfl]
      exact ih _ _ _ (hup _ hx) hW.2 (by omega)
    · have hA : A al (99 + i) = 1001 := A_q hc2 (by omega)
      rw [if_pos (by rw [hc1, q32_toInt (by omega)]; omega)] at hW
      rw [hA, if_neg (by omega), if_neg (by omega), if_pos rfl, hA1]
      exact hA1 ▸ ih _ _ _ (hup _ ⟨by simp only; omega, by simp only; omega, by simp only; omega, by simp⟩) hW.2 (by omega)
    · obtain ⟨c, e', hce, hc1, hc2⟩ : ∃ c e' : Int, ((c = -3 ∧ e' = 3000) ∨ (c = -4 ∧ e' = 3001) ∨ (c = -5 ∧ e' = 3002) ∨ (c = -6 ∧ e' = 3003)) ∧ cd i = q32 c ∧ al (99 + i) = q32 e' := by
        rcases hcj with h | h | h | h
        · exact ⟨-3, 3000, by omega, h.1, h.2⟩
        · exact ⟨-4, 3001, by omega, h.1, h.2⟩
        · exact ⟨-5, 3002, by omega, h.1, h.2⟩
        · exact ⟨-6, 3003, by omega, h.1, h.2⟩
      have hA : A al (99 + i) = e' := A_q hc2 (by omega)
      rw [if_neg (by rw [hc1, q32_toInt (by omega)]; omega)] at hW
      obtain ⟨d, rfl⟩ : ∃ d', d = d' + 2 := ⟨d - 2, by omega⟩
      rw [hA, if_neg (by omega), if_neg (by omega), if_neg (by omega), show d + 2 - 2 = d from rfl, show d + 2 - 1 = d + 1 from rfl]
      cases hj : jn e' (P d) (P (d + 1)) with
      | none => intro h; exact absurd h (show ¬ (2 : Int) = 0 by decide)
      | some f =>
        dsimp only
        cases hbf : big f with
        | true => rw [if_pos rfl]; intro h; exact absurd h (show ¬ (3 : Int) = 0 by decide)
        | false =>
          rw [if_neg (by decide)]
          have hf := jn_ok (hO d (by omega)) (hO (d + 1) (by omega)) hj hbf
          exact ih _ _ _ (fun k hk => by
            by_cases ek : k = d
            · subst ek; rw [up2_s]; exact hf
            · rw [up2_n ek]; exact hO k (by omega)) hW.2 (by omega)
theorem LE_flr {al : Nat → Int32} (hwa : WA al) {b : Int} {x : FR} (hx : OKF x) : (LE al b x).1 = 0 → FLR (A al 1) (LE al b x).2.1 (LE al b x).2.2 := by
  obtain ⟨hs, st, cd, fu, fl, sf, od, tu, tl, tp, sk, nl, bc, fc, tc, au, aw, S, U, L, V, W, X, O, h1, h2, h3, h4, ⟨s1, s2, s3, s4, s5, s6, s7⟩, -⟩ := hwa
  have hA2 : A al 2 = bc := A_q h3.2.2.1 (by omega)
  have hA1 : A al 1 = tp := A_q h3.2.1 (by omega)
  unfold LE
  rw [hA2]
  by_cases hbb : 0 ≤ b ∧ b < bc
  · rw [if_pos hbb]
    obtain ⟨k, rfl⟩ := Int.eq_ofNat_of_zero_le hbb.1
    have hk : k < bc := by omega
    have m1 := S_mono s2 (bc - (k + 1)) (k + 1) (by omega)
    rw [show k + 1 + (bc - (k + 1)) = bc by omega] at m1
    have m0 := s2 k hk
    rw [show (k : Int).toNat = k from rfl, A_q (s5 k hk).1 (by omega), A_q (s5 k hk).2 (by omega), show ((S k : Int)).toNat = S k from rfl, show (((S (k + 1) - S k : Nat) : Int)).toNat = S (k + 1) - S k from rfl]
    exact LDF_flr (e := S (k + 1)) hA1 (by omega) hx (fun i hi => s6 i (by omega)) (S (k + 1) - S k) (S k) 0 _ (fun k hk => absurd hk (by omega)) (s7 k hk) (by omega)
  · rw [if_neg hbb]
    intro h; exact absurd h (show ¬ (1 : Int) = 0 by decide)
/-! judge -/
def JDF (al : Nat → Int32) (vs : Nat → Int64) : Nat → Nat → FR → Int × Nat × FR
  | 0, i, x => (0, i, x)
  | n + 1, i, x => if (LE al (btA al (vs i)) x).1 = 0 then JDF al vs n (i + 1) (LE al (btA al (vs i)) x).2 else ((LE al (btA al (vs i)) x).1, i, x)
def JDA (v : Int) (r : Int × Nat × FR) : Int := if v = 0 then (if r.1 = 0 then -1 else r.2.1) else if v = 1 then r.1 else if v = 2 then r.2.2.1 else r.2.2.2
theorem judge133 {F : Nat} {s : List Sh} {m : Mem} {v : Int} (hv : 0 ≤ v ∧ v ≤ 3) {why : Int} (hw : 0 ≤ why ∧ why ≤ 4) (p : Nat) (x : FR) : nb_X9_judge_133 F s m (q32 v) (q32 x.1) (q32 x.2) (q32 p) (q32 why) = some (q32 (JDA v (why, p, x)), m) := by
  unfold nb_X9_judge_133 JDA
  rcases (show v = 0 ∨ v = 1 ∨ v = 2 ∨ v = 3 by omega) with rfl | rfl | rfl | rfl
  · rw [sw_at (by omega) 0 (by omega) rfl, if_pos rfl]
    dsimp only
    by_cases c : why = 0
    · rw [if_pos c]; simp (disch := omega) only [Option.bind_some, bindv, bindv0, bind2_s, bind3_s, ↓reduceIte, Bool.false_eq_true, rZM_0, rZM_1, rZP_0, rZP_1, ptZ_0, ptZ_1, c32i, c64i, ncI, Int.natCast_add, Int.natCast_mul, q32_neg, q64_neg, q32_add, q32_sub, q32_mul, q64_add, q64_sub, q64_mul, q32_64i, q64_32, q32_lt_t, q32_lt_f, q32_le_t, q32_le_f, q32_eq_t, q32_eq_f, q64_lt_t, q64_lt_f, q64_le_t, q64_le_f, q64_eq_t, q64_eq_f, rdI_i, rdL_i, rdR_i, rdN_i, stI_i, stL_i, stR_i, wI_s, wI_n, wL_s, wL_n, wI_2, wI_3, wL_1, wL_3, wR_1, wR_2, Int.toNat_natCast, tnO, tn_add, tn_sub, tn_mul, Nat.add_sub_cancel, Nat.add_zero, Nat.zero_add, lnO, win_t, win_f]
    · rw [if_neg c]; simp (disch := omega) only [Option.bind_some, bindv, bindv0, bind2_s, bind3_s, ↓reduceIte, Bool.false_eq_true, rZM_0, rZM_1, rZP_0, rZP_1, ptZ_0, ptZ_1, c32i, c64i, ncI, Int.natCast_add, Int.natCast_mul, q32_neg, q64_neg, q32_add, q32_sub, q32_mul, q64_add, q64_sub, q64_mul, q32_64i, q64_32, q32_lt_t, q32_lt_f, q32_le_t, q32_le_f, q32_eq_t, q32_eq_f, q64_lt_t, q64_lt_f, q64_le_t, q64_le_f, q64_eq_t, q64_eq_f, rdI_i, rdL_i, rdR_i, rdN_i, stI_i, stL_i, stR_i, wI_s, wI_n, wL_s, wL_n, wI_2, wI_3, wL_1, wL_3, wR_1, wR_2, Int.toNat_natCast, tnO, tn_add, tn_sub, tn_mul, Nat.add_sub_cancel, Nat.add_zero, Nat.zero_add, lnO, win_t, win_f]
  · rw [sw_at (by omega) 1 (by omega) rfl]; rfl
  · rw [sw_at (by omega) 2 (by omega) rfl]; rfl
  · rw [sw_out (by omega) (by simp)]; rfl
theorem judge114 {F : Nat} {s : List Sh} {m : Mem} {v : Int} (hv : 0 ≤ v ∧ v ≤ 3) {why : Int} (hw : 0 ≤ why ∧ why ≤ 4) (p : Nat) (x : FR) : nb_X10_judge_114 F s m (q32 v) (q64 x.1) (q64 x.2) (q32 p) (q32 why) = some (q32 (JDA v (why, p, x)), m) := by
  unfold nb_X10_judge_114 JDA
  rcases (show v = 0 ∨ v = 1 ∨ v = 2 ∨ v = 3 by omega) with rfl | rfl | rfl | rfl
  · rw [if_pos rfl]
    dsimp only
    by_cases c : why = 0
    · rw [if_pos c]; simp (disch := omega) only [Option.bind_some, bindv, bindv0, bind2_s, bind3_s, ↓reduceIte, Bool.false_eq_true, rZM_0, rZM_1, rZP_0, rZP_1, ptZ_0, ptZ_1, c32i, c64i, ncI, Int.natCast_add, Int.natCast_mul, q32_neg, q64_neg, q32_add, q32_sub, q32_mul, q64_add, q64_sub, q64_mul, q32_64i, q64_32, q32_lt_t, q32_lt_f, q32_le_t, q32_le_f, q32_eq_t, q32_eq_f, q64_lt_t, q64_lt_f, q64_le_t, q64_le_f, q64_eq_t, q64_eq_f, rdI_i, rdL_i, rdR_i, rdN_i, stI_i, stL_i, stR_i, wI_s, wI_n, wL_s, wL_n, wI_2, wI_3, wL_1, wL_3, wR_1, wR_2, Int.toNat_natCast, tnO, tn_add, tn_sub, tn_mul, Nat.add_sub_cancel, Nat.add_zero, Nat.zero_add, lnO, win_t, win_f]
    · rw [if_neg c]; simp (disch := omega) only [Option.bind_some, bindv, bindv0, bind2_s, bind3_s, ↓reduceIte, Bool.false_eq_true, rZM_0, rZM_1, rZP_0, rZP_1, ptZ_0, ptZ_1, c32i, c64i, ncI, Int.natCast_add, Int.natCast_mul, q32_neg, q64_neg, q32_add, q32_sub, q32_mul, q64_add, q64_sub, q64_mul, q32_64i, q64_32, q32_lt_t, q32_lt_f, q32_le_t, q32_le_f, q32_eq_t, q32_eq_f, q64_lt_t, q64_lt_f, q64_le_t, q64_le_f, q64_eq_t, q64_eq_f, rdI_i, rdL_i, rdR_i, rdN_i, stI_i, stL_i, stR_i, wI_s, wI_n, wL_s, wL_n, wI_2, wI_3, wL_1, wL_3, wR_1, wR_2, Int.toNat_natCast, tnO, tn_add, tn_sub, tn_mul, Nat.add_sub_cancel, Nat.add_zero, Nat.zero_add, lnO, win_t, win_f]
  · simp (disch := omega) only [Option.bind_some, bindv, bindv0, bind2_s, bind3_s, ↓reduceIte, Bool.false_eq_true, rZM_0, rZM_1, rZP_0, rZP_1, ptZ_0, ptZ_1, c32i, c64i, ncI, Int.natCast_add, Int.natCast_mul, q32_neg, q64_neg, q32_add, q32_sub, q32_mul, q64_add, q64_sub, q64_mul, q32_64i, q64_32, q32_lt_t, q32_lt_f, q32_le_t, q32_le_f, q32_eq_t, q32_eq_f, q64_lt_t, q64_lt_f, q64_le_t, q64_le_f, q64_eq_t, q64_eq_f, rdI_i, rdL_i, rdR_i, rdN_i, stI_i, stL_i, stR_i, wI_s, wI_n, wL_s, wL_n, wI_2, wI_3, wL_1, wL_3, wR_1, wR_2, Int.toNat_natCast, tnO, tn_add, tn_sub, tn_mul, Nat.add_sub_cancel, Nat.add_zero, Nat.zero_add, lnO, win_t, win_f]; rfl
  · simp (disch := omega) only [Option.bind_some, bindv, bindv0, bind2_s, bind3_s, ↓reduceIte, Bool.false_eq_true, rZM_0, rZM_1, rZP_0, rZP_1, ptZ_0, ptZ_1, c32i, c64i, ncI, Int.natCast_add, Int.natCast_mul, q32_neg, q64_neg, q32_add, q32_sub, q32_mul, q64_add, q64_sub, q64_mul, q32_64i, q64_32, q32_lt_t, q32_lt_f, q32_le_t, q32_le_f, q32_eq_t, q32_eq_f, q64_lt_t, q64_lt_f, q64_le_t, q64_le_f, q64_eq_t, q64_eq_f, rdI_i, rdL_i, rdR_i, rdN_i, stI_i, stL_i, stR_i, wI_s, wI_n, wL_s, wL_n, wI_2, wI_3, wL_1, wL_3, wR_1, wR_2, Int.toNat_natCast, tnO, tn_add, tn_sub, tn_mul, Nat.add_sub_cancel, Nat.add_zero, Nat.zero_add, lnO, win_t, win_f]; rfl
  · simp (disch := omega) only [Option.bind_some, bindv, bindv0, bind2_s, bind3_s, ↓reduceIte, Bool.false_eq_true, rZM_0, rZM_1, rZP_0, rZP_1, ptZ_0, ptZ_1, c32i, c64i, ncI, Int.natCast_add, Int.natCast_mul, q32_neg, q64_neg, q32_add, q32_sub, q32_mul, q64_add, q64_sub, q64_mul, q32_64i, q64_32, q32_lt_t, q32_lt_f, q32_le_t, q32_le_f, q32_eq_t, q32_eq_f, q64_lt_t, q64_lt_f, q64_le_t, q64_le_f, q64_eq_t, q64_eq_f, rdI_i, rdL_i, rdR_i, rdN_i, stI_i, stL_i, stR_i, wI_s, wI_n, wL_s, wL_n, wI_2, wI_3, wL_1, wL_3, wR_1, wR_2, Int.toNat_natCast, tnO, tn_add, tn_sub, tn_mul, Nat.add_sub_cancel, Nat.add_zero, Nat.zero_add, lnO, win_t, win_f]; rfl
theorem judgeL9 {F : Nat} (hF : 1000 ≤ F) {s : List Sh} {ow : Nat → Nat} {nw j t sz : Nat} {al : Nat → Int32} {vs : Nat → Int64} {bc : Nat} (hbc : bc ≤ 6) (hA2 : A al 2 = bc) {v : Int} (hv : 0 ≤ v ∧ v ≤ 3) : ∀ (n fuel : Nat), n < fuel → ∀ (m : Mem) (i : Nat) (x : FR), LAY s m ow nw → HREL m nw al → TR s m j t sz → (∀ k, k < sz → m.2.1 52 (40 * j + k) = vs k) → FLR (A al 1) x.1 x.2 → i + n = sz → ∃ m', nl_X9_judge_60 F s fuel m 0 (q32 v) t (q32 x.1) (q32 x.2) (q32 i) (q32 0) (q32 i) = some (q32 (JDA v (JDF al vs n i x)), m') ∧ K9 m m' := by
  intro n
  induction n with
  | zero =>
    intro fuel hfu m i x hl hrel ht hvs hx hi
    obtain ⟨fuel, rfl⟩ : ∃ f, fuel = f + 1 := ⟨fuel - 1, by omega⟩
    have h8 := ht.2.2.2.2.2.2.2.1
    have h7 := ht.2.2.2.2.2.2.1
    refine ⟨m, ?_, K9.rf m⟩
    show nb_X9_judge_60 F s (nl_X9_judge_60 F s fuel) m 0 (q32 v) t (q32 x.1) (q32 x.2) (q32 i) (q32 0) (q32 i) = _
    unfold nb_X9_judge_60 JDF
    simp (disch := omega) only [Option.bind_some, bindv, bindv0, bind2_s, bind3_s, ↓reduceIte, Bool.false_eq_true, rZM_0, rZM_1, rZP_0, rZP_1, ptZ_0, ptZ_1, c32i, c64i, ncI, Int.natCast_add, Int.natCast_mul, q32_neg, q64_neg, q32_add, q32_sub, q32_mul, q64_add, q64_sub, q64_mul, q32_64i, q64_32, q32_lt_t, q32_lt_f, q32_le_t, q32_le_f, q32_eq_t, q32_eq_f, q64_lt_t, q64_lt_f, q64_le_t, q64_le_f, q64_eq_t, q64_eq_f, rdI_i, rdL_i, rdR_i, rdN_i, stI_i, stL_i, stR_i, wI_s, wI_n, wL_s, wL_n, wI_2, wI_3, wL_1, wL_3, wR_1, wR_2, Int.toNat_natCast, tnO, tn_add, tn_sub, tn_mul, Nat.add_sub_cancel, Nat.add_zero, Nat.zero_add, lnO, win_t, win_f, h8]
    exact judge133 hv (by omega) i x
  | succ n ih =>
    intro fuel hfu m i x hl hrel ht hvs hx hi
    obtain ⟨fuel, rfl⟩ : ∃ f, fuel = f + 1 := ⟨fuel - 1, by omega⟩
    have h8 := ht.2.2.2.2.2.2.2.1
    have h7 := ht.2.2.2.2.2.2.1
    have hx' := hx
    unfold FLR at hx'
    have rn := hl.nw
    have r11 := rf0_11 hl.rf
    have hn := hl.hn
    have sm := small9 ht (k := i) (by omega)
    rw [hvs i (by omega)] at sm
    have hok : OKF x := ⟨by omega, by omega, by omega, hx'.2.2.2.2.2⟩
    obtain ⟨m1, p1, p2, p3⟩ := lead9 hF hl hrel hok (smA_b (vs i))
    have hwb := LE_b al (smA (vs i)) x
    show ∃ m', nb_X9_judge_60 F s (nl_X9_judge_60 F s fuel) m 0 (q32 v) t (q32 x.1) (q32 x.2) (q32 i) (q32 0) (q32 i) = _ ∧ _
    unfold nb_X9_judge_60 JDF nb_X9_judge_127
    rw [← LE_sm hbc hA2]
    generalize hw : LE al (smA (vs i)) x = w at *
    obtain ⟨why, f⟩ := w
    dsimp only at p1 p3 hwb ⊢
    have e11 : m1.2.2 = m.2.2 := p2.2.2
    by_cases hz : why = 0
    · subst hz
      obtain ⟨f1, f2, f3⟩ := p3 rfl
      obtain ⟨m', q1, q2⟩ := ih fuel (by omega) m1 (i + 1) f (hl.same p2.2.2) (hrel.same (fun j hj => funext fun k => p2.1 _ k (by omega)) (fun _ _ => rfl)) (ht.sc p2.sc) (fun k hk => by rw [p2.2.1 _ _ (by omega)]; exact hvs k hk) f3 (by omega)
      refine ⟨m', ?_, p2.tr q2⟩
      rw [if_pos rfl]
      rw [Int.natCast_add] at q1
      simp (disch := omega) only [Option.bind_some, bindv, bindv0, bind2_s, bind3_s, ↓reduceIte, Bool.false_eq_true, rZM_0, rZM_1, rZP_0, rZP_1, ptZ_0, ptZ_1, c32i, c64i, ncI, Int.natCast_add, Int.natCast_mul, q32_neg, q64_neg, q32_add, q32_sub, q32_mul, q64_add, q64_sub, q64_mul, q32_64i, q64_32, q32_lt_t, q32_lt_f, q32_le_t, q32_le_f, q32_eq_t, q32_eq_f, q64_lt_t, q64_lt_f, q64_le_t, q64_le_f, q64_eq_t, q64_eq_f, rdI_i, rdL_i, rdR_i, rdN_i, stI_i, stL_i, stR_i, wI_s, wI_n, wL_s, wL_n, wI_2, wI_3, wL_1, wL_3, wR_1, wR_2, Int.toNat_natCast, tnO, tn_add, tn_sub, tn_mul, Nat.add_sub_cancel, Nat.add_zero, Nat.zero_add, lnO, win_t, win_f, h8, r11, rn, sm, p1, e11, f1, f2]
      exact q1
    · obtain ⟨fuel, rfl⟩ : ∃ f, fuel = f + 1 := ⟨fuel - 1, by omega⟩
      refine ⟨m1, ?_, p2⟩
      rw [if_neg hz]
      have h8' : m1.1 t 1 = q32 sz := by rw [p2.1 _ _ (by have := ht.2.2.1; omega)]; exact h8
      have tail : nl_X9_judge_60 F s (fuel + 1) m1 0 (q32 v) t (q32 x.1) (q32 x.2) (q32 i) (q32 why) (q32 (i + 1)) = some (q32 (JDA v (why, i, x)), m1) := by
        show nb_X9_judge_60 F s (nl_X9_judge_60 F s fuel) m1 0 (q32 v) t (q32 x.1) (q32 x.2) (q32 i) (q32 why) (q32 (i + 1)) = _
        unfold nb_X9_judge_60
        by_cases cc : i + 1 = sz
        · simp (disch := omega) only [Option.bind_some, bindv, bindv0, bind2_s, bind3_s, ↓reduceIte, Bool.false_eq_true, rZM_0, rZM_1, rZP_0, rZP_1, ptZ_0, ptZ_1, c32i, c64i, ncI, Int.natCast_add, Int.natCast_mul, q32_neg, q64_neg, q32_add, q32_sub, q32_mul, q64_add, q64_sub, q64_mul, q32_64i, q64_32, q32_lt_t, q32_lt_f, q32_le_t, q32_le_f, q32_eq_t, q32_eq_f, q64_lt_t, q64_lt_f, q64_le_t, q64_le_f, q64_eq_t, q64_eq_f, rdI_i, rdL_i, rdR_i, rdN_i, stI_i, stL_i, stR_i, wI_s, wI_n, wL_s, wL_n, wI_2, wI_3, wL_1, wL_3, wR_1, wR_2, Int.toNat_natCast, tnO, tn_add, tn_sub, tn_mul, Nat.add_sub_cancel, Nat.add_zero, Nat.zero_add, lnO, win_t, win_f, h8']
          exact judge133 hv hwb i x
        · simp (disch := omega) only [Option.bind_some, bindv, bindv0, bind2_s, bind3_s, ↓reduceIte, Bool.false_eq_true, rZM_0, rZM_1, rZP_0, rZP_1, ptZ_0, ptZ_1, c32i, c64i, ncI, Int.natCast_add, Int.natCast_mul, q32_neg, q64_neg, q32_add, q32_sub, q32_mul, q64_add, q64_sub, q64_mul, q32_64i, q64_32, q32_lt_t, q32_lt_f, q32_le_t, q32_le_f, q32_eq_t, q32_eq_f, q64_lt_t, q64_lt_f, q64_le_t, q64_le_f, q64_eq_t, q64_eq_f, rdI_i, rdL_i, rdR_i, rdN_i, stI_i, stL_i, stR_i, wI_s, wI_n, wL_s, wL_n, wI_2, wI_3, wL_1, wL_3, wR_1, wR_2, Int.toNat_natCast, tnO, tn_add, tn_sub, tn_mul, Nat.add_sub_cancel, Nat.add_zero, Nat.zero_add, lnO, win_t, win_f, h8']
          exact judge133 hv hwb i x
      simp (disch := omega) only [Option.bind_some, bindv, bindv0, bind2_s, bind3_s, ↓reduceIte, Bool.false_eq_true, rZM_0, rZM_1, rZP_0, rZP_1, ptZ_0, ptZ_1, c32i, c64i, ncI, Int.natCast_add, Int.natCast_mul, q32_neg, q64_neg, q32_add, q32_sub, q32_mul, q64_add, q64_sub, q64_mul, q32_64i, q64_32, q32_lt_t, q32_lt_f, q32_le_t, q32_le_f, q32_eq_t, q32_eq_f, q64_lt_t, q64_lt_f, q64_le_t, q64_le_f, q64_eq_t, q64_eq_f, rdI_i, rdL_i, rdR_i, rdN_i, stI_i, stL_i, stR_i, wI_s, wI_n, wL_s, wL_n, wI_2, wI_3, wL_1, wL_3, wR_1, wR_2, Int.toNat_natCast, tnO, tn_add, tn_sub, tn_mul, Nat.add_sub_cancel, Nat.add_zero, Nat.zero_add, lnO, win_t, win_f, h8, r11, rn, sm, p1]
      exact tail
theorem judgeL10 {F : Nat} (hF : 1000 ≤ F) {s : List Sh} (hp : ∃ t, s = sB ++ t) {j sz : Nat} (hj : j < 4) (hsz : sz ≤ 40) {al : Nat → Int32} (hwa : WA al) {vs : Nat → Int64} {v : Int} (hv : 0 ≤ v ∧ v ≤ 3) : ∀ (n fuel : Nat), n < fuel → ∀ (m : Mem) (i : Nat) (x : FR), RF m → (∀ k, k < 999 → m.1 24 k = al k) → m.1 51 j = q32 sz → (∀ k, k < sz → m.2.1 52 (40 * j + k) = vs k) → FLR (A al 1) x.1 x.2 → i + n = sz → ∃ m', nl_X10_judge_60 F s fuel m 23 (q32 j) (q32 v) (q64 x.1) (q64 x.2) (q32 i) (q32 0) = some (q32 (JDA v (JDF al vs n i x)), m') ∧ K10 m m' := by
  have l51 := ln51 hp
  obtain ⟨tp, t1, t2, t3, t4, t5, t6, t7, bc, t8, t9, t10⟩ := hwa.at
  intro n
  induction n with
  | zero =>
    intro fuel hfu m i x hr hm h51 hvs hx hi
    obtain ⟨fuel, rfl⟩ : ∃ f, fuel = f + 1 := ⟨fuel - 1, by omega⟩
    have r53 := rf23_53 hr
    refine ⟨m, ?_, K10.rf m⟩
    show nb_X10_judge_60 F s (nl_X10_judge_60 F s fuel) m 23 (q32 j) (q32 v) (q64 x.1) (q64 x.2) (q32 i) (q32 0) = _
    unfold nb_X10_judge_60 JDF
    simp (disch := omega) only [Option.bind_some, bindv, bindv0, bind2_s, bind3_s, ↓reduceIte, Bool.false_eq_true, rZM_0, rZM_1, rZP_0, rZP_1, ptZ_0, ptZ_1, c32i, c64i, ncI, Int.natCast_add, Int.natCast_mul, q32_neg, q64_neg, q32_add, q32_sub, q32_mul, q64_add, q64_sub, q64_mul, q32_64i, q64_32, q32_lt_t, q32_lt_f, q32_le_t, q32_le_f, q32_eq_t, q32_eq_f, q64_lt_t, q64_lt_f, q64_le_t, q64_le_f, q64_eq_t, q64_eq_f, rdI_i, rdL_i, rdR_i, rdN_i, stI_i, stL_i, stR_i, wI_s, wI_n, wL_s, wL_n, wI_2, wI_3, wL_1, wL_3, wR_1, wR_2, Int.toNat_natCast, tnO, tn_add, tn_sub, tn_mul, Nat.add_sub_cancel, Nat.add_zero, Nat.zero_add, lnO, win_t, win_f, r53, h51]
    exact judge114 hv (by omega) i x
  | succ n ih =>
    intro fuel hfu m i x hr hm h51 hvs hx hi
    obtain ⟨fuel, rfl⟩ : ∃ f, fuel = f + 1 := ⟨fuel - 1, by omega⟩
    have r53 := rf23_53 hr
    have hx' := hx
    unfold FLR at hx'
    have td := told10 hp hr t8 t9 hm hj (k := i) (by omega)
    rw [hvs i (by omega)] at td
    have hok : OKF x := ⟨by omega, by omega, by omega, hx'.2.2.2.2.2⟩
    obtain ⟨m1, p1, p2, p3⟩ := lead10 hF hp hr hwa hm hok (btA_b (al := al) (vs i))
    have hwb := LE_b al (btA al (vs i)) x
    show ∃ m', nb_X10_judge_60 F s (nl_X10_judge_60 F s fuel) m 23 (q32 j) (q32 v) (q64 x.1) (q64 x.2) (q32 i) (q32 0) = _ ∧ _
    unfold nb_X10_judge_60 JDF
    have hfl : (LE al (btA al (vs i)) x).1 = 0 → FLR (A al 1) (LE al (btA al (vs i)) x).2.1 (LE al (btA al (vs i)) x).2.2 := LE_flr hwa hok
    generalize hw : LE al (btA al (vs i)) x = w at *
    obtain ⟨why, f⟩ := w
    dsimp only at p1 p3 hwb hfl ⊢
    by_cases hz : why = 0
    · subst hz
      obtain ⟨f1, f2⟩ := p3 rfl
      obtain ⟨m', q1, q2⟩ := ih fuel (by omega) m1 (i + 1) f (hr.same p2.2.2) (fun k hk => by rw [p2.1 _ _ (by omega)]; exact hm k hk) (by rw [p2.1 _ _ (by omega)]; exact h51) (fun k hk => by rw [p2.2.1 _ _ (by omega)]; exact hvs k hk) (hfl rfl) (by omega)
      refine ⟨m', ?_, p2.tr q2⟩
      rw [if_pos rfl]
      rw [Int.natCast_add] at q1
      simp (disch := omega) only [Option.bind_some, bindv, bindv0, bind2_s, bind3_s, ↓reduceIte, Bool.false_eq_true, rZM_0, rZM_1, rZP_0, rZP_1, ptZ_0, ptZ_1, c32i, c64i, ncI, Int.natCast_add, Int.natCast_mul, q32_neg, q64_neg, q32_add, q32_sub, q32_mul, q64_add, q64_sub, q64_mul, q32_64i, q64_32, q32_lt_t, q32_lt_f, q32_le_t, q32_le_f, q32_eq_t, q32_eq_f, q64_lt_t, q64_lt_f, q64_le_t, q64_le_f, q64_eq_t, q64_eq_f, rdI_i, rdL_i, rdR_i, rdN_i, stI_i, stL_i, stR_i, wI_s, wI_n, wL_s, wL_n, wI_2, wI_3, wL_1, wL_3, wR_1, wR_2, Int.toNat_natCast, tnO, tn_add, tn_sub, tn_mul, Nat.add_sub_cancel, Nat.add_zero, Nat.zero_add, lnO, win_t, win_f, r53, h51, td, p1, f1, f2]
      exact q1
    · refine ⟨m1, ?_, p2⟩
      rw [if_neg hz]
      simp (disch := omega) only [Option.bind_some, bindv, bindv0, bind2_s, bind3_s, ↓reduceIte, Bool.false_eq_true, rZM_0, rZM_1, rZP_0, rZP_1, ptZ_0, ptZ_1, c32i, c64i, ncI, Int.natCast_add, Int.natCast_mul, q32_neg, q64_neg, q32_add, q32_sub, q32_mul, q64_add, q64_sub, q64_mul, q32_64i, q64_32, q32_lt_t, q32_lt_f, q32_le_t, q32_le_f, q32_eq_t, q32_eq_f, q64_lt_t, q64_lt_f, q64_le_t, q64_le_f, q64_eq_t, q64_eq_f, rdI_i, rdL_i, rdR_i, rdN_i, stI_i, stL_i, stR_i, wI_s, wI_n, wL_s, wL_n, wI_2, wI_3, wL_1, wL_3, wR_1, wR_2, Int.toNat_natCast, tnO, tn_add, tn_sub, tn_mul, Nat.add_sub_cancel, Nat.add_zero, Nat.zero_add, lnO, win_t, win_f, r53, h51, td, p1]
      exact judge114 hv hwb i x
