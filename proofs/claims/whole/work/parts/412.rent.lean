/-! PURE: has, rent, rents, richest, most -/
theorem isSt9 {z : Int} (h : B31 z) : m_X9_isStuff (q32 z) = some (if 0 ≤ z ∧ z < 3 then q32 1 else q32 0) := by
  unfold m_X9_isStuff b_X9_isStuff_0
  by_cases c : 0 ≤ z ∧ z < 3
  · rw [if_pos c]; simp (disch := omega) only [Option.bind_some, bindv, bindv0, bind2_s, bind3_s, ↓reduceIte, Bool.false_eq_true, rZM_0, rZM_1, rZP_0, rZP_1, ptZ_0, ptZ_1, c32i, c64i, ncI, Int.natCast_add, Int.natCast_mul, q32_neg, q64_neg, q32_add, q32_sub, q32_mul, q64_add, q64_sub, q64_mul, q32_64i, q64_32, q32_lt_t, q32_lt_f, q32_le_t, q32_le_f, q32_eq_t, q32_eq_f, q64_lt_t, q64_lt_f, q64_le_t, q64_le_f, q64_eq_t, q64_eq_f, rdI_i, rdL_i, rdR_i, rdN_i, stI_i, stL_i, stR_i, wI_s, wI_n, wL_s, wL_n, wI_2, wI_3, wL_1, wL_3, wR_1, wR_2, Int.toNat_natCast, tnO, tn_add, tn_sub, tn_mul, Nat.add_sub_cancel, Nat.add_zero, Nat.zero_add, lnO, win_t, win_f]
  · rw [if_neg c]
    by_cases c2 : z < 0
    · simp (disch := omega) only [Option.bind_some, bindv, bindv0, bind2_s, bind3_s, ↓reduceIte, Bool.false_eq_true, rZM_0, rZM_1, rZP_0, rZP_1, ptZ_0, ptZ_1, c32i, c64i, ncI, Int.natCast_add, Int.natCast_mul, q32_neg, q64_neg, q32_add, q32_sub, q32_mul, q64_add, q64_sub, q64_mul, q32_64i, q64_32, q32_lt_t, q32_lt_f, q32_le_t, q32_le_f, q32_eq_t, q32_eq_f, q64_lt_t, q64_lt_f, q64_le_t, q64_le_f, q64_eq_t, q64_eq_f, rdI_i, rdL_i, rdR_i, rdN_i, stI_i, stL_i, stR_i, wI_s, wI_n, wL_s, wL_n, wI_2, wI_3, wL_1, wL_3, wR_1, wR_2, Int.toNat_natCast, tnO, tn_add, tn_sub, tn_mul, Nat.add_sub_cancel, Nat.add_zero, Nat.zero_add, lnO, win_t, win_f]
    · simp (disch := omega) only [Option.bind_some, bindv, bindv0, bind2_s, bind3_s, ↓reduceIte, Bool.false_eq_true, rZM_0, rZM_1, rZP_0, rZP_1, ptZ_0, ptZ_1, c32i, c64i, ncI, Int.natCast_add, Int.natCast_mul, q32_neg, q64_neg, q32_add, q32_sub, q32_mul, q64_add, q64_sub, q64_mul, q32_64i, q64_32, q32_lt_t, q32_lt_f, q32_le_t, q32_le_f, q32_eq_t, q32_eq_f, q64_lt_t, q64_lt_f, q64_le_t, q64_le_f, q64_eq_t, q64_eq_f, rdI_i, rdL_i, rdR_i, rdN_i, stI_i, stL_i, stR_i, wI_s, wI_n, wL_s, wL_n, wI_2, wI_3, wL_1, wL_3, wR_1, wR_2, Int.toNat_natCast, tnO, tn_add, tn_sub, tn_mul, Nat.add_sub_cancel, Nat.add_zero, Nat.zero_add, lnO, win_t, win_f]
theorem isSt10 {z : Int} (h : B31 z) : m_X10_isStuff (q32 z) = some (if 0 ≤ z ∧ z < 3 then q32 1 else q32 0) := by
  unfold m_X10_isStuff b_X10_isStuff_0
  by_cases c : 0 ≤ z ∧ z < 3
  · rw [if_pos c]; simp (disch := omega) only [Option.bind_some, bindv, bindv0, bind2_s, bind3_s, ↓reduceIte, Bool.false_eq_true, rZM_0, rZM_1, rZP_0, rZP_1, ptZ_0, ptZ_1, c32i, c64i, ncI, Int.natCast_add, Int.natCast_mul, q32_neg, q64_neg, q32_add, q32_sub, q32_mul, q64_add, q64_sub, q64_mul, q32_64i, q64_32, q32_lt_t, q32_lt_f, q32_le_t, q32_le_f, q32_eq_t, q32_eq_f, q64_lt_t, q64_lt_f, q64_le_t, q64_le_f, q64_eq_t, q64_eq_f, rdI_i, rdL_i, rdR_i, rdN_i, stI_i, stL_i, stR_i, wI_s, wI_n, wL_s, wL_n, wI_2, wI_3, wL_1, wL_3, wR_1, wR_2, Int.toNat_natCast, tnO, tn_add, tn_sub, tn_mul, Nat.add_sub_cancel, Nat.add_zero, Nat.zero_add, lnO, win_t, win_f]
  · rw [if_neg c]; simp (disch := omega) only [Option.bind_some, bindv, bindv0, bind2_s, bind3_s, ↓reduceIte, Bool.false_eq_true, rZM_0, rZM_1, rZP_0, rZP_1, ptZ_0, ptZ_1, c32i, c64i, ncI, Int.natCast_add, Int.natCast_mul, q32_neg, q64_neg, q32_add, q32_sub, q32_mul, q64_add, q64_sub, q64_mul, q32_64i, q64_32, q32_lt_t, q32_lt_f, q32_le_t, q32_le_f, q32_eq_t, q32_eq_f, q64_lt_t, q64_lt_f, q64_le_t, q64_le_f, q64_eq_t, q64_eq_f, rdI_i, rdL_i, rdR_i, rdN_i, stI_i, stL_i, stR_i, wI_s, wI_n, wL_s, wL_n, wI_2, wI_3, wL_1, wL_3, wR_1, wR_2, Int.toNat_natCast, tnO, tn_add, tn_sub, tn_mul, Nat.add_sub_cancel, Nat.add_zero, Nat.zero_add, lnO, win_t, win_f]
theorem opk_has {F : Nat} (hF : 1000 ≤ F) {s : List Sh} {m : Mem} (h : INV s m) (w1 w2 w3 w4 : Int32) : OPK s m (n_X9_has F s m 0 w1 w2 w3 w4) (fun m1 => n_X10_has F s m1 23 w1 w2 w3 w4) := by
  have h0 := h
  obtain ⟨hg, ow, nw, hst⟩ := h
  have hl := hst.1
  have hp := hl.hp
  have hr := hl.rf
  have hn := hl.hn
  have rn := hl.nw
  have r1 := rf23_1 hr
  have l24 := ln24 hp
  obtain ⟨z, hz, rfl⟩ := q32_of w1
  obtain ⟨u, hu, rfl⟩ := q32_of w2
  obtain ⟨l, hll, rfl⟩ := q32_of w3
  obtain ⟨v, hv, rfl⟩ := q32_of w4
  have r12 := rf0_12 hr
  have r13 := rf0_13 hr
  have i9 := isSt9 hz
  have i10 := isSt10 hz
  have fin : ∀ r m1 m2, n_X9_has F s m 0 (q32 z) (q32 u) (q32 l) (q32 v) = some (r, m1) → n_X10_has F s m1 23 (q32 z) (q32 u) (q32 l) (q32 v) = some (r, m2) → SC m m2 → OPK s m (n_X9_has F s m 0 (q32 z) (q32 u) (q32 l) (q32 v)) (fun m1 => n_X10_has F s m1 23 (q32 z) (q32 u) (q32 l) (q32 v)) := fun r m1 m2 e1 e2 sc =>
    opk_fin h0 e1 e2 (un_X10_has (un_X9_has hg (okB hp).1 e1).2 (okB hp).2 e2).2 sc
  by_cases cz : 0 ≤ z ∧ z < 3
  · rw [if_pos cz] at i9 i10
    by_cases c : 0 ≤ v ∧ v ≤ 1
    · rcases asks_cases (F := F) (by omega) hst hu hll with ⟨m1, k1, k2, k3⟩ | ⟨f, k1, k2, k3⟩
      · obtain ⟨m2, k4, k5⟩ := k3 (wI m1 23 0 (q32 0)) (hr.same k2.r) (by simp (disch := omega) only [Option.bind_some, bindv, bindv0, bind2_s, bind3_s, ↓reduceIte, Bool.false_eq_true, rZM_0, rZM_1, rZP_0, rZP_1, ptZ_0, ptZ_1, c32i, c64i, ncI, Int.natCast_add, Int.natCast_mul, q32_neg, q64_neg, q32_add, q32_sub, q32_mul, q64_add, q64_sub, q64_mul, q32_64i, q64_32, q32_lt_t, q32_lt_f, q32_le_t, q32_le_f, q32_eq_t, q32_eq_f, q64_lt_t, q64_lt_f, q64_le_t, q64_le_f, q64_eq_t, q64_eq_f, rdI_i, rdL_i, rdR_i, rdN_i, stI_i, stL_i, stR_i, wI_s, wI_n, wL_s, wL_n, wI_2, wI_3, wL_1, wL_3, wR_1, wR_2, Int.toNat_natCast, tnO, tn_add, tn_sub, tn_mul, Nat.add_sub_cancel, Nat.add_zero, Nat.zero_add, lnO, win_t, win_f]; exact k2.i _ _ (by omega))
        refine fin (q64 (-3)) m1 m2 ?_ ?_ (k2.tr ((SC.k0 m1).tr k5))
        · unfold n_X9_has nb_X9_has_0
          simp (disch := omega) only [Option.bind_some, bindv, bindv0, bind2_s, bind3_s, ↓reduceIte, Bool.false_eq_true, rZM_0, rZM_1, rZP_0, rZP_1, ptZ_0, ptZ_1, c32i, c64i, ncI, Int.natCast_add, Int.natCast_mul, q32_neg, q64_neg, q32_add, q32_sub, q32_mul, q64_add, q64_sub, q64_mul, q32_64i, q64_32, q32_lt_t, q32_lt_f, q32_le_t, q32_le_f, q32_eq_t, q32_eq_f, q64_lt_t, q64_lt_f, q64_le_t, q64_le_f, q64_eq_t, q64_eq_f, rdI_i, rdL_i, rdR_i, rdN_i, stI_i, stL_i, stR_i, wI_s, wI_n, wL_s, wL_n, wI_2, wI_3, wL_1, wL_3, wR_1, wR_2, Int.toNat_natCast, tnO, tn_add, tn_sub, tn_mul, Nat.add_sub_cancel, Nat.add_zero, Nat.zero_add, lnO, win_t, win_f, i9, k1]
        · unfold n_X10_has nb_X10_has_0
          simp (disch := omega) only [Option.bind_some, bindv, bindv0, bind2_s, bind3_s, ↓reduceIte, Bool.false_eq_true, rZM_0, rZM_1, rZP_0, rZP_1, ptZ_0, ptZ_1, c32i, c64i, ncI, Int.natCast_add, Int.natCast_mul, q32_neg, q64_neg, q32_add, q32_sub, q32_mul, q64_add, q64_sub, q64_mul, q32_64i, q64_32, q32_lt_t, q32_lt_f, q32_le_t, q32_le_f, q32_eq_t, q32_eq_f, q64_lt_t, q64_lt_f, q64_le_t, q64_le_f, q64_eq_t, q64_eq_f, rdI_i, rdL_i, rdR_i, rdN_i, stI_i, stL_i, stR_i, wI_s, wI_n, wL_s, wL_n, wI_2, wI_3, wL_1, wL_3, wR_1, wR_2, Int.toNat_natCast, tnO, tn_add, tn_sub, tn_mul, Nat.add_sub_cancel, Nat.add_zero, Nat.zero_add, lnO, win_t, win_f, i10, k4]
      · obtain ⟨n, rfl⟩ := Int.eq_ofNat_of_zero_le cz.1
        obtain ⟨fc, tp, U, L, X, O, hd, h9, h10, -, -⟩ := hst.fd
        have kf := k1
        unfold FLR at kf
        have s9 := stuff9 (m := PT m 19 f) hF hd h9 (f := f) (by omega) (by omega) (z := n) (by omega) (r := 20)
        have k4 := k3 (wI (PT (PT m 19 f) 20 (STF fc U L (fun k => X k n) O f)) 23 0 (q32 0)) (hr.same rfl) (by simp (disch := omega) only [Option.bind_some, bindv, bindv0, bind2_s, bind3_s, ↓reduceIte, Bool.false_eq_true, rZM_0, rZM_1, rZP_0, rZP_1, ptZ_0, ptZ_1, c32i, c64i, ncI, Int.natCast_add, Int.natCast_mul, q32_neg, q64_neg, q32_add, q32_sub, q32_mul, q64_add, q64_sub, q64_mul, q32_64i, q64_32, q32_lt_t, q32_lt_f, q32_le_t, q32_le_f, q32_eq_t, q32_eq_f, q64_lt_t, q64_lt_f, q64_le_t, q64_le_f, q64_eq_t, q64_eq_f, rdI_i, rdL_i, rdR_i, rdN_i, stI_i, stL_i, stR_i, wI_s, wI_n, wL_s, wL_n, wI_2, wI_3, wL_1, wL_3, wR_1, wR_2, Int.toNat_natCast, tnO, tn_add, tn_sub, tn_mul, Nat.add_sub_cancel, Nat.add_zero, Nat.zero_add, lnO, win_t, win_f]; rfl)
        obtain ⟨m2, t1, t2, t3, t4⟩ := stuff10 (m := PS (wI (PT (PT m 19 f) 20 (STF fc U L (fun k => X k n) O f)) 23 0 (q32 0)) f) hF hp hd (h10.k (fun j _ => by rw [PS_1]; simp (disch := omega) only [Option.bind_some, bindv, bindv0, bind2_s, bind3_s, ↓reduceIte, Bool.false_eq_true, rZM_0, rZM_1, rZP_0, rZP_1, ptZ_0, ptZ_1, c32i, c64i, ncI, Int.natCast_add, Int.natCast_mul, q32_neg, q64_neg, q32_add, q32_sub, q32_mul, q64_add, q64_sub, q64_mul, q32_64i, q64_32, q32_lt_t, q32_lt_f, q32_le_t, q32_le_f, q32_eq_t, q32_eq_f, q64_lt_t, q64_lt_f, q64_le_t, q64_le_f, q64_eq_t, q64_eq_f, rdI_i, rdL_i, rdR_i, rdN_i, stI_i, stL_i, stR_i, wI_s, wI_n, wL_s, wL_n, wI_2, wI_3, wL_1, wL_3, wR_1, wR_2, Int.toNat_natCast, tnO, tn_add, tn_sub, tn_mul, Nat.add_sub_cancel, Nat.add_zero, Nat.zero_add, lnO, win_t, win_f]; rfl) rfl hd.1) (f := f) (by omega) (by omega) (z := n) (by omega)
        have k2' : n_X9_asksFloor F s m 0 (q32 u) (q32 l) = some (q32 1, PT m 19 f) := k2
        have sc : SC m m2 := (((((SC.rf m).pt (by omega)).pt (by omega)).tr (SC.k0 _)).ps).tr t2.sc
        refine fin (q64 (if v = 0 then (STF fc U L (fun k => X k n) O f).1 else (STF fc U L (fun k => X k n) O f).2)) (PT (PT m 19 f) 20 (STF fc U L (fun k => X k n) O f)) m2 ?_ ?_ sc
        · unfold n_X9_has nb_X9_has_0 n_X2_part nb_X2_part_0
          by_cases cv : v = 0
          · rw [if_pos cv]
            simp (disch := omega) only [Option.bind_some, bindv, bindv0, bind2_s, bind3_s, ↓reduceIte, Bool.false_eq_true, rZM_0, rZM_1, rZP_0, rZP_1, ptZ_0, ptZ_1, c32i, c64i, ncI, Int.natCast_add, Int.natCast_mul, q32_neg, q64_neg, q32_add, q32_sub, q32_mul, q64_add, q64_sub, q64_mul, q32_64i, q64_32, q32_lt_t, q32_lt_f, q32_le_t, q32_le_f, q32_eq_t, q32_eq_f, q64_lt_t, q64_lt_f, q64_le_t, q64_le_f, q64_eq_t, q64_eq_f, rdI_i, rdL_i, rdR_i, rdN_i, stI_i, stL_i, stR_i, wI_s, wI_n, wL_s, wL_n, wI_2, wI_3, wL_1, wL_3, wR_1, wR_2, Int.toNat_natCast, tnO, tn_add, tn_sub, tn_mul, Nat.add_sub_cancel, Nat.add_zero, Nat.zero_add, lnO, win_t, win_f, i9, k2', PT_3, rn, r12, r13, PT_0, PT_l, s9]
          · rw [if_neg cv]
            simp (disch := omega) only [Option.bind_some, bindv, bindv0, bind2_s, bind3_s, ↓reduceIte, Bool.false_eq_true, rZM_0, rZM_1, rZP_0, rZP_1, ptZ_0, ptZ_1, c32i, c64i, ncI, Int.natCast_add, Int.natCast_mul, q32_neg, q64_neg, q32_add, q32_sub, q32_mul, q64_add, q64_sub, q64_mul, q32_64i, q64_32, q32_lt_t, q32_lt_f, q32_le_t, q32_le_f, q32_eq_t, q32_eq_f, q64_lt_t, q64_lt_f, q64_le_t, q64_le_f, q64_eq_t, q64_eq_f, rdI_i, rdL_i, rdR_i, rdN_i, stI_i, stL_i, stR_i, wI_s, wI_n, wL_s, wL_n, wI_2, wI_3, wL_1, wL_3, wR_1, wR_2, Int.toNat_natCast, tnO, tn_add, tn_sub, tn_mul, Nat.add_sub_cancel, Nat.add_zero, Nat.zero_add, lnO, win_t, win_f, i9, k2', PT_3, rn, r12, r13, PT_0, PT_l, s9]
        · unfold n_X10_has nb_X10_has_0
          by_cases cv : v = 0
          · rw [if_pos cv]
            simp (disch := omega) only [Option.bind_some, bindv, bindv0, bind2_s, bind3_s, ↓reduceIte, Bool.false_eq_true, rZM_0, rZM_1, rZP_0, rZP_1, ptZ_0, ptZ_1, c32i, c64i, ncI, Int.natCast_add, Int.natCast_mul, q32_neg, q64_neg, q32_add, q32_sub, q32_mul, q64_add, q64_sub, q64_mul, q32_64i, q64_32, q32_lt_t, q32_lt_f, q32_le_t, q32_le_f, q32_eq_t, q32_eq_f, q64_lt_t, q64_lt_f, q64_le_t, q64_le_f, q64_eq_t, q64_eq_f, rdI_i, rdL_i, rdR_i, rdN_i, stI_i, stL_i, stR_i, wI_s, wI_n, wL_s, wL_n, wI_2, wI_3, wL_1, wL_3, wR_1, wR_2, Int.toNat_natCast, tnO, tn_add, tn_sub, tn_mul, Nat.add_sub_cancel, Nat.add_zero, Nat.zero_add, lnO, win_t, win_f, i10, k4, PS_0, PS_l, t1, t3, t4]
          · rw [if_neg cv]
            simp (disch := omega) only [Option.bind_some, bindv, bindv0, bind2_s, bind3_s, ↓reduceIte, Bool.false_eq_true, rZM_0, rZM_1, rZP_0, rZP_1, ptZ_0, ptZ_1, c32i, c64i, ncI, Int.natCast_add, Int.natCast_mul, q32_neg, q64_neg, q32_add, q32_sub, q32_mul, q64_add, q64_sub, q64_mul, q32_64i, q64_32, q32_lt_t, q32_lt_f, q32_le_t, q32_le_f, q32_eq_t, q32_eq_f, q64_lt_t, q64_lt_f, q64_le_t, q64_le_f, q64_eq_t, q64_eq_f, rdI_i, rdL_i, rdR_i, rdN_i, stI_i, stL_i, stR_i, wI_s, wI_n, wL_s, wL_n, wI_2, wI_3, wL_1, wL_3, wR_1, wR_2, Int.toNat_natCast, tnO, tn_add, tn_sub, tn_mul, Nat.add_sub_cancel, Nat.add_zero, Nat.zero_add, lnO, win_t, win_f, i10, k4, PS_0, PS_l, t1, t3, t4]
    · refine fin (q64 (-2)) m _ ?_ ?_ (SC.k0 m)
      · unfold n_X9_has nb_X9_has_0
        by_cases c2 : v < 0
        · simp (disch := omega) only [Option.bind_some, bindv, bindv0, bind2_s, bind3_s, ↓reduceIte, Bool.false_eq_true, rZM_0, rZM_1, rZP_0, rZP_1, ptZ_0, ptZ_1, c32i, c64i, ncI, Int.natCast_add, Int.natCast_mul, q32_neg, q64_neg, q32_add, q32_sub, q32_mul, q64_add, q64_sub, q64_mul, q32_64i, q64_32, q32_lt_t, q32_lt_f, q32_le_t, q32_le_f, q32_eq_t, q32_eq_f, q64_lt_t, q64_lt_f, q64_le_t, q64_le_f, q64_eq_t, q64_eq_f, rdI_i, rdL_i, rdR_i, rdN_i, stI_i, stL_i, stR_i, wI_s, wI_n, wL_s, wL_n, wI_2, wI_3, wL_1, wL_3, wR_1, wR_2, Int.toNat_natCast, tnO, tn_add, tn_sub, tn_mul, Nat.add_sub_cancel, Nat.add_zero, Nat.zero_add, lnO, win_t, win_f, i9]
        · simp (disch := omega) only [Option.bind_some, bindv, bindv0, bind2_s, bind3_s, ↓reduceIte, Bool.false_eq_true, rZM_0, rZM_1, rZP_0, rZP_1, ptZ_0, ptZ_1, c32i, c64i, ncI, Int.natCast_add, Int.natCast_mul, q32_neg, q64_neg, q32_add, q32_sub, q32_mul, q64_add, q64_sub, q64_mul, q32_64i, q64_32, q32_lt_t, q32_lt_f, q32_le_t, q32_le_f, q32_eq_t, q32_eq_f, q64_lt_t, q64_lt_f, q64_le_t, q64_le_f, q64_eq_t, q64_eq_f, rdI_i, rdL_i, rdR_i, rdN_i, stI_i, stL_i, stR_i, wI_s, wI_n, wL_s, wL_n, wI_2, wI_3, wL_1, wL_3, wR_1, wR_2, Int.toNat_natCast, tnO, tn_add, tn_sub, tn_mul, Nat.add_sub_cancel, Nat.add_zero, Nat.zero_add, lnO, win_t, win_f, i9]
      · unfold n_X10_has nb_X10_has_0
        simp (disch := omega) only [Option.bind_some, bindv, bindv0, bind2_s, bind3_s, ↓reduceIte, Bool.false_eq_true, rZM_0, rZM_1, rZP_0, rZP_1, ptZ_0, ptZ_1, c32i, c64i, ncI, Int.natCast_add, Int.natCast_mul, q32_neg, q64_neg, q32_add, q32_sub, q32_mul, q64_add, q64_sub, q64_mul, q32_64i, q64_32, q32_lt_t, q32_lt_f, q32_le_t, q32_le_f, q32_eq_t, q32_eq_f, q64_lt_t, q64_lt_f, q64_le_t, q64_le_f, q64_eq_t, q64_eq_f, rdI_i, rdL_i, rdR_i, rdN_i, stI_i, stL_i, stR_i, wI_s, wI_n, wL_s, wL_n, wI_2, wI_3, wL_1, wL_3, wR_1, wR_2, Int.toNat_natCast, tnO, tn_add, tn_sub, tn_mul, Nat.add_sub_cancel, Nat.add_zero, Nat.zero_add, lnO, win_t, win_f, i10]
  · rw [if_neg cz] at i9 i10
    refine fin (q64 (-2)) m _ ?_ ?_ (SC.k0 m)
    · unfold n_X9_has nb_X9_has_0
      simp (disch := omega) only [Option.bind_some, bindv, bindv0, bind2_s, bind3_s, ↓reduceIte, Bool.false_eq_true, rZM_0, rZM_1, rZP_0, rZP_1, ptZ_0, ptZ_1, c32i, c64i, ncI, Int.natCast_add, Int.natCast_mul, q32_neg, q64_neg, q32_add, q32_sub, q32_mul, q64_add, q64_sub, q64_mul, q32_64i, q64_32, q32_lt_t, q32_lt_f, q32_le_t, q32_le_f, q32_eq_t, q32_eq_f, q64_lt_t, q64_lt_f, q64_le_t, q64_le_f, q64_eq_t, q64_eq_f, rdI_i, rdL_i, rdR_i, rdN_i, stI_i, stL_i, stR_i, wI_s, wI_n, wL_s, wL_n, wI_2, wI_3, wL_1, wL_3, wR_1, wR_2, Int.toNat_natCast, tnO, tn_add, tn_sub, tn_mul, Nat.add_sub_cancel, Nat.add_zero, Nat.zero_add, lnO, win_t, win_f, i9]
    · unfold n_X10_has nb_X10_has_0
      simp (disch := omega) only [Option.bind_some, bindv, bindv0, bind2_s, bind3_s, ↓reduceIte, Bool.false_eq_true, rZM_0, rZM_1, rZP_0, rZP_1, ptZ_0, ptZ_1, c32i, c64i, ncI, Int.natCast_add, Int.natCast_mul, q32_neg, q64_neg, q32_add, q32_sub, q32_mul, q64_add, q64_sub, q64_mul, q32_64i, q64_32, q32_lt_t, q32_lt_f, q32_le_t, q32_le_f, q32_eq_t, q32_eq_f, q64_lt_t, q64_lt_f, q64_le_t, q64_le_f, q64_eq_t, q64_eq_f, rdI_i, rdL_i, rdR_i, rdN_i, stI_i, stL_i, stR_i, wI_s, wI_n, wL_s, wL_n, wI_2, wI_3, wL_1, wL_3, wR_1, wR_2, Int.toNat_natCast, tnO, tn_add, tn_sub, tn_mul, Nat.add_sub_cancel, Nat.add_zero, Nat.zero_add, lnO, win_t, win_f, i10]
/-! tenants -/
def TN (tc tp : Nat) (V W : Nat → Int) : Prop := tc ≤ 6 ∧ ∀ t, t < tc → FLR tp (V t) (W t) ∧ W t ≤ 99
def T9 (s : List Sh) (m : Mem) (n tc : Nat) (V W : Nat → Int) : Prop := m.1 n 15 = q32 tc ∧ (m.2.2 n 16 = some (n + 8) ∧ m.2.2 n 17 = some (n + 9)) ∧ (ln s (n + 8) = 6 ∧ ln s (n + 9) = 6) ∧ ∀ t, t < tc → m.1 (n + 8) t = q32 (V t) ∧ m.1 (n + 9) t = q32 (W t)
def T10 (m : Mem) (tc : Nat) (V W : Nat → Int) : Prop := RF m ∧ m.1 24 4 = q32 tc ∧ ∀ t, t < tc → m.1 24 (49 + t) = q32 (V t) ∧ m.1 24 (55 + t) = q32 (W t)
theorem T9.k {s : List Sh} {m m' : Mem} {n tc : Nat} {V W : Nat → Int} (h : T9 s m n tc V W) (h1 : ∀ a k, n ≤ a ∧ a < n + 10 → m'.1 a k = m.1 a k) (h2 : m'.2.2 = m.2.2) : T9 s m' n tc V W := by
  unfold T9 at h ⊢
  have e : ∀ j, j < 10 → m'.1 (n + j) = m.1 (n + j) := fun j hj => funext fun k => h1 _ _ (by omega)
  have e0 : m'.1 n = m.1 n := e 0 (by omega)
  rw [h2, e0, e 8 (by omega), e 9 (by omega)]
  exact h
theorem T10.k {m m' : Mem} {tc : Nat} {V W : Nat → Int} (h : T10 m tc V W) (h1 : ∀ k, k < 99 → m'.1 24 k = m.1 24 k) (h2 : m'.2.2 = m.2.2) (h8 : tc ≤ 6) : T10 m' tc V W := by
  obtain ⟨a, b, c⟩ := h
  refine ⟨a.same h2, by rw [h1 4 (by omega)]; exact b, fun k hk => ?_⟩
  obtain ⟨c1, c2⟩ := c k hk
  exact ⟨by rw [h1 _ (by omega)]; exact c1, by rw [h1 _ (by omega)]; exact c2⟩
theorem ST.tn {s : List Sh} {m : Mem} {ow : Nat → Nat} {nw : Nat} (h : ST s m ow nw) {tp : Nat} (ht : A (m.1 24) 1 = tp) : ∃ tc V W, TN tc tp V W ∧ T9 s m nw tc V W ∧ T10 m tc V W := by
  obtain ⟨-, -, ⟨r7, r8, r10, r11, r12, r13, r14, r16, r17⟩, ln1, ln2, ln3, ln4, ln5, ln6, ln7, ln8, ln9⟩ := h.1.2.2.2.1
  obtain ⟨tp', sk, nl, bc, fc, tc, au, aw, S, U, L, V, W, X, O, h1, ⟨a0, a1, a2, a4, a5, a6, a9, a15⟩, ⟨b0, b1, b2, b3, b4, b5, b6, b7, b8⟩, h4, -, -, -, h8⟩ := h.2.1
  have : tp' = tp := by
    have := A_q b1 (by omega)
    omega
  subst this
  exact ⟨tc, V, W, ⟨by omega, fun t ht => ⟨(h8 t ht).2.2.1, (h8 t ht).2.2.2.1⟩⟩, ⟨a15, ⟨r16, r17⟩, ⟨ln8, ln9⟩, fun t ht => ⟨(h8 t ht).1, (h8 t ht).2.1⟩⟩, ⟨h.1.rf, b4, fun t ht => ⟨(h8 t ht).2.2.2.2.1, (h8 t ht).2.2.2.2.2⟩⟩⟩
theorem TN.b {tc tp : Nat} {V W : Nat → Int} (h : TN tc tp V W) (h9 : tp ≤ 9) {t : Nat} (ht : t < tc) : 0 ≤ V t ∧ V t ≤ 891 ∧ 1 ≤ W t ∧ W t ≤ 99 := by
  obtain ⟨f1, f2⟩ := h.2 t ht
  unfold FLR at f1
  have : (tp : Int) * W t ≤ 9 * 99 := Int.mul_le_mul (by omega) (by omega) (by omega) (by omega)
  exact ⟨by omega, by omega, by omega, f2⟩
theorem rent9 {F : Nat} (hF : 1000 ≤ F) {s : List Sh} {m : Mem} {n fc tp tc : Nat} {U L V W : Nat → Int} {X : Nat → Nat → Nat} {O : Nat → Nat} (hd : FD fc tp U L X O) (h9 : F9 s m n fc U L X O) (hn : TN tc tp V W) (t9 : T9 s m n tc V W) {t : Nat} (ht : t < tc) {r : Nat} : n_X0_rentOf F s m n (q32 t) r = some ((), PT m r (STF fc U L (fun k => X k 0) O (V t, W t))) := by
  obtain ⟨b1, b2, b3, b4⟩ := hn.b hd.2.2.1 ht
  obtain ⟨a15, ⟨r16, r17⟩, ⟨l8, l9⟩, hv⟩ := t9
  obtain ⟨v1, v2⟩ := hv t ht
  have h6 := hn.1
  have s9 := stuff9 hF hd h9 (f := (V t, W t)) (by dsimp only; omega) (by dsimp only; omega) (z := 0) (by omega) (r := r)
  dsimp only at s9
  unfold n_X0_rentOf nb_X0_rentOf_0
  rw [show (q32 ((0 : Nat) : Int)) = q32 0 from rfl] at s9
  simp (disch := omega) only [Option.bind_some, bindv, bindv0, bind2_s, bind3_s, ↓reduceIte, Bool.false_eq_true, rZM_0, rZM_1, rZP_0, rZP_1, ptZ_0, ptZ_1, c32i, c64i, ncI, Int.natCast_add, Int.natCast_mul, q32_neg, q64_neg, q32_add, q32_sub, q32_mul, q64_add, q64_sub, q64_mul, q32_64i, q64_32, q32_lt_t, q32_lt_f, q32_le_t, q32_le_f, q32_eq_t, q32_eq_f, q64_lt_t, q64_lt_f, q64_le_t, q64_le_f, q64_eq_t, q64_eq_f, rdI_i, rdL_i, rdR_i, rdN_i, stI_i, stL_i, stR_i, wI_s, wI_n, wL_s, wL_n, wI_2, wI_3, wL_1, wL_3, wR_1, wR_2, Int.toNat_natCast, tnO, tn_add, tn_sub, tn_mul, Nat.add_sub_cancel, Nat.add_zero, Nat.zero_add, lnO, win_t, win_f, r16, r17, v1, v2, s9]
theorem rent10 {F : Nat} (hF : 1000 ≤ F) {s : List Sh} (hp : ∃ t, s = sB ++ t) {m : Mem} {fc tp tc : Nat} {U L V W : Nat → Int} {X : Nat → Nat → Nat} {O : Nat → Nat} (hd : FD fc tp U L X O) (h10 : F10 m fc U L X) (hn : TN tc tp V W) (t10 : T10 m tc V W) {t : Nat} (ht : t < tc) : ∃ m', n_X10_laysRent F s m 23 (q32 t) = some ((), m') ∧ KS m m' ∧ m'.2.1 23 15 = q64 (STF fc U L (fun k => X k 0) O (V t, W t)).1 ∧ m'.2.1 23 16 = q64 (STF fc U L (fun k => X k 0) O (V t, W t)).2 := by
  obtain ⟨b1, b2, b3, b4⟩ := hn.b hd.2.2.1 ht
  obtain ⟨v1, v2⟩ := t10.2.2 t ht
  have h6 := hn.1
  have r1 := rf23_1 t10.1
  have l24 := ln24 hp
  obtain ⟨m', e1, e2, e3, e4⟩ := stuff10 hF hp hd h10 (f := (V t, W t)) (by dsimp only; omega) (by dsimp only; omega) (z := 0) (by omega)
  refine ⟨m', ?_, e2, e3, e4⟩
  dsimp only at e1
  rw [show (q32 ((0 : Nat) : Int)) = q32 0 from rfl] at e1
  unfold n_X10_laysRent nb_X10_laysRent_0
  simp (disch := omega) only [Option.bind_some, bindv, bindv0, bind2_s, bind3_s, ↓reduceIte, Bool.false_eq_true, rZM_0, rZM_1, rZP_0, rZP_1, ptZ_0, ptZ_1, c32i, c64i, ncI, Int.natCast_add, Int.natCast_mul, q32_neg, q64_neg, q32_add, q32_sub, q32_mul, q64_add, q64_sub, q64_mul, q32_64i, q64_32, q32_lt_t, q32_lt_f, q32_le_t, q32_le_f, q32_eq_t, q32_eq_f, q64_lt_t, q64_lt_f, q64_le_t, q64_le_f, q64_eq_t, q64_eq_f, rdI_i, rdL_i, rdR_i, rdN_i, stI_i, stL_i, stR_i, wI_s, wI_n, wL_s, wL_n, wI_2, wI_3, wL_1, wL_3, wR_1, wR_2, Int.toNat_natCast, tnO, tn_add, tn_sub, tn_mul, Nat.add_sub_cancel, Nat.add_zero, Nat.zero_add, lnO, win_t, win_f, r1, v1, v2, e1]
theorem isTen10 {s : List Sh} (hp : ∃ t, s = sB ++ t) {m : Mem} {tc : Nat} {V W : Nat → Int} (t10 : T10 m tc V W) (h6 : tc ≤ 6) {t : Int} (ht : B31 t) : n_X10_isTenant s m 23 (q32 t) = some (if 0 ≤ t ∧ t < tc then q32 1 else q32 0) := by
  have r1 := rf23_1 t10.1
  have l24 := ln24 hp
  have b4 := t10.2.1
  unfold n_X10_isTenant nb_X10_isTenant_0
  by_cases c : 0 ≤ t ∧ t < tc
  · rw [if_pos c]; simp (disch := omega) only [Option.bind_some, bindv, bindv0, bind2_s, bind3_s, ↓reduceIte, Bool.false_eq_true, rZM_0, rZM_1, rZP_0, rZP_1, ptZ_0, ptZ_1, c32i, c64i, ncI, Int.natCast_add, Int.natCast_mul, q32_neg, q64_neg, q32_add, q32_sub, q32_mul, q64_add, q64_sub, q64_mul, q32_64i, q64_32, q32_lt_t, q32_lt_f, q32_le_t, q32_le_f, q32_eq_t, q32_eq_f, q64_lt_t, q64_lt_f, q64_le_t, q64_le_f, q64_eq_t, q64_eq_f, rdI_i, rdL_i, rdR_i, rdN_i, stI_i, stL_i, stR_i, wI_s, wI_n, wL_s, wL_n, wI_2, wI_3, wL_1, wL_3, wR_1, wR_2, Int.toNat_natCast, tnO, tn_add, tn_sub, tn_mul, Nat.add_sub_cancel, Nat.add_zero, Nat.zero_add, lnO, win_t, win_f, r1, b4]
  · rw [if_neg c]; simp (disch := omega) only [Option.bind_some, bindv, bindv0, bind2_s, bind3_s, ↓reduceIte, Bool.false_eq_true, rZM_0, rZM_1, rZP_0, rZP_1, ptZ_0, ptZ_1, c32i, c64i, ncI, Int.natCast_add, Int.natCast_mul, q32_neg, q64_neg, q32_add, q32_sub, q32_mul, q64_add, q64_sub, q64_mul, q32_64i, q64_32, q32_lt_t, q32_lt_f, q32_le_t, q32_le_f, q32_eq_t, q32_eq_f, q64_lt_t, q64_lt_f, q64_le_t, q64_le_f, q64_eq_t, q64_eq_f, rdI_i, rdL_i, rdR_i, rdN_i, stI_i, stL_i, stR_i, wI_s, wI_n, wL_s, wL_n, wI_2, wI_3, wL_1, wL_3, wR_1, wR_2, Int.toNat_natCast, tnO, tn_add, tn_sub, tn_mul, Nat.add_sub_cancel, Nat.add_zero, Nat.zero_add, lnO, win_t, win_f, r1, b4]
theorem opk_rent {F : Nat} (hF : 1000 ≤ F) {s : List Sh} {m : Mem} (h : INV s m) (w1 w2 : Int32) : OPK s m (n_X9_rent F s m 0 w1 w2) (fun m1 => n_X10_rent F s m1 23 w1 w2) := by
  have h0 := h
  obtain ⟨hg, ow, nw, hst⟩ := h
  have hl := hst.1
  have hp := hl.hp
  have hr := hl.rf
  have hn := hl.hn
  have rn := hl.nw
  have r1 := rf23_1 hr
  have l24 := ln24 hp
  obtain ⟨t, ht, rfl⟩ := q32_of w1
  obtain ⟨v, hv, rfl⟩ := q32_of w2
  have r13 := rf0_13 hr
  obtain ⟨fc, tp, U, L, X, O, hd, h9, h10, -, htp⟩ := hst.fd
  obtain ⟨tc, V, W, hn6, t9, t10⟩ := hst.tn htp
  have h6 := hn6.1
  have a15 := t9.1
  have fin : ∀ r m1 m2, n_X9_rent F s m 0 (q32 t) (q32 v) = some (r, m1) → n_X10_rent F s m1 23 (q32 t) (q32 v) = some (r, m2) → SC m m2 → OPK s m (n_X9_rent F s m 0 (q32 t) (q32 v)) (fun m1 => n_X10_rent F s m1 23 (q32 t) (q32 v)) := fun r m1 m2 e1 e2 sc =>
    opk_fin h0 e1 e2 (un_X10_rent (un_X9_rent hg (okB hp).1 e1).2 (okB hp).2 e2).2 sc
  by_cases ct : 0 ≤ t ∧ t < tc
  · have it : ∀ mm, T10 mm tc V W → n_X10_isTenant s mm 23 (q32 t) = some (q32 1) := fun mm hm => by rw [isTen10 hp hm h6 ht, if_pos ct]
    by_cases c : 0 ≤ v ∧ v ≤ 1
    · obtain ⟨n, rfl⟩ := Int.eq_ofNat_of_zero_le ct.1
      have s9 := rent9 hF hd h9 hn6 t9 (t := n) (by omega) (r := 20)
      generalize hG : STF fc U L (fun k => X k 0) O (V n, W n) = g at s9
      obtain ⟨m2, e1, e2, e3, e4⟩ := rent10 (m := wI (PT m 20 g) 23 0 (q32 0)) hF hp hd (h10.k (fun j _ => by simp (disch := omega) only [Option.bind_some, bindv, bindv0, bind2_s, bind3_s, ↓reduceIte, Bool.false_eq_true, rZM_0, rZM_1, rZP_0, rZP_1, ptZ_0, ptZ_1, c32i, c64i, ncI, Int.natCast_add, Int.natCast_mul, q32_neg, q64_neg, q32_add, q32_sub, q32_mul, q64_add, q64_sub, q64_mul, q32_64i, q64_32, q32_lt_t, q32_lt_f, q32_le_t, q32_le_f, q32_eq_t, q32_eq_f, q64_lt_t, q64_lt_f, q64_le_t, q64_le_f, q64_eq_t, q64_eq_f, rdI_i, rdL_i, rdR_i, rdN_i, stI_i, stL_i, stR_i, wI_s, wI_n, wL_s, wL_n, wI_2, wI_3, wL_1, wL_3, wR_1, wR_2, Int.toNat_natCast, tnO, tn_add, tn_sub, tn_mul, Nat.add_sub_cancel, Nat.add_zero, Nat.zero_add, lnO, win_t, win_f]; rfl) rfl hd.1) hn6 (t10.k (fun j _ => by simp (disch := omega) only [Option.bind_some, bindv, bindv0, bind2_s, bind3_s, ↓reduceIte, Bool.false_eq_true, rZM_0, rZM_1, rZP_0, rZP_1, ptZ_0, ptZ_1, c32i, c64i, ncI, Int.natCast_add, Int.natCast_mul, q32_neg, q64_neg, q32_add, q32_sub, q32_mul, q64_add, q64_sub, q64_mul, q32_64i, q64_32, q32_lt_t, q32_lt_f, q32_le_t, q32_le_f, q32_eq_t, q32_eq_f, q64_lt_t, q64_lt_f, q64_le_t, q64_le_f, q64_eq_t, q64_eq_f, rdI_i, rdL_i, rdR_i, rdN_i, stI_i, stL_i, stR_i, wI_s, wI_n, wL_s, wL_n, wI_2, wI_3, wL_1, wL_3, wR_1, wR_2, Int.toNat_natCast, tnO, tn_add, tn_sub, tn_mul, Nat.add_sub_cancel, Nat.add_zero, Nat.zero_add, lnO, win_t, win_f]; rfl) rfl h6) (t := n) (by omega)
      rw [hG] at e3 e4
      have it' := it (wI (PT m 20 g) 23 0 (q32 0)) (t10.k (fun j _ => by simp (disch := omega) only [Option.bind_some, bindv, bindv0, bind2_s, bind3_s, ↓reduceIte, Bool.false_eq_true, rZM_0, rZM_1, rZP_0, rZP_1, ptZ_0, ptZ_1, c32i, c64i, ncI, Int.natCast_add, Int.natCast_mul, q32_neg, q64_neg, q32_add, q32_sub, q32_mul, q64_add, q64_sub, q64_mul, q32_64i, q64_32, q32_lt_t, q32_lt_f, q32_le_t, q32_le_f, q32_eq_t, q32_eq_f, q64_lt_t, q64_lt_f, q64_le_t, q64_le_f, q64_eq_t, q64_eq_f, rdI_i, rdL_i, rdR_i, rdN_i, stI_i, stL_i, stR_i, wI_s, wI_n, wL_s, wL_n, wI_2, wI_3, wL_1, wL_3, wR_1, wR_2, Int.toNat_natCast, tnO, tn_add, tn_sub, tn_mul, Nat.add_sub_cancel, Nat.add_zero, Nat.zero_add, lnO, win_t, win_f]; rfl) rfl h6)
      refine fin (q64 (if v = 0 then g.1 else g.2)) (PT m 20 g) m2 ?_ ?_ ((((SC.rf m).pt (by omega)).tr (SC.k0 _)).tr e2.sc)
      · unfold n_X9_rent nb_X9_rent_0 n_X2_part nb_X2_part_0
        by_cases cv : v = 0
        · rw [if_pos cv]
          simp (disch := omega) only [Option.bind_some, bindv, bindv0, bind2_s, bind3_s, ↓reduceIte, Bool.false_eq_true, rZM_0, rZM_1, rZP_0, rZP_1, ptZ_0, ptZ_1, c32i, c64i, ncI, Int.natCast_add, Int.natCast_mul, q32_neg, q64_neg, q32_add, q32_sub, q32_mul, q64_add, q64_sub, q64_mul, q32_64i, q64_32, q32_lt_t, q32_lt_f, q32_le_t, q32_le_f, q32_eq_t, q32_eq_f, q64_lt_t, q64_lt_f, q64_le_t, q64_le_f, q64_eq_t, q64_eq_f, rdI_i, rdL_i, rdR_i, rdN_i, stI_i, stL_i, stR_i, wI_s, wI_n, wL_s, wL_n, wI_2, wI_3, wL_1, wL_3, wR_1, wR_2, Int.toNat_natCast, tnO, tn_add, tn_sub, tn_mul, Nat.add_sub_cancel, Nat.add_zero, Nat.zero_add, lnO, win_t, win_f, rn, a15, r13, s9, PT_3, PT_0, PT_l]
        · rw [if_neg cv]
          simp (disch := omega) only [Option.bind_some, bindv, bindv0, bind2_s, bind3_s, ↓reduceIte, Bool.false_eq_true, rZM_0, rZM_1, rZP_0, rZP_1, ptZ_0, ptZ_1, c32i, c64i, ncI, Int.natCast_add, Int.natCast_mul, q32_neg, q64_neg, q32_add, q32_sub, q32_mul, q64_add, q64_sub, q64_mul, q32_64i, q64_32, q32_lt_t, q32_lt_f, q32_le_t, q32_le_f, q32_eq_t, q32_eq_f, q64_lt_t, q64_lt_f, q64_le_t, q64_le_f, q64_eq_t, q64_eq_f, rdI_i, rdL_i, rdR_i, rdN_i, stI_i, stL_i, stR_i, wI_s, wI_n, wL_s, wL_n, wI_2, wI_3, wL_1, wL_3, wR_1, wR_2, Int.toNat_natCast, tnO, tn_add, tn_sub, tn_mul, Nat.add_sub_cancel, Nat.add_zero, Nat.zero_add, lnO, win_t, win_f, rn, a15, r13, s9, PT_3, PT_0, PT_l]
      · unfold n_X10_rent nb_X10_rent_0
        by_cases cv : v = 0
        · rw [if_pos cv]
          simp (disch := omega) only [Option.bind_some, bindv, bindv0, bind2_s, bind3_s, ↓reduceIte, Bool.false_eq_true, rZM_0, rZM_1, rZP_0, rZP_1, ptZ_0, ptZ_1, c32i, c64i, ncI, Int.natCast_add, Int.natCast_mul, q32_neg, q64_neg, q32_add, q32_sub, q32_mul, q64_add, q64_sub, q64_mul, q32_64i, q64_32, q32_lt_t, q32_lt_f, q32_le_t, q32_le_f, q32_eq_t, q32_eq_f, q64_lt_t, q64_lt_f, q64_le_t, q64_le_f, q64_eq_t, q64_eq_f, rdI_i, rdL_i, rdR_i, rdN_i, stI_i, stL_i, stR_i, wI_s, wI_n, wL_s, wL_n, wI_2, wI_3, wL_1, wL_3, wR_1, wR_2, Int.toNat_natCast, tnO, tn_add, tn_sub, tn_mul, Nat.add_sub_cancel, Nat.add_zero, Nat.zero_add, lnO, win_t, win_f, it', e1, e3, e4]
        · rw [if_neg cv]
          simp (disch := omega) only [Option.bind_some, bindv, bindv0, bind2_s, bind3_s, ↓reduceIte, Bool.false_eq_true, rZM_0, rZM_1, rZP_0, rZP_1, ptZ_0, ptZ_1, c32i, c64i, ncI, Int.natCast_add, Int.natCast_mul, q32_neg, q64_neg, q32_add, q32_sub, q32_mul, q64_add, q64_sub, q64_mul, q32_64i, q64_32, q32_lt_t, q32_lt_f, q32_le_t, q32_le_f, q32_eq_t, q32_eq_f, q64_lt_t, q64_lt_f, q64_le_t, q64_le_f, q64_eq_t, q64_eq_f, rdI_i, rdL_i, rdR_i, rdN_i, stI_i, stL_i, stR_i, wI_s, wI_n, wL_s, wL_n, wI_2, wI_3, wL_1, wL_3, wR_1, wR_2, Int.toNat_natCast, tnO, tn_add, tn_sub, tn_mul, Nat.add_sub_cancel, Nat.add_zero, Nat.zero_add, lnO, win_t, win_f, it', e1, e3, e4]
    · have it' := it (wI m 23 0 (q32 0)) (t10.k (fun j _ => by simp (disch := omega) only [Option.bind_some, bindv, bindv0, bind2_s, bind3_s, ↓reduceIte, Bool.false_eq_true, rZM_0, rZM_1, rZP_0, rZP_1, ptZ_0, ptZ_1, c32i, c64i, ncI, Int.natCast_add, Int.natCast_mul, q32_neg, q64_neg, q32_add, q32_sub, q32_mul, q64_add, q64_sub, q64_mul, q32_64i, q64_32, q32_lt_t, q32_lt_f, q32_le_t, q32_le_f, q32_eq_t, q32_eq_f, q64_lt_t, q64_lt_f, q64_le_t, q64_le_f, q64_eq_t, q64_eq_f, rdI_i, rdL_i, rdR_i, rdN_i, stI_i, stL_i, stR_i, wI_s, wI_n, wL_s, wL_n, wI_2, wI_3, wL_1, wL_3, wR_1, wR_2, Int.toNat_natCast, tnO, tn_add, tn_sub, tn_mul, Nat.add_sub_cancel, Nat.add_zero, Nat.zero_add, lnO, win_t, win_f]) rfl h6)
      refine fin (q64 (-2)) m _ ?_ ?_ (SC.k0 m)
      · unfold n_X9_rent nb_X9_rent_0
        by_cases c2 : v < 0
        · simp (disch := omega) only [Option.bind_some, bindv, bindv0, bind2_s, bind3_s, ↓reduceIte, Bool.false_eq_true, rZM_0, rZM_1, rZP_0, rZP_1, ptZ_0, ptZ_1, c32i, c64i, ncI, Int.natCast_add, Int.natCast_mul, q32_neg, q64_neg, q32_add, q32_sub, q32_mul, q64_add, q64_sub, q64_mul, q32_64i, q64_32, q32_lt_t, q32_lt_f, q32_le_t, q32_le_f, q32_eq_t, q32_eq_f, q64_lt_t, q64_lt_f, q64_le_t, q64_le_f, q64_eq_t, q64_eq_f, rdI_i, rdL_i, rdR_i, rdN_i, stI_i, stL_i, stR_i, wI_s, wI_n, wL_s, wL_n, wI_2, wI_3, wL_1, wL_3, wR_1, wR_2, Int.toNat_natCast, tnO, tn_add, tn_sub, tn_mul, Nat.add_sub_cancel, Nat.add_zero, Nat.zero_add, lnO, win_t, win_f, rn, a15]
        · simp (disch := omega) only [Option.bind_some, bindv, bindv0, bind2_s, bind3_s, ↓reduceIte, Bool.false_eq_true, rZM_0, rZM_1, rZP_0, rZP_1, ptZ_0, ptZ_1, c32i, c64i, ncI, Int.natCast_add, Int.natCast_mul, q32_neg, q64_neg, q32_add, q32_sub, q32_mul, q64_add, q64_sub, q64_mul, q32_64i, q64_32, q32_lt_t, q32_lt_f, q32_le_t, q32_le_f, q32_eq_t, q32_eq_f, q64_lt_t, q64_lt_f, q64_le_t, q64_le_f, q64_eq_t, q64_eq_f, rdI_i, rdL_i, rdR_i, rdN_i, stI_i, stL_i, stR_i, wI_s, wI_n, wL_s, wL_n, wI_2, wI_3, wL_1, wL_3, wR_1, wR_2, Int.toNat_natCast, tnO, tn_add, tn_sub, tn_mul, Nat.add_sub_cancel, Nat.add_zero, Nat.zero_add, lnO, win_t, win_f, rn, a15]
      · unfold n_X10_rent nb_X10_rent_0
        simp (disch := omega) only [Option.bind_some, bindv, bindv0, bind2_s, bind3_s, ↓reduceIte, Bool.false_eq_true, rZM_0, rZM_1, rZP_0, rZP_1, ptZ_0, ptZ_1, c32i, c64i, ncI, Int.natCast_add, Int.natCast_mul, q32_neg, q64_neg, q32_add, q32_sub, q32_mul, q64_add, q64_sub, q64_mul, q32_64i, q64_32, q32_lt_t, q32_lt_f, q32_le_t, q32_le_f, q32_eq_t, q32_eq_f, q64_lt_t, q64_lt_f, q64_le_t, q64_le_f, q64_eq_t, q64_eq_f, rdI_i, rdL_i, rdR_i, rdN_i, stI_i, stL_i, stR_i, wI_s, wI_n, wL_s, wL_n, wI_2, wI_3, wL_1, wL_3, wR_1, wR_2, Int.toNat_natCast, tnO, tn_add, tn_sub, tn_mul, Nat.add_sub_cancel, Nat.add_zero, Nat.zero_add, lnO, win_t, win_f, it']
  · have it' : n_X10_isTenant s (wI m 23 0 (q32 0)) 23 (q32 t) = some (q32 0) := by rw [isTen10 (m := wI m 23 0 (q32 0)) hp (t10.k (fun j _ => by simp (disch := omega) only [Option.bind_some, bindv, bindv0, bind2_s, bind3_s, ↓reduceIte, Bool.false_eq_true, rZM_0, rZM_1, rZP_0, rZP_1, ptZ_0, ptZ_1, c32i, c64i, ncI, Int.natCast_add, Int.natCast_mul, q32_neg, q64_neg, q32_add, q32_sub, q32_mul, q64_add, q64_sub, q64_mul, q32_64i, q64_32, q32_lt_t, q32_lt_f, q32_le_t, q32_le_f, q32_eq_t, q32_eq_f, q64_lt_t, q64_lt_f, q64_le_t, q64_le_f, q64_eq_t, q64_eq_f, rdI_i, rdL_i, rdR_i, rdN_i, stI_i, stL_i, stR_i, wI_s, wI_n, wL_s, wL_n, wI_2, wI_3, wL_1, wL_3, wR_1, wR_2, Int.toNat_natCast, tnO, tn_add, tn_sub, tn_mul, Nat.add_sub_cancel, Nat.add_zero, Nat.zero_add, lnO, win_t, win_f]) rfl h6) h6 ht, if_neg ct]
    refine fin (q64 (-2)) m _ ?_ ?_ (SC.k0 m)
    · unfold n_X9_rent nb_X9_rent_0
      by_cases c2 : t < 0
      · simp (disch := omega) only [Option.bind_some, bindv, bindv0, bind2_s, bind3_s, ↓reduceIte, Bool.false_eq_true, rZM_0, rZM_1, rZP_0, rZP_1, ptZ_0, ptZ_1, c32i, c64i, ncI, Int.natCast_add, Int.natCast_mul, q32_neg, q64_neg, q32_add, q32_sub, q32_mul, q64_add, q64_sub, q64_mul, q32_64i, q64_32, q32_lt_t, q32_lt_f, q32_le_t, q32_le_f, q32_eq_t, q32_eq_f, q64_lt_t, q64_lt_f, q64_le_t, q64_le_f, q64_eq_t, q64_eq_f, rdI_i, rdL_i, rdR_i, rdN_i, stI_i, stL_i, stR_i, wI_s, wI_n, wL_s, wL_n, wI_2, wI_3, wL_1, wL_3, wR_1, wR_2, Int.toNat_natCast, tnO, tn_add, tn_sub, tn_mul, Nat.add_sub_cancel, Nat.add_zero, Nat.zero_add, lnO, win_t, win_f]
      · simp (disch := omega) only [Option.bind_some, bindv, bindv0, bind2_s, bind3_s, ↓reduceIte, Bool.false_eq_true, rZM_0, rZM_1, rZP_0, rZP_1, ptZ_0, ptZ_1, c32i, c64i, ncI, Int.natCast_add, Int.natCast_mul, q32_neg, q64_neg, q32_add, q32_sub, q32_mul, q64_add, q64_sub, q64_mul, q32_64i, q64_32, q32_lt_t, q32_lt_f, q32_le_t, q32_le_f, q32_eq_t, q32_eq_f, q64_lt_t, q64_lt_f, q64_le_t, q64_le_f, q64_eq_t, q64_eq_f, rdI_i, rdL_i, rdR_i, rdN_i, stI_i, stL_i, stR_i, wI_s, wI_n, wL_s, wL_n, wI_2, wI_3, wL_1, wL_3, wR_1, wR_2, Int.toNat_natCast, tnO, tn_add, tn_sub, tn_mul, Nat.add_sub_cancel, Nat.add_zero, Nat.zero_add, lnO, win_t, win_f, rn, a15]
    · unfold n_X10_rent nb_X10_rent_0
      simp (disch := omega) only [Option.bind_some, bindv, bindv0, bind2_s, bind3_s, ↓reduceIte, Bool.false_eq_true, rZM_0, rZM_1, rZP_0, rZP_1, ptZ_0, ptZ_1, c32i, c64i, ncI, Int.natCast_add, Int.natCast_mul, q32_neg, q64_neg, q32_add, q32_sub, q32_mul, q64_add, q64_sub, q64_mul, q32_64i, q64_32, q32_lt_t, q32_lt_f, q32_le_t, q32_le_f, q32_eq_t, q32_eq_f, q64_lt_t, q64_lt_f, q64_le_t, q64_le_f, q64_eq_t, q64_eq_f, rdI_i, rdL_i, rdR_i, rdN_i, stI_i, stL_i, stR_i, wI_s, wI_n, wL_s, wL_n, wI_2, wI_3, wL_1, wL_3, wR_1, wR_2, Int.toNat_natCast, tnO, tn_add, tn_sub, tn_mul, Nat.add_sub_cancel, Nat.add_zero, Nat.zero_add, lnO, win_t, win_f, it']
/-! all rents -/
theorem nrm_div {p q : Int} (hp : 0 ≤ p) (hq : 0 < q) : (nrm p q).1.tdiv (nrm p q).2 = p.tdiv q := by
  have hg : 0 < Int.gcd p q := Int.gcd_pos_of_ne_zero_right _ (by omega)
  rw [nrm_pos hq]
  dsimp only
  have d1 : (Int.gcd p q : Int) ∣ p := Int.gcd_dvd_left p q
  have d2 : (Int.gcd p q : Int) ∣ q := Int.gcd_dvd_right p q
  rw [Int.tdiv_eq_ediv_of_dvd d1, Int.tdiv_eq_ediv_of_dvd d2]
  obtain ⟨a, ha⟩ := d1
  obtain ⟨b, hb⟩ := d2
  have h0 : (Int.gcd p q : Int) ≠ 0 := by omega
  have hg' : (0 : Int) < (Int.gcd p q : Int) := by omega
  generalize (Int.gcd p q : Int) = g at *
  subst ha
  subst hb
  rw [Int.mul_ediv_cancel_left _ h0, Int.mul_ediv_cancel_left _ h0]
  have ha : 0 ≤ a := by
    apply Classical.byContradiction
    intro hn
    have : g * a < 0 := Int.mul_neg_of_pos_of_neg hg' (by omega)
    omega
  rw [Int.tdiv_eq_ediv_of_nonneg ha, Int.tdiv_eq_ediv_of_nonneg hp, Int.mul_ediv_mul_of_pos _ _ hg']
theorem td_b {p q B : Int} (hp : 0 ≤ p) (hq : 1 ≤ q) (hb : p ≤ B * q) : 0 ≤ p.tdiv q ∧ p.tdiv q ≤ B := by
  rw [Int.tdiv_eq_ediv_of_nonneg hp]
  refine ⟨Int.ediv_nonneg hp (by omega), ?_⟩
  exact Int.ediv_le_of_le_mul (by omega) hb
def RSM (x : Nat → FR) : Nat → Int
  | 0 => 0
  | n + 1 => RSM x n + (100 * (x n).1).tdiv (x n).2
theorem RSM_b {x : Nat → FR} : ∀ n, (∀ t, t < n → 0 ≤ (x t).1 ∧ (x t).1 ≤ 99 * (x t).2 ∧ 1 ≤ (x t).2) → 0 ≤ RSM x n ∧ RSM x n ≤ 9900 * n := by
  intro n
  induction n with
  | zero => intro _; unfold RSM; omega
  | succ n ih =>
    intro h
    have := ih (fun t ht => h t (by omega))
    obtain ⟨h1, h2, h3⟩ := h n (by omega)
    have := td_b (p := 100 * (x n).1) (q := (x n).2) (B := 9900) (by omega) (by omega) (by omega)
    unfold RSM
    omega
theorem rentsL9 {F : Nat} (hF : 1000 ≤ F) {s : List Sh} {n fc tp tc : Nat} {U L V W : Nat → Int} {X : Nat → Nat → Nat} {O : Nat → Nat} (hd : FD fc tp U L X O) (hn : TN tc tp V W) : ∀ (q fuel : Nat), q < fuel → ∀ (m : Mem) (t : Nat), RF m → m.2.2 0 4 = some n → F9 s m n fc U L X O → T9 s m n tc V W → t + q = tc → ∃ m', nl_X9_rents_4 F s fuel m 0 (q64 (RSM (fun t => STF fc U L (fun k => X k 0) O (V t, W t)) t)) (q32 t) = some (q32 (RSM (fun t => STF fc U L (fun k => X k 0) O (V t, W t)) tc), m') ∧ m'.1 = m.1 ∧ m'.2.2 = m.2.2 ∧ ∀ a k, a ≠ 20 → m'.2.1 a k = m.2.1 a k := by
  have h6 := hn.1
  have hb : ∀ t, t < tc → 0 ≤ (STF fc U L (fun k => X k 0) O (V t, W t)).1 ∧ (STF fc U L (fun k => X k 0) O (V t, W t)).1 ≤ 99 * (STF fc U L (fun k => X k 0) O (V t, W t)).2 ∧ 1 ≤ (STF fc U L (fun k => X k 0) O (V t, W t)).2 ∧ (STF fc U L (fun k => X k 0) O (V t, W t)).2 ≤ 9900000 := fun t ht => by
    obtain ⟨b1, b2, b3, b4⟩ := hn.b hd.2.2.1 ht
    have := STF_b hd (f := (V t, W t)) b1 (Q := 99) (by omega) ⟨b3, by dsimp only; omega⟩ (z := 0) (by omega)
    omega
  intro q
  induction q with
  | zero =>
    intro fuel hf m t hr r4 h9 t9 hi
    obtain ⟨fuel, rfl⟩ : ∃ f, fuel = f + 1 := ⟨fuel - 1, by omega⟩
    obtain rfl : t = tc := by omega
    have a15 := t9.1
    refine ⟨m, ?_, rfl, rfl, fun _ _ _ => rfl⟩
    show nb_X9_rents_4 F s (nl_X9_rents_4 F s fuel) m 0 _ _ = _
    unfold nb_X9_rents_4
    simp (disch := omega) only [Option.bind_some, bindv, bindv0, bind2_s, bind3_s, ↓reduceIte, Bool.false_eq_true, rZM_0, rZM_1, rZP_0, rZP_1, ptZ_0, ptZ_1, c32i, c64i, ncI, Int.natCast_add, Int.natCast_mul, q32_neg, q64_neg, q32_add, q32_sub, q32_mul, q64_add, q64_sub, q64_mul, q32_64i, q64_32, q32_lt_t, q32_lt_f, q32_le_t, q32_le_f, q32_eq_t, q32_eq_f, q64_lt_t, q64_lt_f, q64_le_t, q64_le_f, q64_eq_t, q64_eq_f, rdI_i, rdL_i, rdR_i, rdN_i, stI_i, stL_i, stR_i, wI_s, wI_n, wL_s, wL_n, wI_2, wI_3, wL_1, wL_3, wR_1, wR_2, Int.toNat_natCast, tnO, tn_add, tn_sub, tn_mul, Nat.add_sub_cancel, Nat.add_zero, Nat.zero_add, lnO, win_t, win_f, r4, a15]
  | succ q ih =>
    intro fuel hf m t hr r4 h9 t9 hi
    obtain ⟨fuel, rfl⟩ : ∃ f, fuel = f + 1 := ⟨fuel - 1, by omega⟩
    have r13 := rf0_13 hr
    have a15 := t9.1
    have s9 := rent9 hF hd h9 hn t9 (t := t) (by omega) (r := 20)
    obtain ⟨g1, g2, g3, g4⟩ := hb t (by omega)
    have rb := RSM_b (x := fun t => STF fc U L (fun k => X k 0) O (V t, W t)) t (fun u hu => by have := hb u (by omega); omega)
    have eR : RSM (fun t => STF fc U L (fun k => X k 0) O (V t, W t)) (t + 1) = RSM (fun t => STF fc U L (fun k => X k 0) O (V t, W t)) t + (100 * (STF fc U L (fun k => X k 0) O (V t, W t)).1).tdiv (STF fc U L (fun k => X k 0) O (V t, W t)).2 := rfl
    have ih0 := ih fuel (by omega)
    generalize hx : RSM (fun t => STF fc U L (fun k => X k 0) O (V t, W t)) = R at *
    generalize hG : STF fc U L (fun k => X k 0) O (V t, W t) = g at *
    have pu := put9 (F := F) (s := s) (m := PT m 20 g) (r := 20) (by omega) (p := g.1 * 100) (q := g.2) (by omega) (by omega) (by omega)
    obtain ⟨k1, k2, k3, k4, k5⟩ := nrm_ok (p := g.1 * 100) (q := g.2) (by omega)
    have dv : (nrm (g.1 * 100) g.2).1.tdiv (nrm (g.1 * 100) g.2).2 = (100 * g.1).tdiv g.2 := by rw [nrm_div (by omega) (by omega), Int.mul_comm]
    have tdb := td_b (p := 100 * g.1) (q := g.2) (B := 9900) (by omega) (by omega) (by omega)
    obtain ⟨m', q1, q2, q3, q4⟩ := ih0 (PT (PT m 20 g) 20 (nrm (g.1 * 100) g.2)) (t + 1) (hr.same rfl) r4 h9 t9 (by omega)
    have wh : n_X2_whole s (PT (PT m 20 g) 20 (nrm (g.1 * 100) g.2)) 20 = some (q64 ((100 * g.1).tdiv g.2)) := by
      unfold n_X2_whole nb_X2_whole_0
      rw [PT_0, PT_l, ← dv]
      simp (disch := omega) only [Option.bind_some, bindv, bindv0, bind2_s, bind3_s, ↓reduceIte, Bool.false_eq_true, rZM_0, rZM_1, rZP_0, rZP_1, ptZ_0, ptZ_1, c32i, c64i, ncI, Int.natCast_add, Int.natCast_mul, q32_neg, q64_neg, q32_add, q32_sub, q32_mul, q64_add, q64_sub, q64_mul, q32_64i, q64_32, q32_lt_t, q32_lt_f, q32_le_t, q32_le_f, q32_eq_t, q32_eq_f, q64_lt_t, q64_lt_f, q64_le_t, q64_le_f, q64_eq_t, q64_eq_f, rdI_i, rdL_i, rdR_i, rdN_i, stI_i, stL_i, stR_i, wI_s, wI_n, wL_s, wL_n, wI_2, wI_3, wL_1, wL_3, wR_1, wR_2, Int.toNat_natCast, tnO, tn_add, tn_sub, tn_mul, Nat.add_sub_cancel, Nat.add_zero, Nat.zero_add, lnO, win_t, win_f, q64_div_n]
    refine ⟨m', ?_, q2, q3, fun a k h => ?_⟩
    · show nb_X9_rents_4 F s (nl_X9_rents_4 F s fuel) m 0 _ _ = _
      unfold nb_X9_rents_4
      rw [eR, Int.natCast_add] at q1
      simp (disch := omega) only [Option.bind_some, bindv, bindv0, bind2_s, bind3_s, ↓reduceIte, Bool.false_eq_true, rZM_0, rZM_1, rZP_0, rZP_1, ptZ_0, ptZ_1, c32i, c64i, ncI, Int.natCast_add, Int.natCast_mul, q32_neg, q64_neg, q32_add, q32_sub, q32_mul, q64_add, q64_sub, q64_mul, q32_64i, q64_32, q32_lt_t, q32_lt_f, q32_le_t, q32_le_f, q32_eq_t, q32_eq_f, q64_lt_t, q64_lt_f, q64_le_t, q64_le_f, q64_eq_t, q64_eq_f, rdI_i, rdL_i, rdR_i, rdN_i, stI_i, stL_i, stR_i, wI_s, wI_n, wL_s, wL_n, wI_2, wI_3, wL_1, wL_3, wR_1, wR_2, Int.toNat_natCast, tnO, tn_add, tn_sub, tn_mul, Nat.add_sub_cancel, Nat.add_zero, Nat.zero_add, lnO, win_t, win_f, r4, a15, r13, s9, PT_3, PT_0, PT_l, pu, wh]
      exact q1
    · rw [q4 a k h, PT_n (Or.inl h), PT_n (Or.inl h)]
theorem rentsL10 {F : Nat} (hF : 1000 ≤ F) {s : List Sh} (hp : ∃ t, s = sB ++ t) {fc tp tc : Nat} {U L V W : Nat → Int} {X : Nat → Nat → Nat} {O : Nat → Nat} (hd : FD fc tp U L X O) (hn : TN tc tp V W) : ∀ (q fuel : Nat), q < fuel → ∀ (m : Mem) (t : Nat), F10 m fc U L X → T10 m tc V W → t + q = tc → ∃ m', nl_X10_rents_9 F s fuel m 23 (q32 (RSM (fun t => STF fc U L (fun k => X k 0) O (V t, W t)) t)) (q32 t) = some (q32 (RSM (fun t => STF fc U L (fun k => X k 0) O (V t, W t)) tc), m') ∧ KS m m' := by
  have h6 := hn.1
  have l24 := ln24 hp
  have hb : ∀ t, t < tc → 0 ≤ (STF fc U L (fun k => X k 0) O (V t, W t)).1 ∧ (STF fc U L (fun k => X k 0) O (V t, W t)).1 ≤ 99 * (STF fc U L (fun k => X k 0) O (V t, W t)).2 ∧ 1 ≤ (STF fc U L (fun k => X k 0) O (V t, W t)).2 ∧ (STF fc U L (fun k => X k 0) O (V t, W t)).2 ≤ 9900000 := fun t ht => by
    obtain ⟨b1, b2, b3, b4⟩ := hn.b hd.2.2.1 ht
    have := STF_b hd (f := (V t, W t)) b1 (Q := 99) (by omega) ⟨b3, by dsimp only; omega⟩ (z := 0) (by omega)
    omega
  intro q
  induction q with
  | zero =>
    intro fuel hf m t h10 t10 hi
    obtain ⟨fuel, rfl⟩ : ∃ f, fuel = f + 1 := ⟨fuel - 1, by omega⟩
    obtain rfl : t = tc := by omega
    have r1 := rf23_1 t10.1
    have b4 := t10.2.1
    refine ⟨m, ?_, rfl, fun _ _ _ => rfl, fun _ _ _ => rfl⟩
    show nb_X10_rents_9 F s (nl_X10_rents_9 F s fuel) m 23 _ _ = _
    unfold nb_X10_rents_9
    simp (disch := omega) only [Option.bind_some, bindv, bindv0, bind2_s, bind3_s, ↓reduceIte, Bool.false_eq_true, rZM_0, rZM_1, rZP_0, rZP_1, ptZ_0, ptZ_1, c32i, c64i, ncI, Int.natCast_add, Int.natCast_mul, q32_neg, q64_neg, q32_add, q32_sub, q32_mul, q64_add, q64_sub, q64_mul, q32_64i, q64_32, q32_lt_t, q32_lt_f, q32_le_t, q32_le_f, q32_eq_t, q32_eq_f, q64_lt_t, q64_lt_f, q64_le_t, q64_le_f, q64_eq_t, q64_eq_f, rdI_i, rdL_i, rdR_i, rdN_i, stI_i, stL_i, stR_i, wI_s, wI_n, wL_s, wL_n, wI_2, wI_3, wL_1, wL_3, wR_1, wR_2, Int.toNat_natCast, tnO, tn_add, tn_sub, tn_mul, Nat.add_sub_cancel, Nat.add_zero, Nat.zero_add, lnO, win_t, win_f, r1, b4]
  | succ q ih =>
    intro fuel hf m t h10 t10 hi
    obtain ⟨fuel, rfl⟩ : ∃ f, fuel = f + 1 := ⟨fuel - 1, by omega⟩
    have r1 := rf23_1 t10.1
    have b4 := t10.2.1
    obtain ⟨m1, e1, e2, e3, e4⟩ := rent10 hF hp hd h10 hn t10 (t := t) (by omega)
    obtain ⟨g1, g2, g3, g4⟩ := hb t (by omega)
    have rb := RSM_b (x := fun t => STF fc U L (fun k => X k 0) O (V t, W t)) t (fun u hu => by have := hb u (by omega); omega)
    have eR : RSM (fun t => STF fc U L (fun k => X k 0) O (V t, W t)) (t + 1) = RSM (fun t => STF fc U L (fun k => X k 0) O (V t, W t)) t + (100 * (STF fc U L (fun k => X k 0) O (V t, W t)).1).tdiv (STF fc U L (fun k => X k 0) O (V t, W t)).2 := rfl
    have ih0 := ih fuel (by omega) m1 (t + 1) (h10.ks e2 hd.1) (t10.k (fun j _ => e2.2.1 _ _ (by omega)) e2.1 h6) (by omega)
    generalize hx : RSM (fun t => STF fc U L (fun k => X k 0) O (V t, W t)) = R at *
    generalize hG : STF fc U L (fun k => X k 0) O (V t, W t) = g at *
    have tdb := td_b (p := 100 * g.1) (q := g.2) (B := 9900) (by omega) (by omega) (by omega)
    obtain ⟨m', q1, q2⟩ := ih0
    refine ⟨m', ?_, e2.tr q2⟩
    show nb_X10_rents_9 F s (nl_X10_rents_9 F s fuel) m 23 _ _ = _
    unfold nb_X10_rents_9
    rw [eR, Int.natCast_add] at q1
    simp (disch := omega) only [Option.bind_some, bindv, bindv0, bind2_s, bind3_s, ↓reduceIte, Bool.false_eq_true, rZM_0, rZM_1, rZP_0, rZP_1, ptZ_0, ptZ_1, c32i, c64i, ncI, Int.natCast_add, Int.natCast_mul, q32_neg, q64_neg, q32_add, q32_sub, q32_mul, q64_add, q64_sub, q64_mul, q32_64i, q64_32, q32_lt_t, q32_lt_f, q32_le_t, q32_le_f, q32_eq_t, q32_eq_f, q64_lt_t, q64_lt_f, q64_le_t, q64_le_f, q64_eq_t, q64_eq_f, rdI_i, rdL_i, rdR_i, rdN_i, stI_i, stL_i, stR_i, wI_s, wI_n, wL_s, wL_n, wI_2, wI_3, wL_1, wL_3, wR_1, wR_2, Int.toNat_natCast, tnO, tn_add, tn_sub, tn_mul, Nat.add_sub_cancel, Nat.add_zero, Nat.zero_add, lnO, win_t, win_f, r1, b4, e1, e3, e4, q64_div_n]
    exact q1
theorem opk_rents {F : Nat} (hF : 1000 ≤ F) {s : List Sh} {m : Mem} (h : INV s m) : OPK s m (n_X9_rents F s m 0) (fun m1 => n_X10_rents F s m1 23) := by
  have h0 := h
  obtain ⟨hg, ow, nw, hst⟩ := h
  have hl := hst.1
  have hp := hl.hp
  have hr := hl.rf
  have hn := hl.hn
  have rn := hl.nw
  have r1 := rf23_1 hr
  have l24 := ln24 hp
  obtain ⟨fc, tp, U, L, X, O, hd, h9, h10, -, htp⟩ := hst.fd
  obtain ⟨tc, V, W, hn6, t9, t10⟩ := hst.tn htp
  have h6 := hn6.1
  obtain ⟨m1, p1, p2, p3, p4⟩ := rentsL9 hF hd hn6 tc F (by omega) m 0 hr rn h9 t9 (by omega)
  obtain ⟨m2, q1, q2⟩ := rentsL10 (s := s) hF hp hd hn6 tc F (by omega) (wI m1 23 0 (q32 0)) 0 (h10.k (fun j _ => by simp (disch := omega) only [Option.bind_some, bindv, bindv0, bind2_s, bind3_s, ↓reduceIte, Bool.false_eq_true, rZM_0, rZM_1, rZP_0, rZP_1, ptZ_0, ptZ_1, c32i, c64i, ncI, Int.natCast_add, Int.natCast_mul, q32_neg, q64_neg, q32_add, q32_sub, q32_mul, q64_add, q64_sub, q64_mul, q32_64i, q64_32, q32_lt_t, q32_lt_f, q32_le_t, q32_le_f, q32_eq_t, q32_eq_f, q64_lt_t, q64_lt_f, q64_le_t, q64_le_f, q64_eq_t, q64_eq_f, rdI_i, rdL_i, rdR_i, rdN_i, stI_i, stL_i, stR_i, wI_s, wI_n, wL_s, wL_n, wI_2, wI_3, wL_1, wL_3, wR_1, wR_2, Int.toNat_natCast, tnO, tn_add, tn_sub, tn_mul, Nat.add_sub_cancel, Nat.add_zero, Nat.zero_add, lnO, win_t, win_f]; rw [p2]) p3 hd.1) (t10.k (fun j _ => by simp (disch := omega) only [Option.bind_some, bindv, bindv0, bind2_s, bind3_s, ↓reduceIte, Bool.false_eq_true, rZM_0, rZM_1, rZP_0, rZP_1, ptZ_0, ptZ_1, c32i, c64i, ncI, Int.natCast_add, Int.natCast_mul, q32_neg, q64_neg, q32_add, q32_sub, q32_mul, q64_add, q64_sub, q64_mul, q32_64i, q64_32, q32_lt_t, q32_lt_f, q32_le_t, q32_le_f, q32_eq_t, q32_eq_f, q64_lt_t, q64_lt_f, q64_le_t, q64_le_f, q64_eq_t, q64_eq_f, rdI_i, rdL_i, rdR_i, rdN_i, stI_i, stL_i, stR_i, wI_s, wI_n, wL_s, wL_n, wI_2, wI_3, wL_1, wL_3, wR_1, wR_2, Int.toNat_natCast, tnO, tn_add, tn_sub, tn_mul, Nat.add_sub_cancel, Nat.add_zero, Nat.zero_add, lnO, win_t, win_f]; rw [p2]) p3 h6) (by omega)
  have e1 : n_X9_rents F s m 0 = some (q32 (RSM (fun t => STF fc U L (fun k => X k 0) O (V t, W t)) tc), m1) := p1
  have e2 : n_X10_rents F s m1 23 = some (q32 (RSM (fun t => STF fc U L (fun k => X k 0) O (V t, W t)) tc), m2) := by
    unfold n_X10_rents nb_X10_rents_0
    simp (disch := omega) only [Option.bind_some, bindv, bindv0, bind2_s, bind3_s, ↓reduceIte, Bool.false_eq_true, rZM_0, rZM_1, rZP_0, rZP_1, ptZ_0, ptZ_1, c32i, c64i, ncI, Int.natCast_add, Int.natCast_mul, q32_neg, q64_neg, q32_add, q32_sub, q32_mul, q64_add, q64_sub, q64_mul, q32_64i, q64_32, q32_lt_t, q32_lt_f, q32_le_t, q32_le_f, q32_eq_t, q32_eq_f, q64_lt_t, q64_lt_f, q64_le_t, q64_le_f, q64_eq_t, q64_eq_f, rdI_i, rdL_i, rdR_i, rdN_i, stI_i, stL_i, stR_i, wI_s, wI_n, wL_s, wL_n, wI_2, wI_3, wL_1, wL_3, wR_1, wR_2, Int.toNat_natCast, tnO, tn_add, tn_sub, tn_mul, Nat.add_sub_cancel, Nat.add_zero, Nat.zero_add, lnO, win_t, win_f]
    exact q1
  have sc1 : SC m m1 := SC.of (fun a k => by rw [p2]; simp) (fun a k => by
    by_cases c : a = 20
    · omega
    · rw [p4 a k c]; simp) p3
  exact opk_fin h0 e1 e2 (un_X10_rents (un_X9_rents hg (okB hp).1 e1).2 (okB hp).2 e2).2 (sc1.tr ((SC.k0 m1).tr q2.sc))
/-! the richest -/
def fgt (a b : FR) : Prop := b.1 * a.2 < a.1 * b.2
def RCH (x : Nat → FR) : Nat → Nat → Int → FR → Int
  | 0, _, b, _ => b
  | n + 1, t, b, y => if b = -1 ∨ y.1 * (x t).2 < (x t).1 * y.2 then RCH x n (t + 1) t (x t) else RCH x n (t + 1) b y
theorem cmp9 {a b : Int} (ha : B63 a) (hb : B63 b) : m_J13_compare_74951 (q64 a) (q64 b) = some (if a < b then q32 (-1) else if b < a then q32 1 else q32 0) := by
  unfold m_J13_compare_74951 b_J13_compare_74951_0
  by_cases c1 : a < b
  · rw [if_pos c1]; simp (disch := omega) only [Option.bind_some, bindv, bindv0, bind2_s, bind3_s, ↓reduceIte, Bool.false_eq_true, rZM_0, rZM_1, rZP_0, rZP_1, ptZ_0, ptZ_1, c32i, c64i, ncI, Int.natCast_add, Int.natCast_mul, q32_neg, q64_neg, q32_add, q32_sub, q32_mul, q64_add, q64_sub, q64_mul, q32_64i, q64_32, q32_lt_t, q32_lt_f, q32_le_t, q32_le_f, q32_eq_t, q32_eq_f, q64_lt_t, q64_lt_f, q64_le_t, q64_le_f, q64_eq_t, q64_eq_f, rdI_i, rdL_i, rdR_i, rdN_i, stI_i, stL_i, stR_i, wI_s, wI_n, wL_s, wL_n, wI_2, wI_3, wL_1, wL_3, wR_1, wR_2, Int.toNat_natCast, tnO, tn_add, tn_sub, tn_mul, Nat.add_sub_cancel, Nat.add_zero, Nat.zero_add, lnO, win_t, win_f]
  · rw [if_neg c1]
    by_cases c2 : b < a
    · rw [if_pos c2]; simp (disch := omega) only [Option.bind_some, bindv, bindv0, bind2_s, bind3_s, ↓reduceIte, Bool.false_eq_true, rZM_0, rZM_1, rZP_0, rZP_1, ptZ_0, ptZ_1, c32i, c64i, ncI, Int.natCast_add, Int.natCast_mul, q32_neg, q64_neg, q32_add, q32_sub, q32_mul, q64_add, q64_sub, q64_mul, q32_64i, q64_32, q32_lt_t, q32_lt_f, q32_le_t, q32_le_f, q32_eq_t, q32_eq_f, q64_lt_t, q64_lt_f, q64_le_t, q64_le_f, q64_eq_t, q64_eq_f, rdI_i, rdL_i, rdR_i, rdN_i, stI_i, stL_i, stR_i, wI_s, wI_n, wL_s, wL_n, wI_2, wI_3, wL_1, wL_3, wR_1, wR_2, Int.toNat_natCast, tnO, tn_add, tn_sub, tn_mul, Nat.add_sub_cancel, Nat.add_zero, Nat.zero_add, lnO, win_t, win_f]
    · rw [if_neg c2]; simp (disch := omega) only [Option.bind_some, bindv, bindv0, bind2_s, bind3_s, ↓reduceIte, Bool.false_eq_true, rZM_0, rZM_1, rZP_0, rZP_1, ptZ_0, ptZ_1, c32i, c64i, ncI, Int.natCast_add, Int.natCast_mul, q32_neg, q64_neg, q32_add, q32_sub, q32_mul, q64_add, q64_sub, q64_mul, q32_64i, q64_32, q32_lt_t, q32_lt_f, q32_le_t, q32_le_f, q32_eq_t, q32_eq_f, q64_lt_t, q64_lt_f, q64_le_t, q64_le_f, q64_eq_t, q64_eq_f, rdI_i, rdL_i, rdR_i, rdN_i, stI_i, stL_i, stR_i, wI_s, wI_n, wL_s, wL_n, wI_2, wI_3, wL_1, wL_3, wR_1, wR_2, Int.toNat_natCast, tnO, tn_add, tn_sub, tn_mul, Nat.add_sub_cancel, Nat.add_zero, Nat.zero_add, lnO, win_t, win_f]
theorem compared9 {s : List Sh} {m : Mem} {r r' : Nat} {f g : FR} (h1 : m.2.1 r 0 = q64 f.1) (h2 : m.2.1 r 1 = q64 f.2) (h3 : m.2.1 r' 0 = q64 g.1) (h4 : m.2.1 r' 1 = q64 g.2) (b1 : f.1.natAbs ≤ 1000000000) (b2 : f.2.natAbs ≤ 1000000000) (b3 : g.1.natAbs ≤ 1000000000) (b4 : g.2.natAbs ≤ 1000000000) : n_X2_compared s m r r' = some (if f.1 * g.2 < g.1 * f.2 then q32 (-1) else if g.1 * f.2 < f.1 * g.2 then q32 1 else q32 0) := by
  have k1 := mulb b1 b4
  have k2 := mulb b3 b2
  unfold n_X2_compared nb_X2_compared_0
  rw [h1, h2, h3, h4, q64_mul, q64_mul, cmp9 (by omega) (by omega)]
  rfl
theorem richL9 {F : Nat} (hF : 1000 ≤ F) {s : List Sh} {n fc tp tc : Nat} {U L V W : Nat → Int} {X : Nat → Nat → Nat} {O : Nat → Nat} (hd : FD fc tp U L X O) (hn : TN tc tp V W) {x : Nat → FR} (hx : ∀ t, x t = STF fc U L (fun k => X k 0) O (V t, W t)) (hb : ∀ t, t < tc → 0 ≤ (x t).1 ∧ (x t).1 ≤ 1000000000 ∧ 1 ≤ (x t).2 ∧ (x t).2 ≤ 9900000 ∧ Int.gcd (x t).1 (x t).2 = 1) : ∀ (q fuel : Nat), q < fuel → ∀ (m : Mem) (t : Nat) (b : Int) (y : FR), RF m → m.2.2 0 4 = some n → F9 s m n fc U L X O → T9 s m n tc V W → (b ≠ -1 → m.2.1 19 0 = q64 y.1 ∧ m.2.1 19 1 = q64 y.2 ∧ 0 ≤ y.1 ∧ y.1 ≤ 1000000000 ∧ 1 ≤ y.2 ∧ y.2 ≤ 9900000) → -1 ≤ b → b < 100 → t + q = tc → ∃ m', nl_X9_richest_4 F s fuel m 0 (q32 b) (q32 t) = some (q32 (RCH x q t b y), m') ∧ m'.1 = m.1 ∧ m'.2.2 = m.2.2 ∧ ∀ a k, a ≠ 19 ∧ a ≠ 20 → m'.2.1 a k = m.2.1 a k := by
  have h6 := hn.1
  intro q
  induction q with
  | zero =>
    intro fuel hf m t b y hr r4 h9 t9 hy hb1 hb2 hi
    obtain ⟨fuel, rfl⟩ : ∃ f, fuel = f + 1 := ⟨fuel - 1, by omega⟩
    have a15 := t9.1
    refine ⟨m, ?_, rfl, rfl, fun _ _ _ => rfl⟩
    show nb_X9_richest_4 F s (nl_X9_richest_4 F s fuel) m 0 _ _ = _
    unfold nb_X9_richest_4 RCH
    simp (disch := omega) only [Option.bind_some, bindv, bindv0, bind2_s, bind3_s, ↓reduceIte, Bool.false_eq_true, rZM_0, rZM_1, rZP_0, rZP_1, ptZ_0, ptZ_1, c32i, c64i, ncI, Int.natCast_add, Int.natCast_mul, q32_neg, q64_neg, q32_add, q32_sub, q32_mul, q64_add, q64_sub, q64_mul, q32_64i, q64_32, q32_lt_t, q32_lt_f, q32_le_t, q32_le_f, q32_eq_t, q32_eq_f, q64_lt_t, q64_lt_f, q64_le_t, q64_le_f, q64_eq_t, q64_eq_f, rdI_i, rdL_i, rdR_i, rdN_i, stI_i, stL_i, stR_i, wI_s, wI_n, wL_s, wL_n, wI_2, wI_3, wL_1, wL_3, wR_1, wR_2, Int.toNat_natCast, tnO, tn_add, tn_sub, tn_mul, Nat.add_sub_cancel, Nat.add_zero, Nat.zero_add, lnO, win_t, win_f, r4, a15]
  | succ q ih =>
    intro fuel hf m t b y hr r4 h9 t9 hy hb1 hb2 hi
    obtain ⟨fuel, rfl⟩ : ∃ f, fuel = f + 1 := ⟨fuel - 1, by omega⟩
    have r13 := rf0_13 hr
    have r12 := rf0_12 hr
    have a15 := t9.1
    have s9 := rent9 hF hd h9 hn t9 (t := t) (by omega) (r := 20)
    rw [← hx t] at s9
    obtain ⟨g1, g2, g3, g4, g5⟩ := hb t (by omega)
    generalize hG : x t = g at *
    have pu := put9 (F := F) (s := s) (m := PT m 20 g) (r := 19) (by omega) (p := g.1) (q := g.2) (by omega) (by omega) (by omega)
    rw [nrm_low (by omega) g5] at pu
    show ∃ m', nb_X9_richest_4 F s (nl_X9_richest_4 F s fuel) m 0 (q32 b) (q32 t) = _ ∧ _
    unfold nb_X9_richest_4 RCH nb_X9_richest_46 nb_X9_richest_69
    rw [hG]
    have take : b = -1 ∨ y.1 * g.2 < g.1 * y.2 → ∃ m', nl_X9_richest_4 F s fuel (PT (PT m 20 g) 19 g) 0 (q32 t) (q32 ((t : Int) + 1)) = some (q32 (RCH x q (t + 1) t g), m') ∧ m'.1 = m.1 ∧ m'.2.2 = m.2.2 ∧ ∀ a k, a ≠ 19 ∧ a ≠ 20 → m'.2.1 a k = m.2.1 a k := fun _ => by
      obtain ⟨m', q1, q2, q3, q4⟩ := ih fuel (by omega) (PT (PT m 20 g) 19 g) (t + 1) t g (hr.same rfl) r4 h9 t9 (fun _ => ⟨PT_0 _ _ _, PT_l _ _ _, g1, g2, g3, g4⟩) (by omega) (by omega) (by omega)
      refine ⟨m', q1, q2, q3, fun a k h => ?_⟩
      rw [q4 a k h, PT_n (by omega), PT_n (by omega)]
    by_cases c0 : b = -1
    · rw [if_pos (Or.inl c0)]
      obtain ⟨m', q1, q2⟩ := take (Or.inl c0)
      refine ⟨m', ?_, q2⟩
      simp (disch := omega) only [Option.bind_some, bindv, bindv0, bind2_s, bind3_s, ↓reduceIte, Bool.false_eq_true, rZM_0, rZM_1, rZP_0, rZP_1, ptZ_0, ptZ_1, c32i, c64i, ncI, Int.natCast_add, Int.natCast_mul, q32_neg, q64_neg, q32_add, q32_sub, q32_mul, q64_add, q64_sub, q64_mul, q32_64i, q64_32, q32_lt_t, q32_lt_f, q32_le_t, q32_le_f, q32_eq_t, q32_eq_f, q64_lt_t, q64_lt_f, q64_le_t, q64_le_f, q64_eq_t, q64_eq_f, rdI_i, rdL_i, rdR_i, rdN_i, stI_i, stL_i, stR_i, wI_s, wI_n, wL_s, wL_n, wI_2, wI_3, wL_1, wL_3, wR_1, wR_2, Int.toNat_natCast, tnO, tn_add, tn_sub, tn_mul, Nat.add_sub_cancel, Nat.add_zero, Nat.zero_add, lnO, win_t, win_f, r4, a15, r13, r12, s9, PT_3, PT_0, PT_l, pu]
      exact q1
    · obtain ⟨y1, y2, y3, y4, y5, y6⟩ := hy c0
      have cp := compared9 (s := s) (m := PT m 20 g) (r := 20) (r' := 19) (f := g) (g := y) (PT_0 _ _ _) (PT_l _ _ _) (by rw [PT_n (by omega)]; exact y1) (by rw [PT_n (by omega)]; exact y2) (by omega) (by omega) (by omega) (by omega)
      by_cases c1 : y.1 * g.2 < g.1 * y.2
      · rw [if_neg (by omega), if_pos c1] at cp
        rw [if_pos (Or.inr c1)]
        obtain ⟨m', q1, q2⟩ := take (Or.inr c1)
        refine ⟨m', ?_, q2⟩
        simp (disch := omega) only [Option.bind_some, bindv, bindv0, bind2_s, bind3_s, ↓reduceIte, Bool.false_eq_true, rZM_0, rZM_1, rZP_0, rZP_1, ptZ_0, ptZ_1, c32i, c64i, ncI, Int.natCast_add, Int.natCast_mul, q32_neg, q64_neg, q32_add, q32_sub, q32_mul, q64_add, q64_sub, q64_mul, q32_64i, q64_32, q32_lt_t, q32_lt_f, q32_le_t, q32_le_f, q32_eq_t, q32_eq_f, q64_lt_t, q64_lt_f, q64_le_t, q64_le_f, q64_eq_t, q64_eq_f, rdI_i, rdL_i, rdR_i, rdN_i, stI_i, stL_i, stR_i, wI_s, wI_n, wL_s, wL_n, wI_2, wI_3, wL_1, wL_3, wR_1, wR_2, Int.toNat_natCast, tnO, tn_add, tn_sub, tn_mul, Nat.add_sub_cancel, Nat.add_zero, Nat.zero_add, lnO, win_t, win_f, r4, a15, r13, r12, s9, PT_3, cp, PT_0, PT_l, pu]
        exact q1
      · rw [if_neg c1] at cp
        rw [if_neg (by omega)]
        obtain ⟨m', q1, q2, q3, q4⟩ := ih fuel (by omega) (PT m 20 g) (t + 1) b y (hr.same rfl) r4 h9 t9 (fun _ => ⟨by rw [PT_n (by omega)]; exact y1, by rw [PT_n (by omega)]; exact y2, y3, y4, y5, y6⟩) (by omega) (by omega) (by omega)
        refine ⟨m', ?_, q2, q3, fun a k h => by rw [q4 a k h, PT_n (by omega)]⟩
        rw [Int.natCast_add] at q1
        by_cases c2 : g.1 * y.2 < y.1 * g.2
        · rw [if_pos c2] at cp
          simp (disch := omega) only [Option.bind_some, bindv, bindv0, bind2_s, bind3_s, ↓reduceIte, Bool.false_eq_true, rZM_0, rZM_1, rZP_0, rZP_1, ptZ_0, ptZ_1, c32i, c64i, ncI, Int.natCast_add, Int.natCast_mul, q32_neg, q64_neg, q32_add, q32_sub, q32_mul, q64_add, q64_sub, q64_mul, q32_64i, q64_32, q32_lt_t, q32_lt_f, q32_le_t, q32_le_f, q32_eq_t, q32_eq_f, q64_lt_t, q64_lt_f, q64_le_t, q64_le_f, q64_eq_t, q64_eq_f, rdI_i, rdL_i, rdR_i, rdN_i, stI_i, stL_i, stR_i, wI_s, wI_n, wL_s, wL_n, wI_2, wI_3, wL_1, wL_3, wR_1, wR_2, Int.toNat_natCast, tnO, tn_add, tn_sub, tn_mul, Nat.add_sub_cancel, Nat.add_zero, Nat.zero_add, lnO, win_t, win_f, r4, a15, r13, r12, s9, PT_3, cp]
          exact q1
        · rw [if_neg c2] at cp
          simp (disch := omega) only [Option.bind_some, bindv, bindv0, bind2_s, bind3_s, ↓reduceIte, Bool.false_eq_true, rZM_0, rZM_1, rZP_0, rZP_1, ptZ_0, ptZ_1, c32i, c64i, ncI, Int.natCast_add, Int.natCast_mul, q32_neg, q64_neg, q32_add, q32_sub, q32_mul, q64_add, q64_sub, q64_mul, q32_64i, q64_32, q32_lt_t, q32_lt_f, q32_le_t, q32_le_f, q32_eq_t, q32_eq_f, q64_lt_t, q64_lt_f, q64_le_t, q64_le_f, q64_eq_t, q64_eq_f, rdI_i, rdL_i, rdR_i, rdN_i, stI_i, stL_i, stR_i, wI_s, wI_n, wL_s, wL_n, wI_2, wI_3, wL_1, wL_3, wR_1, wR_2, Int.toNat_natCast, tnO, tn_add, tn_sub, tn_mul, Nat.add_sub_cancel, Nat.add_zero, Nat.zero_add, lnO, win_t, win_f, r4, a15, r13, r12, s9, PT_3, cp]
          exact q1
theorem richL10 {F : Nat} (hF : 1000 ≤ F) {s : List Sh} (hp : ∃ t, s = sB ++ t) {fc tp tc : Nat} {U L V W : Nat → Int} {X : Nat → Nat → Nat} {O : Nat → Nat} (hd : FD fc tp U L X O) (hn : TN tc tp V W) {x : Nat → FR} (hx : ∀ t, x t = STF fc U L (fun k => X k 0) O (V t, W t)) (hb : ∀ t, t < tc → 0 ≤ (x t).1 ∧ (x t).1 ≤ 1000000000 ∧ 1 ≤ (x t).2 ∧ (x t).2 ≤ 9900000) : ∀ (q fuel : Nat), q < fuel → ∀ (m : Mem) (t : Nat) (b : Int) (y : FR), F10 m fc U L X → T10 m tc V W → 0 ≤ y.1 → y.1 ≤ 1000000000 → 1 ≤ y.2 → y.2 ≤ 9900000 → -1 ≤ b → b < 100 → t + q = tc → ∃ m', nl_X10_richest_15 F s fuel m 23 (q32 b) (q64 y.1) (q64 y.2) (q32 t) = some (q32 (RCH x q t b y), m') ∧ KS m m' := by
  have h6 := hn.1
  have l24 := ln24 hp
  intro q
  induction q with
  | zero =>
    intro fuel hf m t b y h10 t10 y3 y4 y5 y6 hb1 hb2 hi
    obtain ⟨fuel, rfl⟩ : ∃ f, fuel = f + 1 := ⟨fuel - 1, by omega⟩
    have r1 := rf23_1 t10.1
    have b4 := t10.2.1
    refine ⟨m, ?_, rfl, fun _ _ _ => rfl, fun _ _ _ => rfl⟩
    show nb_X10_richest_15 F s (nl_X10_richest_15 F s fuel) m 23 _ _ _ _ = _
    unfold nb_X10_richest_15 RCH
    simp (disch := omega) only [Option.bind_some, bindv, bindv0, bind2_s, bind3_s, ↓reduceIte, Bool.false_eq_true, rZM_0, rZM_1, rZP_0, rZP_1, ptZ_0, ptZ_1, c32i, c64i, ncI, Int.natCast_add, Int.natCast_mul, q32_neg, q64_neg, q32_add, q32_sub, q32_mul, q64_add, q64_sub, q64_mul, q32_64i, q64_32, q32_lt_t, q32_lt_f, q32_le_t, q32_le_f, q32_eq_t, q32_eq_f, q64_lt_t, q64_lt_f, q64_le_t, q64_le_f, q64_eq_t, q64_eq_f, rdI_i, rdL_i, rdR_i, rdN_i, stI_i, stL_i, stR_i, wI_s, wI_n, wL_s, wL_n, wI_2, wI_3, wL_1, wL_3, wR_1, wR_2, Int.toNat_natCast, tnO, tn_add, tn_sub, tn_mul, Nat.add_sub_cancel, Nat.add_zero, Nat.zero_add, lnO, win_t, win_f, r1, b4]
  | succ q ih =>
    intro fuel hf m t b y h10 t10 y3 y4 y5 y6 hb1 hb2 hi
    obtain ⟨fuel, rfl⟩ : ∃ f, fuel = f + 1 := ⟨fuel - 1, by omega⟩
    have r1 := rf23_1 t10.1
    have b4 := t10.2.1
    obtain ⟨m1, e1, e2, e3, e4⟩ := rent10 hF hp hd h10 hn t10 (t := t) (by omega)
    rw [← hx t] at e3 e4
    obtain ⟨g1, g2, g3, g4⟩ := hb t (by omega)
    have h10' := h10.ks e2 hd.1
    have t10' := t10.k (fun j _ => e2.2.1 _ _ (by omega)) e2.1 h6
    generalize hG : x t = g at *
    have ag := agn (a := g.1) (b := g.2) (c := y.1) (d := y.2) (by omega) (by omega) (by omega) (by omega)
    show ∃ m', nb_X10_richest_15 F s (nl_X10_richest_15 F s fuel) m 23 (q32 b) (q64 y.1) (q64 y.2) (q32 t) = _ ∧ _
    unfold nb_X10_richest_15 RCH nb_X10_richest_57 nb_X10_richest_71
    rw [hG]
    by_cases c0 : b = -1 ∨ y.1 * g.2 < g.1 * y.2
    · rw [if_pos c0]
      obtain ⟨m', q1, q2⟩ := ih fuel (by omega) m1 (t + 1) t g h10' t10' g1 g2 g3 g4 (by omega) (by omega) (by omega)
      refine ⟨m', ?_, e2.tr q2⟩
      rw [Int.natCast_add] at q1
      by_cases c1 : b = -1
      · simp (disch := omega) only [Option.bind_some, bindv, bindv0, bind2_s, bind3_s, ↓reduceIte, Bool.false_eq_true, rZM_0, rZM_1, rZP_0, rZP_1, ptZ_0, ptZ_1, c32i, c64i, ncI, Int.natCast_add, Int.natCast_mul, q32_neg, q64_neg, q32_add, q32_sub, q32_mul, q64_add, q64_sub, q64_mul, q32_64i, q64_32, q32_lt_t, q32_lt_f, q32_le_t, q32_le_f, q32_eq_t, q32_eq_f, q64_lt_t, q64_lt_f, q64_le_t, q64_le_f, q64_eq_t, q64_eq_f, rdI_i, rdL_i, rdR_i, rdN_i, stI_i, stL_i, stR_i, wI_s, wI_n, wL_s, wL_n, wI_2, wI_3, wL_1, wL_3, wR_1, wR_2, Int.toNat_natCast, tnO, tn_add, tn_sub, tn_mul, Nat.add_sub_cancel, Nat.add_zero, Nat.zero_add, lnO, win_t, win_f, r1, b4, e1, e3, e4]
        exact q1
      · rw [if_neg (by omega), if_pos (by omega)] at ag
        simp (disch := omega) only [Option.bind_some, bindv, bindv0, bind2_s, bind3_s, ↓reduceIte, Bool.false_eq_true, rZM_0, rZM_1, rZP_0, rZP_1, ptZ_0, ptZ_1, c32i, c64i, ncI, Int.natCast_add, Int.natCast_mul, q32_neg, q64_neg, q32_add, q32_sub, q32_mul, q64_add, q64_sub, q64_mul, q32_64i, q64_32, q32_lt_t, q32_lt_f, q32_le_t, q32_le_f, q32_eq_t, q32_eq_f, q64_lt_t, q64_lt_f, q64_le_t, q64_le_f, q64_eq_t, q64_eq_f, rdI_i, rdL_i, rdR_i, rdN_i, stI_i, stL_i, stR_i, wI_s, wI_n, wL_s, wL_n, wI_2, wI_3, wL_1, wL_3, wR_1, wR_2, Int.toNat_natCast, tnO, tn_add, tn_sub, tn_mul, Nat.add_sub_cancel, Nat.add_zero, Nat.zero_add, lnO, win_t, win_f, r1, b4, e1, e3, e4, ag]
        exact q1
    · rw [if_neg c0]
      obtain ⟨m', q1, q2⟩ := ih fuel (by omega) m1 (t + 1) b y h10' t10' y3 y4 y5 y6 (by omega) (by omega) (by omega)
      refine ⟨m', ?_, e2.tr q2⟩
      rw [Int.natCast_add] at q1
      by_cases c2 : g.1 * y.2 < y.1 * g.2
      · rw [if_pos c2] at ag
        simp (disch := omega) only [Option.bind_some, bindv, bindv0, bind2_s, bind3_s, ↓reduceIte, Bool.false_eq_true, rZM_0, rZM_1, rZP_0, rZP_1, ptZ_0, ptZ_1, c32i, c64i, ncI, Int.natCast_add, Int.natCast_mul, q32_neg, q64_neg, q32_add, q32_sub, q32_mul, q64_add, q64_sub, q64_mul, q32_64i, q64_32, q32_lt_t, q32_lt_f, q32_le_t, q32_le_f, q32_eq_t, q32_eq_f, q64_lt_t, q64_lt_f, q64_le_t, q64_le_f, q64_eq_t, q64_eq_f, rdI_i, rdL_i, rdR_i, rdN_i, stI_i, stL_i, stR_i, wI_s, wI_n, wL_s, wL_n, wI_2, wI_3, wL_1, wL_3, wR_1, wR_2, Int.toNat_natCast, tnO, tn_add, tn_sub, tn_mul, Nat.add_sub_cancel, Nat.add_zero, Nat.zero_add, lnO, win_t, win_f, r1, b4, e1, e3, e4, ag]
        exact q1
      · rw [if_neg c2, if_neg (by omega)] at ag
        simp (disch := omega) only [Option.bind_some, bindv, bindv0, bind2_s, bind3_s, ↓reduceIte, Bool.false_eq_true, rZM_0, rZM_1, rZP_0, rZP_1, ptZ_0, ptZ_1, c32i, c64i, ncI, Int.natCast_add, Int.natCast_mul, q32_neg, q64_neg, q32_add, q32_sub, q32_mul, q64_add, q64_sub, q64_mul, q32_64i, q64_32, q32_lt_t, q32_lt_f, q32_le_t, q32_le_f, q32_eq_t, q32_eq_f, q64_lt_t, q64_lt_f, q64_le_t, q64_le_f, q64_eq_t, q64_eq_f, rdI_i, rdL_i, rdR_i, rdN_i, stI_i, stL_i, stR_i, wI_s, wI_n, wL_s, wL_n, wI_2, wI_3, wL_1, wL_3, wR_1, wR_2, Int.toNat_natCast, tnO, tn_add, tn_sub, tn_mul, Nat.add_sub_cancel, Nat.add_zero, Nat.zero_add, lnO, win_t, win_f, r1, b4, e1, e3, e4, ag]
        exact q1
theorem STF_g {fc : Nat} {U L : Nat → Int} {x : Nat → Nat} {O : Nat → Nat} {f : FR} (hw : ∀ p, p = Sm (blw U L f.1 f.2) fc → p ≠ 0 → p ≠ fc → f.2 * WD U L (O (p - 1)) (O p) ≠ 0) : Int.gcd (STF fc U L x O f).1 (STF fc U L x O f).2 = 1 := by
  unfold STF
  generalize hp : Sm (blw U L f.1 f.2) fc = p at *
  split
  · simp
  · split
    · simp
    · split
      · simp
      · rename_i h1 h2 h3
        exact (nrm_ok (hw p rfl h3 h2)).1
theorem opk_richest {F : Nat} (hF : 1000 ≤ F) {s : List Sh} {m : Mem} (h : INV s m) : OPK s m (n_X9_richest F s m 0) (fun m1 => n_X10_richest F s m1 23) := by
  have h0 := h
  obtain ⟨hg, ow, nw, hst⟩ := h
  have hl := hst.1
  have hp := hl.hp
  have hr := hl.rf
  have hn := hl.hn
  have rn := hl.nw
  have r1 := rf23_1 hr
  have l24 := ln24 hp
  obtain ⟨fc, tp, U, L, X, O, hd, h9, h10, -, htp⟩ := hst.fd
  obtain ⟨tc, V, W, hn6, t9, t10⟩ := hst.tn htp
  have h6 := hn6.1
  have hb : ∀ t, t < tc → 0 ≤ (STF fc U L (fun k => X k 0) O (V t, W t)).1 ∧ (STF fc U L (fun k => X k 0) O (V t, W t)).1 ≤ 1000000000 ∧ 1 ≤ (STF fc U L (fun k => X k 0) O (V t, W t)).2 ∧ (STF fc U L (fun k => X k 0) O (V t, W t)).2 ≤ 9900000 ∧ Int.gcd (STF fc U L (fun k => X k 0) O (V t, W t)).1 (STF fc U L (fun k => X k 0) O (V t, W t)).2 = 1 := fun t ht => by
    obtain ⟨b1, b2, b3, b4⟩ := hn6.b hd.2.2.1 ht
    have := STF_b hd (f := (V t, W t)) b1 (Q := 99) (by omega) ⟨b3, by dsimp only; omega⟩ (z := 0) (by omega)
    refine ⟨by omega, by omega, by omega, by omega, STF_g (fun p hp p0 pf => ?_)⟩
    have := (wx_pos hd (f := (V t, W t)) b1 b3 hp p0 pf).2.2
    omega
  obtain ⟨m1, p1, p2, p3, p4⟩ := richL9 (s := s) hF hd hn6 (x := fun t => STF fc U L (fun k => X k 0) O (V t, W t)) (fun _ => rfl) hb tc F (by omega) m 0 (-1) (0, 1) hr rn h9 t9 (fun h => absurd rfl h) (by omega) (by omega) (by omega)
  obtain ⟨m2, q1, q2⟩ := richL10 (s := s) hF hp hd hn6 (x := fun t => STF fc U L (fun k => X k 0) O (V t, W t)) (fun _ => rfl) (fun t ht => by have := hb t ht; exact ⟨this.1, this.2.1, this.2.2.1, this.2.2.2.1⟩) tc F (by omega) (wI m1 23 0 (q32 0)) 0 (-1) (0, 1) (h10.k (fun j _ => by simp (disch := omega) only [Option.bind_some, bindv, bindv0, bind2_s, bind3_s, ↓reduceIte, Bool.false_eq_true, rZM_0, rZM_1, rZP_0, rZP_1, ptZ_0, ptZ_1, c32i, c64i, ncI, Int.natCast_add, Int.natCast_mul, q32_neg, q64_neg, q32_add, q32_sub, q32_mul, q64_add, q64_sub, q64_mul, q32_64i, q64_32, q32_lt_t, q32_lt_f, q32_le_t, q32_le_f, q32_eq_t, q32_eq_f, q64_lt_t, q64_lt_f, q64_le_t, q64_le_f, q64_eq_t, q64_eq_f, rdI_i, rdL_i, rdR_i, rdN_i, stI_i, stL_i, stR_i, wI_s, wI_n, wL_s, wL_n, wI_2, wI_3, wL_1, wL_3, wR_1, wR_2, Int.toNat_natCast, tnO, tn_add, tn_sub, tn_mul, Nat.add_sub_cancel, Nat.add_zero, Nat.zero_add, lnO, win_t, win_f]; rw [p2]) p3 hd.1) (t10.k (fun j _ => by simp (disch := omega) only [Option.bind_some, bindv, bindv0, bind2_s, bind3_s, ↓reduceIte, Bool.false_eq_true, rZM_0, rZM_1, rZP_0, rZP_1, ptZ_0, ptZ_1, c32i, c64i, ncI, Int.natCast_add, Int.natCast_mul, q32_neg, q64_neg, q32_add, q32_sub, q32_mul, q64_add, q64_sub, q64_mul, q32_64i, q64_32, q32_lt_t, q32_lt_f, q32_le_t, q32_le_f, q32_eq_t, q32_eq_f, q64_lt_t, q64_lt_f, q64_le_t, q64_le_f, q64_eq_t, q64_eq_f, rdI_i, rdL_i, rdR_i, rdN_i, stI_i, stL_i, stR_i, wI_s, wI_n, wL_s, wL_n, wI_2, wI_3, wL_1, wL_3, wR_1, wR_2, Int.toNat_natCast, tnO, tn_add, tn_sub, tn_mul, Nat.add_sub_cancel, Nat.add_zero, Nat.zero_add, lnO, win_t, win_f]; rw [p2]) p3 h6) (by simp) (by simp) (by simp) (by simp) (by omega) (by omega) (by omega)
  have e1 : n_X9_richest F s m 0 = some (q32 (RCH (fun t => STF fc U L (fun k => X k 0) O (V t, W t)) tc 0 (-1) (0, 1)), m1) := p1
  have e2 : n_X10_richest F s m1 23 = some (q32 (RCH (fun t => STF fc U L (fun k => X k 0) O (V t, W t)) tc 0 (-1) (0, 1)), m2) := by
    unfold n_X10_richest nb_X10_richest_0
    simp (disch := omega) only [Option.bind_some, bindv, bindv0, bind2_s, bind3_s, ↓reduceIte, Bool.false_eq_true, rZM_0, rZM_1, rZP_0, rZP_1, ptZ_0, ptZ_1, c32i, c64i, ncI, Int.natCast_add, Int.natCast_mul, q32_neg, q64_neg, q32_add, q32_sub, q32_mul, q64_add, q64_sub, q64_mul, q32_64i, q64_32, q32_lt_t, q32_lt_f, q32_le_t, q32_le_f, q32_eq_t, q32_eq_f, q64_lt_t, q64_lt_f, q64_le_t, q64_le_f, q64_eq_t, q64_eq_f, rdI_i, rdL_i, rdR_i, rdN_i, stI_i, stL_i, stR_i, wI_s, wI_n, wL_s, wL_n, wI_2, wI_3, wL_1, wL_3, wR_1, wR_2, Int.toNat_natCast, tnO, tn_add, tn_sub, tn_mul, Nat.add_sub_cancel, Nat.add_zero, Nat.zero_add, lnO, win_t, win_f]
    exact q1
  have sc1 : SC m m1 := SC.of (fun a k => by rw [p2]; simp) (fun a k => by
    by_cases c : a = 20 ∨ a = 19
    · omega
    · rw [p4 a k (by omega)]; simp) p3
  exact opk_fin h0 e1 e2 (un_X10_richest (un_X9_richest hg (okB hp).1 e1).2 (okB hp).2 e2).2 (sc1.tr ((SC.k0 m1).tr q2.sc))
