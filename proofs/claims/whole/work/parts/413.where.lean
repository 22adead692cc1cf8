/-! PURE: most, where, alike -/
def MST (x : Nat → Nat) (O : Nat → Nat) : Nat → Nat → Int → Int
  | 0, _, b => b
  | n + 1, i, b => if b = -1 ∨ x b.toNat < x (O i) then MST x O n (i + 1) (O i) else MST x O n (i + 1) b
theorem mostL9 {F : Nat} {s : List Sh} {m : Mem} {n fc tp : Nat} {U L : Nat → Int} {X : Nat → Nat → Nat} {O : Nat → Nat} (hd : FD fc tp U L X O) (h9 : F9 s m n fc U L X O) (r4 : m.2.2 0 4 = some n) {z : Nat} (hz : z < 3) : ∀ (q fuel : Nat), q < fuel → ∀ (i : Nat) (b : Int), -1 ≤ b → b < fc → i + q = fc → nl_X9_most_14 F s m fuel 0 (q32 z) (q32 b) (q32 i) = some (q32 (MST (fun k => X k z) O q i b)) := by
  have h8 := hd.1
  have hO := hd.2.2.2.2.1
  have h9' := h9
  obtain ⟨a9, ⟨r10, r11, r12, r14⟩, ⟨l3, l4, l5, l7⟩, hv, ho⟩ := h9
  intro q
  induction q with
  | zero =>
    intro fuel hf i b b1 b2 hi
    obtain ⟨fuel, rfl⟩ : ∃ f, fuel = f + 1 := ⟨fuel - 1, by omega⟩
    show nb_X9_most_14 F s (nl_X9_most_14 F s m fuel) m 0 _ _ _ = _
    unfold nb_X9_most_14 MST
    simp (disch := omega) only [Option.bind_some, bindv, bindv0, bind2_s, bind3_s, ↓reduceIte, Bool.false_eq_true, rZM_0, rZM_1, rZP_0, rZP_1, ptZ_0, ptZ_1, c32i, c64i, ncI, Int.natCast_add, Int.natCast_mul, q32_neg, q64_neg, q32_add, q32_sub, q32_mul, q64_add, q64_sub, q64_mul, q32_64i, q64_32, q32_lt_t, q32_lt_f, q32_le_t, q32_le_f, q32_eq_t, q32_eq_f, q64_lt_t, q64_lt_f, q64_le_t, q64_le_f, q64_eq_t, q64_eq_f, rdI_i, rdL_i, rdR_i, rdN_i, stI_i, stL_i, stR_i, wI_s, wI_n, wL_s, wL_n, wI_2, wI_3, wL_1, wL_3, wR_1, wR_2, Int.toNat_natCast, tnO, tn_add, tn_sub, tn_mul, Nat.add_sub_cancel, Nat.add_zero, Nat.zero_add, lnO, win_t, win_f, r4, a9]
  | succ q ih =>
    intro fuel hf i b b1 b2 hi
    obtain ⟨fuel, rfl⟩ : ∃ f, fuel = f + 1 := ⟨fuel - 1, by omega⟩
    have hk := hO i (by omega)
    have sk := so9 hd h9' hk hz
    have oi := ho i (by omega)
    have xk := (hd.b hk).2.2.2.2 z hz
    show nb_X9_most_14 F s (nl_X9_most_14 F s m fuel) m 0 _ _ _ = _
    unfold nb_X9_most_14 MST nb_X9_most_63 nb_X9_most_66
    have ih1 := ih fuel (by omega) (i + 1) (O i) (by omega) (by omega) (by omega)
    have ih2 := ih fuel (by omega) (i + 1) b b1 b2 (by omega)
    rw [Int.natCast_add] at ih1 ih2
    by_cases c0 : b = -1
    · rw [if_pos (Or.inl c0)]
      simp (disch := omega) only [Option.bind_some, bindv, bindv0, bind2_s, bind3_s, ↓reduceIte, Bool.false_eq_true, rZM_0, rZM_1, rZP_0, rZP_1, ptZ_0, ptZ_1, c32i, c64i, ncI, Int.natCast_add, Int.natCast_mul, q32_neg, q64_neg, q32_add, q32_sub, q32_mul, q64_add, q64_sub, q64_mul, q32_64i, q64_32, q32_lt_t, q32_lt_f, q32_le_t, q32_le_f, q32_eq_t, q32_eq_f, q64_lt_t, q64_lt_f, q64_le_t, q64_le_f, q64_eq_t, q64_eq_f, rdI_i, rdL_i, rdR_i, rdN_i, stI_i, stL_i, stR_i, wI_s, wI_n, wL_s, wL_n, wI_2, wI_3, wL_1, wL_3, wR_1, wR_2, Int.toNat_natCast, tnO, tn_add, tn_sub, tn_mul, Nat.add_sub_cancel, Nat.add_zero, Nat.zero_add, lnO, win_t, win_f, r4, a9, r14, oi]
      exact ih1
    · obtain ⟨k, rfl⟩ := Int.eq_ofNat_of_zero_le (show 0 ≤ b by omega)
      have sb := so9 hd h9' (k := k) (by omega) hz
      have xb := (hd.b (k := k) (by omega)).2.2.2.2 z hz
      rw [show ((k : Int)).toNat = k from rfl]
      by_cases c1 : X k z < X (O i) z
      · rw [if_pos (Or.inr c1)]
        simp (disch := omega) only [Option.bind_some, bindv, bindv0, bind2_s, bind3_s, ↓reduceIte, Bool.false_eq_true, rZM_0, rZM_1, rZP_0, rZP_1, ptZ_0, ptZ_1, c32i, c64i, ncI, Int.natCast_add, Int.natCast_mul, q32_neg, q64_neg, q32_add, q32_sub, q32_mul, q64_add, q64_sub, q64_mul, q32_64i, q64_32, q32_lt_t, q32_lt_f, q32_le_t, q32_le_f, q32_eq_t, q32_eq_f, q64_lt_t, q64_lt_f, q64_le_t, q64_le_f, q64_eq_t, q64_eq_f, rdI_i, rdL_i, rdR_i, rdN_i, stI_i, stL_i, stR_i, wI_s, wI_n, wL_s, wL_n, wI_2, wI_3, wL_1, wL_3, wR_1, wR_2, Int.toNat_natCast, tnO, tn_add, tn_sub, tn_mul, Nat.add_sub_cancel, Nat.add_zero, Nat.zero_add, lnO, win_t, win_f, r4, a9, r14, oi, sk, sb]
        exact ih1
      · rw [if_neg (by omega)]
        simp (disch := omega) only [Option.bind_some, bindv, bindv0, bind2_s, bind3_s, ↓reduceIte, Bool.false_eq_true, rZM_0, rZM_1, rZP_0, rZP_1, ptZ_0, ptZ_1, c32i, c64i, ncI, Int.natCast_add, Int.natCast_mul, q32_neg, q64_neg, q32_add, q32_sub, q32_mul, q64_add, q64_sub, q64_mul, q32_64i, q64_32, q32_lt_t, q32_lt_f, q32_le_t, q32_le_f, q32_eq_t, q32_eq_f, q64_lt_t, q64_lt_f, q64_le_t, q64_le_f, q64_eq_t, q64_eq_f, rdI_i, rdL_i, rdR_i, rdN_i, stI_i, stL_i, stR_i, wI_s, wI_n, wL_s, wL_n, wI_2, wI_3, wL_1, wL_3, wR_1, wR_2, Int.toNat_natCast, tnO, tn_add, tn_sub, tn_mul, Nat.add_sub_cancel, Nat.add_zero, Nat.zero_add, lnO, win_t, win_f, r4, a9, r14, oi, sk, sb]
        exact ih2
theorem mostL10 {F : Nat} {s : List Sh} (hp : ∃ t, s = sB ++ t) {m : Mem} {fc tp : Nat} {U L : Nat → Int} {X : Nat → Nat → Nat} {O : Nat → Nat} (hd : FD fc tp U L X O) (h10 : F10 m fc U L X) (ho : ∀ i, i < fc → m.1 30 i = q32 (O i)) {z : Nat} (hz : z < 3) : ∀ (q fuel : Nat), q < fuel → ∀ (i : Nat) (b : Int), -1 ≤ b → b < fc → i + q = fc → nl_X10_most_23 F s fuel m 23 (q32 z) (q32 b) (q32 i) = some (q32 (MST (fun k => X k z) O q i b), m) := by
  have h8 := hd.1
  have hO := hd.2.2.2.2.1
  have l24 := ln24 hp
  have l30 := ln30 hp
  have r1 := rf23_1 h10.1
  have r23 := rf23_23 h10.1
  have b3 := h10.2.1
  intro q
  induction q with
  | zero =>
    intro fuel hf i b b1 b2 hi
    obtain ⟨fuel, rfl⟩ : ∃ f, fuel = f + 1 := ⟨fuel - 1, by omega⟩
    show nb_X10_most_23 F s (nl_X10_most_23 F s fuel) m 23 _ _ _ = _
    unfold nb_X10_most_23 MST
    simp (disch := omega) only [Option.bind_some, bindv, bindv0, bind2_s, bind3_s, ↓reduceIte, Bool.false_eq_true, rZM_0, rZM_1, rZP_0, rZP_1, ptZ_0, ptZ_1, c32i, c64i, ncI, Int.natCast_add, Int.natCast_mul, q32_neg, q64_neg, q32_add, q32_sub, q32_mul, q64_add, q64_sub, q64_mul, q32_64i, q64_32, q32_lt_t, q32_lt_f, q32_le_t, q32_le_f, q32_eq_t, q32_eq_f, q64_lt_t, q64_lt_f, q64_le_t, q64_le_f, q64_eq_t, q64_eq_f, rdI_i, rdL_i, rdR_i, rdN_i, stI_i, stL_i, stR_i, wI_s, wI_n, wL_s, wL_n, wI_2, wI_3, wL_1, wL_3, wR_1, wR_2, Int.toNat_natCast, tnO, tn_add, tn_sub, tn_mul, Nat.add_sub_cancel, Nat.add_zero, Nat.zero_add, lnO, win_t, win_f, r1, b3]
  | succ q ih =>
    intro fuel hf i b b1 b2 hi
    obtain ⟨fuel, rfl⟩ : ∃ f, fuel = f + 1 := ⟨fuel - 1, by omega⟩
    have hk := hO i (by omega)
    have sk := so10 (s := s) hp hd h10 hk hz
    have oi := ho i (by omega)
    have xk := (hd.b hk).2.2.2.2 z hz
    show nb_X10_most_23 F s (nl_X10_most_23 F s fuel) m 23 _ _ _ = _
    unfold nb_X10_most_23 MST nb_X10_most_58 nb_X10_most_65
    have ih1 := ih fuel (by omega) (i + 1) (O i) (by omega) (by omega) (by omega)
    have ih2 := ih fuel (by omega) (i + 1) b b1 b2 (by omega)
    rw [Int.natCast_add] at ih1 ih2
    by_cases c0 : b = -1
    · rw [if_pos (Or.inl c0)]
      simp (disch := omega) only [Option.bind_some, bindv, bindv0, bind2_s, bind3_s, ↓reduceIte, Bool.false_eq_true, rZM_0, rZM_1, rZP_0, rZP_1, ptZ_0, ptZ_1, c32i, c64i, ncI, Int.natCast_add, Int.natCast_mul, q32_neg, q64_neg, q32_add, q32_sub, q32_mul, q64_add, q64_sub, q64_mul, q32_64i, q64_32, q32_lt_t, q32_lt_f, q32_le_t, q32_le_f, q32_eq_t, q32_eq_f, q64_lt_t, q64_lt_f, q64_le_t, q64_le_f, q64_eq_t, q64_eq_f, rdI_i, rdL_i, rdR_i, rdN_i, stI_i, stL_i, stR_i, wI_s, wI_n, wL_s, wL_n, wI_2, wI_3, wL_1, wL_3, wR_1, wR_2, Int.toNat_natCast, tnO, tn_add, tn_sub, tn_mul, Nat.add_sub_cancel, Nat.add_zero, Nat.zero_add, lnO, win_t, win_f, r1, b3, r23, oi]
      exact ih1
    · obtain ⟨k, rfl⟩ := Int.eq_ofNat_of_zero_le (show 0 ≤ b by omega)
      have sb := so10 (s := s) hp hd h10 (k := k) (by omega) hz
      have xb := (hd.b (k := k) (by omega)).2.2.2.2 z hz
      rw [show ((k : Int)).toNat = k from rfl]
      by_cases c1 : X k z < X (O i) z
      · rw [if_pos (Or.inr c1)]
        simp (disch := omega) only [Option.bind_some, bindv, bindv0, bind2_s, bind3_s, ↓reduceIte, Bool.false_eq_true, rZM_0, rZM_1, rZP_0, rZP_1, ptZ_0, ptZ_1, c32i, c64i, ncI, Int.natCast_add, Int.natCast_mul, q32_neg, q64_neg, q32_add, q32_sub, q32_mul, q64_add, q64_sub, q64_mul, q32_64i, q64_32, q32_lt_t, q32_lt_f, q32_le_t, q32_le_f, q32_eq_t, q32_eq_f, q64_lt_t, q64_lt_f, q64_le_t, q64_le_f, q64_eq_t, q64_eq_f, rdI_i, rdL_i, rdR_i, rdN_i, stI_i, stL_i, stR_i, wI_s, wI_n, wL_s, wL_n, wI_2, wI_3, wL_1, wL_3, wR_1, wR_2, Int.toNat_natCast, tnO, tn_add, tn_sub, tn_mul, Nat.add_sub_cancel, Nat.add_zero, Nat.zero_add, lnO, win_t, win_f, r1, b3, r23, oi, sk, sb]
        exact ih1
      · rw [if_neg (show ¬ ((k : Int) = -1 ∨ X k z < X (O i) z) by omega)]
        simp (disch := omega) only [Option.bind_some, bindv, bindv0, bind2_s, bind3_s, ↓reduceIte, Bool.false_eq_true, rZM_0, rZM_1, rZP_0, rZP_1, ptZ_0, ptZ_1, c32i, c64i, ncI, Int.natCast_add, Int.natCast_mul, q32_neg, q64_neg, q32_add, q32_sub, q32_mul, q64_add, q64_sub, q64_mul, q32_64i, q64_32, q32_lt_t, q32_lt_f, q32_le_t, q32_le_f, q32_eq_t, q32_eq_f, q64_lt_t, q64_lt_f, q64_le_t, q64_le_f, q64_eq_t, q64_eq_f, rdI_i, rdL_i, rdR_i, rdN_i, stI_i, stL_i, stR_i, wI_s, wI_n, wL_s, wL_n, wI_2, wI_3, wL_1, wL_3, wR_1, wR_2, Int.toNat_natCast, tnO, tn_add, tn_sub, tn_mul, Nat.add_sub_cancel, Nat.add_zero, Nat.zero_add, lnO, win_t, win_f, r1, b3, r23, oi, sk, sb]
        exact ih2
theorem opr_most {F : Nat} (hF : 1000 ≤ F) {s : List Sh} {m : Mem} (h : INV s m) (w : Int32) : OPR s m (n_X9_most F s m 0 w) (n_X10_most F s m 23 w) := by
  have h0 := h
  have key : ∃ r m2, n_X9_most F s m 0 w = some r ∧ n_X10_most F s m 23 w = some (r, m2) ∧ SC m m2 := by
    obtain ⟨hg, ow, nw, hst⟩ := h
    have hl := hst.1
    have hp := hl.hp
    have hr := hl.rf
    have hn := hl.hn
    have rn := hl.nw
    have r1 := rf23_1 hr
    have l24 := ln24 hp
    obtain ⟨z, hz, rfl⟩ := q32_of w
    have i9 := isSt9 hz
    have i10 := isSt10 hz
    by_cases cz : 0 ≤ z ∧ z < 3
    · rw [if_pos cz] at i9 i10
      obtain ⟨n, rfl⟩ := Int.eq_ofNat_of_zero_le cz.1
      obtain ⟨fc, tp, U, L, X, O, hd, h9, h10, -, -⟩ := hst.fd
      have h8 := hd.1
      have h10' : F10 (wI m 23 0 (q32 0)) fc U L X := h10.k (fun j _ => by simp (disch := omega) only [Option.bind_some, bindv, bindv0, bind2_s, bind3_s, ↓reduceIte, Bool.false_eq_true, rZM_0, rZM_1, rZP_0, rZP_1, ptZ_0, ptZ_1, c32i, c64i, ncI, Int.natCast_add, Int.natCast_mul, q32_neg, q64_neg, q32_add, q32_sub, q32_mul, q64_add, q64_sub, q64_mul, q32_64i, q64_32, q32_lt_t, q32_lt_f, q32_le_t, q32_le_f, q32_eq_t, q32_eq_f, q64_lt_t, q64_lt_f, q64_le_t, q64_le_f, q64_eq_t, q64_eq_f, rdI_i, rdL_i, rdR_i, rdN_i, stI_i, stL_i, stR_i, wI_s, wI_n, wL_s, wL_n, wI_2, wI_3, wL_1, wL_3, wR_1, wR_2, Int.toNat_natCast, tnO, tn_add, tn_sub, tn_mul, Nat.add_sub_cancel, Nat.add_zero, Nat.zero_add, lnO, win_t, win_f]) rfl h8
      obtain ⟨m1, o1, o2, o3, o4⟩ := order10 (F := F) (by omega) hp hd h10'
      have l9 := mostL9 (F := F) hd h9 rn (z := n) (by omega) fc F (by omega) 0 (-1) (by omega) (by omega) (by omega)
      have l10 := mostL10 (F := F) hp hd (h10'.k (fun j _ => o3 _ _ (by omega)) (by rw [o2]) h8) o4 (z := n) (by omega) fc F (by omega) 0 (-1) (by omega) (by omega) (by omega)
      refine ⟨q32 (MST (fun k => X k n) O fc 0 (-1)), m1, ?_, ?_, SC.of (fun a k => ?_) (fun a k => ?_) (by rw [o2]; rfl)⟩
      · unfold n_X9_most nb_X9_most_0
        simp (disch := omega) only [Option.bind_some, bindv, bindv0, bind2_s, bind3_s, ↓reduceIte, Bool.false_eq_true, rZM_0, rZM_1, rZP_0, rZP_1, ptZ_0, ptZ_1, c32i, c64i, ncI, Int.natCast_add, Int.natCast_mul, q32_neg, q64_neg, q32_add, q32_sub, q32_mul, q64_add, q64_sub, q64_mul, q32_64i, q64_32, q32_lt_t, q32_lt_f, q32_le_t, q32_le_f, q32_eq_t, q32_eq_f, q64_lt_t, q64_lt_f, q64_le_t, q64_le_f, q64_eq_t, q64_eq_f, rdI_i, rdL_i, rdR_i, rdN_i, stI_i, stL_i, stR_i, wI_s, wI_n, wL_s, wL_n, wI_2, wI_3, wL_1, wL_3, wR_1, wR_2, Int.toNat_natCast, tnO, tn_add, tn_sub, tn_mul, Nat.add_sub_cancel, Nat.add_zero, Nat.zero_add, lnO, win_t, win_f, i9]
        exact l9
      · unfold n_X10_most nb_X10_most_0
        simp (disch := omega) only [Option.bind_some, bindv, bindv0, bind2_s, bind3_s, ↓reduceIte, Bool.false_eq_true, rZM_0, rZM_1, rZP_0, rZP_1, ptZ_0, ptZ_1, c32i, c64i, ncI, Int.natCast_add, Int.natCast_mul, q32_neg, q64_neg, q32_add, q32_sub, q32_mul, q64_add, q64_sub, q64_mul, q32_64i, q64_32, q32_lt_t, q32_lt_f, q32_le_t, q32_le_f, q32_eq_t, q32_eq_f, q64_lt_t, q64_lt_f, q64_le_t, q64_le_f, q64_eq_t, q64_eq_f, rdI_i, rdL_i, rdR_i, rdN_i, stI_i, stL_i, stR_i, wI_s, wI_n, wL_s, wL_n, wI_2, wI_3, wL_1, wL_3, wR_1, wR_2, Int.toNat_natCast, tnO, tn_add, tn_sub, tn_mul, Nat.add_sub_cancel, Nat.add_zero, Nat.zero_add, lnO, win_t, win_f, i10, o1]
        exact l10
      · by_cases c : a = 30 ∨ (a = 23 ∧ k = 0)
        · omega
        · rw [o3 a k (by omega), wI_n (by omega)]; simp
      · rw [o2]; simp [wI_2]
    · rw [if_neg cz] at i9 i10
      refine ⟨q32 (-2), _, ?_, ?_, SC.k0 m⟩
      · unfold n_X9_most nb_X9_most_0
        simp (disch := omega) only [Option.bind_some, bindv, bindv0, bind2_s, bind3_s, ↓reduceIte, Bool.false_eq_true, rZM_0, rZM_1, rZP_0, rZP_1, ptZ_0, ptZ_1, c32i, c64i, ncI, Int.natCast_add, Int.natCast_mul, q32_neg, q64_neg, q32_add, q32_sub, q32_mul, q64_add, q64_sub, q64_mul, q32_64i, q64_32, q32_lt_t, q32_lt_f, q32_le_t, q32_le_f, q32_eq_t, q32_eq_f, q64_lt_t, q64_lt_f, q64_le_t, q64_le_f, q64_eq_t, q64_eq_f, rdI_i, rdL_i, rdR_i, rdN_i, stI_i, stL_i, stR_i, wI_s, wI_n, wL_s, wL_n, wI_2, wI_3, wL_1, wL_3, wR_1, wR_2, Int.toNat_natCast, tnO, tn_add, tn_sub, tn_mul, Nat.add_sub_cancel, Nat.add_zero, Nat.zero_add, lnO, win_t, win_f, i9]
      · unfold n_X10_most nb_X10_most_0
        simp (disch := omega) only [Option.bind_some, bindv, bindv0, bind2_s, bind3_s, ↓reduceIte, Bool.false_eq_true, rZM_0, rZM_1, rZP_0, rZP_1, ptZ_0, ptZ_1, c32i, c64i, ncI, Int.natCast_add, Int.natCast_mul, q32_neg, q64_neg, q32_add, q32_sub, q32_mul, q64_add, q64_sub, q64_mul, q32_64i, q64_32, q32_lt_t, q32_lt_f, q32_le_t, q32_le_f, q32_eq_t, q32_eq_f, q64_lt_t, q64_lt_f, q64_le_t, q64_le_f, q64_eq_t, q64_eq_f, rdI_i, rdL_i, rdR_i, rdN_i, stI_i, stL_i, stR_i, wI_s, wI_n, wL_s, wL_n, wI_2, wI_3, wL_1, wL_3, wR_1, wR_2, Int.toNat_natCast, tnO, tn_add, tn_sub, tn_mul, Nat.add_sub_cancel, Nat.add_zero, Nat.zero_add, lnO, win_t, win_f, i10]
  obtain ⟨r, m2, e1, e2, e3⟩ := key
  exact ⟨r, m2, e1, e2, inv10 h0 (un_X10_most h0.gs (okB h0.hp).2 e2) e3, e3.r⟩
/-! where so much is -/
def CRS (U L : Nat → Int) (D : Nat → Int) (b k : Nat) : FR := nrm (U b * L k * (D b - D k) + WD U L b k * D b) (L b * L k * (D b - D k))
def LVF (U L : Nat → Int) (O : Nat → Nat) (D : Nat → Int) : Nat → Nat → Option FR
  | 0, _ => none
  | q + 1, i => if D (O i) = 0 ∨ (0 < D (O i) ∧ D (O (i - 1)) < 0) ∨ (D (O i) < 0 ∧ 0 < D (O (i - 1))) then some (CRS U L D (O (i - 1)) (O i)) else LVF U L O D q (i + 1)
def LVL (fc : Nat) (U L : Nat → Int) (O : Nat → Nat) (D : Nat → Int) (N : Int) : Option FR := if fc = 0 then (if N = 0 then some (0, 1) else none) else if D (O 0) = 0 then some (0, 1) else LVF U L O D (fc - 1) 1
theorem crs_b {fc tp : Nat} {U L : Nat → Int} {X : Nat → Nat → Nat} {O : Nat → Nat} (hd : FD fc tp U L X O) {D : Nat → Int} {i j : Nat} (hij : i < j) (hj : j < fc) (db : (D (O i)).natAbs ≤ 99) (dk : (D (O j)).natAbs ≤ 99) (hne : D (O i) ≠ D (O j)) : L (O i) * L (O j) * (D (O i) - D (O j)) ≠ 0 ∧ (L (O i) * L (O j) * (D (O i) - D (O j))).natAbs ≤ 2000000 ∧ (U (O i) * L (O j)).natAbs ≤ 88209 ∧ (U (O i) * L (O j) * (D (O i) - D (O j))).natAbs ≤ 20000000 ∧ (WD U L (O i) (O j) * D (O i)).natAbs ≤ 9900000 ∧ (L (O i) * L (O j)).natAbs ≤ 9801 := by
  have hO := hd.2.2.2.2.1
  obtain ⟨a1, a2, a3, a4, -⟩ := hd.b (hO i (by omega))
  obtain ⟨b1, b2, b3, b4, -⟩ := hd.b (hO j hj)
  obtain ⟨w1, w2⟩ := WD_b hd hij hj
  have k0 := mulB (show (L (O i)).natAbs ≤ 99 by omega) (show (L (O j)).natAbs ≤ 99 by omega)
  have k1 := mulB (mulB (show (L (O i)).natAbs ≤ 99 by omega) (show (L (O j)).natAbs ≤ 99 by omega)) (show (D (O i) - D (O j)).natAbs ≤ 198 by omega)
  have k2 := mulB (show (U (O i)).natAbs ≤ 891 by omega) (show (L (O j)).natAbs ≤ 99 by omega)
  have k3 := mulB (mulB (show (U (O i)).natAbs ≤ 891 by omega) (show (L (O j)).natAbs ≤ 99 by omega)) (show (D (O i) - D (O j)).natAbs ≤ 198 by omega)
  have k4 := mulB (show (WD U L (O i) (O j)).natAbs ≤ 100000 by omega) db
  exact ⟨Int.mul_ne_zero (Int.mul_ne_zero (by omega) (by omega)) (by omega), by omega, by omega, by omega, by omega, by omega⟩
theorem cross9 {F : Nat} (hF : 1000 ≤ F) {s : List Sh} {m : Mem} {n fc tp : Nat} {U L : Nat → Int} {X : Nat → Nat → Nat} {O : Nat → Nat} (hd : FD fc tp U L X O) (h9 : F9 s m n fc U L X O) {D : Nat → Int} {i j : Nat} (hij : i < j) (hj : j < fc) (db : (D (O i)).natAbs ≤ 99) (dk : (D (O j)).natAbs ≤ 99) (hne : D (O i) ≠ D (O j)) {r : Nat} : n_X0_putCrossing F s m n (q32 (O i)) (q32 (O j)) (q32 (D (O i))) (q32 (D (O j))) r = some ((), PT m r (CRS U L D (O i) (O j))) := by
  obtain ⟨c1, c2, c3, c4, c5, c6⟩ := crs_b hd hij hj db dk hne
  have hO := hd.2.2.2.2.1
  have h8 := hd.1
  have ki := hO i (by omega)
  have kj := hO j hj
  obtain ⟨a9, ⟨r10, r11, r12, r14⟩, ⟨l3, l4, l5, l7⟩, hv, ho⟩ := h9
  obtain ⟨vb1, vb2, -⟩ := hv _ ki
  obtain ⟨vk1, vk2, -⟩ := hv _ kj
  obtain ⟨a1, a2, a3, a4, -⟩ := hd.b ki
  obtain ⟨b1, b2, b3, b4, -⟩ := hd.b kj
  have wd : n_X0_widthBetween s m n (q32 (O i)) (q32 (O j)) = some (q64 (WD U L (O i) (O j))) := by
    unfold n_X0_widthBetween nb_X0_widthBetween_0 WD
    simp (disch := omega) only [Option.bind_some, bindv, bindv0, bind2_s, bind3_s, ↓reduceIte, Bool.false_eq_true, rZM_0, rZM_1, rZP_0, rZP_1, ptZ_0, ptZ_1, c32i, c64i, ncI, Int.natCast_add, Int.natCast_mul, q32_neg, q64_neg, q32_add, q32_sub, q32_mul, q64_add, q64_sub, q64_mul, q32_64i, q64_32, q32_lt_t, q32_lt_f, q32_le_t, q32_le_f, q32_eq_t, q32_eq_f, q64_lt_t, q64_lt_f, q64_le_t, q64_le_f, q64_eq_t, q64_eq_f, rdI_i, rdL_i, rdR_i, rdN_i, stI_i, stL_i, stR_i, wI_s, wI_n, wL_s, wL_n, wI_2, wI_3, wL_1, wL_3, wR_1, wR_2, Int.toNat_natCast, tnO, tn_add, tn_sub, tn_mul, Nat.add_sub_cancel, Nat.add_zero, Nat.zero_add, lnO, win_t, win_f, r10, r11, vb1, vb2, vk1, vk2]
  have pu := put9 (F := F) (s := s) (m := m) (r := r) (by omega) (p := U (O i) * L (O j) * (D (O i) - D (O j)) + WD U L (O i) (O j) * D (O i)) (q := L (O i) * L (O j) * (D (O i) - D (O j))) c1 (by omega) (by omega)
  unfold n_X0_putCrossing nb_X0_putCrossing_0 CRS
  simp (disch := omega) only [Option.bind_some, bindv, bindv0, bind2_s, bind3_s, ↓reduceIte, Bool.false_eq_true, rZM_0, rZM_1, rZP_0, rZP_1, ptZ_0, ptZ_1, c32i, c64i, ncI, Int.natCast_add, Int.natCast_mul, q32_neg, q64_neg, q32_add, q32_sub, q32_mul, q64_add, q64_sub, q64_mul, q32_64i, q64_32, q32_lt_t, q32_lt_f, q32_le_t, q32_le_f, q32_eq_t, q32_eq_f, q64_lt_t, q64_lt_f, q64_le_t, q64_le_f, q64_eq_t, q64_eq_f, rdI_i, rdL_i, rdR_i, rdN_i, stI_i, stL_i, stR_i, wI_s, wI_n, wL_s, wL_n, wI_2, wI_3, wL_1, wL_3, wR_1, wR_2, Int.toNat_natCast, tnO, tn_add, tn_sub, tn_mul, Nat.add_sub_cancel, Nat.add_zero, Nat.zero_add, lnO, win_t, win_f, r10, r11, vb1, vb2, vk1, vk2, wd, pu]
theorem levelL9 {F : Nat} (hF : 1000 ≤ F) {s : List Sh} {m : Mem} {n fc tp : Nat} {U L : Nat → Int} {X : Nat → Nat → Nat} {O : Nat → Nat} (hd : FD fc tp U L X O) (h9 : F9 s m n fc U L X O) {D : Nat → Int} (hD : ∀ k, k < fc → (D k).natAbs ≤ 99) {v1 v2 v3 : Int32} (hov : ∀ k, k < fc → n_X0_overAt s m n (q32 k) v1 v2 v3 = some (q32 (D k))) {r : Nat} : ∀ (q fuel : Nat), q < fuel → ∀ i, 1 ≤ i → D (O (i - 1)) ≠ 0 → i + q = fc → nl_X0_leastLevel_49 F s fuel m n v1 v2 v3 r (q32 (D (O (i - 1)))) (q32 i) = match LVF U L O D q i with
    | none => some (q32 0, m)
    | some f => some (q32 1, PT m r f) := by
  have h8 := hd.1
  have hO := hd.2.2.2.2.1
  have h9' := h9
  obtain ⟨a9, ⟨r10, r11, r12, r14⟩, ⟨l3, l4, l5, l7⟩, hv, ho⟩ := h9
  intro q
  induction q with
  | zero =>
    intro fuel hf i i1 hb hi
    obtain ⟨fuel, rfl⟩ : ∃ f, fuel = f + 1 := ⟨fuel - 1, by omega⟩
    show nb_X0_leastLevel_49 F s (nl_X0_leastLevel_49 F s fuel) m n v1 v2 v3 r _ _ = _
    unfold nb_X0_leastLevel_49 LVF
    simp (disch := omega) only [Option.bind_some, bindv, bindv0, bind2_s, bind3_s, ↓reduceIte, Bool.false_eq_true, rZM_0, rZM_1, rZP_0, rZP_1, ptZ_0, ptZ_1, c32i, c64i, ncI, Int.natCast_add, Int.natCast_mul, q32_neg, q64_neg, q32_add, q32_sub, q32_mul, q64_add, q64_sub, q64_mul, q32_64i, q64_32, q32_lt_t, q32_lt_f, q32_le_t, q32_le_f, q32_eq_t, q32_eq_f, q64_lt_t, q64_lt_f, q64_le_t, q64_le_f, q64_eq_t, q64_eq_f, rdI_i, rdL_i, rdR_i, rdN_i, stI_i, stL_i, stR_i, wI_s, wI_n, wL_s, wL_n, wI_2, wI_3, wL_1, wL_3, wR_1, wR_2, Int.toNat_natCast, tnO, tn_add, tn_sub, tn_mul, Nat.add_sub_cancel, Nat.add_zero, Nat.zero_add, lnO, win_t, win_f, a9]
  | succ q ih =>
    intro fuel hf i i1 hb hi
    obtain ⟨fuel, rfl⟩ : ∃ f, fuel = f + 1 := ⟨fuel - 1, by omega⟩
    have ki := hO i (by omega)
    have kb := hO (i - 1) (by omega)
    have di := hD _ ki
    have db := hD _ kb
    have ov := hov _ ki
    have oi := ho i (by omega)
    have ob := ho (i - 1) (by omega)
    have en : ((i : Int) - 1).toNat = i - 1 := by omega
    show nb_X0_leastLevel_49 F s (nl_X0_leastLevel_49 F s fuel) m n v1 v2 v3 r _ _ = _
    unfold nb_X0_leastLevel_49 LVF nb_X0_leastLevel_89 nb_X0_leastLevel_99 nb_X0_leastLevel_102
    by_cases c : D (O i) = 0 ∨ (0 < D (O i) ∧ D (O (i - 1)) < 0) ∨ (D (O i) < 0 ∧ 0 < D (O (i - 1)))
    · rw [if_pos c]
      have cr := cross9 hF hd h9' (D := D) (i := i - 1) (j := i) (by omega) (by omega) db di (by omega) (r := r)
      generalize D (O i) = y at *
      generalize D (O (i - 1)) = x at *
      rcases c with c | c | c
      · simp (disch := omega) only [Option.bind_some, bindv, bindv0, bind2_s, bind3_s, ↓reduceIte, Bool.false_eq_true, rZM_0, rZM_1, rZP_0, rZP_1, ptZ_0, ptZ_1, c32i, c64i, ncI, Int.natCast_add, Int.natCast_mul, q32_neg, q64_neg, q32_add, q32_sub, q32_mul, q64_add, q64_sub, q64_mul, q32_64i, q64_32, q32_lt_t, q32_lt_f, q32_le_t, q32_le_f, q32_eq_t, q32_eq_f, q64_lt_t, q64_lt_f, q64_le_t, q64_le_f, q64_eq_t, q64_eq_f, rdI_i, rdL_i, rdR_i, rdN_i, stI_i, stL_i, stR_i, wI_s, wI_n, wL_s, wL_n, wI_2, wI_3, wL_1, wL_3, wR_1, wR_2, Int.toNat_natCast, tnO, tn_add, tn_sub, tn_mul, Nat.add_sub_cancel, Nat.add_zero, Nat.zero_add, lnO, win_t, win_f, a9, r14, oi, ob, ov, en, cr]
      · simp (disch := omega) only [Option.bind_some, bindv, bindv0, bind2_s, bind3_s, ↓reduceIte, Bool.false_eq_true, rZM_0, rZM_1, rZP_0, rZP_1, ptZ_0, ptZ_1, c32i, c64i, ncI, Int.natCast_add, Int.natCast_mul, q32_neg, q64_neg, q32_add, q32_sub, q32_mul, q64_add, q64_sub, q64_mul, q32_64i, q64_32, q32_lt_t, q32_lt_f, q32_le_t, q32_le_f, q32_eq_t, q32_eq_f, q64_lt_t, q64_lt_f, q64_le_t, q64_le_f, q64_eq_t, q64_eq_f, rdI_i, rdL_i, rdR_i, rdN_i, stI_i, stL_i, stR_i, wI_s, wI_n, wL_s, wL_n, wI_2, wI_3, wL_1, wL_3, wR_1, wR_2, Int.toNat_natCast, tnO, tn_add, tn_sub, tn_mul, Nat.add_sub_cancel, Nat.add_zero, Nat.zero_add, lnO, win_t, win_f, a9, r14, oi, ob, ov, en, cr]
      · simp (disch := omega) only [Option.bind_some, bindv, bindv0, bind2_s, bind3_s, ↓reduceIte, Bool.false_eq_true, rZM_0, rZM_1, rZP_0, rZP_1, ptZ_0, ptZ_1, c32i, c64i, ncI, Int.natCast_add, Int.natCast_mul, q32_neg, q64_neg, q32_add, q32_sub, q32_mul, q64_add, q64_sub, q64_mul, q32_64i, q64_32, q32_lt_t, q32_lt_f, q32_le_t, q32_le_f, q32_eq_t, q32_eq_f, q64_lt_t, q64_lt_f, q64_le_t, q64_le_f, q64_eq_t, q64_eq_f, rdI_i, rdL_i, rdR_i, rdN_i, stI_i, stL_i, stR_i, wI_s, wI_n, wL_s, wL_n, wI_2, wI_3, wL_1, wL_3, wR_1, wR_2, Int.toNat_natCast, tnO, tn_add, tn_sub, tn_mul, Nat.add_sub_cancel, Nat.add_zero, Nat.zero_add, lnO, win_t, win_f, a9, r14, oi, ob, ov, en, cr]
    · rw [if_neg c]
      have ih := ih fuel (by omega) (i + 1) (by omega) (by rw [show i + 1 - 1 = i by omega]; omega) (by omega)
      rw [show i + 1 - 1 = i by omega, Int.natCast_add] at ih
      by_cases c2 : 0 < D (O i)
      · simp (disch := omega) only [Option.bind_some, bindv, bindv0, bind2_s, bind3_s, ↓reduceIte, Bool.false_eq_true, rZM_0, rZM_1, rZP_0, rZP_1, ptZ_0, ptZ_1, c32i, c64i, ncI, Int.natCast_add, Int.natCast_mul, q32_neg, q64_neg, q32_add, q32_sub, q32_mul, q64_add, q64_sub, q64_mul, q32_64i, q64_32, q32_lt_t, q32_lt_f, q32_le_t, q32_le_f, q32_eq_t, q32_eq_f, q64_lt_t, q64_lt_f, q64_le_t, q64_le_f, q64_eq_t, q64_eq_f, rdI_i, rdL_i, rdR_i, rdN_i, stI_i, stL_i, stR_i, wI_s, wI_n, wL_s, wL_n, wI_2, wI_3, wL_1, wL_3, wR_1, wR_2, Int.toNat_natCast, tnO, tn_add, tn_sub, tn_mul, Nat.add_sub_cancel, Nat.add_zero, Nat.zero_add, lnO, win_t, win_f, a9, r14, oi, ob, ov]
        exact ih
      · simp (disch := omega) only [Option.bind_some, bindv, bindv0, bind2_s, bind3_s, ↓reduceIte, Bool.false_eq_true, rZM_0, rZM_1, rZP_0, rZP_1, ptZ_0, ptZ_1, c32i, c64i, ncI, Int.natCast_add, Int.natCast_mul, q32_neg, q64_neg, q32_add, q32_sub, q32_mul, q64_add, q64_sub, q64_mul, q32_64i, q64_32, q32_lt_t, q32_lt_f, q32_le_t, q32_le_f, q32_eq_t, q32_eq_f, q64_lt_t, q64_lt_f, q64_le_t, q64_le_f, q64_eq_t, q64_eq_f, rdI_i, rdL_i, rdR_i, rdN_i, stI_i, stL_i, stR_i, wI_s, wI_n, wL_s, wL_n, wI_2, wI_3, wL_1, wL_3, wR_1, wR_2, Int.toNat_natCast, tnO, tn_add, tn_sub, tn_mul, Nat.add_sub_cancel, Nat.add_zero, Nat.zero_add, lnO, win_t, win_f, a9, r14, oi, ob, ov]
        exact ih
theorem level9 {F : Nat} (hF : 1000 ≤ F) {s : List Sh} {m : Mem} {n fc tp : Nat} {U L : Nat → Int} {X : Nat → Nat → Nat} {O : Nat → Nat} (hd : FD fc tp U L X O) (h9 : F9 s m n fc U L X O) {D : Nat → Int} (hD : ∀ k, k < fc → (D k).natAbs ≤ 99) {v1 v2 : Int32} {N : Int} (hN : 0 ≤ N ∧ N ≤ 99) (hov : ∀ mm : Mem, mm.1 = m.1 → mm.2.2 = m.2.2 → ∀ k, k < fc → n_X0_overAt s mm n (q32 k) v1 v2 (q32 N) = some (q32 (D k))) {r : Nat} (hr : 16 ≤ r ∧ r ≤ 22) : ∃ m', n_X0_leastLevel F s m n v1 v2 (q32 N) r = some (if (LVL fc U L O D N).isSome then q32 1 else q32 0, m') ∧ m'.1 = m.1 ∧ m'.2.2 = m.2.2 ∧ (∀ a k, a ≠ r → m'.2.1 a k = m.2.1 a k) ∧ ∀ f, LVL fc U L O D N = some f → m'.2.1 r 0 = q64 f.1 ∧ m'.2.1 r 1 = q64 f.2 := by
  have h8 := hd.1
  have hO := hd.2.2.2.2.1
  have h9' := h9
  obtain ⟨a9, ⟨r10, r11, r12, r14⟩, ⟨l3, l4, l5, l7⟩, hv, ho⟩ := h9
  have pu := put9 (F := F) (s := s) (m := m) (r := r) (by omega) (p := 0) (q := 1) (by omega) (by omega) (by omega)
  rw [nrm_one] at pu
  have b9 : (PT m r (0, 1)).1 n 9 = q32 fc := a9
  unfold n_X0_leastLevel nb_X0_leastLevel_0 LVL
  by_cases d0 : fc = 0
  · rw [if_pos d0]
    subst d0
    by_cases dn : N = 0
    · rw [if_pos dn]
      subst dn
      refine ⟨PT m r (0, 1), ?_, rfl, rfl, fun a k h => PT_n (Or.inl h), fun f hf => ?_⟩
      · simp (disch := omega) only [Option.bind_some, bindv, bindv0, bind2_s, bind3_s, ↓reduceIte, Bool.false_eq_true, rZM_0, rZM_1, rZP_0, rZP_1, ptZ_0, ptZ_1, c32i, c64i, ncI, Int.natCast_add, Int.natCast_mul, q32_neg, q64_neg, q32_add, q32_sub, q32_mul, q64_add, q64_sub, q64_mul, q32_64i, q64_32, q32_lt_t, q32_lt_f, q32_le_t, q32_le_f, q32_eq_t, q32_eq_f, q64_lt_t, q64_lt_f, q64_le_t, q64_le_f, q64_eq_t, q64_eq_f, rdI_i, rdL_i, rdR_i, rdN_i, stI_i, stL_i, stR_i, wI_s, wI_n, wL_s, wL_n, wI_2, wI_3, wL_1, wL_3, wR_1, wR_2, Int.toNat_natCast, tnO, tn_add, tn_sub, tn_mul, Nat.add_sub_cancel, Nat.add_zero, Nat.zero_add, lnO, win_t, win_f, pu, b9]; rfl
      · cases hf; exact ⟨PT_0 _ _ _, PT_l _ _ _⟩
    · rw [if_neg dn]
      refine ⟨PT m r (0, 1), ?_, rfl, rfl, fun a k h => PT_n (Or.inl h), fun f hf => by cases hf⟩
      simp (disch := omega) only [Option.bind_some, bindv, bindv0, bind2_s, bind3_s, ↓reduceIte, Bool.false_eq_true, rZM_0, rZM_1, rZP_0, rZP_1, ptZ_0, ptZ_1, c32i, c64i, ncI, Int.natCast_add, Int.natCast_mul, q32_neg, q64_neg, q32_add, q32_sub, q32_mul, q64_add, q64_sub, q64_mul, q32_64i, q64_32, q32_lt_t, q32_lt_f, q32_le_t, q32_le_f, q32_eq_t, q32_eq_f, q64_lt_t, q64_lt_f, q64_le_t, q64_le_f, q64_eq_t, q64_eq_f, rdI_i, rdL_i, rdR_i, rdN_i, stI_i, stL_i, stR_i, wI_s, wI_n, wL_s, wL_n, wI_2, wI_3, wL_1, wL_3, wR_1, wR_2, Int.toNat_natCast, tnO, tn_add, tn_sub, tn_mul, Nat.add_sub_cancel, Nat.add_zero, Nat.zero_add, lnO, win_t, win_f, pu, b9]; rfl
  · rw [if_neg d0]
    have ov := hov (PT m r (0, 1)) rfl rfl (O 0) (hO 0 (by omega))
    have o0 : (PT m r (0, 1)).1 (n + 7) 0 = q32 (O 0) := ho 0 (by omega)
    have d1 := hD _ (hO 0 (by omega))
    by_cases dz : D (O 0) = 0
    · rw [if_pos dz]
      rw [dz] at ov
      refine ⟨PT m r (0, 1), ?_, rfl, rfl, fun a k h => PT_n (Or.inl h), fun f hf => ?_⟩
      · simp (disch := omega) only [Option.bind_some, bindv, bindv0, bind2_s, bind3_s, ↓reduceIte, Bool.false_eq_true, rZM_0, rZM_1, rZP_0, rZP_1, ptZ_0, ptZ_1, c32i, c64i, ncI, Int.natCast_add, Int.natCast_mul, q32_neg, q64_neg, q32_add, q32_sub, q32_mul, q64_add, q64_sub, q64_mul, q32_64i, q64_32, q32_lt_t, q32_lt_f, q32_le_t, q32_le_f, q32_eq_t, q32_eq_f, q64_lt_t, q64_lt_f, q64_le_t, q64_le_f, q64_eq_t, q64_eq_f, rdI_i, rdL_i, rdR_i, rdN_i, stI_i, stL_i, stR_i, wI_s, wI_n, wL_s, wL_n, wI_2, wI_3, wL_1, wL_3, wR_1, wR_2, Int.toNat_natCast, tnO, tn_add, tn_sub, tn_mul, Nat.add_sub_cancel, Nat.add_zero, Nat.zero_add, lnO, win_t, win_f, pu, b9, PT_3, r14, o0, ov]; rfl
      · cases hf; exact ⟨PT_0 _ _ _, PT_l _ _ _⟩
    · rw [if_neg dz]
      have lp := levelL9 (m := PT m r (0, 1)) hF hd h9' hD (v1 := v1) (v2 := v2) (v3 := q32 N) (hov _ rfl rfl) (r := r) (fc - 1) F (by omega) 1 (by omega) (by simpa using dz) (by omega)
      have pre : n_X0_leastLevel F s m n v1 v2 (q32 N) r = nl_X0_leastLevel_49 F s F (PT m r (0, 1)) n v1 v2 (q32 N) r (q32 (D (O (1 - 1)))) (q32 1) := by
        unfold n_X0_leastLevel nb_X0_leastLevel_0
        simp (disch := omega) only [Option.bind_some, bindv, bindv0, bind2_s, bind3_s, ↓reduceIte, Bool.false_eq_true, rZM_0, rZM_1, rZP_0, rZP_1, ptZ_0, ptZ_1, c32i, c64i, ncI, Int.natCast_add, Int.natCast_mul, q32_neg, q64_neg, q32_add, q32_sub, q32_mul, q64_add, q64_sub, q64_mul, q32_64i, q64_32, q32_lt_t, q32_lt_f, q32_le_t, q32_le_f, q32_eq_t, q32_eq_f, q64_lt_t, q64_lt_f, q64_le_t, q64_le_f, q64_eq_t, q64_eq_f, rdI_i, rdL_i, rdR_i, rdN_i, stI_i, stL_i, stR_i, wI_s, wI_n, wL_s, wL_n, wI_2, wI_3, wL_1, wL_3, wR_1, wR_2, Int.toNat_natCast, tnO, tn_add, tn_sub, tn_mul, Nat.add_sub_cancel, Nat.add_zero, Nat.zero_add, lnO, win_t, win_f, pu, b9, PT_3, r14, o0, ov]
      unfold n_X0_leastLevel nb_X0_leastLevel_0 at pre
      rw [pre, show (q32 1) = q32 ((1 : Nat) : Int) from rfl, lp]
      cases hc : LVF U L O D (fc - 1) 1 with
      | none =>
        exact ⟨PT m r (0, 1), rfl, rfl, rfl, fun a k h => PT_n (Or.inl h), fun f hf => by cases hf⟩
      | some g =>
        refine ⟨PT (PT m r (0, 1)) r g, rfl, rfl, rfl, fun a k h => by rw [PT_n (Or.inl h), PT_n (Or.inl h)], fun f hf => ?_⟩
        cases hf
        exact ⟨PT_0 _ _ _, PT_l _ _ _⟩
theorem levelL10 {F : Nat} {s : List Sh} (hp : ∃ t, s = sB ++ t) {m : Mem} {fc tp : Nat} {U L : Nat → Int} {X : Nat → Nat → Nat} {O : Nat → Nat} (hd : FD fc tp U L X O) (h10 : F10 m fc U L X) (ho : ∀ i, i < fc → m.1 30 i = q32 (O i)) {D a b : Nat → Int} {N : Int} (hN : 0 ≤ N ∧ N ≤ 99) (hD : ∀ k, k < fc → (D k).natAbs ≤ 99 ∧ D k = a k - b k - N ∧ 0 ≤ a k ∧ a k ≤ 99 ∧ 0 ≤ b k ∧ b k ≤ 99) {v1 v2 : Int32} (ha : ∀ k, k < fc → n_X10_stuffOf s m 23 v1 (q32 k) = some (q32 (a k))) (hb : ∀ k, k < fc → n_X10_stuffOf s m 23 v2 (q32 k) = some (q32 (b k))) : ∀ (q fuel : Nat), q < fuel → ∀ i, 1 ≤ i → D (O (i - 1)) ≠ 0 → i + q = fc → nl_X10_laysWhere_7 F s fuel m 23 v1 v2 (q32 N) (q32 i) = match LVF U L O D q i with
    | none => some (q32 0, PS m (0, 1))
    | some f => some (q32 1, PS m f) := by
  have h8 := hd.1
  have hO := hd.2.2.2.2.1
  have l24 := ln24 hp
  have l30 := ln30 hp
  have r1 := rf23_1 h10.1
  have r23 := rf23_23 h10.1
  have b3 := h10.2.1
  intro q
  induction q with
  | zero =>
    intro fuel hf i i1 hb0 hi
    obtain ⟨fuel, rfl⟩ : ∃ f, fuel = f + 1 := ⟨fuel - 1, by omega⟩
    have la := lays10e (s := s) (m := m) (p := 0) (q := 1) (by omega) (by omega) (by omega)
    rw [nrm_one] at la
    have b3' : (PS m (0, 1)).1 24 3 = q32 fc := b3
    show nb_X10_laysWhere_7 F s (nl_X10_laysWhere_7 F s fuel) m 23 v1 v2 _ _ = _
    unfold nb_X10_laysWhere_7 LVF
    simp (disch := omega) only [Option.bind_some, bindv, bindv0, bind2_s, bind3_s, ↓reduceIte, Bool.false_eq_true, rZM_0, rZM_1, rZP_0, rZP_1, ptZ_0, ptZ_1, c32i, c64i, ncI, Int.natCast_add, Int.natCast_mul, q32_neg, q64_neg, q32_add, q32_sub, q32_mul, q64_add, q64_sub, q64_mul, q32_64i, q64_32, q32_lt_t, q32_lt_f, q32_le_t, q32_le_f, q32_eq_t, q32_eq_f, q64_lt_t, q64_lt_f, q64_le_t, q64_le_f, q64_eq_t, q64_eq_f, rdI_i, rdL_i, rdR_i, rdN_i, stI_i, stL_i, stR_i, wI_s, wI_n, wL_s, wL_n, wI_2, wI_3, wL_1, wL_3, wR_1, wR_2, Int.toNat_natCast, tnO, tn_add, tn_sub, tn_mul, Nat.add_sub_cancel, Nat.add_zero, Nat.zero_add, lnO, win_t, win_f, r1, b3, la, PS_3, b3']
  | succ q ih =>
    intro fuel hf i i1 hb0 hi
    obtain ⟨fuel, rfl⟩ : ∃ f, fuel = f + 1 := ⟨fuel - 1, by omega⟩
    have ki := hO i (by omega)
    have kb := hO (i - 1) (by omega)
    obtain ⟨di, ei, ai1, ai2, bi1, bi2⟩ := hD _ ki
    obtain ⟨db, eb, ab1, ab2, bb1, bb2⟩ := hD _ kb
    have ha1 := ha _ ki
    have hb1 := hb _ ki
    have ha2 := ha _ kb
    have hb2 := hb _ kb
    have oi := ho i (by omega)
    have ob := ho (i - 1) (by omega)
    have en : ((i : Int) - 1).toNat = i - 1 := by omega
    show nb_X10_laysWhere_7 F s (nl_X10_laysWhere_7 F s fuel) m 23 v1 v2 _ _ = _
    unfold nb_X10_laysWhere_7 LVF nb_X10_laysWhere_85 nb_X10_laysWhere_108 nb_X10_laysWhere_253
    by_cases c : D (O i) = 0 ∨ (0 < D (O i) ∧ D (O (i - 1)) < 0) ∨ (D (O i) < 0 ∧ 0 < D (O (i - 1)))
    · rw [if_pos c]
      obtain ⟨c1, c2, c3, c4, c5, c6⟩ := crs_b hd (D := D) (i := i - 1) (j := i) (by omega) (by omega) db di (by omega)
      obtain ⟨vb1, vb2, -⟩ := h10.2.2 _ kb
      obtain ⟨vk1, vk2, -⟩ := h10.2.2 _ ki
      obtain ⟨p1, p2, p3, p4, -⟩ := hd.b kb
      obtain ⟨q1, q2, q3, q4, -⟩ := hd.b ki
      have pr : (a (O (i - 1)) - b (O (i - 1)) - N) * (a (O i) - b (O i) - N) ≤ 0 := by
        rw [← eb, ← ei]
        rcases c with c | c | c
        · rw [c, Int.mul_zero]; exact Int.le_refl 0
        · exact Int.mul_nonpos_of_nonpos_of_nonneg (by omega) (by omega)
        · exact Int.mul_nonpos_of_nonneg_of_nonpos (by omega) (by omega)
      have prb := mulB (show (a (O (i - 1)) - b (O (i - 1)) - N).natAbs ≤ 99 by omega) (show (a (O i) - b (O i) - N).natAbs ≤ 99 by omega)
      have la := lays10e (s := s) (m := m) (p := -(U (O (i - 1)) * L (O i) * (D (O (i - 1)) - D (O i)) + WD U L (O (i - 1)) (O i) * D (O (i - 1)))) (q := -(L (O (i - 1)) * L (O i) * (D (O (i - 1)) - D (O i)))) (by omega) (by omega) (by omega)
      rw [nrm_neg c1] at la
      have q1' : U (O (i - 1)) * L (O i) * (a (O i) - b (O i) - (a (O (i - 1)) - b (O (i - 1)))) + (U (O i) * L (O (i - 1)) - U (O (i - 1)) * L (O i)) * (N - (a (O (i - 1)) - b (O (i - 1)))) = -(U (O (i - 1)) * L (O i) * (D (O (i - 1)) - D (O i)) + WD U L (O (i - 1)) (O i) * D (O (i - 1))) := by
        rw [eb, ei]; unfold WD; grind
      have q2' : L (O (i - 1)) * L (O i) * (a (O i) - b (O i) - (a (O (i - 1)) - b (O (i - 1)))) = -(L (O (i - 1)) * L (O i) * (D (O (i - 1)) - D (O i))) := by
        rw [eb, ei]; grind
      have hne : a (O (i - 1)) - b (O (i - 1)) ≠ a (O i) - b (O i) := by omega
      unfold CRS
      simp (disch := omega) only [Option.bind_some, bindv, bindv0, bind2_s, bind3_s, ↓reduceIte, Bool.false_eq_true, rZM_0, rZM_1, rZP_0, rZP_1, ptZ_0, ptZ_1, c32i, c64i, ncI, Int.natCast_add, Int.natCast_mul, q32_neg, q64_neg, q32_add, q32_sub, q32_mul, q64_add, q64_sub, q64_mul, q32_64i, q64_32, q32_lt_t, q32_lt_f, q32_le_t, q32_le_f, q32_eq_t, q32_eq_f, q64_lt_t, q64_lt_f, q64_le_t, q64_le_f, q64_eq_t, q64_eq_f, rdI_i, rdL_i, rdR_i, rdN_i, stI_i, stL_i, stR_i, wI_s, wI_n, wL_s, wL_n, wI_2, wI_3, wL_1, wL_3, wR_1, wR_2, Int.toNat_natCast, tnO, tn_add, tn_sub, tn_mul, Nat.add_sub_cancel, Nat.add_zero, Nat.zero_add, lnO, win_t, win_f, r1, b3, r23, oi, ob, en, ha1, hb1, ha2, hb2, vb1, vb2, vk1, vk2, q1', q2', la]
    · rw [if_neg c]
      have ih := ih fuel (by omega) (i + 1) (by omega) (by rw [show i + 1 - 1 = i by omega]; omega) (by omega)
      rw [Int.natCast_add] at ih
      by_cases hne : a (O (i - 1)) - b (O (i - 1)) = a (O i) - b (O i)
      · simp (disch := omega) only [Option.bind_some, bindv, bindv0, bind2_s, bind3_s, ↓reduceIte, Bool.false_eq_true, rZM_0, rZM_1, rZP_0, rZP_1, ptZ_0, ptZ_1, c32i, c64i, ncI, Int.natCast_add, Int.natCast_mul, q32_neg, q64_neg, q32_add, q32_sub, q32_mul, q64_add, q64_sub, q64_mul, q32_64i, q64_32, q32_lt_t, q32_lt_f, q32_le_t, q32_le_f, q32_eq_t, q32_eq_f, q64_lt_t, q64_lt_f, q64_le_t, q64_le_f, q64_eq_t, q64_eq_f, rdI_i, rdL_i, rdR_i, rdN_i, stI_i, stL_i, stR_i, wI_s, wI_n, wL_s, wL_n, wI_2, wI_3, wL_1, wL_3, wR_1, wR_2, Int.toNat_natCast, tnO, tn_add, tn_sub, tn_mul, Nat.add_sub_cancel, Nat.add_zero, Nat.zero_add, lnO, win_t, win_f, r1, b3, r23, oi, ob, en, ha1, hb1, ha2, hb2]
        exact ih
      · have pr : 0 < (a (O (i - 1)) - b (O (i - 1)) - N) * (a (O i) - b (O i) - N) := by
          rw [← eb, ← ei]
          by_cases c2 : 0 < D (O i)
          · exact Int.mul_pos (by omega) c2
          · exact Int.mul_pos_of_neg_of_neg (by omega) (by omega)
        have prb := mulB (show (a (O (i - 1)) - b (O (i - 1)) - N).natAbs ≤ 99 by omega) (show (a (O i) - b (O i) - N).natAbs ≤ 99 by omega)
        simp (disch := omega) only [Option.bind_some, bindv, bindv0, bind2_s, bind3_s, ↓reduceIte, Bool.false_eq_true, rZM_0, rZM_1, rZP_0, rZP_1, ptZ_0, ptZ_1, c32i, c64i, ncI, Int.natCast_add, Int.natCast_mul, q32_neg, q64_neg, q32_add, q32_sub, q32_mul, q64_add, q64_sub, q64_mul, q32_64i, q64_32, q32_lt_t, q32_lt_f, q32_le_t, q32_le_f, q32_eq_t, q32_eq_f, q64_lt_t, q64_lt_f, q64_le_t, q64_le_f, q64_eq_t, q64_eq_f, rdI_i, rdL_i, rdR_i, rdN_i, stI_i, stL_i, stR_i, wI_s, wI_n, wL_s, wL_n, wI_2, wI_3, wL_1, wL_3, wR_1, wR_2, Int.toNat_natCast, tnO, tn_add, tn_sub, tn_mul, Nat.add_sub_cancel, Nat.add_zero, Nat.zero_add, lnO, win_t, win_f, r1, b3, r23, oi, ob, en, ha1, hb1, ha2, hb2]
        exact ih
theorem level10 {F : Nat} (hF : 1000 ≤ F) {s : List Sh} (hp : ∃ t, s = sB ++ t) {m : Mem} {fc tp : Nat} {U L : Nat → Int} {X : Nat → Nat → Nat} {O : Nat → Nat} (hd : FD fc tp U L X O) (h10 : F10 m fc U L X) {D a b : Nat → Int} {N : Int} (hN : 0 ≤ N ∧ N ≤ 99) (hD : ∀ k, k < fc → (D k).natAbs ≤ 99 ∧ D k = a k - b k - N ∧ 0 ≤ a k ∧ a k ≤ 99 ∧ 0 ≤ b k ∧ b k ≤ 99) {v1 v2 : Int32} (ha : ∀ mm, F10 mm fc U L X → ∀ k, k < fc → n_X10_stuffOf s mm 23 v1 (q32 k) = some (q32 (a k))) (hb : ∀ mm, F10 mm fc U L X → ∀ k, k < fc → n_X10_stuffOf s mm 23 v2 (q32 k) = some (q32 (b k))) : ∃ m', n_X10_laysWhere F s m 23 v1 v2 (q32 N) = some (if (LVL fc U L O D N).isSome then q32 1 else q32 0, m') ∧ KS m m' ∧ ∀ f, LVL fc U L O D N = some f → m'.2.1 23 15 = q64 f.1 ∧ m'.2.1 23 16 = q64 f.2 := by
  obtain ⟨m1, o1, o2, o3, o4⟩ := order10 (F := F) (by omega) hp hd h10
  have h8 := hd.1
  have hO := hd.2.2.2.2.1
  have h10' : F10 m1 fc U L X := h10.k (fun j _ => o3 _ _ (by omega)) (by rw [o2]) h8
  have k1 : KS m m1 := ⟨by rw [o2], o3, fun a k _ => by rw [o2]⟩
  have kps : ∀ f, KS m (PS m1 f) := fun f => k1.tr ⟨rfl, fun _ _ _ => rfl, fun a k h => PS_n h⟩
  have l24 := ln24 hp
  have l30 := ln30 hp
  have r1 := rf23_1 h10'.1
  have r23 := rf23_23 h10'.1
  have b3 := h10'.2.1
  have la := lays10e (s := s) (m := m1) (p := 0) (q := 1) (by omega) (by omega) (by omega)
  rw [nrm_one] at la
  have b3' : (PS m1 (0, 1)).1 24 3 = q32 fc := b3
  obtain ⟨F', rfl⟩ : ∃ f, F = f + 1 := ⟨F - 1, by omega⟩
  have pre : n_X10_laysWhere (F' + 1) s m 23 v1 v2 (q32 N) = nb_X10_laysWhere_7 (F' + 1) s (nl_X10_laysWhere_7 (F' + 1) s F') m1 23 v1 v2 (q32 N) (q32 0) := by
    unfold n_X10_laysWhere nb_X10_laysWhere_0
    simp (disch := omega) only [Option.bind_some, bindv, bindv0, bind2_s, bind3_s, ↓reduceIte, Bool.false_eq_true, rZM_0, rZM_1, rZP_0, rZP_1, ptZ_0, ptZ_1, c32i, c64i, ncI, Int.natCast_add, Int.natCast_mul, q32_neg, q64_neg, q32_add, q32_sub, q32_mul, q64_add, q64_sub, q64_mul, q32_64i, q64_32, q32_lt_t, q32_lt_f, q32_le_t, q32_le_f, q32_eq_t, q32_eq_f, q64_lt_t, q64_lt_f, q64_le_t, q64_le_f, q64_eq_t, q64_eq_f, rdI_i, rdL_i, rdR_i, rdN_i, stI_i, stL_i, stR_i, wI_s, wI_n, wL_s, wL_n, wI_2, wI_3, wL_1, wL_3, wR_1, wR_2, Int.toNat_natCast, tnO, tn_add, tn_sub, tn_mul, Nat.add_sub_cancel, Nat.add_zero, Nat.zero_add, lnO, win_t, win_f, o1]
    rfl
  rw [pre]
  unfold nb_X10_laysWhere_7 LVL
  by_cases d0 : fc = 0
  · rw [if_pos d0]
    subst d0
    by_cases dn : N = 0
    · rw [if_pos dn]
      subst dn
      refine ⟨PS m1 (0, 1), ?_, kps _, fun f hf => ?_⟩
      · simp (disch := omega) only [Option.bind_some, bindv, bindv0, bind2_s, bind3_s, ↓reduceIte, Bool.false_eq_true, rZM_0, rZM_1, rZP_0, rZP_1, ptZ_0, ptZ_1, c32i, c64i, ncI, Int.natCast_add, Int.natCast_mul, q32_neg, q64_neg, q32_add, q32_sub, q32_mul, q64_add, q64_sub, q64_mul, q32_64i, q64_32, q32_lt_t, q32_lt_f, q32_le_t, q32_le_f, q32_eq_t, q32_eq_f, q64_lt_t, q64_lt_f, q64_le_t, q64_le_f, q64_eq_t, q64_eq_f, rdI_i, rdL_i, rdR_i, rdN_i, stI_i, stL_i, stR_i, wI_s, wI_n, wL_s, wL_n, wI_2, wI_3, wL_1, wL_3, wR_1, wR_2, Int.toNat_natCast, tnO, tn_add, tn_sub, tn_mul, Nat.add_sub_cancel, Nat.add_zero, Nat.zero_add, lnO, win_t, win_f, r1, b3, la, PS_3, b3']; rfl
      · cases hf; exact ⟨PS_0 _ _, PS_l _ _⟩
    · rw [if_neg dn]
      refine ⟨PS m1 (0, 1), ?_, kps _, fun f hf => by cases hf⟩
      simp (disch := omega) only [Option.bind_some, bindv, bindv0, bind2_s, bind3_s, ↓reduceIte, Bool.false_eq_true, rZM_0, rZM_1, rZP_0, rZP_1, ptZ_0, ptZ_1, c32i, c64i, ncI, Int.natCast_add, Int.natCast_mul, q32_neg, q64_neg, q32_add, q32_sub, q32_mul, q64_add, q64_sub, q64_mul, q32_64i, q64_32, q32_lt_t, q32_lt_f, q32_le_t, q32_le_f, q32_eq_t, q32_eq_f, q64_lt_t, q64_lt_f, q64_le_t, q64_le_f, q64_eq_t, q64_eq_f, rdI_i, rdL_i, rdR_i, rdN_i, stI_i, stL_i, stR_i, wI_s, wI_n, wL_s, wL_n, wI_2, wI_3, wL_1, wL_3, wR_1, wR_2, Int.toNat_natCast, tnO, tn_add, tn_sub, tn_mul, Nat.add_sub_cancel, Nat.add_zero, Nat.zero_add, lnO, win_t, win_f, r1, b3, la, PS_3, b3']; rfl
  · rw [if_neg d0]
    have ha1 := ha m1 h10' _ (hO 0 (by omega))
    have hb1 := hb m1 h10' _ (hO 0 (by omega))
    obtain ⟨di, ei, ai1, ai2, bi1, bi2⟩ := hD _ (hO 0 (by omega))
    have o0 := o4 0 (by omega)
    unfold nb_X10_laysWhere_85 nb_X10_laysWhere_108 nb_X10_laysWhere_253
    by_cases dz : D (O 0) = 0
    · rw [if_pos dz]
      refine ⟨PS m1 (0, 1), ?_, kps _, fun f hf => ?_⟩
      · simp (disch := omega) only [Option.bind_some, bindv, bindv0, bind2_s, bind3_s, ↓reduceIte, Bool.false_eq_true, rZM_0, rZM_1, rZP_0, rZP_1, ptZ_0, ptZ_1, c32i, c64i, ncI, Int.natCast_add, Int.natCast_mul, q32_neg, q64_neg, q32_add, q32_sub, q32_mul, q64_add, q64_sub, q64_mul, q32_64i, q64_32, q32_lt_t, q32_lt_f, q32_le_t, q32_le_f, q32_eq_t, q32_eq_f, q64_lt_t, q64_lt_f, q64_le_t, q64_le_f, q64_eq_t, q64_eq_f, rdI_i, rdL_i, rdR_i, rdN_i, stI_i, stL_i, stR_i, wI_s, wI_n, wL_s, wL_n, wI_2, wI_3, wL_1, wL_3, wR_1, wR_2, Int.toNat_natCast, tnO, tn_add, tn_sub, tn_mul, Nat.add_sub_cancel, Nat.add_zero, Nat.zero_add, lnO, win_t, win_f, r1, b3, r23, o0, ha1, hb1, la]; rfl
      · cases hf; exact ⟨PS_0 _ _, PS_l _ _⟩
    · rw [if_neg dz]
      have lp := levelL10 (F := F' + 1) hp hd h10' o4 hN hD (ha m1 h10') (hb m1 h10') (fc - 1) F' (by omega) 1 (by omega) (by simpa using dz) (by omega)
      cases hc : LVF U L O D (fc - 1) 1 with
      | none =>
        rw [hc] at lp
        refine ⟨PS m1 (0, 1), ?_, kps _, fun f hf => by cases hf⟩
        simp (disch := omega) only [Option.bind_some, bindv, bindv0, bind2_s, bind3_s, ↓reduceIte, Bool.false_eq_true, rZM_0, rZM_1, rZP_0, rZP_1, ptZ_0, ptZ_1, c32i, c64i, ncI, Int.natCast_add, Int.natCast_mul, q32_neg, q64_neg, q32_add, q32_sub, q32_mul, q64_add, q64_sub, q64_mul, q32_64i, q64_32, q32_lt_t, q32_lt_f, q32_le_t, q32_le_f, q32_eq_t, q32_eq_f, q64_lt_t, q64_lt_f, q64_le_t, q64_le_f, q64_eq_t, q64_eq_f, rdI_i, rdL_i, rdR_i, rdN_i, stI_i, stL_i, stR_i, wI_s, wI_n, wL_s, wL_n, wI_2, wI_3, wL_1, wL_3, wR_1, wR_2, Int.toNat_natCast, tnO, tn_add, tn_sub, tn_mul, Nat.add_sub_cancel, Nat.add_zero, Nat.zero_add, lnO, win_t, win_f, r1, b3, r23, o0, ha1, hb1]
        exact lp
      | some g =>
        rw [hc] at lp
        refine ⟨PS m1 g, ?_, kps _, fun f hf => ?_⟩
        · simp (disch := omega) only [Option.bind_some, bindv, bindv0, bind2_s, bind3_s, ↓reduceIte, Bool.false_eq_true, rZM_0, rZM_1, rZP_0, rZP_1, ptZ_0, ptZ_1, c32i, c64i, ncI, Int.natCast_add, Int.natCast_mul, q32_neg, q64_neg, q32_add, q32_sub, q32_mul, q64_add, q64_sub, q64_mul, q32_64i, q64_32, q32_lt_t, q32_lt_f, q32_le_t, q32_le_f, q32_eq_t, q32_eq_f, q64_lt_t, q64_lt_f, q64_le_t, q64_le_f, q64_eq_t, q64_eq_f, rdI_i, rdL_i, rdR_i, rdN_i, stI_i, stL_i, stR_i, wI_s, wI_n, wL_s, wL_n, wI_2, wI_3, wL_1, wL_3, wR_1, wR_2, Int.toNat_natCast, tnO, tn_add, tn_sub, tn_mul, Nat.add_sub_cancel, Nat.add_zero, Nat.zero_add, lnO, win_t, win_f, r1, b3, r23, o0, ha1, hb1]
          exact lp
        · cases hf; exact ⟨PS_0 _ _, PS_l _ _⟩
theorem opk_where {F : Nat} (hF : 1000 ≤ F) {s : List Sh} {m : Mem} (h : INV s m) (w1 w2 w3 : Int32) : OPK s m (n_X9_where F s m 0 w1 w2 w3) (fun m1 => n_X10_where F s m1 23 w1 w2 w3) := by
  have h0 := h
  obtain ⟨hg, ow, nw, hst⟩ := h
  have hl := hst.1
  have hp := hl.hp
  have hr := hl.rf
  have hn := hl.hn
  have rn := hl.nw
  have r1 := rf23_1 hr
  have l24 := ln24 hp
  obtain ⟨z, hz, rfl⟩ := q32_of w1
  obtain ⟨N, hN, rfl⟩ := q32_of w2
  obtain ⟨v, hv, rfl⟩ := q32_of w3
  have r13 := rf0_13 hr
  have i9 := isSt9 hz
  have i10 := isSt10 hz
  have fin : ∀ r m1 m2, n_X9_where F s m 0 (q32 z) (q32 N) (q32 v) = some (r, m1) → n_X10_where F s m1 23 (q32 z) (q32 N) (q32 v) = some (r, m2) → SC m m2 → OPK s m (n_X9_where F s m 0 (q32 z) (q32 N) (q32 v)) (fun m1 => n_X10_where F s m1 23 (q32 z) (q32 N) (q32 v)) := fun r m1 m2 e1 e2 sc =>
    opk_fin h0 e1 e2 (un_X10_where (un_X9_where hg (okB hp).1 e1).2 (okB hp).2 e2).2 sc
  by_cases cz : 0 ≤ z ∧ z < 3
  · rw [if_pos cz] at i9 i10
    by_cases c : 0 ≤ v ∧ v ≤ 1
    · by_cases cn : 0 ≤ N ∧ N ≤ 99
      · obtain ⟨n, rfl⟩ := Int.eq_ofNat_of_zero_le cz.1
        obtain ⟨fc, tp, U, L, X, O, hd, h9, h10, -, -⟩ := hst.fd
        have xb : ∀ k, k < fc → X k n ≤ 99 := fun k hk => (hd.b hk).2.2.2.2 n (by omega)
        obtain ⟨m1, p1, p2, p3, p4, p5⟩ := level9 hF hd h9 (D := fun k => (X k n : Int) - N) (fun k hk => by have := xb k hk; omega) (v1 := q32 n) (v2 := q32 (-1)) (N := N) cn (fun mm e1 e2 k hk => by
          have so := so9 (s := s) (m := mm) hd (h9.k (fun a k _ => by rw [e1]) e2) hk (z := n) (by omega)
          unfold n_X0_overAt nb_X0_overAt_0
          simp (disch := omega) only [Option.bind_some, bindv, bindv0, bind2_s, bind3_s, ↓reduceIte, Bool.false_eq_true, rZM_0, rZM_1, rZP_0, rZP_1, ptZ_0, ptZ_1, c32i, c64i, ncI, Int.natCast_add, Int.natCast_mul, q32_neg, q64_neg, q32_add, q32_sub, q32_mul, q64_add, q64_sub, q64_mul, q32_64i, q64_32, q32_lt_t, q32_lt_f, q32_le_t, q32_le_f, q32_eq_t, q32_eq_f, q64_lt_t, q64_lt_f, q64_le_t, q64_le_f, q64_eq_t, q64_eq_f, rdI_i, rdL_i, rdR_i, rdN_i, stI_i, stL_i, stR_i, wI_s, wI_n, wL_s, wL_n, wI_2, wI_3, wL_1, wL_3, wR_1, wR_2, Int.toNat_natCast, tnO, tn_add, tn_sub, tn_mul, Nat.add_sub_cancel, Nat.add_zero, Nat.zero_add, lnO, win_t, win_f, so]) (r := 20) (by omega)
        obtain ⟨m2, q1, q2, q3⟩ := level10 (m := wI m1 23 0 (q32 0)) hF hp hd (h10.k (fun j _ => by simp (disch := omega) only [Option.bind_some, bindv, bindv0, bind2_s, bind3_s, ↓reduceIte, Bool.false_eq_true, rZM_0, rZM_1, rZP_0, rZP_1, ptZ_0, ptZ_1, c32i, c64i, ncI, Int.natCast_add, Int.natCast_mul, q32_neg, q64_neg, q32_add, q32_sub, q32_mul, q64_add, q64_sub, q64_mul, q32_64i, q64_32, q32_lt_t, q32_lt_f, q32_le_t, q32_le_f, q32_eq_t, q32_eq_f, q64_lt_t, q64_lt_f, q64_le_t, q64_le_f, q64_eq_t, q64_eq_f, rdI_i, rdL_i, rdR_i, rdN_i, stI_i, stL_i, stR_i, wI_s, wI_n, wL_s, wL_n, wI_2, wI_3, wL_1, wL_3, wR_1, wR_2, Int.toNat_natCast, tnO, tn_add, tn_sub, tn_mul, Nat.add_sub_cancel, Nat.add_zero, Nat.zero_add, lnO, win_t, win_f]; rw [p2]) p3 hd.1) (D := fun k => (X k n : Int) - N) (a := fun k => (X k n : Int)) (b := fun _ => 0) (N := N) cn (fun k hk => by have := xb k hk; omega) (v1 := q32 n) (v2 := q32 3) (fun mm hm k hk => so10 hp hd hm hk (by omega)) (fun mm hm k hk => so10z)
        have sc : SC m m2 := (SC.of (fun a k => by rw [p2]; simp) (fun a k => by
          by_cases c : a = 20
          · omega
          · rw [p4 a k c]; simp) p3).tr ((SC.k0 m1).tr q2.sc)
        cases hc : LVL fc U L O (fun k => (X k n : Int) - N) N with
        | none =>
          rw [hc] at p1 q1
          simp only [Option.isSome_none, Bool.false_eq_true, ↓reduceIte] at p1 q1
          refine fin (q64 (-1)) m1 m2 ?_ ?_ sc
          · unfold n_X9_where nb_X9_where_0
            simp (disch := omega) only [Option.bind_some, bindv, bindv0, bind2_s, bind3_s, ↓reduceIte, Bool.false_eq_true, rZM_0, rZM_1, rZP_0, rZP_1, ptZ_0, ptZ_1, c32i, c64i, ncI, Int.natCast_add, Int.natCast_mul, q32_neg, q64_neg, q32_add, q32_sub, q32_mul, q64_add, q64_sub, q64_mul, q32_64i, q64_32, q32_lt_t, q32_lt_f, q32_le_t, q32_le_f, q32_eq_t, q32_eq_f, q64_lt_t, q64_lt_f, q64_le_t, q64_le_f, q64_eq_t, q64_eq_f, rdI_i, rdL_i, rdR_i, rdN_i, stI_i, stL_i, stR_i, wI_s, wI_n, wL_s, wL_n, wI_2, wI_3, wL_1, wL_3, wR_1, wR_2, Int.toNat_natCast, tnO, tn_add, tn_sub, tn_mul, Nat.add_sub_cancel, Nat.add_zero, Nat.zero_add, lnO, win_t, win_f, i9, rn, r13, p1]
          · unfold n_X10_where nb_X10_where_0
            simp (disch := omega) only [Option.bind_some, bindv, bindv0, bind2_s, bind3_s, ↓reduceIte, Bool.false_eq_true, rZM_0, rZM_1, rZP_0, rZP_1, ptZ_0, ptZ_1, c32i, c64i, ncI, Int.natCast_add, Int.natCast_mul, q32_neg, q64_neg, q32_add, q32_sub, q32_mul, q64_add, q64_sub, q64_mul, q32_64i, q64_32, q32_lt_t, q32_lt_f, q32_le_t, q32_le_f, q32_eq_t, q32_eq_f, q64_lt_t, q64_lt_f, q64_le_t, q64_le_f, q64_eq_t, q64_eq_f, rdI_i, rdL_i, rdR_i, rdN_i, stI_i, stL_i, stR_i, wI_s, wI_n, wL_s, wL_n, wI_2, wI_3, wL_1, wL_3, wR_1, wR_2, Int.toNat_natCast, tnO, tn_add, tn_sub, tn_mul, Nat.add_sub_cancel, Nat.add_zero, Nat.zero_add, lnO, win_t, win_f, i10, q1]
        | some f =>
          rw [hc] at p1 q1
          simp only [Option.isSome_some, ↓reduceIte] at p1 q1
          obtain ⟨f1, f2⟩ := p5 f hc
          obtain ⟨f3, f4⟩ := q3 f hc
          have r13' : m1.2.2 0 13 = some 20 := by rw [p3]; exact r13
          refine fin (q64 (if v = 0 then f.1 else f.2)) m1 m2 ?_ ?_ sc
          · unfold n_X9_where nb_X9_where_0 n_X2_part nb_X2_part_0
            by_cases cv : v = 0
            · rw [if_pos cv]; simp (disch := omega) only [Option.bind_some, bindv, bindv0, bind2_s, bind3_s, ↓reduceIte, Bool.false_eq_true, rZM_0, rZM_1, rZP_0, rZP_1, ptZ_0, ptZ_1, c32i, c64i, ncI, Int.natCast_add, Int.natCast_mul, q32_neg, q64_neg, q32_add, q32_sub, q32_mul, q64_add, q64_sub, q64_mul, q32_64i, q64_32, q32_lt_t, q32_lt_f, q32_le_t, q32_le_f, q32_eq_t, q32_eq_f, q64_lt_t, q64_lt_f, q64_le_t, q64_le_f, q64_eq_t, q64_eq_f, rdI_i, rdL_i, rdR_i, rdN_i, stI_i, stL_i, stR_i, wI_s, wI_n, wL_s, wL_n, wI_2, wI_3, wL_1, wL_3, wR_1, wR_2, Int.toNat_natCast, tnO, tn_add, tn_sub, tn_mul, Nat.add_sub_cancel, Nat.add_zero, Nat.zero_add, lnO, win_t, win_f, i9, rn, r13, p1, r13', f1, f2]
            · rw [if_neg cv]; simp (disch := omega) only [Option.bind_some, bindv, bindv0, bind2_s, bind3_s, ↓reduceIte, Bool.false_eq_true, rZM_0, rZM_1, rZP_0, rZP_1, ptZ_0, ptZ_1, c32i, c64i, ncI, Int.natCast_add, Int.natCast_mul, q32_neg, q64_neg, q32_add, q32_sub, q32_mul, q64_add, q64_sub, q64_mul, q32_64i, q64_32, q32_lt_t, q32_lt_f, q32_le_t, q32_le_f, q32_eq_t, q32_eq_f, q64_lt_t, q64_lt_f, q64_le_t, q64_le_f, q64_eq_t, q64_eq_f, rdI_i, rdL_i, rdR_i, rdN_i, stI_i, stL_i, stR_i, wI_s, wI_n, wL_s, wL_n, wI_2, wI_3, wL_1, wL_3, wR_1, wR_2, Int.toNat_natCast, tnO, tn_add, tn_sub, tn_mul, Nat.add_sub_cancel, Nat.add_zero, Nat.zero_add, lnO, win_t, win_f, i9, rn, r13, p1, r13', f1, f2]
          · unfold n_X10_where nb_X10_where_0
            by_cases cv : v = 0
            · rw [if_pos cv]; simp (disch := omega) only [Option.bind_some, bindv, bindv0, bind2_s, bind3_s, ↓reduceIte, Bool.false_eq_true, rZM_0, rZM_1, rZP_0, rZP_1, ptZ_0, ptZ_1, c32i, c64i, ncI, Int.natCast_add, Int.natCast_mul, q32_neg, q64_neg, q32_add, q32_sub, q32_mul, q64_add, q64_sub, q64_mul, q32_64i, q64_32, q32_lt_t, q32_lt_f, q32_le_t, q32_le_f, q32_eq_t, q32_eq_f, q64_lt_t, q64_lt_f, q64_le_t, q64_le_f, q64_eq_t, q64_eq_f, rdI_i, rdL_i, rdR_i, rdN_i, stI_i, stL_i, stR_i, wI_s, wI_n, wL_s, wL_n, wI_2, wI_3, wL_1, wL_3, wR_1, wR_2, Int.toNat_natCast, tnO, tn_add, tn_sub, tn_mul, Nat.add_sub_cancel, Nat.add_zero, Nat.zero_add, lnO, win_t, win_f, i10, q1, f3, f4]
            · rw [if_neg cv]; simp (disch := omega) only [Option.bind_some, bindv, bindv0, bind2_s, bind3_s, ↓reduceIte, Bool.false_eq_true, rZM_0, rZM_1, rZP_0, rZP_1, ptZ_0, ptZ_1, c32i, c64i, ncI, Int.natCast_add, Int.natCast_mul, q32_neg, q64_neg, q32_add, q32_sub, q32_mul, q64_add, q64_sub, q64_mul, q32_64i, q64_32, q32_lt_t, q32_lt_f, q32_le_t, q32_le_f, q32_eq_t, q32_eq_f, q64_lt_t, q64_lt_f, q64_le_t, q64_le_f, q64_eq_t, q64_eq_f, rdI_i, rdL_i, rdR_i, rdN_i, stI_i, stL_i, stR_i, wI_s, wI_n, wL_s, wL_n, wI_2, wI_3, wL_1, wL_3, wR_1, wR_2, Int.toNat_natCast, tnO, tn_add, tn_sub, tn_mul, Nat.add_sub_cancel, Nat.add_zero, Nat.zero_add, lnO, win_t, win_f, i10, q1, f3, f4]
      · refine fin (q64 (-3)) m _ ?_ ?_ (SC.k0 m)
        · unfold n_X9_where nb_X9_where_0
          by_cases c2 : N < 0
          · simp (disch := omega) only [Option.bind_some, bindv, bindv0, bind2_s, bind3_s, ↓reduceIte, Bool.false_eq_true, rZM_0, rZM_1, rZP_0, rZP_1, ptZ_0, ptZ_1, c32i, c64i, ncI, Int.natCast_add, Int.natCast_mul, q32_neg, q64_neg, q32_add, q32_sub, q32_mul, q64_add, q64_sub, q64_mul, q32_64i, q64_32, q32_lt_t, q32_lt_f, q32_le_t, q32_le_f, q32_eq_t, q32_eq_f, q64_lt_t, q64_lt_f, q64_le_t, q64_le_f, q64_eq_t, q64_eq_f, rdI_i, rdL_i, rdR_i, rdN_i, stI_i, stL_i, stR_i, wI_s, wI_n, wL_s, wL_n, wI_2, wI_3, wL_1, wL_3, wR_1, wR_2, Int.toNat_natCast, tnO, tn_add, tn_sub, tn_mul, Nat.add_sub_cancel, Nat.add_zero, Nat.zero_add, lnO, win_t, win_f, i9]
          · simp (disch := omega) only [Option.bind_some, bindv, bindv0, bind2_s, bind3_s, ↓reduceIte, Bool.false_eq_true, rZM_0, rZM_1, rZP_0, rZP_1, ptZ_0, ptZ_1, c32i, c64i, ncI, Int.natCast_add, Int.natCast_mul, q32_neg, q64_neg, q32_add, q32_sub, q32_mul, q64_add, q64_sub, q64_mul, q32_64i, q64_32, q32_lt_t, q32_lt_f, q32_le_t, q32_le_f, q32_eq_t, q32_eq_f, q64_lt_t, q64_lt_f, q64_le_t, q64_le_f, q64_eq_t, q64_eq_f, rdI_i, rdL_i, rdR_i, rdN_i, stI_i, stL_i, stR_i, wI_s, wI_n, wL_s, wL_n, wI_2, wI_3, wL_1, wL_3, wR_1, wR_2, Int.toNat_natCast, tnO, tn_add, tn_sub, tn_mul, Nat.add_sub_cancel, Nat.add_zero, Nat.zero_add, lnO, win_t, win_f, i9]
        · unfold n_X10_where nb_X10_where_0
          simp (disch := omega) only [Option.bind_some, bindv, bindv0, bind2_s, bind3_s, ↓reduceIte, Bool.false_eq_true, rZM_0, rZM_1, rZP_0, rZP_1, ptZ_0, ptZ_1, c32i, c64i, ncI, Int.natCast_add, Int.natCast_mul, q32_neg, q64_neg, q32_add, q32_sub, q32_mul, q64_add, q64_sub, q64_mul, q32_64i, q64_32, q32_lt_t, q32_lt_f, q32_le_t, q32_le_f, q32_eq_t, q32_eq_f, q64_lt_t, q64_lt_f, q64_le_t, q64_le_f, q64_eq_t, q64_eq_f, rdI_i, rdL_i, rdR_i, rdN_i, stI_i, stL_i, stR_i, wI_s, wI_n, wL_s, wL_n, wI_2, wI_3, wL_1, wL_3, wR_1, wR_2, Int.toNat_natCast, tnO, tn_add, tn_sub, tn_mul, Nat.add_sub_cancel, Nat.add_zero, Nat.zero_add, lnO, win_t, win_f, i10]
    · refine fin (q64 (-2)) m _ ?_ ?_ (SC.k0 m)
      · unfold n_X9_where nb_X9_where_0
        by_cases c2 : v < 0
        · simp (disch := omega) only [Option.bind_some, bindv, bindv0, bind2_s, bind3_s, ↓reduceIte, Bool.false_eq_true, rZM_0, rZM_1, rZP_0, rZP_1, ptZ_0, ptZ_1, c32i, c64i, ncI, Int.natCast_add, Int.natCast_mul, q32_neg, q64_neg, q32_add, q32_sub, q32_mul, q64_add, q64_sub, q64_mul, q32_64i, q64_32, q32_lt_t, q32_lt_f, q32_le_t, q32_le_f, q32_eq_t, q32_eq_f, q64_lt_t, q64_lt_f, q64_le_t, q64_le_f, q64_eq_t, q64_eq_f, rdI_i, rdL_i, rdR_i, rdN_i, stI_i, stL_i, stR_i, wI_s, wI_n, wL_s, wL_n, wI_2, wI_3, wL_1, wL_3, wR_1, wR_2, Int.toNat_natCast, tnO, tn_add, tn_sub, tn_mul, Nat.add_sub_cancel, Nat.add_zero, Nat.zero_add, lnO, win_t, win_f, i9]
        · simp (disch := omega) only [Option.bind_some, bindv, bindv0, bind2_s, bind3_s, ↓reduceIte, Bool.false_eq_true, rZM_0, rZM_1, rZP_0, rZP_1, ptZ_0, ptZ_1, c32i, c64i, ncI, Int.natCast_add, Int.natCast_mul, q32_neg, q64_neg, q32_add, q32_sub, q32_mul, q64_add, q64_sub, q64_mul, q32_64i, q64_32, q32_lt_t, q32_lt_f, q32_le_t, q32_le_f, q32_eq_t, q32_eq_f, q64_lt_t, q64_lt_f, q64_le_t, q64_le_f, q64_eq_t, q64_eq_f, rdI_i, rdL_i, rdR_i, rdN_i, stI_i, stL_i, stR_i, wI_s, wI_n, wL_s, wL_n, wI_2, wI_3, wL_1, wL_3, wR_1, wR_2, Int.toNat_natCast, tnO, tn_add, tn_sub, tn_mul, Nat.add_sub_cancel, Nat.add_zero, Nat.zero_add, lnO, win_t, win_f, i9]
      · unfold n_X10_where nb_X10_where_0
        simp (disch := omega) only [Option.bind_some, bindv, bindv0, bind2_s, bind3_s, ↓reduceIte, Bool.false_eq_true, rZM_0, rZM_1, rZP_0, rZP_1, ptZ_0, ptZ_1, c32i, c64i, ncI, Int.natCast_add, Int.natCast_mul, q32_neg, q64_neg, q32_add, q32_sub, q32_mul, q64_add, q64_sub, q64_mul, q32_64i, q64_32, q32_lt_t, q32_lt_f, q32_le_t, q32_le_f, q32_eq_t, q32_eq_f, q64_lt_t, q64_lt_f, q64_le_t, q64_le_f, q64_eq_t, q64_eq_f, rdI_i, rdL_i, rdR_i, rdN_i, stI_i, stL_i, stR_i, wI_s, wI_n, wL_s, wL_n, wI_2, wI_3, wL_1, wL_3, wR_1, wR_2, Int.toNat_natCast, tnO, tn_add, tn_sub, tn_mul, Nat.add_sub_cancel, Nat.add_zero, Nat.zero_add, lnO, win_t, win_f, i10]
  · rw [if_neg cz] at i9 i10
    refine fin (q64 (-2)) m _ ?_ ?_ (SC.k0 m)
    · unfold n_X9_where nb_X9_where_0
      simp (disch := omega) only [Option.bind_some, bindv, bindv0, bind2_s, bind3_s, ↓reduceIte, Bool.false_eq_true, rZM_0, rZM_1, rZP_0, rZP_1, ptZ_0, ptZ_1, c32i, c64i, ncI, Int.natCast_add, Int.natCast_mul, q32_neg, q64_neg, q32_add, q32_sub, q32_mul, q64_add, q64_sub, q64_mul, q32_64i, q64_32, q32_lt_t, q32_lt_f, q32_le_t, q32_le_f, q32_eq_t, q32_eq_f, q64_lt_t, q64_lt_f, q64_le_t, q64_le_f, q64_eq_t, q64_eq_f, rdI_i, rdL_i, rdR_i, rdN_i, stI_i, stL_i, stR_i, wI_s, wI_n, wL_s, wL_n, wI_2, wI_3, wL_1, wL_3, wR_1, wR_2, Int.toNat_natCast, tnO, tn_add, tn_sub, tn_mul, Nat.add_sub_cancel, Nat.add_zero, Nat.zero_add, lnO, win_t, win_f, i9]
    · unfold n_X10_where nb_X10_where_0
      simp (disch := omega) only [Option.bind_some, bindv, bindv0, bind2_s, bind3_s, ↓reduceIte, Bool.false_eq_true, rZM_0, rZM_1, rZP_0, rZP_1, ptZ_0, ptZ_1, c32i, c64i, ncI, Int.natCast_add, Int.natCast_mul, q32_neg, q64_neg, q32_add, q32_sub, q32_mul, q64_add, q64_sub, q64_mul, q32_64i, q64_32, q32_lt_t, q32_lt_f, q32_le_t, q32_le_f, q32_eq_t, q32_eq_f, q64_lt_t, q64_lt_f, q64_le_t, q64_le_f, q64_eq_t, q64_eq_f, rdI_i, rdL_i, rdR_i, rdN_i, stI_i, stL_i, stR_i, wI_s, wI_n, wL_s, wL_n, wI_2, wI_3, wL_1, wL_3, wR_1, wR_2, Int.toNat_natCast, tnO, tn_add, tn_sub, tn_mul, Nat.add_sub_cancel, Nat.add_zero, Nat.zero_add, lnO, win_t, win_f, i10]
theorem opk_alike {F : Nat} (hF : 1000 ≤ F) {s : List Sh} {m : Mem} (h : INV s m) (w1 w2 w3 : Int32) : OPK s m (n_X9_alike F s m 0 w1 w2 w3) (fun m1 => n_X10_alike F s m1 23 w1 w2 w3) := by
  have h0 := h
  obtain ⟨hg, ow, nw, hst⟩ := h
  have hl := hst.1
  have hp := hl.hp
  have hr := hl.rf
  have hn := hl.hn
  have rn := hl.nw
  have r1 := rf23_1 hr
  have l24 := ln24 hp
  obtain ⟨z, hz, rfl⟩ := q32_of w1
  obtain ⟨y, hy, rfl⟩ := q32_of w2
  obtain ⟨v, hv, rfl⟩ := q32_of w3
  have r13 := rf0_13 hr
  have i9 := isSt9 hz
  have i10 := isSt10 hz
  have j9 := isSt9 hy
  have j10 := isSt10 hy
  have fin : ∀ r m1 m2, n_X9_alike F s m 0 (q32 z) (q32 y) (q32 v) = some (r, m1) → n_X10_alike F s m1 23 (q32 z) (q32 y) (q32 v) = some (r, m2) → SC m m2 → OPK s m (n_X9_alike F s m 0 (q32 z) (q32 y) (q32 v)) (fun m1 => n_X10_alike F s m1 23 (q32 z) (q32 y) (q32 v)) := fun r m1 m2 e1 e2 sc =>
    opk_fin h0 e1 e2 (un_X10_alike (un_X9_alike hg (okB hp).1 e1).2 (okB hp).2 e2).2 sc
  by_cases cz : 0 ≤ z ∧ z < 3
  · rw [if_pos cz] at i9 i10
    by_cases cy : 0 ≤ y ∧ y < 3
    · rw [if_pos cy] at j9 j10
      by_cases ce : z = y
      · subst ce
        refine fin (q64 (-2)) m _ ?_ ?_ (SC.k0 m)
        · unfold n_X9_alike nb_X9_alike_0
          simp (disch := omega) only [Option.bind_some, bindv, bindv0, bind2_s, bind3_s, ↓reduceIte, Bool.false_eq_true, rZM_0, rZM_1, rZP_0, rZP_1, ptZ_0, ptZ_1, c32i, c64i, ncI, Int.natCast_add, Int.natCast_mul, q32_neg, q64_neg, q32_add, q32_sub, q32_mul, q64_add, q64_sub, q64_mul, q32_64i, q64_32, q32_lt_t, q32_lt_f, q32_le_t, q32_le_f, q32_eq_t, q32_eq_f, q64_lt_t, q64_lt_f, q64_le_t, q64_le_f, q64_eq_t, q64_eq_f, rdI_i, rdL_i, rdR_i, rdN_i, stI_i, stL_i, stR_i, wI_s, wI_n, wL_s, wL_n, wI_2, wI_3, wL_1, wL_3, wR_1, wR_2, Int.toNat_natCast, tnO, tn_add, tn_sub, tn_mul, Nat.add_sub_cancel, Nat.add_zero, Nat.zero_add, lnO, win_t, win_f, i9]
        · unfold n_X10_alike nb_X10_alike_0
          simp (disch := omega) only [Option.bind_some, bindv, bindv0, bind2_s, bind3_s, ↓reduceIte, Bool.false_eq_true, rZM_0, rZM_1, rZP_0, rZP_1, ptZ_0, ptZ_1, c32i, c64i, ncI, Int.natCast_add, Int.natCast_mul, q32_neg, q64_neg, q32_add, q32_sub, q32_mul, q64_add, q64_sub, q64_mul, q32_64i, q64_32, q32_lt_t, q32_lt_f, q32_le_t, q32_le_f, q32_eq_t, q32_eq_f, q64_lt_t, q64_lt_f, q64_le_t, q64_le_f, q64_eq_t, q64_eq_f, rdI_i, rdL_i, rdR_i, rdN_i, stI_i, stL_i, stR_i, wI_s, wI_n, wL_s, wL_n, wI_2, wI_3, wL_1, wL_3, wR_1, wR_2, Int.toNat_natCast, tnO, tn_add, tn_sub, tn_mul, Nat.add_sub_cancel, Nat.add_zero, Nat.zero_add, lnO, win_t, win_f, i10]
      · by_cases c : 0 ≤ v ∧ v ≤ 1
        · obtain ⟨n, rfl⟩ := Int.eq_ofNat_of_zero_le cz.1
          obtain ⟨k2, rfl⟩ := Int.eq_ofNat_of_zero_le cy.1
          obtain ⟨fc, tp, U, L, X, O, hd, h9, h10, -, -⟩ := hst.fd
          have xb : ∀ k, k < fc → X k n ≤ 99 ∧ X k k2 ≤ 99 := fun k hk => ⟨(hd.b hk).2.2.2.2 n (by omega), (hd.b hk).2.2.2.2 k2 (by omega)⟩
          obtain ⟨m1, p1, p2, p3, p4, p5⟩ := level9 hF hd h9 (D := fun k => (X k n : Int) - X k k2) (fun k hk => by have := xb k hk; omega) (v1 := q32 n) (v2 := q32 k2) (N := 0) (by omega) (fun mm e1 e2 k hk => by
            have so := so9 (s := s) (m := mm) hd (h9.k (fun a k _ => by rw [e1]) e2) hk (z := n) (by omega)
            have so2 := so9 (s := s) (m := mm) hd (h9.k (fun a k _ => by rw [e1]) e2) hk (z := k2) (by omega)
            unfold n_X0_overAt nb_X0_overAt_0
            simp (disch := omega) only [Option.bind_some, bindv, bindv0, bind2_s, bind3_s, ↓reduceIte, Bool.false_eq_true, rZM_0, rZM_1, rZP_0, rZP_1, ptZ_0, ptZ_1, c32i, c64i, ncI, Int.natCast_add, Int.natCast_mul, q32_neg, q64_neg, q32_add, q32_sub, q32_mul, q64_add, q64_sub, q64_mul, q32_64i, q64_32, q32_lt_t, q32_lt_f, q32_le_t, q32_le_f, q32_eq_t, q32_eq_f, q64_lt_t, q64_lt_f, q64_le_t, q64_le_f, q64_eq_t, q64_eq_f, rdI_i, rdL_i, rdR_i, rdN_i, stI_i, stL_i, stR_i, wI_s, wI_n, wL_s, wL_n, wI_2, wI_3, wL_1, wL_3, wR_1, wR_2, Int.toNat_natCast, tnO, tn_add, tn_sub, tn_mul, Nat.add_sub_cancel, Nat.add_zero, Nat.zero_add, lnO, win_t, win_f, so, so2]) (r := 20) (by omega)
          obtain ⟨m2, q1, q2, q3⟩ := level10 (m := wI m1 23 0 (q32 0)) hF hp hd (h10.k (fun j _ => by simp (disch := omega) only [Option.bind_some, bindv, bindv0, bind2_s, bind3_s, ↓reduceIte, Bool.false_eq_true, rZM_0, rZM_1, rZP_0, rZP_1, ptZ_0, ptZ_1, c32i, c64i, ncI, Int.natCast_add, Int.natCast_mul, q32_neg, q64_neg, q32_add, q32_sub, q32_mul, q64_add, q64_sub, q64_mul, q32_64i, q64_32, q32_lt_t, q32_lt_f, q32_le_t, q32_le_f, q32_eq_t, q32_eq_f, q64_lt_t, q64_lt_f, q64_le_t, q64_le_f, q64_eq_t, q64_eq_f, rdI_i, rdL_i, rdR_i, rdN_i, stI_i, stL_i, stR_i, wI_s, wI_n, wL_s, wL_n, wI_2, wI_3, wL_1, wL_3, wR_1, wR_2, Int.toNat_natCast, tnO, tn_add, tn_sub, tn_mul, Nat.add_sub_cancel, Nat.add_zero, Nat.zero_add, lnO, win_t, win_f]; rw [p2]) p3 hd.1) (D := fun k => (X k n : Int) - X k k2) (a := fun k => (X k n : Int)) (b := fun k => (X k k2 : Int)) (N := 0) (by omega) (fun k hk => by have := xb k hk; omega) (v1 := q32 n) (v2 := q32 k2) (fun mm hm k hk => so10 hp hd hm hk (by omega)) (fun mm hm k hk => so10 hp hd hm hk (by omega))
          have sc : SC m m2 := (SC.of (fun a k => by rw [p2]; simp) (fun a k => by
            by_cases c : a = 20
            · omega
            · rw [p4 a k c]; simp) p3).tr ((SC.k0 m1).tr q2.sc)
          cases hc : LVL fc U L O (fun k => (X k n : Int) - X k k2) 0 with
          | none =>
            rw [hc] at p1 q1
            simp only [Option.isSome_none, Bool.false_eq_true, ↓reduceIte] at p1 q1
            refine fin (q64 (-1)) m1 m2 ?_ ?_ sc
            · unfold n_X9_alike nb_X9_alike_0
              simp (disch := omega) only [Option.bind_some, bindv, bindv0, bind2_s, bind3_s, ↓reduceIte, Bool.false_eq_true, rZM_0, rZM_1, rZP_0, rZP_1, ptZ_0, ptZ_1, c32i, c64i, ncI, Int.natCast_add, Int.natCast_mul, q32_neg, q64_neg, q32_add, q32_sub, q32_mul, q64_add, q64_sub, q64_mul, q32_64i, q64_32, q32_lt_t, q32_lt_f, q32_le_t, q32_le_f, q32_eq_t, q32_eq_f, q64_lt_t, q64_lt_f, q64_le_t, q64_le_f, q64_eq_t, q64_eq_f, rdI_i, rdL_i, rdR_i, rdN_i, stI_i, stL_i, stR_i, wI_s, wI_n, wL_s, wL_n, wI_2, wI_3, wL_1, wL_3, wR_1, wR_2, Int.toNat_natCast, tnO, tn_add, tn_sub, tn_mul, Nat.add_sub_cancel, Nat.add_zero, Nat.zero_add, lnO, win_t, win_f, i9, j9, rn, r13, p1]
            · unfold n_X10_alike nb_X10_alike_0
              simp (disch := omega) only [Option.bind_some, bindv, bindv0, bind2_s, bind3_s, ↓reduceIte, Bool.false_eq_true, rZM_0, rZM_1, rZP_0, rZP_1, ptZ_0, ptZ_1, c32i, c64i, ncI, Int.natCast_add, Int.natCast_mul, q32_neg, q64_neg, q32_add, q32_sub, q32_mul, q64_add, q64_sub, q64_mul, q32_64i, q64_32, q32_lt_t, q32_lt_f, q32_le_t, q32_le_f, q32_eq_t, q32_eq_f, q64_lt_t, q64_lt_f, q64_le_t, q64_le_f, q64_eq_t, q64_eq_f, rdI_i, rdL_i, rdR_i, rdN_i, stI_i, stL_i, stR_i, wI_s, wI_n, wL_s, wL_n, wI_2, wI_3, wL_1, wL_3, wR_1, wR_2, Int.toNat_natCast, tnO, tn_add, tn_sub, tn_mul, Nat.add_sub_cancel, Nat.add_zero, Nat.zero_add, lnO, win_t, win_f, i10, j10, q1]
          | some f =>
            rw [hc] at p1 q1
            simp only [Option.isSome_some, ↓reduceIte] at p1 q1
            obtain ⟨f1, f2⟩ := p5 f hc
            obtain ⟨f3, f4⟩ := q3 f hc
            have r13' : m1.2.2 0 13 = some 20 := by rw [p3]; exact r13
            refine fin (q64 (if v = 0 then f.1 else f.2)) m1 m2 ?_ ?_ sc
            · unfold n_X9_alike nb_X9_alike_0 n_X2_part nb_X2_part_0
              by_cases cv : v = 0
              · rw [if_pos cv]; simp (disch := omega) only [Option.bind_some, bindv, bindv0, bind2_s, bind3_s, ↓reduceIte, Bool.false_eq_true, rZM_0, rZM_1, rZP_0, rZP_1, ptZ_0, ptZ_1, c32i, c64i, ncI, Int.natCast_add, Int.natCast_mul, q32_neg, q64_neg, q32_add, q32_sub, q32_mul, q64_add, q64_sub, q64_mul, q32_64i, q64_32, q32_lt_t, q32_lt_f, q32_le_t, q32_le_f, q32_eq_t, q32_eq_f, q64_lt_t, q64_lt_f, q64_le_t, q64_le_f, q64_eq_t, q64_eq_f, rdI_i, rdL_i, rdR_i, rdN_i, stI_i, stL_i, stR_i, wI_s, wI_n, wL_s, wL_n, wI_2, wI_3, wL_1, wL_3, wR_1, wR_2, Int.toNat_natCast, tnO, tn_add, tn_sub, tn_mul, Nat.add_sub_cancel, Nat.add_zero, Nat.zero_add, lnO, win_t, win_f, i9, j9, rn, r13, p1, r13', f1, f2]
              · rw [if_neg cv]; simp (disch := omega) only [Option.bind_some, bindv, bindv0, bind2_s, bind3_s, ↓reduceIte, Bool.false_eq_true, rZM_0, rZM_1, rZP_0, rZP_1, ptZ_0, ptZ_1, c32i, c64i, ncI, Int.natCast_add, Int.natCast_mul, q32_neg, q64_neg, q32_add, q32_sub, q32_mul, q64_add, q64_sub, q64_mul, q32_64i, q64_32, q32_lt_t, q32_lt_f, q32_le_t, q32_le_f, q32_eq_t, q32_eq_f, q64_lt_t, q64_lt_f, q64_le_t, q64_le_f, q64_eq_t, q64_eq_f, rdI_i, rdL_i, rdR_i, rdN_i, stI_i, stL_i, stR_i, wI_s, wI_n, wL_s, wL_n, wI_2, wI_3, wL_1, wL_3, wR_1, wR_2, Int.toNat_natCast, tnO, tn_add, tn_sub, tn_mul, Nat.add_sub_cancel, Nat.add_zero, Nat.zero_add, lnO, win_t, win_f, i9, j9, rn, r13, p1, r13', f1, f2]
            · unfold n_X10_alike nb_X10_alike_0
              by_cases cv : v = 0
              · rw [if_pos cv]; simp (disch := omega) only [Option.bind_some, bindv, bindv0, bind2_s, bind3_s, ↓reduceIte, Bool.false_eq_true, rZM_0, rZM_1, rZP_0, rZP_1, ptZ_0, ptZ_1, c32i, c64i, ncI, Int.natCast_add, Int.natCast_mul, q32_neg, q64_neg, q32_add, q32_sub, q32_mul, q64_add, q64_sub, q64_mul, q32_64i, q64_32, q32_lt_t, q32_lt_f, q32_le_t, q32_le_f, q32_eq_t, q32_eq_f, q64_lt_t, q64_lt_f, q64_le_t, q64_le_f, q64_eq_t, q64_eq_f, rdI_i, rdL_i, rdR_i, rdN_i, stI_i, stL_i, stR_i, wI_s, wI_n, wL_s, wL_n, wI_2, wI_3, wL_1, wL_3, wR_1, wR_2, Int.toNat_natCast, tnO, tn_add, tn_sub, tn_mul, Nat.add_sub_cancel, Nat.add_zero, Nat.zero_add, lnO, win_t, win_f, i10, j10, q1, f3, f4]
              · rw [if_neg cv]; simp (disch := omega) only [Option.bind_some, bindv, bindv0, bind2_s, bind3_s, ↓reduceIte, Bool.false_eq_true, rZM_0, rZM_1, rZP_0, rZP_1, ptZ_0, ptZ_1, c32i, c64i, ncI, Int.natCast_add, Int.natCast_mul, q32_neg, q64_neg, q32_add, q32_sub, q32_mul, q64_add, q64_sub, q64_mul, q32_64i, q64_32, q32_lt_t, q32_lt_f, q32_le_t, q32_le_f, q32_eq_t, q32_eq_f, q64_lt_t, q64_lt_f, q64_le_t, q64_le_f, q64_eq_t, q64_eq_f, rdI_i, rdL_i, rdR_i, rdN_i, stI_i, stL_i, stR_i, wI_s, wI_n, wL_s, wL_n, wI_2, wI_3, wL_1, wL_3, wR_1, wR_2, Int.toNat_natCast, tnO, tn_add, tn_sub, tn_mul, Nat.add_sub_cancel, Nat.add_zero, Nat.zero_add, lnO, win_t, win_f, i10, j10, q1, f3, f4]
        · refine fin (q64 (-2)) m _ ?_ ?_ (SC.k0 m)
          · unfold n_X9_alike nb_X9_alike_0
            by_cases c2 : v < 0
            · simp (disch := omega) only [Option.bind_some, bindv, bindv0, bind2_s, bind3_s, ↓reduceIte, Bool.false_eq_true, rZM_0, rZM_1, rZP_0, rZP_1, ptZ_0, ptZ_1, c32i, c64i, ncI, Int.natCast_add, Int.natCast_mul, q32_neg, q64_neg, q32_add, q32_sub, q32_mul, q64_add, q64_sub, q64_mul, q32_64i, q64_32, q32_lt_t, q32_lt_f, q32_le_t, q32_le_f, q32_eq_t, q32_eq_f, q64_lt_t, q64_lt_f, q64_le_t, q64_le_f, q64_eq_t, q64_eq_f, rdI_i, rdL_i, rdR_i, rdN_i, stI_i, stL_i, stR_i, wI_s, wI_n, wL_s, wL_n, wI_2, wI_3, wL_1, wL_3, wR_1, wR_2, Int.toNat_natCast, tnO, tn_add, tn_sub, tn_mul, Nat.add_sub_cancel, Nat.add_zero, Nat.zero_add, lnO, win_t, win_f, i9, j9]
            · simp (disch := omega) only [Option.bind_some, bindv, bindv0, bind2_s, bind3_s, ↓reduceIte, Bool.false_eq_true, rZM_0, rZM_1, rZP_0, rZP_1, ptZ_0, ptZ_1, c32i, c64i, ncI, Int.natCast_add, Int.natCast_mul, q32_neg, q64_neg, q32_add, q32_sub, q32_mul, q64_add, q64_sub, q64_mul, q32_64i, q64_32, q32_lt_t, q32_lt_f, q32_le_t, q32_le_f, q32_eq_t, q32_eq_f, q64_lt_t, q64_lt_f, q64_le_t, q64_le_f, q64_eq_t, q64_eq_f, rdI_i, rdL_i, rdR_i, rdN_i, stI_i, stL_i, stR_i, wI_s, wI_n, wL_s, wL_n, wI_2, wI_3, wL_1, wL_3, wR_1, wR_2, Int.toNat_natCast, tnO, tn_add, tn_sub, tn_mul, Nat.add_sub_cancel, Nat.add_zero, Nat.zero_add, lnO, win_t, win_f, i9, j9]
          · unfold n_X10_alike nb_X10_alike_0
            simp (disch := omega) only [Option.bind_some, bindv, bindv0, bind2_s, bind3_s, ↓reduceIte, Bool.false_eq_true, rZM_0, rZM_1, rZP_0, rZP_1, ptZ_0, ptZ_1, c32i, c64i, ncI, Int.natCast_add, Int.natCast_mul, q32_neg, q64_neg, q32_add, q32_sub, q32_mul, q64_add, q64_sub, q64_mul, q32_64i, q64_32, q32_lt_t, q32_lt_f, q32_le_t, q32_le_f, q32_eq_t, q32_eq_f, q64_lt_t, q64_lt_f, q64_le_t, q64_le_f, q64_eq_t, q64_eq_f, rdI_i, rdL_i, rdR_i, rdN_i, stI_i, stL_i, stR_i, wI_s, wI_n, wL_s, wL_n, wI_2, wI_3, wL_1, wL_3, wR_1, wR_2, Int.toNat_natCast, tnO, tn_add, tn_sub, tn_mul, Nat.add_sub_cancel, Nat.add_zero, Nat.zero_add, lnO, win_t, win_f, i10, j10]
    · rw [if_neg cy] at j9 j10
      refine fin (q64 (-2)) m _ ?_ ?_ (SC.k0 m)
      · unfold n_X9_alike nb_X9_alike_0
        simp (disch := omega) only [Option.bind_some, bindv, bindv0, bind2_s, bind3_s, ↓reduceIte, Bool.false_eq_true, rZM_0, rZM_1, rZP_0, rZP_1, ptZ_0, ptZ_1, c32i, c64i, ncI, Int.natCast_add, Int.natCast_mul, q32_neg, q64_neg, q32_add, q32_sub, q32_mul, q64_add, q64_sub, q64_mul, q32_64i, q64_32, q32_lt_t, q32_lt_f, q32_le_t, q32_le_f, q32_eq_t, q32_eq_f, q64_lt_t, q64_lt_f, q64_le_t, q64_le_f, q64_eq_t, q64_eq_f, rdI_i, rdL_i, rdR_i, rdN_i, stI_i, stL_i, stR_i, wI_s, wI_n, wL_s, wL_n, wI_2, wI_3, wL_1, wL_3, wR_1, wR_2, Int.toNat_natCast, tnO, tn_add, tn_sub, tn_mul, Nat.add_sub_cancel, Nat.add_zero, Nat.zero_add, lnO, win_t, win_f, i9, j9]
      · unfold n_X10_alike nb_X10_alike_0
        simp (disch := omega) only [Option.bind_some, bindv, bindv0, bind2_s, bind3_s, ↓reduceIte, Bool.false_eq_true, rZM_0, rZM_1, rZP_0, rZP_1, ptZ_0, ptZ_1, c32i, c64i, ncI, Int.natCast_add, Int.natCast_mul, q32_neg, q64_neg, q32_add, q32_sub, q32_mul, q64_add, q64_sub, q64_mul, q32_64i, q64_32, q32_lt_t, q32_lt_f, q32_le_t, q32_le_f, q32_eq_t, q32_eq_f, q64_lt_t, q64_lt_f, q64_le_t, q64_le_f, q64_eq_t, q64_eq_f, rdI_i, rdL_i, rdR_i, rdN_i, stI_i, stL_i, stR_i, wI_s, wI_n, wL_s, wL_n, wI_2, wI_3, wL_1, wL_3, wR_1, wR_2, Int.toNat_natCast, tnO, tn_add, tn_sub, tn_mul, Nat.add_sub_cancel, Nat.add_zero, Nat.zero_add, lnO, win_t, win_f, i10, j10]
  · rw [if_neg cz] at i9 i10
    refine fin (q64 (-2)) m _ ?_ ?_ (SC.k0 m)
    · unfold n_X9_alike nb_X9_alike_0
      simp (disch := omega) only [Option.bind_some, bindv, bindv0, bind2_s, bind3_s, ↓reduceIte, Bool.false_eq_true, rZM_0, rZM_1, rZP_0, rZP_1, ptZ_0, ptZ_1, c32i, c64i, ncI, Int.natCast_add, Int.natCast_mul, q32_neg, q64_neg, q32_add, q32_sub, q32_mul, q64_add, q64_sub, q64_mul, q32_64i, q64_32, q32_lt_t, q32_lt_f, q32_le_t, q32_le_f, q32_eq_t, q32_eq_f, q64_lt_t, q64_lt_f, q64_le_t, q64_le_f, q64_eq_t, q64_eq_f, rdI_i, rdL_i, rdR_i, rdN_i, stI_i, stL_i, stR_i, wI_s, wI_n, wL_s, wL_n, wI_2, wI_3, wL_1, wL_3, wR_1, wR_2, Int.toNat_natCast, tnO, tn_add, tn_sub, tn_mul, Nat.add_sub_cancel, Nat.add_zero, Nat.zero_add, lnO, win_t, win_f, i9]
    · unfold n_X10_alike nb_X10_alike_0
      simp (disch := omega) only [Option.bind_some, bindv, bindv0, bind2_s, bind3_s, ↓reduceIte, Bool.false_eq_true, rZM_0, rZM_1, rZP_0, rZP_1, ptZ_0, ptZ_1, c32i, c64i, ncI, Int.natCast_add, Int.natCast_mul, q32_neg, q64_neg, q32_add, q32_sub, q32_mul, q64_add, q64_sub, q64_mul, q32_64i, q64_32, q32_lt_t, q32_lt_f, q32_le_t, q32_le_f, q32_eq_t, q32_eq_f, q64_lt_t, q64_lt_f, q64_le_t, q64_le_f, q64_eq_t, q64_eq_f, rdI_i, rdL_i, rdR_i, rdN_i, stI_i, stL_i, stR_i, wI_s, wI_n, wL_s, wL_n, wI_2, wI_3, wL_1, wL_3, wR_1, wR_2, Int.toNat_natCast, tnO, tn_add, tn_sub, tn_mul, Nat.add_sub_cancel, Nat.add_zero, Nat.zero_add, lnO, win_t, win_f, i10]
