theorem wdL9 {F : Nat} {s : List Sh} {m : Mem} {tk N : Nat} {T : Nat → Int} (h : TXC s m tk N T) {j b l : Nat} (hl : l ≤ 6) (hbl : b + l ≤ N) {w : Nat → Int} (hw : ∀ i, i < l → sChrF j (q32 (i : Nat)) = some (q32 (w i)) ∧ 0 ≤ w i ∧ w i < 256) : ∀ (v : List Int) k fuel, k + v.length = l → v.length < fuel → (∀ i, i < v.length → w (k + i) = v.getD i 0) → nl_X6_isWord_13 F s m fuel tk j (q32 (b : Nat)) (q32 l) (q32 (k : Nat)) = some (if eqB T (b + k) v = true then q32 1 else q32 0) := by
  obtain ⟨h1, h2, h3, h4, h5⟩ := h
  intro v
  induction v with
  | nil =>
    intro k fuel hk hfu hv
    obtain ⟨fuel, rfl⟩ : ∃ f, fuel = f + 1 := ⟨fuel - 1, by omega⟩
    have hk' : k = l := hk
    show nb_X6_isWord_13 F s (nl_X6_isWord_13 F s m fuel) m tk j _ _ _ = some (q32 1)
    unfold nb_X6_isWord_13
    simp (disch := omega) only [Option.bind_some, bindv, bindv0, bind2_s, bind3_s, ↓reduceIte, Bool.false_eq_true, rZM_0, rZM_1, rZP_0, rZP_1, ptZ_0, ptZ_1, c32i, c64i, ncI, Int.natCast_add, Int.natCast_mul, q32_neg, q64_neg, q32_add, q32_sub, q32_mul, q64_add, q64_sub, q64_mul, q32_64i, q64_32, q32_lt_t, q32_lt_f, q32_le_t, q32_le_f, q32_eq_t, q32_eq_f, q64_lt_t, q64_lt_f, q64_le_t, q64_le_f, q64_eq_t, q64_eq_f, rdI_i, rdL_i, rdR_i, rdN_i, stI_i, stL_i, stR_i, wI_s, wI_n, wL_s, wL_n, wI_2, wI_3, wL_1, wL_3, wR_1, wR_2, Int.toNat_natCast, tnO, tn_add, tn_sub, tn_mul, Nat.add_sub_cancel, Nat.add_zero, Nat.zero_add, lnO, win_t, win_f]
  | cons c v ih =>
    intro k fuel hk hfu hv
    rw [List.length_cons] at hk hfu
    obtain ⟨fuel, rfl⟩ : ∃ f, fuel = f + 1 := ⟨fuel - 1, by omega⟩
    obtain ⟨u1, u2, u3⟩ := h5 (b + k) (by omega)
    obtain ⟨x1, x2, x3⟩ := hw k (by omega)
    have ec : w k = c := by
      have := hv 0 (by rw [List.length_cons]; omega)
      rw [Nat.add_zero] at this
      exact this
    have ih := ih (k + 1) fuel (by omega) (by omega) (fun i hi => by
      have := hv (i + 1) (by rw [List.length_cons]; omega)
      rw [show k + 1 + i = k + (i + 1) by omega]
      exact this)
    rw [Int.natCast_add k] at ih
    have en : ((b : Int) + (k : Int)).toNat = b + k := by omega
    show nb_X6_isWord_13 F s (nl_X6_isWord_13 F s m fuel) m tk j _ _ _ = _
    by_cases ct : T (b + k) = c
    · have e : eqB T (b + k) (c :: v) = eqB T (b + (k + 1)) v := by
        show (decide (T (b + k) = c) && eqB T (b + k + 1) v) = _
        rw [decide_eq_true ct]; rfl
      rw [e, ← ih]
      rw [ec] at x1
      rw [ct] at u1
      unfold nb_X6_isWord_13
      simp (disch := omega) only [Option.bind_some, bindv, bindv0, bind2_s, bind3_s, ↓reduceIte, Bool.false_eq_true, rZM_0, rZM_1, rZP_0, rZP_1, ptZ_0, ptZ_1, c32i, c64i, ncI, Int.natCast_add, Int.natCast_mul, q32_neg, q64_neg, q32_add, q32_sub, q32_mul, q64_add, q64_sub, q64_mul, q32_64i, q64_32, q32_lt_t, q32_lt_f, q32_le_t, q32_le_f, q32_eq_t, q32_eq_f, q64_lt_t, q64_lt_f, q64_le_t, q64_le_f, q64_eq_t, q64_eq_f, rdI_i, rdL_i, rdR_i, rdN_i, stI_i, stL_i, stR_i, wI_s, wI_n, wL_s, wL_n, wI_2, wI_3, wL_1, wL_3, wR_1, wR_2, Int.toNat_natCast, h1, en, u1, x1]
      first | done | rfl
    · have e : eqB T (b + k) (c :: v) = false := by
        show (decide (T (b + k) = c) && eqB T (b + k + 1) v) = _
        rw [decide_eq_false ct]; rfl
      rw [e, if_neg (by decide)]
      have ct' : T (b + k) ≠ w k := by rw [ec]; exact ct
      unfold nb_X6_isWord_13
      simp (disch := omega) only [Option.bind_some, bindv, bindv0, bind2_s, bind3_s, ↓reduceIte, Bool.false_eq_true, rZM_0, rZM_1, rZP_0, rZP_1, ptZ_0, ptZ_1, c32i, c64i, ncI, Int.natCast_add, Int.natCast_mul, q32_neg, q64_neg, q32_add, q32_sub, q32_mul, q64_add, q64_sub, q64_mul, q32_64i, q64_32, q32_lt_t, q32_lt_f, q32_le_t, q32_le_f, q32_eq_t, q32_eq_f, q64_lt_t, q64_lt_f, q64_le_t, q64_le_f, q64_eq_t, q64_eq_f, rdI_i, rdL_i, rdR_i, rdN_i, stI_i, stL_i, stR_i, wI_s, wI_n, wL_s, wL_n, wI_2, wI_3, wL_1, wL_3, wR_1, wR_2, Int.toNat_natCast, h1, en, u1, x1]
theorem wd9 {F : Nat} (hF : 20000 ≤ F) {s : List Sh} {m : Mem} {tk N : Nat} {T : Nat → Int} (h : TXC s m tk N T) {j b n : Nat} (hj : j < 8) (hbl : b + n ≤ N) : n_X6_isWord F s m tk j (q32 (b : Nat)) (q32 (n : Nat)) = some (if WIS T b n j then q32 1 else q32 0) := by
  have h3 := h.2.2.1
  have hlen : sLenF j = some (q32 ((wd j).length : Nat)) ∧ (wd j).length ≤ 6 := by
    have : ∀ j, j < 8 → sLenF j = some (q32 ((wd j).length : Nat)) ∧ (wd j).length ≤ 6 := by decide
    exact this j hj
  have hch : ∀ i, i < (wd j).length → sChrF j (q32 (i : Nat)) = some (q32 ((wd j).getD i 0)) ∧ 0 ≤ (wd j).getD i 0 ∧ (wd j).getD i 0 < 256 := by
    have : ∀ j, j < 8 → ∀ i, i < (wd j).length → sChrF j (q32 (i : Nat)) = some (q32 ((wd j).getD i 0)) ∧ 0 ≤ (wd j).getD i 0 ∧ (wd j).getD i 0 < 256 := by decide
    exact this j hj
  have hb6 := hlen.2
  unfold n_X6_isWord nb_X6_isWord_0
  rw [hlen.1, Option.bind_some]
  by_cases c : n = (wd j).length
  · subst c
    rw [if_pos rfl]
    have := wdL9 (F := F) h (j := j) (b := b) (l := (wd j).length) hb6 hbl (w := fun i => (wd j).getD i 0) hch (wd j) 0 F (by omega) (by omega) (fun i hi => by rw [Nat.zero_add])
    rw [Nat.add_zero] at this
    have this' : nl_X6_isWord_13 F s m F tk j (q32 (b : Nat)) (q32 ((wd j).length : Nat)) (0 : Int32) = _ := this
    rw [this']
    by_cases e : eqB T b (wd j) = true
    · rw [if_pos e, if_pos ⟨rfl, e⟩]
    · rw [if_neg e, if_neg (fun h => e h.2)]
  · rw [if_neg (show ¬ WIS T b n j from fun h => c h.1), if_neg (by rw [q32_eq_f (by omega)]; exact fun h => h)]
    simp (disch := omega) only [Option.bind_some, bindv, bindv0, bind2_s, bind3_s, ↓reduceIte, Bool.false_eq_true, rZM_0, rZM_1, rZP_0, rZP_1, ptZ_0, ptZ_1, c32i, c64i, ncI, Int.natCast_add, Int.natCast_mul, q32_neg, q64_neg, q32_add, q32_sub, q32_mul, q64_add, q64_sub, q64_mul, q32_64i, q64_32, q32_lt_t, q32_lt_f, q32_le_t, q32_le_f, q32_eq_t, q32_eq_f, q64_lt_t, q64_lt_f, q64_le_t, q64_le_f, q64_eq_t, q64_eq_f, rdI_i, rdL_i, rdR_i, rdN_i, stI_i, stL_i, stR_i, wI_s, wI_n, wL_s, wL_n, wI_2, wI_3, wL_1, wL_3, wR_1, wR_2, Int.toNat_natCast, tnO, tn_add, tn_sub, tn_mul, Nat.add_sub_cancel, Nat.add_zero, Nat.zero_add, lnO, win_t, win_f]
theorem wk9 {F : Nat} (hF : 20000 ≤ F) {s : List Sh} {m : Mem} {tk N : Nat} {T : Nat → Int} (h : TXC s m tk N T) {b n : Nat} (hbl : b + n ≤ N) : n_X6_wordKind F s m tk (q32 (b : Nat)) (q32 (n : Nat)) = some (q32 (wkT T b n)) := by
  have w0 := wd9 hF h (j := 0) (by omega) hbl
  have w1 := wd9 hF h (j := 1) (by omega) hbl
  have w2 := wd9 hF h (j := 2) (by omega) hbl
  have w3 := wd9 hF h (j := 3) (by omega) hbl
  have w4 := wd9 hF h (j := 4) (by omega) hbl
  have w5 := wd9 hF h (j := 5) (by omega) hbl
  have w6 := wd9 hF h (j := 6) (by omega) hbl
  have w7 := wd9 hF h (j := 7) (by omega) hbl
  unfold n_X6_wordKind nb_X6_wordKind_0 wkT
  by_cases c0 : WIS T b n 0
  · rw [if_pos c0] at w0 ⊢; rw [w0]; rfl
  rw [if_neg c0] at w0 ⊢
  rw [w0, Option.bind_some, if_pos (show q32 0 = (0 : Int32) from rfl)]
  by_cases c1 : WIS T b n 1
  · rw [if_pos c1] at w1 ⊢; rw [w1]; rfl
  rw [if_neg c1] at w1 ⊢
  rw [w1, Option.bind_some, if_pos (show q32 0 = (0 : Int32) from rfl)]
  by_cases c2 : WIS T b n 2
  · rw [if_pos c2] at w2 ⊢; rw [w2]; rfl
  rw [if_neg c2] at w2 ⊢
  rw [w2, Option.bind_some, if_pos (show q32 0 = (0 : Int32) from rfl)]
  by_cases c3 : WIS T b n 3
  · rw [if_pos c3] at w3 ⊢; rw [w3]; rfl
  rw [if_neg c3] at w3 ⊢
  rw [w3, Option.bind_some, if_pos (show q32 0 = (0 : Int32) from rfl)]
  by_cases c4 : WIS T b n 4
  · rw [if_pos c4] at w4 ⊢; rw [w4]; rfl
  rw [if_neg c4] at w4 ⊢
  rw [w4, Option.bind_some, if_pos (show q32 0 = (0 : Int32) from rfl)]
  by_cases c5 : WIS T b n 5
  · rw [if_pos c5] at w5 ⊢; rw [w5]; rfl
  rw [if_neg c5] at w5 ⊢
  rw [w5, Option.bind_some, if_pos (show q32 0 = (0 : Int32) from rfl)]
  by_cases c6 : WIS T b n 6
  · rw [if_pos c6] at w6 ⊢; rw [w6]; rfl
  rw [if_neg c6] at w6 ⊢
  rw [w6, Option.bind_some, if_pos (show q32 0 = (0 : Int32) from rfl)]
  by_cases c7 : WIS T b n 7
  · rw [if_pos c7] at w7 ⊢; rw [w7]; rfl
  rw [if_neg c7] at w7 ⊢
  rw [w7]; rfl
theorem sg9 {c : Int} (h : 0 ≤ c ∧ c < 256) : m_X6_isSign (q32 c) = some (if isSg c then q32 1 else q32 0) := by
  unfold m_X6_isSign
  by_cases c1 : isSg c
  · rw [show (if isSg c then q32 1 else q32 0) = q32 1 from if_pos c1]
    have : c = 40 ∨ c = 41 ∨ c = 42 ∨ c = 43 ∨ c = 45 ∨ c = 47 ∨ c = 58 ∨ c = 59 := by omega
    rcases this with rfl | rfl | rfl | rfl | rfl | rfl | rfl | rfl <;> decide
  · rw [show (if isSg c then q32 1 else q32 0) = q32 0 from if_neg c1]
    have : ∀ k : Nat, k < 256 → ¬ isSg (k : Int) → b_X6_isSign_0 (q32 (k : Int)) = some (q32 0) := by decide +kernel
    obtain ⟨k, rfl⟩ := Int.eq_ofNat_of_zero_le h.1
    exact this k (by omega) c1
theorem kd9 {F : Nat} (hF : 20000 ≤ F) {s : List Sh} {m : Mem} {tk N p : Nat} {T : Nat → Int} (h : TXC s m tk N T) (hp : p < N) : n_X6_kindOf F s m tk (q32 p) (q32 (endT T N p : Nat)) = some (q32 (kdT T N p)) := by
  have h3 := h.2.2.1
  obtain ⟨u1, u2⟩ := h.2.2.2.2 p hp
  have h4 := h.2.2.2.1
  have h1 := h.1
  have eb := endT_b (T := T) hp
  have dg := dg9 u2
  have lt := lt9 u2
  have sg := sg9 u2
  have en : ((endT T N p : Nat) : Int) - (p : Int) = ((endT T N p - p : Nat) : Int) := by omega
  have wk := wk9 hF h (b := p) (n := endT T N p - p) (by omega)
  unfold n_X6_kindOf nb_X6_kindOf_0 kdT
  rw [if_neg (show ¬ N ≤ p by omega)]
  generalize endT T N p = e at *
  by_cases c : isDg (T p)
  · rw [show (if isDg (T p) then q32 1 else q32 0) = q32 1 from if_pos c] at dg
    rw [show (if isDg (T p) then (if 3 < e - p then (0 : Int) else 2) else if isLt (T p) then wkT T p (e - p) else if isSg (T p) then T p else 0) = (if 3 < e - p then (0 : Int) else 2) from if_pos c]
    by_cases c3 : 3 < e - p
    · rw [if_pos c3]
      simp (disch := omega) only [Option.bind_some, bindv, bindv0, bind2_s, bind3_s, ↓reduceIte, Bool.false_eq_true, rZM_0, rZM_1, rZP_0, rZP_1, ptZ_0, ptZ_1, c32i, c64i, ncI, Int.natCast_add, Int.natCast_mul, q32_neg, q64_neg, q32_add, q32_sub, q32_mul, q64_add, q64_sub, q64_mul, q32_64i, q64_32, q32_lt_t, q32_lt_f, q32_le_t, q32_le_f, q32_eq_t, q32_eq_f, q64_lt_t, q64_lt_f, q64_le_t, q64_le_f, q64_eq_t, q64_eq_f, rdI_i, rdL_i, rdR_i, rdN_i, stI_i, stL_i, stR_i, wI_s, wI_n, wL_s, wL_n, wI_2, wI_3, wL_1, wL_3, wR_1, wR_2, Int.toNat_natCast, tnO, tn_add, tn_sub, tn_mul, Nat.add_sub_cancel, Nat.add_zero, Nat.zero_add, lnO, win_t, win_f, h1, u1, dg, en]
    · rw [if_neg c3]
      simp (disch := omega) only [Option.bind_some, bindv, bindv0, bind2_s, bind3_s, ↓reduceIte, Bool.false_eq_true, rZM_0, rZM_1, rZP_0, rZP_1, ptZ_0, ptZ_1, c32i, c64i, ncI, Int.natCast_add, Int.natCast_mul, q32_neg, q64_neg, q32_add, q32_sub, q32_mul, q64_add, q64_sub, q64_mul, q32_64i, q64_32, q32_lt_t, q32_lt_f, q32_le_t, q32_le_f, q32_eq_t, q32_eq_f, q64_lt_t, q64_lt_f, q64_le_t, q64_le_f, q64_eq_t, q64_eq_f, rdI_i, rdL_i, rdR_i, rdN_i, stI_i, stL_i, stR_i, wI_s, wI_n, wL_s, wL_n, wI_2, wI_3, wL_1, wL_3, wR_1, wR_2, Int.toNat_natCast, tnO, tn_add, tn_sub, tn_mul, Nat.add_sub_cancel, Nat.add_zero, Nat.zero_add, lnO, win_t, win_f, h1, u1, dg, en]
  · rw [show (if isDg (T p) then q32 1 else q32 0) = q32 0 from if_neg c] at dg
    rw [show (if isDg (T p) then (if 3 < e - p then (0 : Int) else 2) else if isLt (T p) then wkT T p (e - p) else if isSg (T p) then T p else 0) = (if isLt (T p) then wkT T p (e - p) else if isSg (T p) then T p else 0) from if_neg c]
    by_cases cl : isLt (T p)
    · rw [show (if isLt (T p) then q32 1 else q32 0) = q32 1 from if_pos cl] at lt
      rw [show (if isLt (T p) then wkT T p (e - p) else if isSg (T p) then T p else 0) = wkT T p (e - p) from if_pos cl]
      simp (disch := omega) only [Option.bind_some, bindv, bindv0, bind2_s, bind3_s, ↓reduceIte, Bool.false_eq_true, rZM_0, rZM_1, rZP_0, rZP_1, ptZ_0, ptZ_1, c32i, c64i, ncI, Int.natCast_add, Int.natCast_mul, q32_neg, q64_neg, q32_add, q32_sub, q32_mul, q64_add, q64_sub, q64_mul, q32_64i, q64_32, q32_lt_t, q32_lt_f, q32_le_t, q32_le_f, q32_eq_t, q32_eq_f, q64_lt_t, q64_lt_f, q64_le_t, q64_le_f, q64_eq_t, q64_eq_f, rdI_i, rdL_i, rdR_i, rdN_i, stI_i, stL_i, stR_i, wI_s, wI_n, wL_s, wL_n, wI_2, wI_3, wL_1, wL_3, wR_1, wR_2, Int.toNat_natCast, tnO, tn_add, tn_sub, tn_mul, Nat.add_sub_cancel, Nat.add_zero, Nat.zero_add, lnO, win_t, win_f, h1, u1, dg, lt, en, wk]
    · rw [show (if isLt (T p) then q32 1 else q32 0) = q32 0 from if_neg cl] at lt
      rw [show (if isLt (T p) then wkT T p (e - p) else if isSg (T p) then T p else 0) = (if isSg (T p) then T p else 0) from if_neg cl]
      by_cases cs : isSg (T p)
      · rw [show (if isSg (T p) then q32 1 else q32 0) = q32 1 from if_pos cs] at sg
        rw [show (if isSg (T p) then T p else 0) = T p from if_pos cs]
        simp (disch := omega) only [Option.bind_some, bindv, bindv0, bind2_s, bind3_s, ↓reduceIte, Bool.false_eq_true, rZM_0, rZM_1, rZP_0, rZP_1, ptZ_0, ptZ_1, c32i, c64i, ncI, Int.natCast_add, Int.natCast_mul, q32_neg, q64_neg, q32_add, q32_sub, q32_mul, q64_add, q64_sub, q64_mul, q32_64i, q64_32, q32_lt_t, q32_lt_f, q32_le_t, q32_le_f, q32_eq_t, q32_eq_f, q64_lt_t, q64_lt_f, q64_le_t, q64_le_f, q64_eq_t, q64_eq_f, rdI_i, rdL_i, rdR_i, rdN_i, stI_i, stL_i, stR_i, wI_s, wI_n, wL_s, wL_n, wI_2, wI_3, wL_1, wL_3, wR_1, wR_2, Int.toNat_natCast, tnO, tn_add, tn_sub, tn_mul, Nat.add_sub_cancel, Nat.add_zero, Nat.zero_add, lnO, win_t, win_f, h1, u1, dg, lt, sg]
      · rw [show (if isSg (T p) then q32 1 else q32 0) = q32 0 from if_neg cs] at sg
        rw [show (if isSg (T p) then T p else 0) = 0 from if_neg cs]
        simp (disch := omega) only [Option.bind_some, bindv, bindv0, bind2_s, bind3_s, ↓reduceIte, Bool.false_eq_true, rZM_0, rZM_1, rZP_0, rZP_1, ptZ_0, ptZ_1, c32i, c64i, ncI, Int.natCast_add, Int.natCast_mul, q32_neg, q64_neg, q32_add, q32_sub, q32_mul, q64_add, q64_sub, q64_mul, q32_64i, q64_32, q32_lt_t, q32_lt_f, q32_le_t, q32_le_f, q32_eq_t, q32_eq_f, q64_lt_t, q64_lt_f, q64_le_t, q64_le_f, q64_eq_t, q64_eq_f, rdI_i, rdL_i, rdR_i, rdN_i, stI_i, stL_i, stR_i, wI_s, wI_n, wL_s, wL_n, wI_2, wI_3, wL_1, wL_3, wR_1, wR_2, Int.toNat_natCast, tnO, tn_add, tn_sub, tn_mul, Nat.add_sub_cancel, Nat.add_zero, Nat.zero_add, lnO, win_t, win_f, h1, u1, dg, lt, sg]
theorem amL9 {F : Nat} {s : List Sh} {m : Mem} {tk N : Nat} {T : Nat → Int} (h : TXC s m tk N T) {e : Nat} (he : e ≤ N) : ∀ n p fuel a, p + n = e → n < fuel → nl_X6_amountOf_5 F s m fuel tk (q32 (e : Nat)) (q32 a) (q32 (p : Nat)) = some (q32 (AMT T n p a)) := by
  obtain ⟨h1, h2, h3, h4, h5⟩ := h
  intro n
  induction n with
  | zero =>
    intro p fuel a hp hfu
    obtain ⟨fuel, rfl⟩ : ∃ f, fuel = f + 1 := ⟨fuel - 1, by omega⟩
    show nb_X6_amountOf_5 F s (nl_X6_amountOf_5 F s m fuel) m tk _ _ _ = some (q32 a)
    unfold nb_X6_amountOf_5
    simp (disch := omega) only [Option.bind_some, bindv, bindv0, bind2_s, bind3_s, ↓reduceIte, Bool.false_eq_true, rZM_0, rZM_1, rZP_0, rZP_1, ptZ_0, ptZ_1, c32i, c64i, ncI, Int.natCast_add, Int.natCast_mul, q32_neg, q64_neg, q32_add, q32_sub, q32_mul, q64_add, q64_sub, q64_mul, q32_64i, q64_32, q32_lt_t, q32_lt_f, q32_le_t, q32_le_f, q32_eq_t, q32_eq_f, q64_lt_t, q64_lt_f, q64_le_t, q64_le_f, q64_eq_t, q64_eq_f, rdI_i, rdL_i, rdR_i, rdN_i, stI_i, stL_i, stR_i, wI_s, wI_n, wL_s, wL_n, wI_2, wI_3, wL_1, wL_3, wR_1, wR_2, Int.toNat_natCast, tnO, tn_add, tn_sub, tn_mul, Nat.add_sub_cancel, Nat.add_zero, Nat.zero_add, lnO, win_t, win_f]
  | succ n ih =>
    intro p fuel a hp hfu
    obtain ⟨fuel, rfl⟩ : ∃ f, fuel = f + 1 := ⟨fuel - 1, by omega⟩
    obtain ⟨u1, u2⟩ := h5 p (by omega)
    have ih := ih (p + 1) fuel (a * 10 + T p - 48) (by omega) (by omega)
    rw [Int.natCast_add p] at ih
    show nb_X6_amountOf_5 F s (nl_X6_amountOf_5 F s m fuel) m tk _ _ _ = some (q32 (AMT T n (p + 1) (a * 10 + T p - 48)))
    rw [← ih]
    unfold nb_X6_amountOf_5
    simp (disch := omega) only [Option.bind_some, bindv, bindv0, bind2_s, bind3_s, ↓reduceIte, Bool.false_eq_true, rZM_0, rZM_1, rZP_0, rZP_1, ptZ_0, ptZ_1, c32i, c64i, ncI, Int.natCast_add, Int.natCast_mul, q32_neg, q64_neg, q32_add, q32_sub, q32_mul, q64_add, q64_sub, q64_mul, q32_64i, q64_32, q32_lt_t, q32_lt_f, q32_le_t, q32_le_f, q32_eq_t, q32_eq_f, q64_lt_t, q64_lt_f, q64_le_t, q64_le_f, q64_eq_t, q64_eq_f, rdI_i, rdL_i, rdR_i, rdN_i, stI_i, stL_i, stR_i, wI_s, wI_n, wL_s, wL_n, wI_2, wI_3, wL_1, wL_3, wR_1, wR_2, Int.toNat_natCast, tnO, tn_add, tn_sub, tn_mul, Nat.add_sub_cancel, Nat.add_zero, Nat.zero_add, lnO, win_t, win_f, h1, u1]
    first | done | rfl
theorem am9 {F : Nat} (hF : 20000 ≤ F) {s : List Sh} {m : Mem} {tk N p : Nat} {T : Nat → Int} (h : TXC s m tk N T) (hp : p < N) : n_X6_amountOf F s m tk (q32 p) (q32 (endT T N p : Nat)) = some (q32 (AMT T (endT T N p - p) p 0)) := by
  have eb := endT_b (T := T) hp
  have h3 := h.2.2.1
  exact amL9 h eb.2 (endT T N p - p) p F 0 (by omega) (by omega)
