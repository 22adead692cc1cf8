/-- the searcher's surroundings -/
def RC (s : List Sh) (m : Mem) (ow : Nat → Nat) (nw q : Nat) (al : Nat → Int32) (bc : Nat) : Prop := ST s m ow nw ∧ m.2.2 0 16 = some q ∧ m.2.2 q 5 = some nw ∧ m.1 24 = al ∧ m.1 nw 6 = q32 bc ∧ bc ≤ 6
theorem RC.k {s : List Sh} {m m' : Mem} {ow : Nat → Nat} {nw q : Nat} {al : Nat → Int32} {bc : Nat} (h : RC s m ow nw q al bc) (e : KCQ q m m') : RC s m' ow nw q al bc := by
  obtain ⟨h1, h2, h3, h4, h5, h6⟩ := h
  have hb := h1.1.2.2.2.1
  have ho := h1.1.2.2.2.2.1
  obtain ⟨qb, qo⟩ := h1.1.2.2.2.2.2.2.1 q h2
  have hne : nw ≠ q := ok_ne hb.2.1 qb.2.1 (by omega) (by omega) (by omega)
  have nq : ¬ (q ≤ nw ∧ nw < q + 10) := fun hc => by
    have := ow_out ho qo hne (show 0 < 10 by omega) (show nw - q < 10 by omega)
    omega
  have q53 := qb.1
  have hn := hb.1
  refine ⟨h1.kc h2 e, by rw [e.2.2]; exact h2, by rw [e.2.2]; exact h3, ?_, by rw [e.1 nw 6 (by omega) nq]; exact h5, h6⟩
  rw [show m'.1 24 = m.1 24 from funext fun k => e.1 24 k (by omega) (by omega)]
  exact h4
theorem RC.qb {s : List Sh} {m : Mem} {ow : Nat → Nat} {nw q : Nat} {al : Nat → Int32} {bc : Nat} (h : RC s m ow nw q al bc) : QB s m q := (h.1.1.2.2.2.2.2.2.1 q h.2.1).1
theorem RC.wa {s : List Sh} {m : Mem} {ow : Nat → Nat} {nw q : Nat} {al : Nat → Int32} {bc : Nat} (h : RC s m ow nw q al bc) : WA al := by
  have := h.1.2.1.wa
  rw [h.2.2.2.1] at this
  exact this
theorem rlead {F : Nat} (hF : 20000 ≤ F) {s : List Sh} {m : Mem} {ow : Nat → Nat} {nw q : Nat} {al : Nat → Int32} {bc : Nat} (h : RC s m ow nw q al bc) {L : List FR} {C : Nat → Int} (hL : LG m q L C) {x : FR} (hx : FLR (A al 1) x.1 x.2) {b : Int} (hb : B31 b) : ∃ m', n_X4_lead F s m 16 nw (q32 b) (q64 x.1) (q64 x.2) = some (q32 (LE al b x).1, m') ∧ KCQ q m m' ∧ RC s m' ow nw q al bc ∧ LG m' q L C ∧ ((LE al b x).1 = 0 → m'.1 16 0 = q32 (LE al b x).2.1 ∧ m'.1 16 1 = q32 (LE al b x).2.2 ∧ FLR (A al 1) (LE al b x).2.1 (LE al b x).2.2) := by
  have hr := h.1.2.1
  rw [h.2.2.2.1] at hr
  obtain ⟨m', e1, e2, e3⟩ := lead9 (F := F) (by omega) h.1.1 hr (x := x) hx.ok hb
  have q53 := h.qb.1
  exact ⟨m', e1, e2.kc, h.k e2.kc, hL.k (fun a k h1 h2 => e2.1 a k (by omega)), e3⟩
theorem rfind {F : Nat} (hF : 20000 ≤ F) {s : List Sh} {m : Mem} {q : Nat} {tp : Int} {B R : List FR} {C : Nat → Int} (hq : QB s m q) (hL : LG m q (B ++ R) C) (hf : FLS tp (B ++ R)) {y : FR} (hy : FLR tp y.1 y.2) : (y ∈ R → ∃ r : Int, 0 ≤ r ∧ r ≤ 9331 ∧ n_X1_find F s m (q + 1) (q32 y.1) (q32 y.2) (q32 B.length) (q32 (B ++ R).length) = some (q32 r)) ∧ (¬ y ∈ R → n_X1_find F s m (q + 1) (q32 y.1) (q32 y.2) (q32 B.length) (q32 (B ++ R).length) = some (q32 (-1))) := by
  have hlen : (B ++ R).length = B.length + R.length := List.length_append
  have h1 := hL.1
  obtain ⟨r, i1, i2⟩ := find9 hF hq hL hf hy (b := B.length) (e := (B ++ R).length) (by omega) (Nat.le_refl _)
  refine ⟨fun hm => ?_, fun hm => ?_⟩
  · obtain ⟨i, j1, j2⟩ := mem_gt hm
    rcases i2 with ⟨-, i3⟩ | ⟨j, rfl, p1, p2, p3⟩
    · exact absurd (by rw [gt_r]; exact j2) (i3 (B.length + i) (by omega) (by omega))
    · exact ⟨j, by omega, by omega, i1⟩
  · rcases i2 with ⟨rfl, -⟩ | ⟨j, rfl, p1, p2, p3⟩
    · exact i1
    · refine absurd ?_ hm
      have : gt (B ++ R) (B.length + (j - B.length)) = gt R (j - B.length) := gt_r
      rw [show B.length + (j - B.length) = j by omega, p3] at this
      rw [this]
      exact gt_mem (by omega)
theorem sprI9 {F : Nat} (hF : 20000 ≤ F) {s : List Sh} {ow : Nat → Nat} {nw q : Nat} {al : Nat → Int32} {bc : Nat} {B : List FR} {i en : Nat} (hi : i < B.length) (hen : en ≤ 9331) (ns : Mem → Nat → Int32 → Int32 → Int32 → Option (Unit × Mem)) : ∀ n fuel b, b + n = bc → n < fuel → ∀ (m : Mem) (R : List FR) (C : Nat → Int), RC s m ow nw q al bc → LG m q (B ++ R) C → FLS (A al 1) (B ++ R) → B.length + R.length + n ≤ 9331 → ∃ m' C', nl_X5_spread_12 F s ns fuel m q (q32 en) (q32 B.length) (q32 i) (q32 (b : Nat)) = ns m' q (q32 en) (q32 B.length) (q32 (i + 1)) ∧ KCQ q m m' ∧ LG m' q (B ++ SPB al (gt B i) n b R) C' ∧ FLS (A al 1) (B ++ SPB al (gt B i) n b R) := by
  intro n
  induction n with
  | zero =>
    intro fuel b hb hfu m R C hc hL hf hlen
    obtain ⟨fuel, rfl⟩ : ∃ f, fuel = f + 1 := ⟨fuel - 1, by omega⟩
    refine ⟨m, C, ?_, KCQ.rf m, hL, hf⟩
    have h5 := hc.2.2.1
    have h6 := hc.2.2.2.2.1
    have h7 := hc.2.2.2.2.2
    have hL1 := hL.1
    have hl : (B ++ R).length = B.length + R.length := List.length_append
    show nb_X5_spread_12 F s ns (nl_X5_spread_12 F s ns fuel) m q _ _ _ _ = _
    unfold nb_X5_spread_12
    simp (disch := omega) only [Option.bind_some, bindv, bindv0, bind2_s, bind3_s, ↓reduceIte, Bool.false_eq_true, rZM_0, rZM_1, rZP_0, rZP_1, ptZ_0, ptZ_1, c32i, c64i, ncI, Int.natCast_add, Int.natCast_mul, q32_neg, q64_neg, q32_add, q32_sub, q32_mul, q64_add, q64_sub, q64_mul, q32_64i, q64_32, q32_lt_t, q32_lt_f, q32_le_t, q32_le_f, q32_eq_t, q32_eq_f, q64_lt_t, q64_lt_f, q64_le_t, q64_le_f, q64_eq_t, q64_eq_f, rdI_i, rdL_i, rdR_i, rdN_i, stI_i, stL_i, stR_i, wI_s, wI_n, wL_s, wL_n, wI_2, wI_3, wL_1, wL_3, wR_1, wR_2, Int.toNat_natCast, tnO, tn_add, tn_sub, tn_mul, Nat.add_sub_cancel, Nat.add_zero, Nat.zero_add, lnO, win_t, win_f, h5, h6]
  | succ n ih =>
    intro fuel b hb hfu m R C hc hL hf hlen
    obtain ⟨fuel, rfl⟩ : ∃ f, fuel = f + 1 := ⟨fuel - 1, by omega⟩
    have hl : (B ++ R).length = B.length + R.length := List.length_append
    have h5 := hc.2.2.1
    have h6 := hc.2.2.2.2.1
    have h7 := hc.2.2.2.2.2
    have qb := hc.qb
    obtain ⟨q1, q2, q3, q4, q5, q6, q7, q8, q9, q10, q11, q12, q13, l2, l3, l4, l5, l6, l7, l8, l9⟩ := qb
    have hx := hf.at (i := i) (by omega)
    rw [gt_l hi] at hx
    have xb := hx.b
    obtain ⟨u1, u2, -⟩ := hL.2.2.1 i (by omega)
    rw [gt_l hi] at u1 u2
    obtain ⟨m1, e1, e2, e3, e4, e5⟩ := rlead hF hc hL hx (b := (b : Int)) (by omega)
    have q0 : m1.2.2 q 0 = some (q + 1) := by rw [e2.2.2]; exact q4
    have q40 : m1.2.2 q 4 = some 16 := by rw [e2.2.2]; exact q7
    have sz := e4.2.1
    have le := LE_b al b (gt B i)
    show ∃ m' C', nb_X5_spread_12 F s ns (nl_X5_spread_12 F s ns fuel) m q _ _ _ _ = _ ∧ _
    unfold nb_X5_spread_12 nb_X5_spread_124 SPB SP1
    by_cases c0 : (LE al b (gt B i)).1 = 0
    · rw [if_pos c0]
      rw [c0] at e1
      obtain ⟨a0, a1, ay⟩ := e5 c0
      have yb := ay.b
      obtain ⟨f1, f2⟩ := rfind hF e3.qb e4 hf ay
      unfold AD
      by_cases cm : (LE al b (gt B i)).2 ∈ R
      · rw [if_pos cm]
        obtain ⟨r, r1, r2, r3⟩ := f1 cm
        obtain ⟨m2, C2, i1, i2, i3, i4⟩ := ih fuel (b + 1) (by omega) (by omega) m1 R C e3 e4 hf (by omega)
        rw [Int.natCast_add] at i1
        refine ⟨m2, C2, ?_, e2.tr i2, i3, i4⟩
        rw [← i1]
        simp (disch := omega) only [Option.bind_some, bindv, bindv0, bind2_s, bind3_s, ↓reduceIte, Bool.false_eq_true, rZM_0, rZM_1, rZP_0, rZP_1, ptZ_0, ptZ_1, c32i, c64i, ncI, Int.natCast_add, Int.natCast_mul, q32_neg, q64_neg, q32_add, q32_sub, q32_mul, q64_add, q64_sub, q64_mul, q32_64i, q64_32, q32_lt_t, q32_lt_f, q32_le_t, q32_le_f, q32_eq_t, q32_eq_f, q64_lt_t, q64_lt_f, q64_le_t, q64_le_f, q64_eq_t, q64_eq_f, rdI_i, rdL_i, rdR_i, rdN_i, stI_i, stL_i, stR_i, wI_s, wI_n, wL_s, wL_n, wI_2, wI_3, wL_1, wL_3, wR_1, wR_2, Int.toNat_natCast, tnO, tn_add, tn_sub, tn_mul, Nat.add_sub_cancel, Nat.add_zero, Nat.zero_add, lnO, win_t, win_f, h5, h6, q7, q4, q8, q9, u1, u2, e1, q0, q40, a0, a1, sz, r3]
        first | done | rfl
      · rw [if_neg cm]
        have r3 := f2 cm
        obtain ⟨m2, p1, p2, p3, p4⟩ := putQ9 e3.qb e4 (LE al b (gt B i)).2 (by omega) ((i : Int) * 6 + b)
        have k2 : KCQ q m1 m2 := ⟨fun a k _ hk => p4 a k (by omega), fun a k _ _ _ => by rw [p3], by rw [p3]⟩
        rw [List.append_assoc] at p2
        obtain ⟨m3, C3, i1, i2, i3, i4⟩ := ih fuel (b + 1) (by omega) (by omega) m2 (R ++ [(LE al b (gt B i)).2]) _ (e3.k k2) p2 (by rw [← List.append_assoc]; exact hf.ap (FLS.one ay)) (by rw [List.length_append, List.length_singleton]; omega)
        rw [Int.natCast_add] at i1
        refine ⟨m3, C3, ?_, (e2.tr k2).tr i2, i3, i4⟩
        rw [← i1]
        simp (disch := omega) only [Option.bind_some, bindv, bindv0, bind2_s, bind3_s, ↓reduceIte, Bool.false_eq_true, rZM_0, rZM_1, rZP_0, rZP_1, ptZ_0, ptZ_1, c32i, c64i, ncI, Int.natCast_add, Int.natCast_mul, q32_neg, q64_neg, q32_add, q32_sub, q32_mul, q64_add, q64_sub, q64_mul, q32_64i, q64_32, q32_lt_t, q32_lt_f, q32_le_t, q32_le_f, q32_eq_t, q32_eq_f, q64_lt_t, q64_lt_f, q64_le_t, q64_le_f, q64_eq_t, q64_eq_f, rdI_i, rdL_i, rdR_i, rdN_i, stI_i, stL_i, stR_i, wI_s, wI_n, wL_s, wL_n, wI_2, wI_3, wL_1, wL_3, wR_1, wR_2, Int.toNat_natCast, tnO, tn_add, tn_sub, tn_mul, Nat.add_sub_cancel, Nat.add_zero, Nat.zero_add, lnO, win_t, win_f, h5, h6, q7, q4, q8, q9, u1, u2, e1, q0, q40, a0, a1, sz, r3, p1]
        first | done | rfl
    · rw [if_neg c0]
      obtain ⟨m2, C2, i1, i2, i3, i4⟩ := ih fuel (b + 1) (by omega) (by omega) m1 R C e3 e4 hf (by omega)
      rw [Int.natCast_add] at i1
      refine ⟨m2, C2, ?_, e2.tr i2, i3, i4⟩
      rw [← i1]
      simp (disch := omega) only [Option.bind_some, bindv, bindv0, bind2_s, bind3_s, ↓reduceIte, Bool.false_eq_true, rZM_0, rZM_1, rZP_0, rZP_1, ptZ_0, ptZ_1, c32i, c64i, ncI, Int.natCast_add, Int.natCast_mul, q32_neg, q64_neg, q32_add, q32_sub, q32_mul, q64_add, q64_sub, q64_mul, q32_64i, q64_32, q32_lt_t, q32_lt_f, q32_le_t, q32_le_f, q32_eq_t, q32_eq_f, q64_lt_t, q64_lt_f, q64_le_t, q64_le_f, q64_eq_t, q64_eq_f, rdI_i, rdL_i, rdR_i, rdN_i, stI_i, stL_i, stR_i, wI_s, wI_n, wL_s, wL_n, wI_2, wI_3, wL_1, wL_3, wR_1, wR_2, Int.toNat_natCast, tnO, tn_add, tn_sub, tn_mul, Nat.add_sub_cancel, Nat.add_zero, Nat.zero_add, lnO, win_t, win_f, h5, h6, q7, q4, q8, q9, u1, u2, e1]
      first | done | rfl
theorem sprO9 {F : Nat} (hF : 20000 ≤ F) {s : List Sh} {ow : Nat → Nat} {nw q : Nat} {al : Nat → Int32} {bc : Nat} {B : List FR} {en : Nat} (hen : en ≤ B.length) (hB : B.length ≤ 9331) : ∀ (P : List FR) fuel i, i + P.length = en → P.length < fuel → (∀ j, j < P.length → gt B (i + j) = gt P j) → ∀ (m : Mem) (R : List FR) (C : Nat → Int), RC s m ow nw q al bc → LG m q (B ++ R) C → FLS (A al 1) (B ++ R) → B.length + R.length + 6 * P.length ≤ 9331 → ∃ m' C', nl_X5_spread_3 F s fuel m q (q32 en) (q32 B.length) (q32 (i : Nat)) = some ((), m') ∧ KCQ q m m' ∧ LG m' q (B ++ SPR al bc P R) C' ∧ FLS (A al 1) (B ++ SPR al bc P R) := by
  intro P
  induction P with
  | nil =>
    intro fuel i hi hfu hP m R C hc hL hf hlen
    obtain ⟨fuel, rfl⟩ : ∃ f, fuel = f + 1 := ⟨fuel - 1, by omega⟩
    have hi' : i = en := hi
    refine ⟨m, C, ?_, KCQ.rf m, hL, hf⟩
    show nb_X5_spread_3 F s (nl_X5_spread_3 F s fuel) m q _ _ _ = _
    unfold nb_X5_spread_3
    simp (disch := omega) only [Option.bind_some, bindv, bindv0, bind2_s, bind3_s, ↓reduceIte, Bool.false_eq_true, rZM_0, rZM_1, rZP_0, rZP_1, ptZ_0, ptZ_1, c32i, c64i, ncI, Int.natCast_add, Int.natCast_mul, q32_neg, q64_neg, q32_add, q32_sub, q32_mul, q64_add, q64_sub, q64_mul, q32_64i, q64_32, q32_lt_t, q32_lt_f, q32_le_t, q32_le_f, q32_eq_t, q32_eq_f, q64_lt_t, q64_lt_f, q64_le_t, q64_le_f, q64_eq_t, q64_eq_f, rdI_i, rdL_i, rdR_i, rdN_i, stI_i, stL_i, stR_i, wI_s, wI_n, wL_s, wL_n, wI_2, wI_3, wL_1, wL_3, wR_1, wR_2, Int.toNat_natCast, tnO, tn_add, tn_sub, tn_mul, Nat.add_sub_cancel, Nat.add_zero, Nat.zero_add, lnO, win_t, win_f]
  | cons x P ih =>
    intro fuel i hi hfu hP m R C hc hL hf hlen
    rw [List.length_cons] at hi hfu hlen
    obtain ⟨fuel, rfl⟩ : ∃ f, fuel = f + 1 := ⟨fuel - 1, by omega⟩
    have h7 := hc.2.2.2.2.2
    obtain ⟨m1, C1, i1, i2, i3, i4⟩ := sprI9 hF (al := al) (i := i) (en := en) (B := B) (by omega) (by omega) (nl_X5_spread_3 F s fuel) bc F 0 (by omega) (by omega) m R C hc hL hf (by omega)
    have hx : gt B i = x := by
      have := hP 0 (by rw [List.length_cons]; omega)
      rw [Nat.add_zero] at this
      exact this
    rw [hx] at i3 i4
    have sl := SPB_len al x bc 0 R
    obtain ⟨m2, C2, j1, j2, j3, j4⟩ := ih fuel (i + 1) (by omega) (by omega) (fun j hj => by
      have := hP (j + 1) (by rw [List.length_cons]; omega)
      rw [show i + 1 + j = i + (j + 1) by omega]
      exact this) m1 _ C1 (hc.k i2) i3 i4 (by omega)
    rw [Int.natCast_add] at j1
    refine ⟨m2, C2, ?_, i2.tr j2, j3, j4⟩
    rw [← j1]
    show nb_X5_spread_3 F s (nl_X5_spread_3 F s fuel) m q _ _ _ = _
    unfold nb_X5_spread_3
    have i1' : nl_X5_spread_12 F s (nl_X5_spread_3 F s fuel) F m q (q32 en) (q32 B.length) (q32 i) (q32 0) = _ := i1
    simp (disch := omega) only [Option.bind_some, bindv, bindv0, bind2_s, bind3_s, ↓reduceIte, Bool.false_eq_true, rZM_0, rZM_1, rZP_0, rZP_1, ptZ_0, ptZ_1, c32i, c64i, ncI, Int.natCast_add, Int.natCast_mul, q32_neg, q64_neg, q32_add, q32_sub, q32_mul, q64_add, q64_sub, q64_mul, q32_64i, q64_32, q32_lt_t, q32_lt_f, q32_le_t, q32_le_f, q32_eq_t, q32_eq_f, q64_lt_t, q64_lt_f, q64_le_t, q64_le_f, q64_eq_t, q64_eq_f, rdI_i, rdL_i, rdR_i, rdN_i, stI_i, stL_i, stR_i, wI_s, wI_n, wL_s, wL_n, wI_2, wI_3, wL_1, wL_3, wR_1, wR_2, Int.toNat_natCast, tnO, tn_add, tn_sub, tn_mul, Nat.add_sub_cancel, Nat.add_zero, Nat.zero_add, lnO, win_t, win_f, i1']
    first | done | rfl
theorem spread9 {F : Nat} (hF : 20000 ≤ F) {s : List Sh} {ow : Nat → Nat} {nw q : Nat} {al : Nat → Int32} {bc : Nat} {B P R : List FR} {bg en : Nat} (hen : en ≤ B.length) (hbg : bg + P.length = en) (hP : ∀ j, j < P.length → gt B (bg + j) = gt P j) {m : Mem} {C : Nat → Int} (hc : RC s m ow nw q al bc) (hL : LG m q (B ++ R) C) (hf : FLS (A al 1) (B ++ R)) (hlen : B.length + R.length + 6 * P.length ≤ 9331) : ∃ m' C', n_X5_spread F s m q (q32 bg) (q32 en) (q32 B.length) = some ((), m') ∧ KCQ q m m' ∧ LG m' q (B ++ SPR al bc P R) C' ∧ FLS (A al 1) (B ++ SPR al bc P R) :=
  sprO9 hF hen (by omega) P F bg hbg (by omega) hP m R C hc hL hf hlen
def LY (al : Nat → Int32) (bc : Nat) (x : FR) : Nat → List FR
  | 0 => [x]
  | k + 1 => SPR al bc (LY al bc x k) []
def SZ : Nat → Nat
  | 0 => 1
  | k + 1 => SZ k + 6 ^ (k + 1)
theorem LY_len (al : Nat → Int32) {bc : Nat} (hbc : bc ≤ 6) (x : FR) : ∀ k, (LY al bc x k).length ≤ 6 ^ k := by
  intro k
  induction k with
  | zero => exact Nat.le_refl _
  | succ k ih =>
    have := SPR_len al hbc (LY al bc x k) []
    have e : ([] : List FR).length = 0 := rfl
    show (SPR al bc (LY al bc x k) []).length ≤ _
    rw [Nat.pow_succ]
    omega
theorem SZ_le : ∀ k, k ≤ 5 → SZ k ≤ 9331 := by decide
theorem layL9 {F : Nat} (hF : 20000 ≤ F) {s : List Sh} {ow : Nat → Nat} {nw q : Nat} {al : Nat → Int32} {bc : Nat} {x : FR} {n : Nat} (hn : n ≤ 5) : ∀ j k fuel, k + j = n → j < fuel → ∀ (m : Mem) (B : List FR) (C : Nat → Int), RC s m ow nw q al bc → LG m q (B ++ LY al bc x k) C → FLS (A al 1) (B ++ LY al bc x k) → B.length + (LY al bc x k).length ≤ SZ k → ∃ m' B' C', nl_X5_layFloors_4 F s fuel m q (q32 n) (q32 B.length) (q32 ((k : Nat) + 1)) = some (q32 B'.length, m') ∧ KCQ q m m' ∧ LG m' q (B' ++ LY al bc x n) C' ∧ FLS (A al 1) (B' ++ LY al bc x n) := by
  intro j
  induction j with
  | zero =>
    intro k fuel hk hfu m B C hc hL hf hlen
    obtain ⟨fuel, rfl⟩ : ∃ f, fuel = f + 1 := ⟨fuel - 1, by omega⟩
    have hk' : k = n := by omega
    subst hk'
    refine ⟨m, B, C, ?_, KCQ.rf m, hL, hf⟩
    show nb_X5_layFloors_4 F s (nl_X5_layFloors_4 F s fuel) m q _ _ _ = _
    unfold nb_X5_layFloors_4
    simp (disch := omega) only [Option.bind_some, bindv, bindv0, bind2_s, bind3_s, ↓reduceIte, Bool.false_eq_true, rZM_0, rZM_1, rZP_0, rZP_1, ptZ_0, ptZ_1, c32i, c64i, ncI, Int.natCast_add, Int.natCast_mul, q32_neg, q64_neg, q32_add, q32_sub, q32_mul, q64_add, q64_sub, q64_mul, q32_64i, q64_32, q32_lt_t, q32_lt_f, q32_le_t, q32_le_f, q32_eq_t, q32_eq_f, q64_lt_t, q64_lt_f, q64_le_t, q64_le_f, q64_eq_t, q64_eq_f, rdI_i, rdL_i, rdR_i, rdN_i, stI_i, stL_i, stR_i, wI_s, wI_n, wL_s, wL_n, wI_2, wI_3, wL_1, wL_3, wR_1, wR_2, Int.toNat_natCast, tnO, tn_add, tn_sub, tn_mul, Nat.add_sub_cancel, Nat.add_zero, Nat.zero_add, lnO, win_t, win_f]
  | succ j ih =>
    intro k fuel hk hfu m B C hc hL hf hlen
    obtain ⟨fuel, rfl⟩ : ∃ f, fuel = f + 1 := ⟨fuel - 1, by omega⟩
    have h7 := hc.2.2.2.2.2
    have hl : (B ++ LY al bc x k).length = B.length + (LY al bc x k).length := List.length_append
    have s5 := SZ_le (k + 1) (by omega)
    have lk := LY_len al h7 x k
    have e6 : 6 ^ (k + 1) = 6 ^ k * 6 := Nat.pow_succ ..
    have eS : SZ (k + 1) = SZ k + 6 ^ (k + 1) := rfl
    have q0 := hc.qb.2.2.2.1
    have sz := hL.2.1
    obtain ⟨m1, C1, i1, i2, i3, i4⟩ := spread9 hF (B := B ++ LY al bc x k) (P := LY al bc x k) (R := []) (bg := B.length) (en := (B ++ LY al bc x k).length) (Nat.le_refl _) hl.symm (fun j hj => gt_r) hc (C := C) (by rw [List.append_nil]; exact hL) (by rw [List.append_nil]; exact hf) (by show _ + 0 + _ ≤ _; omega)
    have lk1 := SPR_len al h7 (LY al bc x k) []
    obtain ⟨m2, B2, C2, j1, j2, j3, j4⟩ := ih (k + 1) fuel (by omega) (by omega) m1 (B ++ LY al bc x k) C1 (hc.k i2) i3 i4 (by
      show _ + (SPR al bc (LY al bc x k) []).length ≤ _
      have e : ([] : List FR).length = 0 := rfl
      omega)
    refine ⟨m2, B2, C2, ?_, i2.tr j2, j3, j4⟩
    rw [← j1]
    show nb_X5_layFloors_4 F s (nl_X5_layFloors_4 F s fuel) m q _ _ _ = _
    unfold nb_X5_layFloors_4
    simp (disch := omega) only [Option.bind_some, bindv, bindv0, bind2_s, bind3_s, ↓reduceIte, Bool.false_eq_true, rZM_0, rZM_1, rZP_0, rZP_1, ptZ_0, ptZ_1, c32i, c64i, ncI, Int.natCast_add, Int.natCast_mul, q32_neg, q64_neg, q32_add, q32_sub, q32_mul, q64_add, q64_sub, q64_mul, q32_64i, q64_32, q32_lt_t, q32_lt_f, q32_le_t, q32_le_f, q32_eq_t, q32_eq_f, q64_lt_t, q64_lt_f, q64_le_t, q64_le_f, q64_eq_t, q64_eq_f, rdI_i, rdL_i, rdR_i, rdN_i, stI_i, stL_i, stR_i, wI_s, wI_n, wL_s, wL_n, wI_2, wI_3, wL_1, wL_3, wR_1, wR_2, Int.toNat_natCast, tnO, tn_add, tn_sub, tn_mul, Nat.add_sub_cancel, Nat.add_zero, Nat.zero_add, lnO, win_t, win_f, q0, sz, i1]
    first | done | rfl
theorem layF9 {F : Nat} (hF : 20000 ≤ F) {s : List Sh} {ow : Nat → Nat} {nw q : Nat} {al : Nat → Int32} {bc : Nat} {x : FR} {n : Nat} (hn : n ≤ 5) {m : Mem} {C : Nat → Int} (hc : RC s m ow nw q al bc) (hL : LG m q [x] C) (hx : FLR (A al 1) x.1 x.2) : ∃ m' B' C', n_X5_layFloors F s m q (q32 n) = some (q32 B'.length, m') ∧ KCQ q m m' ∧ LG m' q (B' ++ LY al bc x n) C' ∧ FLS (A al 1) (B' ++ LY al bc x n) :=
  layL9 hF hn n 0 F (by omega) (by omega) m [] C hc hL (FLS.one hx) (by show 0 + 1 ≤ 1; omega)
