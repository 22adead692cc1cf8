/-! the fewest buttons to a floor -/
def updI (I : Nat → Int) (k : Nat) (v : Int) : Nat → Int := fun i => if i = k then v else I i
theorem updI_s (I : Nat → Int) (k : Nat) (v : Int) : updI I k v k = v := if_pos rfl
theorem updI_n {I : Nat → Int} {k i : Nat} {v : Int} (h : i ≠ k) : updI I k v i = I i := if_neg h
abbrev BST : Type := List FR × (Nat → Int) × (Nat → Int)
def BF1 (al : Nat → Int32) (i b : Nat) (S : BST) : BST := if (LE al b (gt S.1 i)).1 = 0 ∧ S.1.length ≤ 2000 ∧ ¬ (LE al b (gt S.1 i)).2 ∈ S.1 then (S.1 ++ [(LE al b (gt S.1 i)).2], updI S.2.1 S.1.length i, updI S.2.2 S.1.length b) else S
def BFI (al : Nat → Int32) (t : FR) (i : Nat) : Nat → Nat → BST → Option Nat × BST
  | 0, _, S => (none, S)
  | n + 1, b, S => if (LE al b (gt S.1 i)).1 = 0 ∧ (LE al b (gt S.1 i)).2 = t then (some b, S) else BFI al t i n (b + 1) (BF1 al i b S)
def BFO (al : Nat → Int32) (t : FR) (bc : Nat) : Nat → Nat → BST → Option (Nat × Nat) × BST
  | 0, _, S => (none, S)
  | n + 1, i, S => match (BFI al t i bc 0 S).1 with
    | some b => (some (i, b), (BFI al t i bc 0 S).2)
    | none => BFO al t bc n (i + 1) (BFI al t i bc 0 S).2
def RX (I J : Nat → Int) : Nat → Nat → Nat → Int
  | 0, _, _ => 0
  | d + 1, i, k => if k = d then J i else RX I J d (I i).toNat k
def RW (I J : Nat → Int) (d i : Nat) (b : Int) (k : Nat) : Int := if k = d then b else RX I J d i k
def BFL (al : Nat → Int32) (t : FR) (bc : Nat) : Nat → Nat → Nat → BST → Int × (Nat → Int)
  | 0, _, _, _ => (-1, fun _ => 0)
  | k + 1, d, bg, S => match (BFO al t bc (S.1.length - bg) bg S).1 with
    | some (i, b) => (d + 1, RW (BFO al t bc (S.1.length - bg) bg S).2.2.1 (BFO al t bc (S.1.length - bg) bg S).2.2.2 d i b)
    | none => if 2000 < (BFO al t bc (S.1.length - bg) bg S).2.1.length then (-1000, fun _ => 0) else if (BFO al t bc (S.1.length - bg) bg S).2.1.length = S.1.length then (-1, fun _ => 0) else BFL al t bc k (d + 1) S.1.length (BFO al t bc (S.1.length - bg) bg S).2
def BOK (tp : Int) (S : BST) : Prop := 1 ≤ S.1.length ∧ S.1.length ≤ 2001 ∧ FLS tp S.1 ∧ ∀ j, 0 < j → j < S.1.length → 0 ≤ S.2.1 j ∧ S.2.1 j < j ∧ 0 ≤ S.2.2 j ∧ S.2.2 j < 6
def CM (S : BST) : Nat → Int := fun i => if i = 0 then -1 else S.2.1 i * 6 + S.2.2 i
theorem BF1_len (al : Nat → Int32) (i b : Nat) (S : BST) : S.1.length ≤ (BF1 al i b S).1.length := by
  unfold BF1
  split
  · show _ ≤ (S.1 ++ _).length; rw [List.length_append]; omega
  · exact Nat.le_refl _
theorem BFI_len (al : Nat → Int32) (t : FR) (i : Nat) : ∀ n b S, S.1.length ≤ (BFI al t i n b S).2.1.length := by
  intro n
  induction n with
  | zero => intro b S; exact Nat.le_refl _
  | succ n ih =>
    intro b S
    unfold BFI
    split
    · exact Nat.le_refl _
    · exact Nat.le_trans (BF1_len al i b S) (ih _ _)
theorem BFO_len (al : Nat → Int32) (t : FR) (bc : Nat) : ∀ n i S, S.1.length ≤ (BFO al t bc n i S).2.1.length := by
  intro n
  induction n with
  | zero => intro i S; exact Nat.le_refl _
  | succ n ih =>
    intro i S
    have := BFI_len al t i bc 0 S
    unfold BFO
    split
    · exact this
    · exact Nat.le_trans this (ih _ _)
theorem BOK.f1 {al : Nat → Int32} (hw : WA al) {S : BST} (h : BOK (A al 1) S) {i b : Nat} (hi : i < S.1.length) (hb : b < 6) : BOK (A al 1) (BF1 al i b S) := by
  unfold BF1
  split
  · next c =>
    obtain ⟨h1, h2, h3, h4⟩ := h
    have hl : (S.1 ++ [(LE al b (gt S.1 i)).2]).length = S.1.length + 1 := by rw [List.length_append]; rfl
    refine ⟨by show 1 ≤ (S.1 ++ _).length; omega, by show (S.1 ++ _).length ≤ 2001; omega, h3.ap (FLS.one (LE_flr hw (h3.at hi).ok c.1)), fun j h0 hj => ?_⟩
    have hj' : j < (S.1 ++ [(LE al b (gt S.1 i)).2]).length := hj
    show 0 ≤ updI S.2.1 S.1.length i j ∧ updI S.2.1 S.1.length i j < j ∧ 0 ≤ updI S.2.2 S.1.length b j ∧ updI S.2.2 S.1.length b j < 6
    by_cases cj : j = S.1.length
    · subst cj
      rw [updI_s, updI_s]
      omega
    · rw [updI_n cj, updI_n cj]
      exact h4 j h0 (by omega)
  · exact h
theorem LG.c {m : Mem} {q : Nat} {L : List FR} {C C' : Nat → Int} (h : LG m q L C) (e : ∀ i, i < L.length → C i = C' i) : LG m q L C' := by
  obtain ⟨h1, h2, h3, h4⟩ := h
  exact ⟨h1, h2, fun i hi => by rw [← e i hi]; exact h3 i hi, h4⟩
theorem stI9 {F : Nat} (hF : 20000 ≤ F) {s : List Sh} {ow : Nat → Nat} {nw q : Nat} {al : Nat → Int32} {bc : Nat} {t : FR} (htf : FLR (A al 1) t.1 t.2) {i en : Nat} (hen : en ≤ 9331) (ns : Mem → Nat → Int32 → Int32 → Int32 → Int32 → Option (Int32 × Mem)) : ∀ n fuel b, b + n = bc → n < fuel → ∀ (m : Mem) (S : BST), RC s m ow nw q al bc → LG m q S.1 (CM S) → BOK (A al 1) S → i < S.1.length → ∃ m', (∀ b', (BFI al t i n b S).1 = some b' → nl_X5_stepTowards_13 F s ns fuel m q (q32 t.1) (q32 t.2) (q32 en) (q32 i) (q32 (b : Nat)) = some (q32 1, m') ∧ m'.1 q 6 = q32 ((i : Int) * 6 + (b' : Nat)) ∧ b' < 6) ∧ ((BFI al t i n b S).1 = none → nl_X5_stepTowards_13 F s ns fuel m q (q32 t.1) (q32 t.2) (q32 en) (q32 i) (q32 (b : Nat)) = ns m' q (q32 t.1) (q32 t.2) (q32 en) (q32 (i + 1))) ∧ KCQ q m m' ∧ LG m' q (BFI al t i n b S).2.1 (CM (BFI al t i n b S).2) ∧ BOK (A al 1) (BFI al t i n b S).2 := by
  have tb := htf.b
  intro n
  induction n with
  | zero =>
    intro fuel b hb hfu m S hc hL hk hi
    obtain ⟨fuel, rfl⟩ : ∃ f, fuel = f + 1 := ⟨fuel - 1, by omega⟩
    refine ⟨m, fun b' h => by (cases h), fun _ => ?_, KCQ.rf m, hL, hk⟩
    have h5 := hc.2.2.1
    have h6 := hc.2.2.2.2.1
    have h7 := hc.2.2.2.2.2
    have hk2 := hk.2.1
    show nb_X5_stepTowards_13 F s ns (nl_X5_stepTowards_13 F s ns fuel) m q _ _ _ _ _ = _
    unfold nb_X5_stepTowards_13
    simp (disch := omega) only [Option.bind_some, bindv, bindv0, bind2_s, bind3_s, ↓reduceIte, Bool.false_eq_true, rZM_0, rZM_1, rZP_0, rZP_1, ptZ_0, ptZ_1, c32i, c64i, ncI, Int.natCast_add, Int.natCast_mul, q32_neg, q64_neg, q32_add, q32_sub, q32_mul, q64_add, q64_sub, q64_mul, q32_64i, q64_32, q32_lt_t, q32_lt_f, q32_le_t, q32_le_f, q32_eq_t, q32_eq_f, q64_lt_t, q64_lt_f, q64_le_t, q64_le_f, q64_eq_t, q64_eq_f, rdI_i, rdL_i, rdR_i, rdN_i, stI_i, stL_i, stR_i, wI_s, wI_n, wL_s, wL_n, wI_2, wI_3, wL_1, wL_3, wR_1, wR_2, Int.toNat_natCast, tnO, tn_add, tn_sub, tn_mul, Nat.add_sub_cancel, Nat.add_zero, Nat.zero_add, lnO, win_t, win_f, h5, h6]
  | succ n ih =>
    intro fuel b hb hfu m S hc hL hk hi
    obtain ⟨fuel, rfl⟩ : ∃ f, fuel = f + 1 := ⟨fuel - 1, by omega⟩
    have h5 := hc.2.2.1
    have h6 := hc.2.2.2.2.1
    have h7 := hc.2.2.2.2.2
    have hk2 := hk.2.1
    obtain ⟨q1, q2, q3, q4, q5, q6, q7, q8, q9, q10, q11, q12, q13, l2, l3, l4, l5, l6, l7, l8, l9⟩ := hc.qb
    have hx := hk.2.2.1.at hi
    have xb := hx.b
    obtain ⟨u1, u2, -⟩ := hL.2.2.1 i hi
    obtain ⟨m1, e1, e2, e3, e4, e5⟩ := rlead hF hc hL hx (b := (b : Int)) (by omega)
    have q0 : m1.2.2 q 0 = some (q + 1) := by rw [e2.2.2]; exact q4
    have q40 : m1.2.2 q 4 = some 16 := by rw [e2.2.2]; exact q7
    have sz := e4.2.1
    have le := LE_b al b (gt S.1 i)
    by_cases c0 : (LE al b (gt S.1 i)).1 = 0
    · rw [c0] at e1
      obtain ⟨a0, a1, ay⟩ := e5 c0
      have yb := ay.b
      by_cases ct : (LE al b (gt S.1 i)).2 = t
      · have hB : BFI al t i (n + 1) b S = (some b, S) := by unfold BFI; rw [if_pos ⟨c0, ct⟩]
        rw [hB]
        rw [ct] at a0 a1
        refine ⟨wI m1 q 6 (q32 ((i : Int) * 6 + b)), fun b' h => ?_, fun h => by (cases h), e2.tr ⟨fun a k _ hk => by rw [wI_n (by omega)], fun _ _ _ _ _ => rfl, rfl⟩, e4.k (fun a k h1 h2 => by rw [wI_n (by omega)]), hk⟩
        cases h
        refine ⟨?_, wI_s .., by omega⟩
        show nb_X5_stepTowards_13 F s ns (nl_X5_stepTowards_13 F s ns fuel) m q _ _ _ _ _ = _
        unfold nb_X5_stepTowards_13
        simp (disch := omega) only [Option.bind_some, bindv, bindv0, bind2_s, bind3_s, ↓reduceIte, Bool.false_eq_true, rZM_0, rZM_1, rZP_0, rZP_1, ptZ_0, ptZ_1, c32i, c64i, ncI, Int.natCast_add, Int.natCast_mul, q32_neg, q64_neg, q32_add, q32_sub, q32_mul, q64_add, q64_sub, q64_mul, q32_64i, q64_32, q32_lt_t, q32_lt_f, q32_le_t, q32_le_f, q32_eq_t, q32_eq_f, q64_lt_t, q64_lt_f, q64_le_t, q64_le_f, q64_eq_t, q64_eq_f, rdI_i, rdL_i, rdR_i, rdN_i, stI_i, stL_i, stR_i, wI_s, wI_n, wL_s, wL_n, wI_2, wI_3, wL_1, wL_3, wR_1, wR_2, Int.toNat_natCast, tnO, tn_add, tn_sub, tn_mul, Nat.add_sub_cancel, Nat.add_zero, Nat.zero_add, lnO, win_t, win_f, h5, h6, q7, q4, q8, q9, u1, u2, e1, q40, a0, a1]
      · have hB : BFI al t i (n + 1) b S = BFI al t i n (b + 1) (BF1 al i b S) := by
          show (if _ then _ else _) = _
          rw [if_neg (fun h => ct h.2)]
        rw [hB]
        have step : ∃ m2, nb_X5_stepTowards_102 F s ns (nl_X5_stepTowards_13 F s ns fuel) m1 q (q32 t.1) (q32 t.2) (q32 en) (q32 i) (q32 b) = nl_X5_stepTowards_13 F s ns fuel m2 q (q32 t.1) (q32 t.2) (q32 en) (q32 i) (q32 ((b : Int) + 1)) ∧ KCQ q m1 m2 ∧ LG m2 q (BF1 al i b S).1 (CM (BF1 al i b S)) := by
          unfold BF1 nb_X5_stepTowards_102 nb_X5_stepTowards_177
          by_cases c2 : S.1.length ≤ 2000
          · have ff := rfind hF (B := []) (R := S.1) e3.qb e4 hk.2.2.1 ay
            by_cases cm : (LE al b (gt S.1 i)).2 ∈ S.1
            · rw [if_neg (fun h => h.2.2 cm)]
              obtain ⟨r, r1, r2, r3⟩ := ff.1 cm
              have r3' : n_X1_find F s m1 (q + 1) (q32 (LE al b (gt S.1 i)).2.1) (q32 (LE al b (gt S.1 i)).2.2) (q32 0) (q32 S.1.length) = some (q32 r) := r3
              refine ⟨m1, ?_, KCQ.rf m1, e4⟩
              simp (disch := omega) only [Option.bind_some, bindv, bindv0, bind2_s, bind3_s, ↓reduceIte, Bool.false_eq_true, rZM_0, rZM_1, rZP_0, rZP_1, ptZ_0, ptZ_1, c32i, c64i, ncI, Int.natCast_add, Int.natCast_mul, q32_neg, q64_neg, q32_add, q32_sub, q32_mul, q64_add, q64_sub, q64_mul, q32_64i, q64_32, q32_lt_t, q32_lt_f, q32_le_t, q32_le_f, q32_eq_t, q32_eq_f, q64_lt_t, q64_lt_f, q64_le_t, q64_le_f, q64_eq_t, q64_eq_f, rdI_i, rdL_i, rdR_i, rdN_i, stI_i, stL_i, stR_i, wI_s, wI_n, wL_s, wL_n, wI_2, wI_3, wL_1, wL_3, wR_1, wR_2, Int.toNat_natCast, tnO, tn_add, tn_sub, tn_mul, Nat.add_sub_cancel, Nat.add_zero, Nat.zero_add, lnO, win_t, win_f, q0, sz, q40, a0, a1, r3']
              first | done | rfl
            · rw [if_pos ⟨c0, c2, cm⟩]
              have r3' : n_X1_find F s m1 (q + 1) (q32 (LE al b (gt S.1 i)).2.1) (q32 (LE al b (gt S.1 i)).2.2) (q32 0) (q32 S.1.length) = some (q32 (-1)) := ff.2 cm
              obtain ⟨m2, p1, p2, p3, p4⟩ := putQ9 e3.qb e4 (LE al b (gt S.1 i)).2 (by omega) ((i : Int) * 6 + b)
              refine ⟨m2, ?_, ⟨fun a k _ hk => p4 a k (by omega), fun a k _ _ _ => by rw [p3], by rw [p3]⟩, p2.c (fun j hj => ?_)⟩
              · simp (disch := omega) only [Option.bind_some, bindv, bindv0, bind2_s, bind3_s, ↓reduceIte, Bool.false_eq_true, rZM_0, rZM_1, rZP_0, rZP_1, ptZ_0, ptZ_1, c32i, c64i, ncI, Int.natCast_add, Int.natCast_mul, q32_neg, q64_neg, q32_add, q32_sub, q32_mul, q64_add, q64_sub, q64_mul, q32_64i, q64_32, q32_lt_t, q32_lt_f, q32_le_t, q32_le_f, q32_eq_t, q32_eq_f, q64_lt_t, q64_lt_f, q64_le_t, q64_le_f, q64_eq_t, q64_eq_f, rdI_i, rdL_i, rdR_i, rdN_i, stI_i, stL_i, stR_i, wI_s, wI_n, wL_s, wL_n, wI_2, wI_3, wL_1, wL_3, wR_1, wR_2, Int.toNat_natCast, tnO, tn_add, tn_sub, tn_mul, Nat.add_sub_cancel, Nat.add_zero, Nat.zero_add, lnO, win_t, win_f, q0, sz, q40, a0, a1, r3', p1]
                first | done | rfl
              · unfold CM
                have hk1 := hk.1
                show (if j = S.1.length then (i : Int) * 6 + b else if j = 0 then -1 else S.2.1 j * 6 + S.2.2 j) = if j = 0 then -1 else updI S.2.1 S.1.length i j * 6 + updI S.2.2 S.1.length b j
                by_cases cj : j = S.1.length
                · rw [if_pos cj, if_neg (by omega), cj, updI_s, updI_s]
                · rw [if_neg cj, updI_n cj, updI_n cj]
          · rw [if_neg (fun h => c2 h.2.1)]
            refine ⟨m1, ?_, KCQ.rf m1, e4⟩
            simp (disch := omega) only [Option.bind_some, bindv, bindv0, bind2_s, bind3_s, ↓reduceIte, Bool.false_eq_true, rZM_0, rZM_1, rZP_0, rZP_1, ptZ_0, ptZ_1, c32i, c64i, ncI, Int.natCast_add, Int.natCast_mul, q32_neg, q64_neg, q32_add, q32_sub, q32_mul, q64_add, q64_sub, q64_mul, q32_64i, q64_32, q32_lt_t, q32_lt_f, q32_le_t, q32_le_f, q32_eq_t, q32_eq_f, q64_lt_t, q64_lt_f, q64_le_t, q64_le_f, q64_eq_t, q64_eq_f, rdI_i, rdL_i, rdR_i, rdN_i, stI_i, stL_i, stR_i, wI_s, wI_n, wL_s, wL_n, wI_2, wI_3, wL_1, wL_3, wR_1, wR_2, Int.toNat_natCast, tnO, tn_add, tn_sub, tn_mul, Nat.add_sub_cancel, Nat.add_zero, Nat.zero_add, lnO, win_t, win_f, q0, sz]
            first | done | rfl
        obtain ⟨m2, s1, s2, s3⟩ := step
        obtain ⟨m3, j1, j2, j3, j4, j5⟩ := ih fuel (b + 1) (by omega) (by omega) m2 _ (e3.k s2) s3 (hk.f1 hc.wa hi (by omega)) (Nat.lt_of_lt_of_le hi (BF1_len al i b S))
        have eq : nl_X5_stepTowards_13 F s ns (fuel + 1) m q (q32 t.1) (q32 t.2) (q32 en) (q32 i) (q32 (b : Nat)) = nl_X5_stepTowards_13 F s ns fuel m2 q (q32 t.1) (q32 t.2) (q32 en) (q32 i) (q32 ((b + 1 : Nat) : Int)) := by
          rw [Int.natCast_add, show ((1 : Nat) : Int) = 1 from rfl, ← s1]
          show nb_X5_stepTowards_13 F s ns (nl_X5_stepTowards_13 F s ns fuel) m q _ _ _ _ _ = _
          unfold nb_X5_stepTowards_13
          by_cases c1 : (LE al b (gt S.1 i)).2.1 = t.1
          · have c2 : (LE al b (gt S.1 i)).2.2 ≠ t.2 := fun h => ct (Prod.ext c1 h)
            rw [c1] at a0
            simp (disch := omega) only [Option.bind_some, bindv, bindv0, bind2_s, bind3_s, ↓reduceIte, Bool.false_eq_true, rZM_0, rZM_1, rZP_0, rZP_1, ptZ_0, ptZ_1, c32i, c64i, ncI, Int.natCast_add, Int.natCast_mul, q32_neg, q64_neg, q32_add, q32_sub, q32_mul, q64_add, q64_sub, q64_mul, q32_64i, q64_32, q32_lt_t, q32_lt_f, q32_le_t, q32_le_f, q32_eq_t, q32_eq_f, q64_lt_t, q64_lt_f, q64_le_t, q64_le_f, q64_eq_t, q64_eq_f, rdI_i, rdL_i, rdR_i, rdN_i, stI_i, stL_i, stR_i, wI_s, wI_n, wL_s, wL_n, wI_2, wI_3, wL_1, wL_3, wR_1, wR_2, Int.toNat_natCast, tnO, tn_add, tn_sub, tn_mul, Nat.add_sub_cancel, Nat.add_zero, Nat.zero_add, lnO, win_t, win_f, h5, h6, q7, q4, q8, q9, u1, u2, e1, q40, a0, a1]
          · simp (disch := omega) only [Option.bind_some, bindv, bindv0, bind2_s, bind3_s, ↓reduceIte, Bool.false_eq_true, rZM_0, rZM_1, rZP_0, rZP_1, ptZ_0, ptZ_1, c32i, c64i, ncI, Int.natCast_add, Int.natCast_mul, q32_neg, q64_neg, q32_add, q32_sub, q32_mul, q64_add, q64_sub, q64_mul, q32_64i, q64_32, q32_lt_t, q32_lt_f, q32_le_t, q32_le_f, q32_eq_t, q32_eq_f, q64_lt_t, q64_lt_f, q64_le_t, q64_le_f, q64_eq_t, q64_eq_f, rdI_i, rdL_i, rdR_i, rdN_i, stI_i, stL_i, stR_i, wI_s, wI_n, wL_s, wL_n, wI_2, wI_3, wL_1, wL_3, wR_1, wR_2, Int.toNat_natCast, tnO, tn_add, tn_sub, tn_mul, Nat.add_sub_cancel, Nat.add_zero, Nat.zero_add, lnO, win_t, win_f, h5, h6, q7, q4, q8, q9, u1, u2, e1, q40, a0, a1]
        rw [eq]
        exact ⟨m3, j1, j2, (e2.tr s2).tr j3, j4, j5⟩
    · have hB : BFI al t i (n + 1) b S = BFI al t i n (b + 1) S := by
        show (if _ then _ else _) = _
        rw [if_neg (fun h => c0 h.1)]
        unfold BF1
        rw [if_neg (fun h => c0 h.1)]
      rw [hB]
      obtain ⟨m3, j1, j2, j3, j4, j5⟩ := ih fuel (b + 1) (by omega) (by omega) m1 S e3 e4 hk hi
      have eq : nl_X5_stepTowards_13 F s ns (fuel + 1) m q (q32 t.1) (q32 t.2) (q32 en) (q32 i) (q32 (b : Nat)) = nl_X5_stepTowards_13 F s ns fuel m1 q (q32 t.1) (q32 t.2) (q32 en) (q32 i) (q32 ((b + 1 : Nat) : Int)) := by
        rw [Int.natCast_add, show ((1 : Nat) : Int) = 1 from rfl]
        show nb_X5_stepTowards_13 F s ns (nl_X5_stepTowards_13 F s ns fuel) m q _ _ _ _ _ = _
        unfold nb_X5_stepTowards_13 nb_X5_stepTowards_177
        simp (disch := omega) only [Option.bind_some, bindv, bindv0, bind2_s, bind3_s, ↓reduceIte, Bool.false_eq_true, rZM_0, rZM_1, rZP_0, rZP_1, ptZ_0, ptZ_1, c32i, c64i, ncI, Int.natCast_add, Int.natCast_mul, q32_neg, q64_neg, q32_add, q32_sub, q32_mul, q64_add, q64_sub, q64_mul, q32_64i, q64_32, q32_lt_t, q32_lt_f, q32_le_t, q32_le_f, q32_eq_t, q32_eq_f, q64_lt_t, q64_lt_f, q64_le_t, q64_le_f, q64_eq_t, q64_eq_f, rdI_i, rdL_i, rdR_i, rdN_i, stI_i, stL_i, stR_i, wI_s, wI_n, wL_s, wL_n, wI_2, wI_3, wL_1, wL_3, wR_1, wR_2, Int.toNat_natCast, tnO, tn_add, tn_sub, tn_mul, Nat.add_sub_cancel, Nat.add_zero, Nat.zero_add, lnO, win_t, win_f, h5, h6, q7, q4, q8, q9, u1, u2, e1]
      rw [eq]
      exact ⟨m3, j1, j2, e2.tr j3, j4, j5⟩
theorem stO9 {F : Nat} (hF : 20000 ≤ F) {s : List Sh} {ow : Nat → Nat} {nw q : Nat} {al : Nat → Int32} {bc : Nat} {t : FR} (htf : FLR (A al 1) t.1 t.2) {en : Nat} (hen : en ≤ 9331) : ∀ n fuel i, i + n = en → n < fuel → ∀ (m : Mem) (S : BST), RC s m ow nw q al bc → LG m q S.1 (CM S) → BOK (A al 1) S → en ≤ S.1.length → ∃ m', (∀ i' b', (BFO al t bc n i S).1 = some (i', b') → nl_X5_stepTowards_3 F s fuel m q (q32 t.1) (q32 t.2) (q32 en) (q32 (i : Nat)) = some (q32 1, m') ∧ m'.1 q 6 = q32 ((i' : Nat) * 6 + (b' : Nat)) ∧ b' < 6 ∧ i ≤ i' ∧ i' < en) ∧ ((BFO al t bc n i S).1 = none → nl_X5_stepTowards_3 F s fuel m q (q32 t.1) (q32 t.2) (q32 en) (q32 (i : Nat)) = some (q32 0, m')) ∧ KCQ q m m' ∧ LG m' q (BFO al t bc n i S).2.1 (CM (BFO al t bc n i S).2) ∧ BOK (A al 1) (BFO al t bc n i S).2 := by
  intro n
  induction n with
  | zero =>
    intro fuel i hi hfu m S hc hL hk hl
    obtain ⟨fuel, rfl⟩ : ∃ f, fuel = f + 1 := ⟨fuel - 1, by omega⟩
    refine ⟨m, fun i' b' h => by (cases h), fun _ => ?_, KCQ.rf m, hL, hk⟩
    show nb_X5_stepTowards_3 F s (nl_X5_stepTowards_3 F s fuel) m q _ _ _ _ = _
    unfold nb_X5_stepTowards_3
    simp (disch := omega) only [Option.bind_some, bindv, bindv0, bind2_s, bind3_s, ↓reduceIte, Bool.false_eq_true, rZM_0, rZM_1, rZP_0, rZP_1, ptZ_0, ptZ_1, c32i, c64i, ncI, Int.natCast_add, Int.natCast_mul, q32_neg, q64_neg, q32_add, q32_sub, q32_mul, q64_add, q64_sub, q64_mul, q32_64i, q64_32, q32_lt_t, q32_lt_f, q32_le_t, q32_le_f, q32_eq_t, q32_eq_f, q64_lt_t, q64_lt_f, q64_le_t, q64_le_f, q64_eq_t, q64_eq_f, rdI_i, rdL_i, rdR_i, rdN_i, stI_i, stL_i, stR_i, wI_s, wI_n, wL_s, wL_n, wI_2, wI_3, wL_1, wL_3, wR_1, wR_2, Int.toNat_natCast, tnO, tn_add, tn_sub, tn_mul, Nat.add_sub_cancel, Nat.add_zero, Nat.zero_add, lnO, win_t, win_f]
  | succ n ih =>
    intro fuel i hi hfu m S hc hL hk hl
    obtain ⟨fuel, rfl⟩ : ∃ f, fuel = f + 1 := ⟨fuel - 1, by omega⟩
    have h7 := hc.2.2.2.2.2
    obtain ⟨m1, j1, j2, j3, j4, j5⟩ := stI9 hF htf (i := i) hen (nl_X5_stepTowards_3 F s fuel) bc F 0 (by omega) (by omega) m S hc hL hk (by omega)
    have eq : nl_X5_stepTowards_3 F s (fuel + 1) m q (q32 t.1) (q32 t.2) (q32 en) (q32 (i : Nat)) = nl_X5_stepTowards_13 F s (nl_X5_stepTowards_3 F s fuel) F m q (q32 t.1) (q32 t.2) (q32 en) (q32 i) (q32 ((0 : Nat) : Int)) := by
      show nb_X5_stepTowards_3 F s (nl_X5_stepTowards_3 F s fuel) m q _ _ _ _ = _
      unfold nb_X5_stepTowards_3
      simp (disch := omega) only [Option.bind_some, bindv, bindv0, bind2_s, bind3_s, ↓reduceIte, Bool.false_eq_true, rZM_0, rZM_1, rZP_0, rZP_1, ptZ_0, ptZ_1, c32i, c64i, ncI, Int.natCast_add, Int.natCast_mul, q32_neg, q64_neg, q32_add, q32_sub, q32_mul, q64_add, q64_sub, q64_mul, q32_64i, q64_32, q32_lt_t, q32_lt_f, q32_le_t, q32_le_f, q32_eq_t, q32_eq_f, q64_lt_t, q64_lt_f, q64_le_t, q64_le_f, q64_eq_t, q64_eq_f, rdI_i, rdL_i, rdR_i, rdN_i, stI_i, stL_i, stR_i, wI_s, wI_n, wL_s, wL_n, wI_2, wI_3, wL_1, wL_3, wR_1, wR_2, Int.toNat_natCast, tnO, tn_add, tn_sub, tn_mul, Nat.add_sub_cancel, Nat.add_zero, Nat.zero_add, lnO, win_t, win_f]
      first | done | rfl
    rw [eq]
    cases hb : (BFI al t i bc 0 S).1 with
    | some b =>
      have hB : BFO al t bc (n + 1) i S = (some (i, b), (BFI al t i bc 0 S).2) := by
        show (match (BFI al t i bc 0 S).1 with | some b => _ | none => _) = _
        rw [hb]
      rw [hB]
      obtain ⟨k1, k2, k3⟩ := j1 b hb
      refine ⟨m1, fun i' b' h => ?_, fun h => by (cases h), j3, j4, j5⟩
      cases h
      exact ⟨k1, k2, k3, Nat.le_refl _, by omega⟩
    | none =>
      have hB : BFO al t bc (n + 1) i S = BFO al t bc n (i + 1) (BFI al t i bc 0 S).2 := by
        show (match (BFI al t i bc 0 S).1 with | some b => _ | none => _) = _
        rw [hb]
      rw [hB]
      obtain ⟨m2, k1, k2, k3, k4, k5⟩ := ih fuel (i + 1) (by omega) (by omega) m1 _ (hc.k j3) j4 j5 (Nat.le_trans hl (BFI_len al t i bc 0 S))
      have j2' := j2 hb
      rw [j2']
      refine ⟨m2, fun i' b' h => ?_, fun h => ?_, j3.tr k3, k4, k5⟩
      · obtain ⟨z1, z2, z3, z4, z5⟩ := k1 i' b' h
        exact ⟨z1, z2, z3, by omega, z5⟩
      · exact k2 h
/-! depth -/
def DP (I : Nat → Int) : Nat → Nat → Prop
  | 0, i => i = 0
  | d + 1, i => 0 < i ∧ DP I d (I i).toNat
theorem DP_c {I I' : Nat → Int} {n : Nat} (h : ∀ j, 0 < j → j < n → 0 ≤ I j ∧ I j < j) (e : ∀ j, j < n → I' j = I j) : ∀ d i, i < n → DP I d i → DP I' d i := by
  intro d
  induction d with
  | zero => intro i _ hd; exact hd
  | succ d ih =>
    intro i hi hd
    obtain ⟨h1, h2⟩ := hd
    have := h i h1 hi
    refine ⟨h1, ?_⟩
    rw [e i hi]
    exact ih _ (by omega) h2
def LV (bg en d : Nat) (S : BST) : Prop := (∀ j, bg ≤ j → j < en → DP S.2.1 d j) ∧ ∀ j, en ≤ j → j < S.1.length → DP S.2.1 (d + 1) j
theorem LV.f1 {al : Nat → Int32} {bg en d : Nat} {S : BST} (h : LV bg en d S) {tp : Int} (hk : BOK tp S) (hen : en ≤ S.1.length) {i b : Nat} (h1 : bg ≤ i) (h2 : i < en) : LV bg en d (BF1 al i b S) := by
  unfold BF1
  split
  · have hl : (S.1 ++ [(LE al b (gt S.1 i)).2]).length = S.1.length + 1 := by rw [List.length_append]; rfl
    have hb : ∀ j, 0 < j → j < S.1.length → 0 ≤ S.2.1 j ∧ S.2.1 j < j := fun j p1 p2 => ⟨(hk.2.2.2 j p1 p2).1, (hk.2.2.2 j p1 p2).2.1⟩
    have he : ∀ j, j < S.1.length → updI S.2.1 S.1.length i j = S.2.1 j := fun j hj => updI_n (by omega)
    refine ⟨fun j p1 p2 => DP_c hb he d j (by omega) (h.1 j p1 p2), fun j p1 p2 => ?_⟩
    have p2' : j < S.1.length + 1 := by rw [← hl]; exact p2
    by_cases cj : j = S.1.length
    · subst cj
      have := hk.1
      refine ⟨by omega, ?_⟩
      show DP (updI S.2.1 S.1.length i) d (updI S.2.1 S.1.length i S.1.length).toNat
      rw [updI_s, Int.toNat_natCast]
      exact DP_c hb he d i (by omega) (h.1 i h1 h2)
    · exact DP_c hb he (d + 1) j (by omega) (h.2 j p1 (by omega))
  · exact h
theorem LV.fi {al : Nat → Int32} (hw : WA al) {t : FR} {bg en d : Nat} {i : Nat} (h1 : bg ≤ i) (h2 : i < en) : ∀ n b (S : BST), b + n ≤ 6 → LV bg en d S → BOK (A al 1) S → en ≤ S.1.length → LV bg en d (BFI al t i n b S).2 ∧ BOK (A al 1) (BFI al t i n b S).2 := by
  intro n
  induction n with
  | zero => intro b S _ h hk _; exact ⟨h, hk⟩
  | succ n ih =>
    intro b S hb h hk hl
    unfold BFI
    split
    · exact ⟨h, hk⟩
    · exact ih (b + 1) _ (by omega) (h.f1 hk hl h1 h2) (hk.f1 hw (by omega) (by omega)) (Nat.le_trans hl (BF1_len al i b S))
theorem LV.fo {al : Nat → Int32} (hw : WA al) {t : FR} {bc : Nat} (hbc : bc ≤ 6) {bg en d : Nat} : ∀ n i (S : BST), i + n = en → bg ≤ i → LV bg en d S → BOK (A al 1) S → en ≤ S.1.length → LV bg en d (BFO al t bc n i S).2 := by
  intro n
  induction n with
  | zero => intro i S _ _ h hk _; exact h
  | succ n ih =>
    intro i S hi hb h hk hl
    have := LV.fi hw (t := t) (i := i) hb (by omega) bc 0 S (by omega) h hk hl
    unfold BFO
    split
    · exact this.1
    · exact ih (i + 1) _ (by omega) (by omega) this.1 this.2 (Nat.le_trans hl (BFI_len al t i bc 0 S))
theorem BOK.fi {al : Nat → Int32} (hw : WA al) {t : FR} {i : Nat} : ∀ n b (S : BST), b + n ≤ 6 → BOK (A al 1) S → i < S.1.length → BOK (A al 1) (BFI al t i n b S).2 := by
  intro n
  induction n with
  | zero => intro b S _ hk _; exact hk
  | succ n ih =>
    intro b S hb hk hl
    unfold BFI
    split
    · exact hk
    · exact ih (b + 1) _ (by omega) (hk.f1 hw hl (by omega)) (Nat.lt_of_lt_of_le hl (BF1_len al i b S))
theorem BOK.fo {al : Nat → Int32} (hw : WA al) {t : FR} {bc : Nat} (hbc : bc ≤ 6) : ∀ n i (S : BST), i + n ≤ S.1.length → BOK (A al 1) S → BOK (A al 1) (BFO al t bc n i S).2 := by
  intro n
  induction n with
  | zero => intro i S _ hk; exact hk
  | succ n ih =>
    intro i S hi hk
    have := BOK.fi hw (t := t) (i := i) bc 0 S (by omega) hk (by omega)
    have hl := BFI_len al t i bc 0 S
    unfold BFO
    split
    · exact this
    · exact ih (i + 1) _ (by omega) this
