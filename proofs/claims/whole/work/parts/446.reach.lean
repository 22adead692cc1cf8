/-- a call that may make the searcher -/
def OPQ {α : Type} (s : List Sh) (m : Mem) (oq o9 : Option (α × List Sh × Mem)) (o10 : List Sh → Mem → Option (α × Mem)) : Prop := ∃ r s1 m1 m2, o9 = some (r, s1, m1) ∧ o10 s1 m1 = some (r, m2) ∧ INV s1 m2 ∧ (∃ t, s1 = s ++ t) ∧ ((oq = some (r, s1, m1) ∧ m2.2.2 0 16 = m.2.2 0 16) ∨ (m.2.2 0 16 = none ∧ m2.2.2 0 16 ≠ none))
theorem opq_no {α : Type} {s : List Sh} {m : Mem} {oq o9 : Option (α × List Sh × Mem)} {o10 : List Sh → Mem → Option (α × Mem)} (h : INV s m) {r : α} {m1 m2 : Mem} (eq : oq = some (r, s, m1)) (e1 : o9 = some (r, s, m1)) (e2 : o10 s m1 = some (r, m2)) (g2 : GS s m2) (sc : SC m m2) : OPQ s m oq o9 o10 := ⟨r, s, m1, m2, e1, e2, h.sc g2 sc, ⟨[], by simp⟩, Or.inl ⟨eq, by rw [sc.r]⟩⟩
theorem opq_fin {α : Type} {s s' : List Sh} {m m1 m2 : Mem} {ow : Nat → Nat} {nw q : Nat} {oq o9 : Option (α × List Sh × Mem)} {o10 : List Sh → Mem → Option (α × Mem)} {r : α} (hs : ∃ t, s' = s ++ t) (e1 : o9 = some (r, s', m1)) (e2 : o10 s' m1 = some (r, m2)) (g2 : GS s' m2) (st : ST s' m1 ow nw) (sc : SC m1 m2) (hq : m1.2.2 0 16 = some q) (c : m.2.2 0 16 = none ∨ (m.2.2 0 16 = some q ∧ oq = o9)) : OPQ s m oq o9 o10 := by
  refine ⟨r, s', m1, m2, e1, e2, ⟨g2, ow, nw, st.sc sc⟩, hs, ?_⟩
  rcases c with c | ⟨c1, c2⟩
  · exact Or.inr ⟨c, by rw [sc.r, hq]; intro h; cases h⟩
  · exact Or.inl ⟨by rw [c2]; exact e1, by rw [sc.r, hq, c1]⟩
theorem search {F : Nat} (hF : 20000 ≤ F) {s : List Sh} {m : Mem} {ow : Nat → Nat} {nw : Nat} (hst : ST s m ow nw) : ∃ s' m' ow' q bc, n_X9_routesFromHere F s m 0 = some (q, s', m') ∧ RC s' m' ow' nw q (m.1 24) bc ∧ LG m' q [(A (m.1 24) 7, A (m.1 24) 8)] (fun _ => -1) ∧ (∃ t, s' = s ++ t) ∧ (∀ a k, a < s.length → ¬ (q ≤ a ∧ a < q + 10) → m'.1 a k = m.1 a k ∧ m'.2.1 a k = m.2.1 a k) ∧ (∀ a k, a < s.length → (a ≠ 0 ∨ k ≠ 16) → (a ≠ q ∨ k ≠ 5) → m'.2.2 a k = m.2.2 a k) ∧ (m.2.2 0 16 = none ∨ (m.2.2 0 16 = some q ∧ nq_routes F s m 0 = n_X9_routesFromHere F s m 0)) ∧ FLR (A (m.1 24) 1) (A (m.1 24) 7) (A (m.1 24) 8) ∧ m.1 24 2 = q32 bc := by
  obtain ⟨s', m', ow', q, c1, c2, c3, c4, c5, c6, c7, c8, c9⟩ := routes hF hst
  obtain ⟨tp', y1, y2, y3, y4, y5, y6, y7, bc, y8, y9, y10⟩ := hst.2.1.wa.at
  have q53 := (c2.1.2.2.2.2.2.2.1 q c3).1.1
  have hL : 53 ≤ s.length := by have := hst.1.hp; obtain ⟨t, ht⟩ := this; rw [ht, List.length_append, sB_len]; omega
  have e24 : m'.1 24 = m.1 24 := funext fun k => (c7 24 k (by omega) (by omega)).1
  have g6 : m'.1 nw 6 = q32 bc := by
    obtain ⟨tp, sk, nl, bc, fc, tc, au, aw, S, U, L, V, W, X, O, h1, ⟨a0, a1, a2, a4, a5, a6, a9, a15⟩, ⟨b0, b1, b2, b3, b4, b5, b6, b7, b8⟩, h4, ⟨s1, s2, s3, s4, s5, s6, s7⟩, h6, ⟨h7, h7b⟩, h8⟩ := c2.2.1
    rw [e24] at b2
    rw [a6, ← b2]
    exact y9
  exact ⟨s', m', ow', q, bc, c1, ⟨c2, c3, c4, e24, g6, y8⟩, c5, c6, c7, c8, c9, by rw [y4]; exact y5, y9⟩
theorem opq_reach {F : Nat} (hF : 20000 ≤ F) {s : List Sh} {m : Mem} (h : INV s m) (w1 : Int32) : OPQ s m (nq_X9_reach F s m 0 w1) (n_X9_reach F s m 0 w1) (fun s1 m1 => n_X10_reach F s1 m1 23 w1) := by
  have h0 := h
  obtain ⟨hg, ow, nw, hst⟩ := h
  have hl := hst.1
  have hp := hl.hp
  have hr := hl.rf
  have hn := hl.hn
  have rn := hl.nw
  have r1 := rf23_1 hr
  have l24 := ln24 hp
  obtain ⟨i, hi, rfl⟩ := q32_of w1
  by_cases ci : 0 ≤ i ∧ i ≤ 5
  · obtain ⟨n, rfl⟩ := Int.eq_ofNat_of_zero_le ci.1
    obtain ⟨s', m', ow', q, bc, c1, c2, c3, c4, c5, c6, c7, c8, c9⟩ := search hF hst
    obtain ⟨m1, B, C, d1, d2, d3, d4⟩ := layF9 hF (n := n) (by omega) c2 c3 c8
    have c2' := c2.k d2
    have hp' := c2.1.1.hp
    have sz := d3.2.1
    have q0 := c2'.qb.2.2.2.1
    have hbl : (B ++ LY (m.1 24) bc (A (m.1 24) 7, A (m.1 24) 8) n).length = B.length + (LY (m.1 24) bc (A (m.1 24) 7, A (m.1 24) 8) n).length := List.length_append
    have d1' := d3.1
    have e1 : n_X9_reach F s m 0 (q32 n) = some (q32 (LY (m.1 24) bc (A (m.1 24) 7, A (m.1 24) 8) n).length, s', m1) := by
      unfold n_X9_reach nb_X9_reach_0
      simp (disch := omega) only [Option.bind_some, bindv, bindv0, bind2_s, bind3_s, ↓reduceIte, Bool.false_eq_true, rZM_0, rZM_1, rZP_0, rZP_1, ptZ_0, ptZ_1, c32i, c64i, ncI, Int.natCast_add, Int.natCast_mul, q32_neg, q64_neg, q32_add, q32_sub, q32_mul, q64_add, q64_sub, q64_mul, q32_64i, q64_32, q32_lt_t, q32_lt_f, q32_le_t, q32_le_f, q32_eq_t, q32_eq_f, q64_lt_t, q64_lt_f, q64_le_t, q64_le_f, q64_eq_t, q64_eq_f, rdI_i, rdL_i, rdR_i, rdN_i, stI_i, stL_i, stR_i, wI_s, wI_n, wL_s, wL_n, wI_2, wI_3, wL_1, wL_3, wR_1, wR_2, Int.toNat_natCast, tnO, tn_add, tn_sub, tn_mul, Nat.add_sub_cancel, Nat.add_zero, Nat.zero_add, lnO, win_t, win_f, c1, d1, q0, sz]
      rw [show (((B ++ LY (m.1 24) bc (A (m.1 24) 7, A (m.1 24) 8) n).length : Int) - (B.length : Int)) = ((LY (m.1 24) bc (A (m.1 24) 7, A (m.1 24) 8) n).length : Int) by omega]
    have rd : RD (wI m1 23 0 (q32 0)) (m.1 24) := ⟨c2'.1.1.rf.same rfl, fun k _ => by rw [wI_n (by omega)]; exact congrFun c2'.2.2.2.1 k⟩
    obtain ⟨m2, f1, f2, f3, f4⟩ := reach10 hF hp' c2.wa c9 c2.2.2.2.2.2 (n := n) (by omega) rd
    have f3' := f3.1
    have e2 : n_X10_reach F s' m1 23 (q32 n) = some (q32 (LY (m.1 24) bc (A (m.1 24) 7, A (m.1 24) 8) n).length, m2) := by
      unfold n_X10_reach nb_X10_reach_0
      simp (disch := omega) only [Option.bind_some, bindv, bindv0, bind2_s, bind3_s, ↓reduceIte, Bool.false_eq_true, rZM_0, rZM_1, rZP_0, rZP_1, ptZ_0, ptZ_1, c32i, c64i, ncI, Int.natCast_add, Int.natCast_mul, q32_neg, q64_neg, q32_add, q32_sub, q32_mul, q64_add, q64_sub, q64_mul, q32_64i, q64_32, q32_lt_t, q32_lt_f, q32_le_t, q32_le_f, q32_eq_t, q32_eq_f, q64_lt_t, q64_lt_f, q64_le_t, q64_le_f, q64_eq_t, q64_eq_f, rdI_i, rdL_i, rdR_i, rdN_i, stI_i, stL_i, stR_i, wI_s, wI_n, wL_s, wL_n, wI_2, wI_3, wL_1, wL_3, wR_1, wR_2, Int.toNat_natCast, tnO, tn_add, tn_sub, tn_mul, Nat.add_sub_cancel, Nat.add_zero, Nat.zero_add, lnO, win_t, win_f, f1, f3']
    obtain ⟨-, g1, g2⟩ := un_X9_reach hg (okB hp).1 e1
    refine opq_fin (q := q) c4 e1 e2 (un_X10_reach g1 (okB hp').2 e2).2 c2'.1 ((SC.k0 m1).tr f2.sc) c2'.2.1 ?_
    rcases c7 with c7 | ⟨c7, c7'⟩
    · exact Or.inl c7
    · refine Or.inr ⟨c7, ?_⟩
      unfold nq_X9_reach nbq_X9_reach_0 n_X9_reach nb_X9_reach_0
      rw [c7']
  · have e1 : n_X9_reach F s m 0 (q32 i) = some (q32 (-3), s, m) := by
      unfold n_X9_reach nb_X9_reach_0
      by_cases c : i < 0
      · simp (disch := omega) only [Option.bind_some, bindv, bindv0, bind2_s, bind3_s, ↓reduceIte, Bool.false_eq_true, rZM_0, rZM_1, rZP_0, rZP_1, ptZ_0, ptZ_1, c32i, c64i, ncI, Int.natCast_add, Int.natCast_mul, q32_neg, q64_neg, q32_add, q32_sub, q32_mul, q64_add, q64_sub, q64_mul, q32_64i, q64_32, q32_lt_t, q32_lt_f, q32_le_t, q32_le_f, q32_eq_t, q32_eq_f, q64_lt_t, q64_lt_f, q64_le_t, q64_le_f, q64_eq_t, q64_eq_f, rdI_i, rdL_i, rdR_i, rdN_i, stI_i, stL_i, stR_i, wI_s, wI_n, wL_s, wL_n, wI_2, wI_3, wL_1, wL_3, wR_1, wR_2, Int.toNat_natCast, tnO, tn_add, tn_sub, tn_mul, Nat.add_sub_cancel, Nat.add_zero, Nat.zero_add, lnO, win_t, win_f]
      · simp (disch := omega) only [Option.bind_some, bindv, bindv0, bind2_s, bind3_s, ↓reduceIte, Bool.false_eq_true, rZM_0, rZM_1, rZP_0, rZP_1, ptZ_0, ptZ_1, c32i, c64i, ncI, Int.natCast_add, Int.natCast_mul, q32_neg, q64_neg, q32_add, q32_sub, q32_mul, q64_add, q64_sub, q64_mul, q32_64i, q64_32, q32_lt_t, q32_lt_f, q32_le_t, q32_le_f, q32_eq_t, q32_eq_f, q64_lt_t, q64_lt_f, q64_le_t, q64_le_f, q64_eq_t, q64_eq_f, rdI_i, rdL_i, rdR_i, rdN_i, stI_i, stL_i, stR_i, wI_s, wI_n, wL_s, wL_n, wI_2, wI_3, wL_1, wL_3, wR_1, wR_2, Int.toNat_natCast, tnO, tn_add, tn_sub, tn_mul, Nat.add_sub_cancel, Nat.add_zero, Nat.zero_add, lnO, win_t, win_f]
    have e0 : nq_X9_reach F s m 0 (q32 i) = some (q32 (-3), s, m) := by
      unfold nq_X9_reach nbq_X9_reach_0
      by_cases c : i < 0
      · simp (disch := omega) only [Option.bind_some, bindv, bindv0, bind2_s, bind3_s, ↓reduceIte, Bool.false_eq_true, rZM_0, rZM_1, rZP_0, rZP_1, ptZ_0, ptZ_1, c32i, c64i, ncI, Int.natCast_add, Int.natCast_mul, q32_neg, q64_neg, q32_add, q32_sub, q32_mul, q64_add, q64_sub, q64_mul, q32_64i, q64_32, q32_lt_t, q32_lt_f, q32_le_t, q32_le_f, q32_eq_t, q32_eq_f, q64_lt_t, q64_lt_f, q64_le_t, q64_le_f, q64_eq_t, q64_eq_f, rdI_i, rdL_i, rdR_i, rdN_i, stI_i, stL_i, stR_i, wI_s, wI_n, wL_s, wL_n, wI_2, wI_3, wL_1, wL_3, wR_1, wR_2, Int.toNat_natCast, tnO, tn_add, tn_sub, tn_mul, Nat.add_sub_cancel, Nat.add_zero, Nat.zero_add, lnO, win_t, win_f]
      · simp (disch := omega) only [Option.bind_some, bindv, bindv0, bind2_s, bind3_s, ↓reduceIte, Bool.false_eq_true, rZM_0, rZM_1, rZP_0, rZP_1, ptZ_0, ptZ_1, c32i, c64i, ncI, Int.natCast_add, Int.natCast_mul, q32_neg, q64_neg, q32_add, q32_sub, q32_mul, q64_add, q64_sub, q64_mul, q32_64i, q64_32, q32_lt_t, q32_lt_f, q32_le_t, q32_le_f, q32_eq_t, q32_eq_f, q64_lt_t, q64_lt_f, q64_le_t, q64_le_f, q64_eq_t, q64_eq_f, rdI_i, rdL_i, rdR_i, rdN_i, stI_i, stL_i, stR_i, wI_s, wI_n, wL_s, wL_n, wI_2, wI_3, wL_1, wL_3, wR_1, wR_2, Int.toNat_natCast, tnO, tn_add, tn_sub, tn_mul, Nat.add_sub_cancel, Nat.add_zero, Nat.zero_add, lnO, win_t, win_f]
    have e2 : n_X10_reach F s m 23 (q32 i) = some (q32 (-3), wI m 23 0 (q32 0)) := by
      unfold n_X10_reach nb_X10_reach_0
      simp (disch := omega) only [Option.bind_some, bindv, bindv0, bind2_s, bind3_s, ↓reduceIte, Bool.false_eq_true, rZM_0, rZM_1, rZP_0, rZP_1, ptZ_0, ptZ_1, c32i, c64i, ncI, Int.natCast_add, Int.natCast_mul, q32_neg, q64_neg, q32_add, q32_sub, q32_mul, q64_add, q64_sub, q64_mul, q32_64i, q64_32, q32_lt_t, q32_lt_f, q32_le_t, q32_le_f, q32_eq_t, q32_eq_f, q64_lt_t, q64_lt_f, q64_le_t, q64_le_f, q64_eq_t, q64_eq_f, rdI_i, rdL_i, rdR_i, rdN_i, stI_i, stL_i, stR_i, wI_s, wI_n, wL_s, wL_n, wI_2, wI_3, wL_1, wL_3, wR_1, wR_2, Int.toNat_natCast, tnO, tn_add, tn_sub, tn_mul, Nat.add_sub_cancel, Nat.add_zero, Nat.zero_add, lnO, win_t, win_f]
    exact opq_no h0 e0 e1 e2 (un_X10_reach (un_X9_reach hg (okB hp).1 e1).2.1 (okB hp).2 e2).2 (SC.k0 m)
/-! the highest -/
theorem below9 {s : List Sh} {m : Mem} {q : Nat} {tp : Int} {L : List FR} {C : Nat → Int} (hq : QB s m q) (hL : LG m q L C) (hf : FLS tp L) {i j : Nat} (hi : i < L.length) (hj : j < L.length) : n_X1_isBelow s m (q + 1) (q32 i) (q32 j) = some (if (gt L i).1 * (gt L j).2 < (gt L j).1 * (gt L i).2 then q32 1 else q32 0) := by
  obtain ⟨q1, q2, q3, q4, q5, q6, q7, q8, q9, q10, q11, q12, q13, l2, l3, l4, l5, l6, l7, l8, l9⟩ := hq
  have hl := hL.1
  obtain ⟨u1, u2, -⟩ := hL.2.2.1 i hi
  obtain ⟨w1, w2, -⟩ := hL.2.2.1 j hj
  have xb := (hf.at hi).b
  have yb := (hf.at hj).b
  have p1 := mulb (x := (gt L i).1) (y := (gt L j).2) (by omega) (by omega)
  have p2 := mulb (x := (gt L j).1) (y := (gt L i).2) (by omega) (by omega)
  unfold n_X1_isBelow nb_X1_isBelow_0
  generalize e1 : (gt L i).1 * (gt L j).2 = a at *
  generalize e2 : (gt L j).1 * (gt L i).2 = b at *
  by_cases c : a < b
  · rw [if_pos c]
    simp (disch := omega) only [Option.bind_some, bindv, bindv0, bind2_s, bind3_s, ↓reduceIte, Bool.false_eq_true, rZM_0, rZM_1, rZP_0, rZP_1, ptZ_0, ptZ_1, c32i, c64i, ncI, Int.natCast_add, Int.natCast_mul, q32_neg, q64_neg, q32_add, q32_sub, q32_mul, q64_add, q64_sub, q64_mul, q32_64i, q64_32, q32_lt_t, q32_lt_f, q32_le_t, q32_le_f, q32_eq_t, q32_eq_f, q64_lt_t, q64_lt_f, q64_le_t, q64_le_f, q64_eq_t, q64_eq_f, rdI_i, rdL_i, rdR_i, rdN_i, stI_i, stL_i, stR_i, wI_s, wI_n, wL_s, wL_n, wI_2, wI_3, wL_1, wL_3, wR_1, wR_2, Int.toNat_natCast, tnO, tn_add, tn_sub, tn_mul, Nat.add_sub_cancel, Nat.add_zero, Nat.zero_add, lnO, win_t, win_f, q8, q9, u1, u2, w1, w2, e1, e2]
  · rw [if_neg c]
    simp (disch := omega) only [Option.bind_some, bindv, bindv0, bind2_s, bind3_s, ↓reduceIte, Bool.false_eq_true, rZM_0, rZM_1, rZP_0, rZP_1, ptZ_0, ptZ_1, c32i, c64i, ncI, Int.natCast_add, Int.natCast_mul, q32_neg, q64_neg, q32_add, q32_sub, q32_mul, q64_add, q64_sub, q64_mul, q32_64i, q64_32, q32_lt_t, q32_lt_f, q32_le_t, q32_le_f, q32_eq_t, q32_eq_f, q64_lt_t, q64_lt_f, q64_le_t, q64_le_f, q64_eq_t, q64_eq_f, rdI_i, rdL_i, rdR_i, rdN_i, stI_i, stL_i, stR_i, wI_s, wI_n, wL_s, wL_n, wI_2, wI_3, wL_1, wL_3, wR_1, wR_2, Int.toNat_natCast, tnO, tn_add, tn_sub, tn_mul, Nat.add_sub_cancel, Nat.add_zero, Nat.zero_add, lnO, win_t, win_f, q8, q9, u1, u2, w1, w2, e1, e2]
def HIX (P : List FR) : Nat → Nat → Int → Int
  | 0, _, b => b
  | n + 1, i, b => HIX P n (i + 1) (if b = -1 ∨ (gt P b.toNat).1 * (gt P i).2 < (gt P i).1 * (gt P b.toNat).2 then (i : Int) else b)
theorem HIX_b (P : List FR) : ∀ (n i : Nat) (b : Int), -1 ≤ b → b < i → -1 ≤ HIX P n i b ∧ HIX P n i b < i + n := by
  intro n
  induction n with
  | zero => intro i b h1 h2; exact ⟨h1, by show b < _; omega⟩
  | succ n ih =>
    intro i b h1 h2
    unfold HIX
    split
    · have := ih (i + 1) i (by omega) (by omega); omega
    · have := ih (i + 1) b h1 (by omega); omega
def shf (k : Nat) (b : Int) : Int := if b = -1 then -1 else k + b
theorem greL9 {F : Nat} {s : List Sh} {m : Mem} {q : Nat} {tp : Int} {B P : List FR} {C : Nat → Int} (hq : QB s m q) (hL : LG m q (B ++ P) C) (hf : FLS tp (B ++ P)) : ∀ (n i fuel : Nat) (b : Int), i + n = P.length → n < fuel → -1 ≤ b → b < i → nl_X5_greatestFrom_4 F s m fuel q (q32 (shf B.length b)) (q32 (B.length + (i : Nat))) = some (q32 (shf B.length (HIX P n i b))) := by
  have hl : (B ++ P).length = B.length + P.length := List.length_append
  have h1 := hL.1
  have sz := hL.2.1
  have q0 := hq.2.2.2.1
  intro n
  induction n with
  | zero =>
    intro i fuel b hi hfu hb1 hb2
    obtain ⟨fuel, rfl⟩ : ∃ f, fuel = f + 1 := ⟨fuel - 1, by omega⟩
    show nb_X5_greatestFrom_4 F s (nl_X5_greatestFrom_4 F s m fuel) m q _ _ = _
    unfold nb_X5_greatestFrom_4 HIX
    simp (disch := omega) only [Option.bind_some, bindv, bindv0, bind2_s, bind3_s, ↓reduceIte, Bool.false_eq_true, rZM_0, rZM_1, rZP_0, rZP_1, ptZ_0, ptZ_1, c32i, c64i, ncI, Int.natCast_add, Int.natCast_mul, q32_neg, q64_neg, q32_add, q32_sub, q32_mul, q64_add, q64_sub, q64_mul, q32_64i, q64_32, q32_lt_t, q32_lt_f, q32_le_t, q32_le_f, q32_eq_t, q32_eq_f, q64_lt_t, q64_lt_f, q64_le_t, q64_le_f, q64_eq_t, q64_eq_f, rdI_i, rdL_i, rdR_i, rdN_i, stI_i, stL_i, stR_i, wI_s, wI_n, wL_s, wL_n, wI_2, wI_3, wL_1, wL_3, wR_1, wR_2, Int.toNat_natCast, tnO, tn_add, tn_sub, tn_mul, Nat.add_sub_cancel, Nat.add_zero, Nat.zero_add, lnO, win_t, win_f, q0, sz]
  | succ n ih =>
    intro i fuel b hi hfu hb1 hb2
    obtain ⟨fuel, rfl⟩ : ∃ f, fuel = f + 1 := ⟨fuel - 1, by omega⟩
    have ei : shf B.length (i : Int) = (B.length : Int) + i := by unfold shf; rw [if_neg (by omega)]
    show nb_X5_greatestFrom_4 F s (nl_X5_greatestFrom_4 F s m fuel) m q _ _ = _
    unfold nb_X5_greatestFrom_4 nb_X5_greatestFrom_32 nb_X5_greatestFrom_34 HIX
    by_cases c : b = -1
    · have ih := ih (i + 1) fuel i (by omega) (by omega) (by omega) (by omega)
      rw [if_pos (Or.inl c), ← ih, ei, c, show shf B.length (-1) = -1 from if_pos rfl, Int.natCast_add i 1, show ((1 : Nat) : Int) = 1 from rfl, ← Int.add_assoc]
      simp (disch := omega) only [Option.bind_some, bindv, bindv0, bind2_s, bind3_s, ↓reduceIte, Bool.false_eq_true, rZM_0, rZM_1, rZP_0, rZP_1, ptZ_0, ptZ_1, c32i, c64i, ncI, Int.natCast_add, Int.natCast_mul, q32_neg, q64_neg, q32_add, q32_sub, q32_mul, q64_add, q64_sub, q64_mul, q32_64i, q64_32, q32_lt_t, q32_lt_f, q32_le_t, q32_le_f, q32_eq_t, q32_eq_f, q64_lt_t, q64_lt_f, q64_le_t, q64_le_f, q64_eq_t, q64_eq_f, rdI_i, rdL_i, rdR_i, rdN_i, stI_i, stL_i, stR_i, wI_s, wI_n, wL_s, wL_n, wI_2, wI_3, wL_1, wL_3, wR_1, wR_2, Int.toNat_natCast, tnO, tn_add, tn_sub, tn_mul, Nat.add_sub_cancel, Nat.add_zero, Nat.zero_add, lnO, win_t, win_f, q0, sz]
    · obtain ⟨k, rfl⟩ := Int.eq_ofNat_of_zero_le (show 0 ≤ b by omega)
      have ek : shf B.length (k : Int) = (B.length : Int) + k := by unfold shf; rw [if_neg (by omega)]
      have bl := below9 hq hL hf (i := B.length + k) (j := B.length + i) (by omega) (by omega)
      rw [gt_r, gt_r, Int.natCast_add, Int.natCast_add] at bl
      rw [Int.toNat_natCast, ek]
      by_cases c2 : (gt P k).1 * (gt P i).2 < (gt P i).1 * (gt P k).2
      · have ih := ih (i + 1) fuel i (by omega) (by omega) (by omega) (by omega)
        rw [if_pos (Or.inr c2), ← ih, ei, Int.natCast_add i 1, show ((1 : Nat) : Int) = 1 from rfl, ← Int.add_assoc]
        rw [if_pos c2] at bl
        simp (disch := omega) only [Option.bind_some, bindv, bindv0, bind2_s, bind3_s, ↓reduceIte, Bool.false_eq_true, rZM_0, rZM_1, rZP_0, rZP_1, ptZ_0, ptZ_1, c32i, c64i, ncI, Int.natCast_add, Int.natCast_mul, q32_neg, q64_neg, q32_add, q32_sub, q32_mul, q64_add, q64_sub, q64_mul, q32_64i, q64_32, q32_lt_t, q32_lt_f, q32_le_t, q32_le_f, q32_eq_t, q32_eq_f, q64_lt_t, q64_lt_f, q64_le_t, q64_le_f, q64_eq_t, q64_eq_f, rdI_i, rdL_i, rdR_i, rdN_i, stI_i, stL_i, stR_i, wI_s, wI_n, wL_s, wL_n, wI_2, wI_3, wL_1, wL_3, wR_1, wR_2, Int.toNat_natCast, tnO, tn_add, tn_sub, tn_mul, Nat.add_sub_cancel, Nat.add_zero, Nat.zero_add, lnO, win_t, win_f, q0, sz, bl]
      · have ih := ih (i + 1) fuel k (by omega) (by omega) (by omega) (by omega)
        rw [if_neg (show ¬ ((k : Int) = -1 ∨ (gt P k).1 * (gt P i).2 < (gt P i).1 * (gt P k).2) from fun h => h.elim c c2), ← ih, ek, Int.natCast_add i 1, show ((1 : Nat) : Int) = 1 from rfl, ← Int.add_assoc]
        rw [if_neg c2] at bl
        simp (disch := omega) only [Option.bind_some, bindv, bindv0, bind2_s, bind3_s, ↓reduceIte, Bool.false_eq_true, rZM_0, rZM_1, rZP_0, rZP_1, ptZ_0, ptZ_1, c32i, c64i, ncI, Int.natCast_add, Int.natCast_mul, q32_neg, q64_neg, q32_add, q32_sub, q32_mul, q64_add, q64_sub, q64_mul, q32_64i, q64_32, q32_lt_t, q32_lt_f, q32_le_t, q32_le_f, q32_eq_t, q32_eq_f, q64_lt_t, q64_lt_f, q64_le_t, q64_le_f, q64_eq_t, q64_eq_f, rdI_i, rdL_i, rdR_i, rdN_i, stI_i, stL_i, stR_i, wI_s, wI_n, wL_s, wL_n, wI_2, wI_3, wL_1, wL_3, wR_1, wR_2, Int.toNat_natCast, tnO, tn_add, tn_sub, tn_mul, Nat.add_sub_cancel, Nat.add_zero, Nat.zero_add, lnO, win_t, win_f, q0, sz, bl]
theorem higL10 {F : Nat} {s : List Sh} (hp : ∃ t, s = sB ++ t) {m : Mem} (hr : RF m) {tp : Int} {P : List FR} (hg : PG m P) (hP : P.length ≤ 8192) (hf : FLS tp P) {w : Int} (hw : w = 0 ∨ w = 1) : ∀ (n i fuel : Nat) (b : Int), i + n = P.length → n < fuel → -1 ≤ b → b < i → nl_X10_highest_43 F s fuel m 23 (q32 w) (q32 b) (q32 (i : Nat)) = some (q32 (if HIX P n i b = -1 then -1 else if w = 0 then (gt P (HIX P n i b).toNat).1 else (gt P (HIX P n i b).toNat).2), m) := by
  have l37 := ln37 hp
  have l38 := ln38 hp
  have r31 := rf23_31 hr
  have r32 := rf23_32 hr
  have g1 := hg.1
  intro n
  induction n with
  | zero =>
    intro i fuel b hi hfu hb1 hb2
    obtain ⟨fuel, rfl⟩ : ∃ f, fuel = f + 1 := ⟨fuel - 1, by omega⟩
    show nb_X10_highest_43 F s (nl_X10_highest_43 F s fuel) m 23 _ _ _ = _
    unfold nb_X10_highest_43 HIX
    by_cases c : b = -1
    · rw [if_pos c, c]
      simp (disch := omega) only [Option.bind_some, bindv, bindv0, bind2_s, bind3_s, ↓reduceIte, Bool.false_eq_true, rZM_0, rZM_1, rZP_0, rZP_1, ptZ_0, ptZ_1, c32i, c64i, ncI, Int.natCast_add, Int.natCast_mul, q32_neg, q64_neg, q32_add, q32_sub, q32_mul, q64_add, q64_sub, q64_mul, q32_64i, q64_32, q32_lt_t, q32_lt_f, q32_le_t, q32_le_f, q32_eq_t, q32_eq_f, q64_lt_t, q64_lt_f, q64_le_t, q64_le_f, q64_eq_t, q64_eq_f, rdI_i, rdL_i, rdR_i, rdN_i, stI_i, stL_i, stR_i, wI_s, wI_n, wL_s, wL_n, wI_2, wI_3, wL_1, wL_3, wR_1, wR_2, Int.toNat_natCast, tnO, tn_add, tn_sub, tn_mul, Nat.add_sub_cancel, Nat.add_zero, Nat.zero_add, lnO, win_t, win_f, g1]
    · rw [if_neg c]
      obtain ⟨k, rfl⟩ := Int.eq_ofNat_of_zero_le (show 0 ≤ b by omega)
      rw [Int.toNat_natCast]
      obtain ⟨u1, u2⟩ := hg.2 k (by omega)
      rcases hw with rfl | rfl
      · simp (disch := omega) only [Option.bind_some, bindv, bindv0, bind2_s, bind3_s, ↓reduceIte, Bool.false_eq_true, rZM_0, rZM_1, rZP_0, rZP_1, ptZ_0, ptZ_1, c32i, c64i, ncI, Int.natCast_add, Int.natCast_mul, q32_neg, q64_neg, q32_add, q32_sub, q32_mul, q64_add, q64_sub, q64_mul, q32_64i, q64_32, q32_lt_t, q32_lt_f, q32_le_t, q32_le_f, q32_eq_t, q32_eq_f, q64_lt_t, q64_lt_f, q64_le_t, q64_le_f, q64_eq_t, q64_eq_f, rdI_i, rdL_i, rdR_i, rdN_i, stI_i, stL_i, stR_i, wI_s, wI_n, wL_s, wL_n, wI_2, wI_3, wL_1, wL_3, wR_1, wR_2, Int.toNat_natCast, tnO, tn_add, tn_sub, tn_mul, Nat.add_sub_cancel, Nat.add_zero, Nat.zero_add, lnO, win_t, win_f, g1, r31, r32, u1, u2]
      · rw [if_neg (show ¬ (1 : Int) = 0 by decide)]
        simp (disch := omega) only [Option.bind_some, bindv, bindv0, bind2_s, bind3_s, ↓reduceIte, Bool.false_eq_true, rZM_0, rZM_1, rZP_0, rZP_1, ptZ_0, ptZ_1, c32i, c64i, ncI, Int.natCast_add, Int.natCast_mul, q32_neg, q64_neg, q32_add, q32_sub, q32_mul, q64_add, q64_sub, q64_mul, q32_64i, q64_32, q32_lt_t, q32_lt_f, q32_le_t, q32_le_f, q32_eq_t, q32_eq_f, q64_lt_t, q64_lt_f, q64_le_t, q64_le_f, q64_eq_t, q64_eq_f, rdI_i, rdL_i, rdR_i, rdN_i, stI_i, stL_i, stR_i, wI_s, wI_n, wL_s, wL_n, wI_2, wI_3, wL_1, wL_3, wR_1, wR_2, Int.toNat_natCast, tnO, tn_add, tn_sub, tn_mul, Nat.add_sub_cancel, Nat.add_zero, Nat.zero_add, lnO, win_t, win_f, g1, r31, r32, u1, u2]
  | succ n ih =>
    intro i fuel b hi hfu hb1 hb2
    obtain ⟨fuel, rfl⟩ : ∃ f, fuel = f + 1 := ⟨fuel - 1, by omega⟩
    show nb_X10_highest_43 F s (nl_X10_highest_43 F s fuel) m 23 _ _ _ = _
    unfold nb_X10_highest_43 nb_X10_highest_93 nb_X10_highest_96 HIX
    by_cases c : b = -1
    · have ih := ih (i + 1) fuel i (by omega) (by omega) (by omega) (by omega)
      rw [if_pos (show b = -1 ∨ _ from Or.inl c), ← ih, c, Int.natCast_add]
      simp (disch := omega) only [Option.bind_some, bindv, bindv0, bind2_s, bind3_s, ↓reduceIte, Bool.false_eq_true, rZM_0, rZM_1, rZP_0, rZP_1, ptZ_0, ptZ_1, c32i, c64i, ncI, Int.natCast_add, Int.natCast_mul, q32_neg, q64_neg, q32_add, q32_sub, q32_mul, q64_add, q64_sub, q64_mul, q32_64i, q64_32, q32_lt_t, q32_lt_f, q32_le_t, q32_le_f, q32_eq_t, q32_eq_f, q64_lt_t, q64_lt_f, q64_le_t, q64_le_f, q64_eq_t, q64_eq_f, rdI_i, rdL_i, rdR_i, rdN_i, stI_i, stL_i, stR_i, wI_s, wI_n, wL_s, wL_n, wI_2, wI_3, wL_1, wL_3, wR_1, wR_2, Int.toNat_natCast, tnO, tn_add, tn_sub, tn_mul, Nat.add_sub_cancel, Nat.add_zero, Nat.zero_add, lnO, win_t, win_f, g1]
      first | done | rfl
    · obtain ⟨k, rfl⟩ := Int.eq_ofNat_of_zero_le (show 0 ≤ b by omega)
      obtain ⟨u1, u2⟩ := hg.2 k (by omega)
      obtain ⟨v1, v2⟩ := hg.2 i (by omega)
      have xb := (hf.at (i := k) (by omega)).b
      have yb := (hf.at (i := i) (by omega)).b
      have ag := agn (a := (gt P i).1) (b := (gt P i).2) (c := (gt P k).1) (d := (gt P k).2) (by omega) (by omega) (by omega) (by omega)
      rw [Int.toNat_natCast]
      by_cases c2 : (gt P k).1 * (gt P i).2 < (gt P i).1 * (gt P k).2
      · have ih := ih (i + 1) fuel i (by omega) (by omega) (by omega) (by omega)
        rw [if_pos (show (k : Int) = -1 ∨ _ from Or.inr c2), ← ih, Int.natCast_add]
        rw [if_neg (by omega), if_pos c2] at ag
        simp (disch := omega) only [Option.bind_some, bindv, bindv0, bind2_s, bind3_s, ↓reduceIte, Bool.false_eq_true, rZM_0, rZM_1, rZP_0, rZP_1, ptZ_0, ptZ_1, c32i, c64i, ncI, Int.natCast_add, Int.natCast_mul, q32_neg, q64_neg, q32_add, q32_sub, q32_mul, q64_add, q64_sub, q64_mul, q32_64i, q64_32, q32_lt_t, q32_lt_f, q32_le_t, q32_le_f, q32_eq_t, q32_eq_f, q64_lt_t, q64_lt_f, q64_le_t, q64_le_f, q64_eq_t, q64_eq_f, rdI_i, rdL_i, rdR_i, rdN_i, stI_i, stL_i, stR_i, wI_s, wI_n, wL_s, wL_n, wI_2, wI_3, wL_1, wL_3, wR_1, wR_2, Int.toNat_natCast, tnO, tn_add, tn_sub, tn_mul, Nat.add_sub_cancel, Nat.add_zero, Nat.zero_add, lnO, win_t, win_f, g1, r31, r32, u1, u2, v1, v2, ag]
        first | done | rfl
      · have ih := ih (i + 1) fuel k (by omega) (by omega) (by omega) (by omega)
        rw [if_neg (show ¬ ((k : Int) = -1 ∨ (gt P k).1 * (gt P i).2 < (gt P i).1 * (gt P k).2) from fun h => h.elim c c2), ← ih, Int.natCast_add]
        rw [if_neg c2] at ag
        by_cases c3 : (gt P i).1 * (gt P k).2 < (gt P k).1 * (gt P i).2
        · rw [if_pos c3] at ag
          simp (disch := omega) only [Option.bind_some, bindv, bindv0, bind2_s, bind3_s, ↓reduceIte, Bool.false_eq_true, rZM_0, rZM_1, rZP_0, rZP_1, ptZ_0, ptZ_1, c32i, c64i, ncI, Int.natCast_add, Int.natCast_mul, q32_neg, q64_neg, q32_add, q32_sub, q32_mul, q64_add, q64_sub, q64_mul, q32_64i, q64_32, q32_lt_t, q32_lt_f, q32_le_t, q32_le_f, q32_eq_t, q32_eq_f, q64_lt_t, q64_lt_f, q64_le_t, q64_le_f, q64_eq_t, q64_eq_f, rdI_i, rdL_i, rdR_i, rdN_i, stI_i, stL_i, stR_i, wI_s, wI_n, wL_s, wL_n, wI_2, wI_3, wL_1, wL_3, wR_1, wR_2, Int.toNat_natCast, tnO, tn_add, tn_sub, tn_mul, Nat.add_sub_cancel, Nat.add_zero, Nat.zero_add, lnO, win_t, win_f, g1, r31, r32, u1, u2, v1, v2, ag]
          first | done | rfl
        · rw [if_neg c3] at ag
          simp (disch := omega) only [Option.bind_some, bindv, bindv0, bind2_s, bind3_s, ↓reduceIte, Bool.false_eq_true, rZM_0, rZM_1, rZP_0, rZP_1, ptZ_0, ptZ_1, c32i, c64i, ncI, Int.natCast_add, Int.natCast_mul, q32_neg, q64_neg, q32_add, q32_sub, q32_mul, q64_add, q64_sub, q64_mul, q32_64i, q64_32, q32_lt_t, q32_lt_f, q32_le_t, q32_le_f, q32_eq_t, q32_eq_f, q64_lt_t, q64_lt_f, q64_le_t, q64_le_f, q64_eq_t, q64_eq_f, rdI_i, rdL_i, rdR_i, rdN_i, stI_i, stL_i, stR_i, wI_s, wI_n, wL_s, wL_n, wI_2, wI_3, wL_1, wL_3, wR_1, wR_2, Int.toNat_natCast, tnO, tn_add, tn_sub, tn_mul, Nat.add_sub_cancel, Nat.add_zero, Nat.zero_add, lnO, win_t, win_f, g1, r31, r32, u1, u2, v1, v2, ag]
          first | done | rfl
theorem opq_highest {F : Nat} (hF : 20000 ≤ F) {s : List Sh} {m : Mem} (h : INV s m) (w1 w2 : Int32) : OPQ s m (nq_X9_highest F s m 0 w1 w2) (n_X9_highest F s m 0 w1 w2) (fun s1 m1 => n_X10_highest F s1 m1 23 w1 w2) := by
  have h0 := h
  obtain ⟨hg, ow, nw, hst⟩ := h
  have hl := hst.1
  have hp := hl.hp
  have hr := hl.rf
  have hn := hl.hn
  have rn := hl.nw
  have r1 := rf23_1 hr
  have l24 := ln24 hp
  obtain ⟨i, hi, rfl⟩ := q32_of w1
  obtain ⟨w, hw, rfl⟩ := q32_of w2
  by_cases cw : 0 ≤ w ∧ w ≤ 1
  · by_cases ci : 0 ≤ i ∧ i ≤ 5
    · obtain ⟨n, rfl⟩ := Int.eq_ofNat_of_zero_le ci.1
      obtain ⟨s', m', ow', q, bc, c1, c2, c3, c4, c5, c6, c7, c8, c9⟩ := search hF hst
      obtain ⟨m1, B, C, d1, d2, d3, d4⟩ := layF9 hF (n := n) (by omega) c2 c3 c8
      have c2' := c2.k d2
      have hp' := c2.1.1.hp
      have sz := d3.2.1
      obtain ⟨q1, q2, q3, q4, q5, q6, q7, q8, q9, q10, q11, q12, q13, l2, l3, l4, l5, l6, l7, l8, l9⟩ := c2'.qb
      have rd : RD (wI m1 23 0 (q32 0)) (m.1 24) := ⟨c2'.1.1.rf.same rfl, fun k _ => by rw [wI_n (by omega)]; exact congrFun c2'.2.2.2.1 k⟩
      obtain ⟨m2, f1, f2, f3, f4⟩ := reach10 hF hp' c2.wa c9 c2.2.2.2.2.2 (n := n) (by omega) rd
      have ll := LY_len (m.1 24) c2.2.2.2.2.2 (A (m.1 24) 7, A (m.1 24) 8) n
      have l5' : 6 ^ n ≤ 6 ^ 5 := Nat.pow_le_pow_right (by omega) (by omega)
      have l5'' : 6 ^ 5 = 7776 := by decide
      generalize hP : LY (m.1 24) bc (A (m.1 24) 7, A (m.1 24) 8) n = P at *
      have hbl : (B ++ P).length = B.length + P.length := List.length_append
      have d1' := d3.1
      have gr := greL9 (F := F) c2'.qb d3 d4 P.length 0 F (-1) (by omega) (by omega) (by omega) (by omega)
      have hg10 := higL10 (F := F) hp' (rd.k f2).1 f3 (by omega) f4 (w := w) (by omega) P.length 0 F (-1) (by omega) (by omega) (by omega) (by omega)
      have hb := HIX_b P P.length 0 (-1) (by omega) (by omega)
      have gr' : n_X5_greatestFrom F s' m1 q (q32 B.length) = some (q32 (shf B.length (HIX P P.length 0 (-1)))) := by
        unfold n_X5_greatestFrom nb_X5_greatestFrom_0
        rw [← gr, show shf B.length (-1) = -1 from if_pos rfl, show ((B.length : Int) + ((0 : Nat) : Int)) = B.length by omega]
        simp (disch := omega) only [Option.bind_some, bindv, bindv0, bind2_s, bind3_s, ↓reduceIte, Bool.false_eq_true, rZM_0, rZM_1, rZP_0, rZP_1, ptZ_0, ptZ_1, c32i, c64i, ncI, Int.natCast_add, Int.natCast_mul, q32_neg, q64_neg, q32_add, q32_sub, q32_mul, q64_add, q64_sub, q64_mul, q32_64i, q64_32, q32_lt_t, q32_lt_f, q32_le_t, q32_le_f, q32_eq_t, q32_eq_f, q64_lt_t, q64_lt_f, q64_le_t, q64_le_f, q64_eq_t, q64_eq_f, rdI_i, rdL_i, rdR_i, rdN_i, stI_i, stL_i, stR_i, wI_s, wI_n, wL_s, wL_n, wI_2, wI_3, wL_1, wL_3, wR_1, wR_2, Int.toNat_natCast, tnO, tn_add, tn_sub, tn_mul, Nat.add_sub_cancel, Nat.add_zero, Nat.zero_add, lnO, win_t, win_f]
      generalize HIX P P.length 0 (-1) = x at *
      have e1 : n_X9_highest F s m 0 (q32 n) (q32 w) = some (q32 (if x = -1 then -1 else if w = 0 then (gt P x.toNat).1 else (gt P x.toNat).2), s', m1) := by
        unfold n_X9_highest nb_X9_highest_0
        by_cases cx : x = -1
        · rw [if_pos cx]
          rw [cx, show shf B.length (-1) = -1 from if_pos rfl] at gr'
          simp (disch := omega) only [Option.bind_some, bindv, bindv0, bind2_s, bind3_s, ↓reduceIte, Bool.false_eq_true, rZM_0, rZM_1, rZP_0, rZP_1, ptZ_0, ptZ_1, c32i, c64i, ncI, Int.natCast_add, Int.natCast_mul, q32_neg, q64_neg, q32_add, q32_sub, q32_mul, q64_add, q64_sub, q64_mul, q32_64i, q64_32, q32_lt_t, q32_lt_f, q32_le_t, q32_le_f, q32_eq_t, q32_eq_f, q64_lt_t, q64_lt_f, q64_le_t, q64_le_f, q64_eq_t, q64_eq_f, rdI_i, rdL_i, rdR_i, rdN_i, stI_i, stL_i, stR_i, wI_s, wI_n, wL_s, wL_n, wI_2, wI_3, wL_1, wL_3, wR_1, wR_2, Int.toNat_natCast, tnO, tn_add, tn_sub, tn_mul, Nat.add_sub_cancel, Nat.add_zero, Nat.zero_add, lnO, win_t, win_f, c1, d1, gr']
        · rw [if_neg cx]
          obtain ⟨k, rfl⟩ := Int.eq_ofNat_of_zero_le (show 0 ≤ x by omega)
          rw [show shf B.length (k : Int) = (B.length : Int) + k by unfold shf; rw [if_neg (by omega)]] at gr'
          rw [Int.toNat_natCast]
          obtain ⟨u1, u2, -⟩ := d3.2.2.1 (B.length + k) (by omega)
          rw [gt_r] at u1 u2
          have en : ((B.length : Int) + (k : Int)).toNat = B.length + k := by omega
          by_cases c0 : w = 0
          · rw [if_pos c0, c0]
            simp (disch := omega) only [Option.bind_some, bindv, bindv0, bind2_s, bind3_s, ↓reduceIte, Bool.false_eq_true, rZM_0, rZM_1, rZP_0, rZP_1, ptZ_0, ptZ_1, c32i, c64i, ncI, Int.natCast_add, Int.natCast_mul, q32_neg, q64_neg, q32_add, q32_sub, q32_mul, q64_add, q64_sub, q64_mul, q32_64i, q64_32, q32_lt_t, q32_lt_f, q32_le_t, q32_le_f, q32_eq_t, q32_eq_f, q64_lt_t, q64_lt_f, q64_le_t, q64_le_f, q64_eq_t, q64_eq_f, rdI_i, rdL_i, rdR_i, rdN_i, stI_i, stL_i, stR_i, wI_s, wI_n, wL_s, wL_n, wI_2, wI_3, wL_1, wL_3, wR_1, wR_2, Int.toNat_natCast, c1, d1, gr', q4, q8, q9, u1, u2, en]
          · rw [if_neg c0]
            simp (disch := omega) only [Option.bind_some, bindv, bindv0, bind2_s, bind3_s, ↓reduceIte, Bool.false_eq_true, rZM_0, rZM_1, rZP_0, rZP_1, ptZ_0, ptZ_1, c32i, c64i, ncI, Int.natCast_add, Int.natCast_mul, q32_neg, q64_neg, q32_add, q32_sub, q32_mul, q64_add, q64_sub, q64_mul, q32_64i, q64_32, q32_lt_t, q32_lt_f, q32_le_t, q32_le_f, q32_eq_t, q32_eq_f, q64_lt_t, q64_lt_f, q64_le_t, q64_le_f, q64_eq_t, q64_eq_f, rdI_i, rdL_i, rdR_i, rdN_i, stI_i, stL_i, stR_i, wI_s, wI_n, wL_s, wL_n, wI_2, wI_3, wL_1, wL_3, wR_1, wR_2, Int.toNat_natCast, c1, d1, gr', q4, q8, q9, u1, u2, en]
      have f1' := f1
      have hg10' : nl_X10_highest_43 F s' F m2 23 (q32 w) (q32 (-1)) (q32 0) = _ := hg10
      have e2 : n_X10_highest F s' m1 23 (q32 n) (q32 w) = some (q32 (if x = -1 then -1 else if w = 0 then (gt P x.toNat).1 else (gt P x.toNat).2), m2) := by
        unfold n_X10_highest nb_X10_highest_0
        simp (disch := omega) only [Option.bind_some, bindv, bindv0, bind2_s, bind3_s, ↓reduceIte, Bool.false_eq_true, rZM_0, rZM_1, rZP_0, rZP_1, ptZ_0, ptZ_1, c32i, c64i, ncI, Int.natCast_add, Int.natCast_mul, q32_neg, q64_neg, q32_add, q32_sub, q32_mul, q64_add, q64_sub, q64_mul, q32_64i, q64_32, q32_lt_t, q32_lt_f, q32_le_t, q32_le_f, q32_eq_t, q32_eq_f, q64_lt_t, q64_lt_f, q64_le_t, q64_le_f, q64_eq_t, q64_eq_f, rdI_i, rdL_i, rdR_i, rdN_i, stI_i, stL_i, stR_i, wI_s, wI_n, wL_s, wL_n, wI_2, wI_3, wL_1, wL_3, wR_1, wR_2, Int.toNat_natCast, tnO, tn_add, tn_sub, tn_mul, Nat.add_sub_cancel, Nat.add_zero, Nat.zero_add, lnO, win_t, win_f, f1', hg10']
      obtain ⟨-, g1, g2⟩ := un_X9_highest hg (okB hp).1 e1
      refine opq_fin (q := q) c4 e1 e2 (un_X10_highest g1 (okB hp').2 e2).2 c2'.1 ((SC.k0 m1).tr f2.sc) c2'.2.1 ?_
      rcases c7 with c7 | ⟨c7, c7'⟩
      · exact Or.inl c7
      · refine Or.inr ⟨c7, ?_⟩
        unfold nq_X9_highest nbq_X9_highest_0 n_X9_highest nb_X9_highest_0
        rw [c7']
    · have e1 : n_X9_highest F s m 0 (q32 i) (q32 w) = some (q32 (-3), s, m) := by
        unfold n_X9_highest nb_X9_highest_0
        by_cases c : i < 0
        · simp (disch := omega) only [Option.bind_some, bindv, bindv0, bind2_s, bind3_s, ↓reduceIte, Bool.false_eq_true, rZM_0, rZM_1, rZP_0, rZP_1, ptZ_0, ptZ_1, c32i, c64i, ncI, Int.natCast_add, Int.natCast_mul, q32_neg, q64_neg, q32_add, q32_sub, q32_mul, q64_add, q64_sub, q64_mul, q32_64i, q64_32, q32_lt_t, q32_lt_f, q32_le_t, q32_le_f, q32_eq_t, q32_eq_f, q64_lt_t, q64_lt_f, q64_le_t, q64_le_f, q64_eq_t, q64_eq_f, rdI_i, rdL_i, rdR_i, rdN_i, stI_i, stL_i, stR_i, wI_s, wI_n, wL_s, wL_n, wI_2, wI_3, wL_1, wL_3, wR_1, wR_2, Int.toNat_natCast, tnO, tn_add, tn_sub, tn_mul, Nat.add_sub_cancel, Nat.add_zero, Nat.zero_add, lnO, win_t, win_f]
        · simp (disch := omega) only [Option.bind_some, bindv, bindv0, bind2_s, bind3_s, ↓reduceIte, Bool.false_eq_true, rZM_0, rZM_1, rZP_0, rZP_1, ptZ_0, ptZ_1, c32i, c64i, ncI, Int.natCast_add, Int.natCast_mul, q32_neg, q64_neg, q32_add, q32_sub, q32_mul, q64_add, q64_sub, q64_mul, q32_64i, q64_32, q32_lt_t, q32_lt_f, q32_le_t, q32_le_f, q32_eq_t, q32_eq_f, q64_lt_t, q64_lt_f, q64_le_t, q64_le_f, q64_eq_t, q64_eq_f, rdI_i, rdL_i, rdR_i, rdN_i, stI_i, stL_i, stR_i, wI_s, wI_n, wL_s, wL_n, wI_2, wI_3, wL_1, wL_3, wR_1, wR_2, Int.toNat_natCast, tnO, tn_add, tn_sub, tn_mul, Nat.add_sub_cancel, Nat.add_zero, Nat.zero_add, lnO, win_t, win_f]
      have e0 : nq_X9_highest F s m 0 (q32 i) (q32 w) = some (q32 (-3), s, m) := by
        unfold nq_X9_highest nbq_X9_highest_0
        by_cases c : i < 0
        · simp (disch := omega) only [Option.bind_some, bindv, bindv0, bind2_s, bind3_s, ↓reduceIte, Bool.false_eq_true, rZM_0, rZM_1, rZP_0, rZP_1, ptZ_0, ptZ_1, c32i, c64i, ncI, Int.natCast_add, Int.natCast_mul, q32_neg, q64_neg, q32_add, q32_sub, q32_mul, q64_add, q64_sub, q64_mul, q32_64i, q64_32, q32_lt_t, q32_lt_f, q32_le_t, q32_le_f, q32_eq_t, q32_eq_f, q64_lt_t, q64_lt_f, q64_le_t, q64_le_f, q64_eq_t, q64_eq_f, rdI_i, rdL_i, rdR_i, rdN_i, stI_i, stL_i, stR_i, wI_s, wI_n, wL_s, wL_n, wI_2, wI_3, wL_1, wL_3, wR_1, wR_2, Int.toNat_natCast, tnO, tn_add, tn_sub, tn_mul, Nat.add_sub_cancel, Nat.add_zero, Nat.zero_add, lnO, win_t, win_f]
        · simp (disch := omega) only [Option.bind_some, bindv, bindv0, bind2_s, bind3_s, ↓reduceIte, Bool.false_eq_true, rZM_0, rZM_1, rZP_0, rZP_1, ptZ_0, ptZ_1, c32i, c64i, ncI, Int.natCast_add, Int.natCast_mul, q32_neg, q64_neg, q32_add, q32_sub, q32_mul, q64_add, q64_sub, q64_mul, q32_64i, q64_32, q32_lt_t, q32_lt_f, q32_le_t, q32_le_f, q32_eq_t, q32_eq_f, q64_lt_t, q64_lt_f, q64_le_t, q64_le_f, q64_eq_t, q64_eq_f, rdI_i, rdL_i, rdR_i, rdN_i, stI_i, stL_i, stR_i, wI_s, wI_n, wL_s, wL_n, wI_2, wI_3, wL_1, wL_3, wR_1, wR_2, Int.toNat_natCast, tnO, tn_add, tn_sub, tn_mul, Nat.add_sub_cancel, Nat.add_zero, Nat.zero_add, lnO, win_t, win_f]
      have e2 : n_X10_highest F s m 23 (q32 i) (q32 w) = some (q32 (-3), wI m 23 0 (q32 0)) := by
        unfold n_X10_highest nb_X10_highest_0
        simp (disch := omega) only [Option.bind_some, bindv, bindv0, bind2_s, bind3_s, ↓reduceIte, Bool.false_eq_true, rZM_0, rZM_1, rZP_0, rZP_1, ptZ_0, ptZ_1, c32i, c64i, ncI, Int.natCast_add, Int.natCast_mul, q32_neg, q64_neg, q32_add, q32_sub, q32_mul, q64_add, q64_sub, q64_mul, q32_64i, q64_32, q32_lt_t, q32_lt_f, q32_le_t, q32_le_f, q32_eq_t, q32_eq_f, q64_lt_t, q64_lt_f, q64_le_t, q64_le_f, q64_eq_t, q64_eq_f, rdI_i, rdL_i, rdR_i, rdN_i, stI_i, stL_i, stR_i, wI_s, wI_n, wL_s, wL_n, wI_2, wI_3, wL_1, wL_3, wR_1, wR_2, Int.toNat_natCast, tnO, tn_add, tn_sub, tn_mul, Nat.add_sub_cancel, Nat.add_zero, Nat.zero_add, lnO, win_t, win_f]
      exact opq_no h0 e0 e1 e2 (un_X10_highest (un_X9_highest hg (okB hp).1 e1).2.1 (okB hp).2 e2).2 (SC.k0 m)
  · have e1 : n_X9_highest F s m 0 (q32 i) (q32 w) = some (q32 (-2), s, m) := by
      unfold n_X9_highest nb_X9_highest_0
      by_cases c : w < 0
      · simp (disch := omega) only [Option.bind_some, bindv, bindv0, bind2_s, bind3_s, ↓reduceIte, Bool.false_eq_true, rZM_0, rZM_1, rZP_0, rZP_1, ptZ_0, ptZ_1, c32i, c64i, ncI, Int.natCast_add, Int.natCast_mul, q32_neg, q64_neg, q32_add, q32_sub, q32_mul, q64_add, q64_sub, q64_mul, q32_64i, q64_32, q32_lt_t, q32_lt_f, q32_le_t, q32_le_f, q32_eq_t, q32_eq_f, q64_lt_t, q64_lt_f, q64_le_t, q64_le_f, q64_eq_t, q64_eq_f, rdI_i, rdL_i, rdR_i, rdN_i, stI_i, stL_i, stR_i, wI_s, wI_n, wL_s, wL_n, wI_2, wI_3, wL_1, wL_3, wR_1, wR_2, Int.toNat_natCast, tnO, tn_add, tn_sub, tn_mul, Nat.add_sub_cancel, Nat.add_zero, Nat.zero_add, lnO, win_t, win_f]
      · simp (disch := omega) only [Option.bind_some, bindv, bindv0, bind2_s, bind3_s, ↓reduceIte, Bool.false_eq_true, rZM_0, rZM_1, rZP_0, rZP_1, ptZ_0, ptZ_1, c32i, c64i, ncI, Int.natCast_add, Int.natCast_mul, q32_neg, q64_neg, q32_add, q32_sub, q32_mul, q64_add, q64_sub, q64_mul, q32_64i, q64_32, q32_lt_t, q32_lt_f, q32_le_t, q32_le_f, q32_eq_t, q32_eq_f, q64_lt_t, q64_lt_f, q64_le_t, q64_le_f, q64_eq_t, q64_eq_f, rdI_i, rdL_i, rdR_i, rdN_i, stI_i, stL_i, stR_i, wI_s, wI_n, wL_s, wL_n, wI_2, wI_3, wL_1, wL_3, wR_1, wR_2, Int.toNat_natCast, tnO, tn_add, tn_sub, tn_mul, Nat.add_sub_cancel, Nat.add_zero, Nat.zero_add, lnO, win_t, win_f]
    have e0 : nq_X9_highest F s m 0 (q32 i) (q32 w) = some (q32 (-2), s, m) := by
      unfold nq_X9_highest nbq_X9_highest_0
      by_cases c : w < 0
      · simp (disch := omega) only [Option.bind_some, bindv, bindv0, bind2_s, bind3_s, ↓reduceIte, Bool.false_eq_true, rZM_0, rZM_1, rZP_0, rZP_1, ptZ_0, ptZ_1, c32i, c64i, ncI, Int.natCast_add, Int.natCast_mul, q32_neg, q64_neg, q32_add, q32_sub, q32_mul, q64_add, q64_sub, q64_mul, q32_64i, q64_32, q32_lt_t, q32_lt_f, q32_le_t, q32_le_f, q32_eq_t, q32_eq_f, q64_lt_t, q64_lt_f, q64_le_t, q64_le_f, q64_eq_t, q64_eq_f, rdI_i, rdL_i, rdR_i, rdN_i, stI_i, stL_i, stR_i, wI_s, wI_n, wL_s, wL_n, wI_2, wI_3, wL_1, wL_3, wR_1, wR_2, Int.toNat_natCast, tnO, tn_add, tn_sub, tn_mul, Nat.add_sub_cancel, Nat.add_zero, Nat.zero_add, lnO, win_t, win_f]
      · simp (disch := omega) only [Option.bind_some, bindv, bindv0, bind2_s, bind3_s, ↓reduceIte, Bool.false_eq_true, rZM_0, rZM_1, rZP_0, rZP_1, ptZ_0, ptZ_1, c32i, c64i, ncI, Int.natCast_add, Int.natCast_mul, q32_neg, q64_neg, q32_add, q32_sub, q32_mul, q64_add, q64_sub, q64_mul, q32_64i, q64_32, q32_lt_t, q32_lt_f, q32_le_t, q32_le_f, q32_eq_t, q32_eq_f, q64_lt_t, q64_lt_f, q64_le_t, q64_le_f, q64_eq_t, q64_eq_f, rdI_i, rdL_i, rdR_i, rdN_i, stI_i, stL_i, stR_i, wI_s, wI_n, wL_s, wL_n, wI_2, wI_3, wL_1, wL_3, wR_1, wR_2, Int.toNat_natCast, tnO, tn_add, tn_sub, tn_mul, Nat.add_sub_cancel, Nat.add_zero, Nat.zero_add, lnO, win_t, win_f]
    have e2 : n_X10_highest F s m 23 (q32 i) (q32 w) = some (q32 (-2), wI m 23 0 (q32 0)) := by
      unfold n_X10_highest nb_X10_highest_0
      simp (disch := omega) only [Option.bind_some, bindv, bindv0, bind2_s, bind3_s, ↓reduceIte, Bool.false_eq_true, rZM_0, rZM_1, rZP_0, rZP_1, ptZ_0, ptZ_1, c32i, c64i, ncI, Int.natCast_add, Int.natCast_mul, q32_neg, q64_neg, q32_add, q32_sub, q32_mul, q64_add, q64_sub, q64_mul, q32_64i, q64_32, q32_lt_t, q32_lt_f, q32_le_t, q32_le_f, q32_eq_t, q32_eq_f, q64_lt_t, q64_lt_f, q64_le_t, q64_le_f, q64_eq_t, q64_eq_f, rdI_i, rdL_i, rdR_i, rdN_i, stI_i, stL_i, stR_i, wI_s, wI_n, wL_s, wL_n, wI_2, wI_3, wL_1, wL_3, wR_1, wR_2, Int.toNat_natCast, tnO, tn_add, tn_sub, tn_mul, Nat.add_sub_cancel, Nat.add_zero, Nat.zero_add, lnO, win_t, win_f]
    exact opq_no h0 e0 e1 e2 (un_X10_highest (un_X9_highest hg (okB hp).1 e1).2.1 (okB hp).2 e2).2 (SC.k0 m)
