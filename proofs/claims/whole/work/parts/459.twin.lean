theorem twI9 {F : Nat} (hF : 20000 ≤ F) {s : List Sh} {ow : Nat → Nat} {nw q : Nat} {al : Nat → Int32} {bc : Nat} {bg en d : Nat} (hd : d ≤ 4) {P : RPL} {i : Nat} (hi : i < P.length) (ns : Mem → Nat → Int32 → Int32 → Int32 → Option (Int32 × Mem)) : ∀ n fuel b, b + n = bc → n < fuel → ∀ (m : Mem) (S : BST) (K : Nat → Nat) (R : RPL), RC s m ow nw q al bc → LG m q S.1 (CM S) → TOK (A al 1) bc S K → TIN S K bg en d P R → S.1.length + n ≤ 9331 → ∃ m' S' K', (∀ c0 c1, (TWB al bc (gp P i).1 (gp P i).2 n b R).1 = some (c0, c1) → nl_X5_stepToTwins_12 F s ns fuel m q (q32 en) (q32 ((d : Int) + 1)) (q32 (bg + i : Nat)) (q32 (b : Nat)) = some (q32 1, m') ∧ ∀ k, k ≤ d → m'.1 (q + 8) k = q32 (DG bc (d + 1) c0 k : Nat) ∧ m'.1 (q + 9) k = q32 (DG bc (d + 1) c1 k : Nat)) ∧ ((TWB al bc (gp P i).1 (gp P i).2 n b R).1 = none → nl_X5_stepToTwins_12 F s ns fuel m q (q32 en) (q32 ((d : Int) + 1)) (q32 (bg + i : Nat)) (q32 (b : Nat)) = ns m' q (q32 en) (q32 ((d : Int) + 1)) (q32 (bg + i + 1 : Nat)) ∧ LG m' q S'.1 (CM S') ∧ TOK (A al 1) bc S' K' ∧ TIN S' K' bg en d P (TWB al bc (gp P i).1 (gp P i).2 n b R).2 ∧ S'.1.length ≤ S.1.length + n) ∧ KCQ q m m' := by
  intro n
  induction n with
  | zero =>
    intro fuel b hb hfu m S K R hc hL hk ht hlen
    obtain ⟨fuel, rfl⟩ : ∃ f, fuel = f + 1 := ⟨fuel - 1, by omega⟩
    have h5 := hc.2.2.1
    have h6 := hc.2.2.2.2.1
    have h7 := hc.2.2.2.2.2
    have t1 := ht.1
    have t2 := ht.2.1
    refine ⟨m, S, K, fun c0 c1 h => by (cases h), fun _ => ⟨?_, hL, hk, ht, Nat.le_refl _⟩, KCQ.rf m⟩
    rw [Int.natCast_add (bg + i) 1]
    generalize hgi : bg + i = g at *
    show nb_X5_stepToTwins_12 F s ns (nl_X5_stepToTwins_12 F s ns fuel) m q _ _ _ _ = _
    unfold nb_X5_stepToTwins_12
    simp (disch := omega) only [Option.bind_some, bindv, bindv0, bind2_s, bind3_s, ↓reduceIte, Bool.false_eq_true, rZM_0, rZM_1, rZP_0, rZP_1, ptZ_0, ptZ_1, c32i, c64i, ncI, Int.natCast_add, Int.natCast_mul, q32_neg, q64_neg, q32_add, q32_sub, q32_mul, q64_add, q64_sub, q64_mul, q32_64i, q64_32, q32_lt_t, q32_lt_f, q32_le_t, q32_le_f, q32_eq_t, q32_eq_f, q64_lt_t, q64_lt_f, q64_le_t, q64_le_f, q64_eq_t, q64_eq_f, rdI_i, rdL_i, rdR_i, rdN_i, stI_i, stL_i, stR_i, wI_s, wI_n, wL_s, wL_n, wI_2, wI_3, wL_1, wL_3, wR_1, wR_2, Int.toNat_natCast, tnO, tn_add, tn_sub, tn_mul, Nat.add_sub_cancel, Nat.add_zero, Nat.zero_add, lnO, win_t, win_f, h5, h6]
    first | done | rfl
  | succ n ih =>
    intro fuel b hb hfu m S K R hc hL hk ht hlen
    obtain ⟨fuel, rfl⟩ : ∃ f, fuel = f + 1 := ⟨fuel - 1, by omega⟩
    have h5 := hc.2.2.1
    have h6 := hc.2.2.2.2.1
    have h7 := hc.2.2.2.2.2
    obtain ⟨q1, q2, q3, q4, q5, q6, q7, q8, q9, q10, q11, q12, q13, l2, l3, l4, l5, l6, l7, l8, l9⟩ := hc.qb
    obtain ⟨t1, t2, t3, t4, t5, t6⟩ := id ht
    obtain ⟨g1, g2⟩ := t3 i hi
    have hx := hk.2.2.1.at (i := bg + i) (by omega)
    obtain ⟨u1, u2, -⟩ := hL.2.2.1 (bg + i) (by omega)
    rw [g1] at hx u1 u2
    have xb := hx.b
    obtain ⟨m1, e1, e2, e3, e4, e5⟩ := rlead hF hc hL hx (b := (b : Int)) (by omega)
    have q0 : m1.2.2 q 0 = some (q + 1) := by rw [e2.2.2]; exact q4
    have q40 : m1.2.2 q 4 = some 16 := by rw [e2.2.2]; exact q7
    have sz := e4.2.1
    have le := LE_b al b (gp P i).1
    generalize hgi : bg + i = g at *
    by_cases c0 : (LE al b (gp P i).1).1 = 0
    · rw [c0] at e1
      obtain ⟨a0, a1, ay⟩ := e5 c0
      have yb := ay.b
      obtain ⟨r, i1, i2⟩ := find9 hF e3.qb e4 hk.2.2.1 ay (b := en) (e := S.1.length) (by omega) (Nat.le_refl _)
      cases hl : lk R (LE al b (gp P i).1).2 with
      | none =>
        have hT : TWB al bc (gp P i).1 (gp P i).2 (n + 1) b R = TWB al bc (gp P i).1 (gp P i).2 n (b + 1) (R ++ [((LE al (b : Nat) (gp P i).1).2, (gp P i).2 * bc + b)]) := by
          show (if _ then _ else _) = _
          rw [if_pos c0, hl]
        rw [hT]
        have hr : r = -1 := by
          rcases i2 with ⟨h, -⟩ | ⟨j, -, p1, p2, p3⟩
          · exact h
          · exfalso
            have := t4 (j - en) (by omega)
            rw [show en + (j - en) = j by omega, p3] at this
            exact lk_n.mp hl _ (gp_mem (show j - en < R.length by omega)) this.1.symm
        rw [hr] at i1
        obtain ⟨m2, p1, p2, p3, p4⟩ := putQ9 e3.qb e4 (LE al b (gp P i).1).2 (by omega) ((g : Int) * 6 + b)
        have k2 : KCQ q m1 m2 := ⟨fun a k _ hk => p4 a k (by omega), fun a k _ _ _ => by rw [p3], by rw [p3]⟩
        obtain ⟨w1, w2⟩ := twput hk (ht) hi (b := b) (by omega) (by omega) ay hl
        rw [hgi] at w1 w2
        obtain ⟨m3, S3, K3, j1, j2, j3⟩ := ih fuel (b + 1) (by omega) (by omega) m2 _ _ _ (e3.k k2) (p2.c (fun j hj => by
          unfold CM
          have hk1 := hk.1
          show (if j = S.1.length then (g : Int) * 6 + b else if j = 0 then -1 else S.2.1 j * 6 + S.2.2 j) = if j = 0 then -1 else updI S.2.1 S.1.length g j * 6 + updI S.2.2 S.1.length b j
          by_cases cj : j = S.1.length
          · rw [if_pos cj, if_neg (by omega), cj, updI_s, updI_s]
          · rw [if_neg cj, updI_n cj, updI_n cj])) w1 w2 (by show (S.1 ++ [_]).length + n ≤ 9331; rw [List.length_append, List.length_singleton]; omega)
        have eq : nl_X5_stepToTwins_12 F s ns (fuel + 1) m q (q32 en) (q32 ((d : Int) + 1)) (q32 (g : Nat)) (q32 (b : Nat)) = nl_X5_stepToTwins_12 F s ns fuel m2 q (q32 en) (q32 ((d : Int) + 1)) (q32 (g : Nat)) (q32 ((b + 1 : Nat) : Int)) := by
          rw [Int.natCast_add, show ((1 : Nat) : Int) = 1 from rfl]
          show nb_X5_stepToTwins_12 F s ns (nl_X5_stepToTwins_12 F s ns fuel) m q _ _ _ _ = _
          unfold nb_X5_stepToTwins_12 nb_X5_stepToTwins_167
          simp (disch := omega) only [Option.bind_some, bindv, bindv0, bind2_s, bind3_s, ↓reduceIte, Bool.false_eq_true, rZM_0, rZM_1, rZP_0, rZP_1, ptZ_0, ptZ_1, c32i, c64i, ncI, Int.natCast_add, Int.natCast_mul, q32_neg, q64_neg, q32_add, q32_sub, q32_mul, q64_add, q64_sub, q64_mul, q32_64i, q64_32, q32_lt_t, q32_lt_f, q32_le_t, q32_le_f, q32_eq_t, q32_eq_f, q64_lt_t, q64_lt_f, q64_le_t, q64_le_f, q64_eq_t, q64_eq_f, rdI_i, rdL_i, rdR_i, rdN_i, stI_i, stL_i, stR_i, wI_s, wI_n, wL_s, wL_n, wI_2, wI_3, wL_1, wL_3, wR_1, wR_2, Int.toNat_natCast, tnO, tn_add, tn_sub, tn_mul, Nat.add_sub_cancel, Nat.add_zero, Nat.zero_add, lnO, win_t, win_f, h5, h6, q7, q4, q8, q9, u1, u2, e1, q0, q40, a0, a1, sz, i1, p1]
        rw [eq]
        refine ⟨m3, S3, K3, j1, fun h => ?_, (e2.tr k2).tr j3⟩
        obtain ⟨z1, z2, z3, z4, z5⟩ := j2 h
        refine ⟨z1, z2, z3, z4, ?_⟩
        have z5' : S3.1.length ≤ (S.1 ++ [(LE al b (gp P i).1).2]).length + n := z5
        rw [List.length_append, List.length_singleton] at z5'
        omega
      | some cc =>
        have hT : TWB al bc (gp P i).1 (gp P i).2 (n + 1) b R = (some (cc, (gp P i).2 * bc + b), R) := by
          show (if _ then _ else _) = _
          rw [if_pos c0, hl]
        rw [hT]
        rcases i2 with ⟨-, h⟩ | ⟨j, hr, p1, p2, p3⟩
        · exfalso
          refine absurd (lk_n.mpr fun p hp hpe => ?_) (by rw [hl]; intro h; cases h)
          obtain ⟨k, k1, k2⟩ := mem_gp hp
          refine h (en + k) (by omega) (by omega) ?_
          rw [(t4 k k1).1, k2]
          exact hpe
        · obtain ⟨t4a, t4b⟩ := t4 (j - en) (by omega)
          rw [show en + (j - en) = j by omega] at t4a t4b
          have hcc : cc = K j := by
            have hm : ((LE al b (gp P i).1).2, K j) ∈ R := by
              have := gp_mem (L := R) (i := j - en) (by omega)
              rw [show gp R (j - en) = ((LE al b (gp P i).1).2, K j) from Prod.ext (by rw [← t4a]; exact p3) t4b.symm] at this
              exact this
            have := lk_s t6 hm
            rw [hl] at this
            exact Option.some.inj this
          have hj0 : 0 < j := by omega
          obtain ⟨k1, k2, k3, k4, k5⟩ := hk.2.2.2 j hj0 p2
          obtain ⟨f, hf⟩ := Int.eq_ofNat_of_zero_le k1
          have hk4 : ∀ j, 0 < j → j < S.1.length → 0 ≤ S.2.1 j ∧ S.2.1 j < j ∧ 0 ≤ S.2.2 j ∧ S.2.2 j < 6 := fun j p1 p2 => by
            obtain ⟨k1, k2, k3, k4, -⟩ := hk.2.2.2 j p1 p2
            omega
          obtain ⟨-, -, u3, -⟩ := e4.2.2.1 j p2
          have u3' : m1.1 (q + 4) j = q32 ((f : Int) * 6 + S.2.2 j) := by
            rw [u3]
            unfold CM
            rw [if_neg (by omega), hf]
          have dj := t5.2 j p1 p2
          obtain ⟨-, dj'⟩ := dj
          rw [hf, Int.toNat_natCast] at dj'
          obtain ⟨m2, r1, r2, r3, r4, r5⟩ := trL9 (F := F) (s := s) (q := q) (by omega) hk4 (v := q + 8) (Or.inl rfl) l8 d F f (S.2.2 j) (by omega) (by omega) dj' (by omega) (by omega) m1 e3.qb e4
          have k12 : KCQ q m1 m2 := ⟨fun a k _ hk => r4 a k (by omega), fun a k _ _ _ => by rw [r5], by rw [r5]⟩
          have e3' := e3.k k12
          obtain ⟨m3, v1, v2, v3, v4, v5⟩ := trL9 (F := F) (s := s) (q := q) (S := S) (by omega) hk4 (v := q + 9) (Or.inr rfl) l9 d F g (b : Int) (by omega) (by omega) (t5.1 g (by omega) (by omega)) (by omega) (by omega) m2 e3'.qb (e4.k (fun a k h1 h2 => r4 a k (by omega)))
          have r1' : n_X5_traceRow F s m1 q (q32 ((f : Int) * 6 + S.2.2 j)) (q32 ((d : Int) + 1)) (q + 8) = some ((), m2) := by
            unfold n_X5_traceRow nb_X5_traceRow_0
            rw [← r1]
            simp (disch := omega) only [Option.bind_some, bindv, bindv0, bind2_s, bind3_s, ↓reduceIte, Bool.false_eq_true, rZM_0, rZM_1, rZP_0, rZP_1, ptZ_0, ptZ_1, c32i, c64i, ncI, Int.natCast_add, Int.natCast_mul, q32_neg, q64_neg, q32_add, q32_sub, q32_mul, q64_add, q64_sub, q64_mul, q32_64i, q64_32, q32_lt_t, q32_lt_f, q32_le_t, q32_le_f, q32_eq_t, q32_eq_f, q64_lt_t, q64_lt_f, q64_le_t, q64_le_f, q64_eq_t, q64_eq_f, rdI_i, rdL_i, rdR_i, rdN_i, stI_i, stL_i, stR_i, wI_s, wI_n, wL_s, wL_n, wI_2, wI_3, wL_1, wL_3, wR_1, wR_2, Int.toNat_natCast, tnO, tn_add, tn_sub, tn_mul, Nat.add_sub_cancel, Nat.add_zero, Nat.zero_add, lnO, win_t, win_f]
            rw [show (d : Int) + 1 - 1 = d by omega]
          have v1' : n_X5_traceRow F s m2 q (q32 ((g : Int) * 6 + b)) (q32 ((d : Int) + 1)) (q + 9) = some ((), m3) := by
            unfold n_X5_traceRow nb_X5_traceRow_0
            rw [← v1]
            simp (disch := omega) only [Option.bind_some, bindv, bindv0, bind2_s, bind3_s, ↓reduceIte, Bool.false_eq_true, rZM_0, rZM_1, rZP_0, rZP_1, ptZ_0, ptZ_1, c32i, c64i, ncI, Int.natCast_add, Int.natCast_mul, q32_neg, q64_neg, q32_add, q32_sub, q32_mul, q64_add, q64_sub, q64_mul, q32_64i, q64_32, q32_lt_t, q32_lt_f, q32_le_t, q32_le_f, q32_eq_t, q32_eq_f, q64_lt_t, q64_lt_f, q64_le_t, q64_le_f, q64_eq_t, q64_eq_f, rdI_i, rdL_i, rdR_i, rdN_i, stI_i, stL_i, stR_i, wI_s, wI_n, wL_s, wL_n, wI_2, wI_3, wL_1, wL_3, wR_1, wR_2, Int.toNat_natCast, tnO, tn_add, tn_sub, tn_mul, Nat.add_sub_cancel, Nat.add_zero, Nat.zero_add, lnO, win_t, win_f]
            rw [show (d : Int) + 1 - 1 = d by omega]
          have q10' : m1.2.2 (q + 1) 2 = some (q + 4) := by rw [e2.2.2]; exact q10
          have q5' : m1.2.2 q 1 = some (q + 8) := by rw [e2.2.2]; exact q5
          have q6' : m2.2.2 q 2 = some (q + 9) := by rw [k12.2.2, e2.2.2]; exact q6
          rw [hr] at i1
          refine ⟨m3, S, K, fun c0 c1 h => ?_, fun h => by (cases h), (e2.tr k12).tr ⟨fun a k _ hk => v4 a k (by omega), fun a k _ _ _ => by rw [v5], by rw [v5]⟩⟩
          cases h
          refine ⟨?_, fun k hk' => ?_⟩
          · show nb_X5_stepToTwins_12 F s ns (nl_X5_stepToTwins_12 F s ns fuel) m q _ _ _ _ = _
            unfold nb_X5_stepToTwins_12
            simp (disch := omega) only [Option.bind_some, bindv, bindv0, bind2_s, bind3_s, ↓reduceIte, Bool.false_eq_true, rZM_0, rZM_1, rZP_0, rZP_1, ptZ_0, ptZ_1, c32i, c64i, ncI, Int.natCast_add, Int.natCast_mul, q32_neg, q64_neg, q32_add, q32_sub, q32_mul, q64_add, q64_sub, q64_mul, q32_64i, q64_32, q32_lt_t, q32_lt_f, q32_le_t, q32_le_f, q32_eq_t, q32_eq_f, q64_lt_t, q64_lt_f, q64_le_t, q64_le_f, q64_eq_t, q64_eq_f, rdI_i, rdL_i, rdR_i, rdN_i, stI_i, stL_i, stR_i, wI_s, wI_n, wL_s, wL_n, wI_2, wI_3, wL_1, wL_3, wR_1, wR_2, Int.toNat_natCast, tnO, tn_add, tn_sub, tn_mul, Nat.add_sub_cancel, Nat.add_zero, Nat.zero_add, lnO, win_t, win_f, h5, h6, q7, q4, q8, q9, u1, u2, e1, q0, q40, a0, a1, sz, i1, q10', u3', q5', r1', q6', v1']
          · rw [v4 (q + 8) k (by omega), r2 k hk', v2 k hk']
            have rx := RX_DG hk (d + 1) j k p2 (t5.2 j p1 p2) (by omega)
            refine ⟨?_, ?_⟩
            · rw [hcc, ← rx]
              show q32 (RW S.2.1 S.2.2 d f (S.2.2 j) k) = q32 (if k = d then S.2.2 j else RX S.2.1 S.2.2 d (S.2.1 j).toNat k)
              rw [hf, Int.toNat_natCast]
              rfl
            · unfold RW DG
              obtain ⟨cb1, cb2⟩ := cbb (c := (gp P i).2) (bc := bc) (b := b) (by omega)
              by_cases ck : k = d
              · rw [if_pos ck, if_pos ck, cb2]
              · rw [if_neg ck, if_neg ck, cb1, RX_DG hk d g k (by omega) (t5.1 g (by omega) (by omega)) (by omega), g2]
    · have hT : TWB al bc (gp P i).1 (gp P i).2 (n + 1) b R = TWB al bc (gp P i).1 (gp P i).2 n (b + 1) R := by
        show (if _ then _ else _) = _
        rw [if_neg c0]
      rw [hT]
      obtain ⟨m3, S3, K3, j1, j2, j3⟩ := ih fuel (b + 1) (by omega) (by omega) m1 S K R e3 e4 hk ht (by omega)
      have eq : nl_X5_stepToTwins_12 F s ns (fuel + 1) m q (q32 en) (q32 ((d : Int) + 1)) (q32 (g : Nat)) (q32 (b : Nat)) = nl_X5_stepToTwins_12 F s ns fuel m1 q (q32 en) (q32 ((d : Int) + 1)) (q32 (g : Nat)) (q32 ((b + 1 : Nat) : Int)) := by
        rw [Int.natCast_add, show ((1 : Nat) : Int) = 1 from rfl]
        show nb_X5_stepToTwins_12 F s ns (nl_X5_stepToTwins_12 F s ns fuel) m q _ _ _ _ = _
        unfold nb_X5_stepToTwins_12 nb_X5_stepToTwins_167
        simp (disch := omega) only [Option.bind_some, bindv, bindv0, bind2_s, bind3_s, ↓reduceIte, Bool.false_eq_true, rZM_0, rZM_1, rZP_0, rZP_1, ptZ_0, ptZ_1, c32i, c64i, ncI, Int.natCast_add, Int.natCast_mul, q32_neg, q64_neg, q32_add, q32_sub, q32_mul, q64_add, q64_sub, q64_mul, q32_64i, q64_32, q32_lt_t, q32_lt_f, q32_le_t, q32_le_f, q32_eq_t, q32_eq_f, q64_lt_t, q64_lt_f, q64_le_t, q64_le_f, q64_eq_t, q64_eq_f, rdI_i, rdL_i, rdR_i, rdN_i, stI_i, stL_i, stR_i, wI_s, wI_n, wL_s, wL_n, wI_2, wI_3, wL_1, wL_3, wR_1, wR_2, Int.toNat_natCast, tnO, tn_add, tn_sub, tn_mul, Nat.add_sub_cancel, Nat.add_zero, Nat.zero_add, lnO, win_t, win_f, h5, h6, q7, q4, q8, q9, u1, u2, e1]
      rw [eq]
      refine ⟨m3, S3, K3, j1, fun h => ?_, e2.tr j3⟩
      obtain ⟨z1, z2, z3, z4, z5⟩ := j2 h
      exact ⟨z1, z2, z3, z4, by omega⟩
