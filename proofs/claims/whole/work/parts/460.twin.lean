theorem TWB_len (al : Nat → Int32) (bc : Nat) (x : FR) (c : Nat) : ∀ n b R, (TWB al bc x c n b R).2.length ≤ R.length + n := by
  intro n
  induction n with
  | zero => intro b R; exact Nat.le_refl _
  | succ n ih =>
    intro b R
    unfold TWB
    split
    · split
      · show R.length ≤ _; omega
      · have := ih (b + 1) (R ++ [((LE al (b : Nat) x).2, c * bc + b)])
        rw [List.length_append, List.length_singleton] at this
        omega
    · have := ih (b + 1) R
      omega
theorem TWL_len (al : Nat → Int32) {bc : Nat} (hbc : bc ≤ 6) : ∀ P R, (TWL al bc P R).2.length ≤ R.length + 6 * P.length := by
  intro P
  induction P with
  | nil => intro R; exact Nat.le_refl _
  | cons p P ih =>
    intro R
    have h1 := TWB_len al bc p.1 p.2 bc 0 R
    have h2 := ih (TWB al bc p.1 p.2 bc 0 R).2
    unfold TWL
    rw [List.length_cons]
    split
    · show (TWB al bc p.1 p.2 bc 0 R).2.length ≤ _
      omega
    · omega
theorem twO9 {F : Nat} (hF : 20000 ≤ F) {s : List Sh} {ow : Nat → Nat} {nw q : Nat} {al : Nat → Int32} {bc : Nat} {bg en d : Nat} (hd : d ≤ 4) {P : RPL} : ∀ (Q : RPL) fuel i, i + Q.length = P.length → Q.length < fuel → (∀ j, j < Q.length → gp P (i + j) = gp Q j) → ∀ (m : Mem) (S : BST) (K : Nat → Nat) (R : RPL), RC s m ow nw q al bc → LG m q S.1 (CM S) → TOK (A al 1) bc S K → TIN S K bg en d P R → S.1.length + 6 * Q.length ≤ 9331 → ∃ m' S' K', (∀ c0 c1, (TWL al bc Q R).1 = some (c0, c1) → nl_X5_stepToTwins_3 F s fuel m q (q32 en) (q32 ((d : Int) + 1)) (q32 (bg + i : Nat)) = some (q32 1, m') ∧ ∀ k, k ≤ d → m'.1 (q + 8) k = q32 (DG bc (d + 1) c0 k : Nat) ∧ m'.1 (q + 9) k = q32 (DG bc (d + 1) c1 k : Nat)) ∧ ((TWL al bc Q R).1 = none → nl_X5_stepToTwins_3 F s fuel m q (q32 en) (q32 ((d : Int) + 1)) (q32 (bg + i : Nat)) = some (q32 0, m') ∧ LG m' q S'.1 (CM S') ∧ TOK (A al 1) bc S' K' ∧ TIN S' K' bg en d P (TWL al bc Q R).2) ∧ KCQ q m m' := by
  intro Q
  induction Q with
  | nil =>
    intro fuel i hi hfu hQ m S K R hc hL hk ht hlen
    obtain ⟨fuel, rfl⟩ : ∃ f, fuel = f + 1 := ⟨fuel - 1, by omega⟩
    have hi' : i = P.length := hi
    have t1 := ht.1
    have t2 := ht.2.1
    have k2 := hk.2.1
    have eg : bg + i = en := by omega
    rw [eg]
    refine ⟨m, S, K, fun c0 c1 h => by (cases h), fun _ => ⟨?_, hL, hk, ht⟩, KCQ.rf m⟩
    show nb_X5_stepToTwins_3 F s (nl_X5_stepToTwins_3 F s fuel) m q _ _ _ = _
    unfold nb_X5_stepToTwins_3
    simp (disch := omega) only [Option.bind_some, bindv, bindv0, bind2_s, bind3_s, ↓reduceIte, Bool.false_eq_true, rZM_0, rZM_1, rZP_0, rZP_1, ptZ_0, ptZ_1, c32i, c64i, ncI, Int.natCast_add, Int.natCast_mul, q32_neg, q64_neg, q32_add, q32_sub, q32_mul, q64_add, q64_sub, q64_mul, q32_64i, q64_32, q32_lt_t, q32_lt_f, q32_le_t, q32_le_f, q32_eq_t, q32_eq_f, q64_lt_t, q64_lt_f, q64_le_t, q64_le_f, q64_eq_t, q64_eq_f, rdI_i, rdL_i, rdR_i, rdN_i, stI_i, stL_i, stR_i, wI_s, wI_n, wL_s, wL_n, wI_2, wI_3, wL_1, wL_3, wR_1, wR_2, Int.toNat_natCast, tnO, tn_add, tn_sub, tn_mul, Nat.add_sub_cancel, Nat.add_zero, Nat.zero_add, lnO, win_t, win_f]
  | cons p Q ih =>
    intro fuel i hi hfu hQ m S K R hc hL hk ht hlen
    rw [List.length_cons] at hi hfu hlen
    obtain ⟨fuel, rfl⟩ : ∃ f, fuel = f + 1 := ⟨fuel - 1, by omega⟩
    have h7 := hc.2.2.2.2.2
    have t1 := ht.1
    have t2 := ht.2.1
    have k2 := hk.2.1
    have hp : gp P i = p := by
      have := hQ 0 (by rw [List.length_cons]; omega)
      rw [Nat.add_zero] at this
      exact this
    obtain ⟨m1, S1, K1, j1, j2, j3⟩ := twI9 hF hd (P := P) (i := i) (by omega) (nl_X5_stepToTwins_3 F s fuel) bc F 0 (by omega) (by omega) m S K R hc hL hk ht (by omega)
    rw [hp] at j1 j2
    have eq : nl_X5_stepToTwins_3 F s (fuel + 1) m q (q32 en) (q32 ((d : Int) + 1)) (q32 (bg + i : Nat)) = nl_X5_stepToTwins_12 F s (nl_X5_stepToTwins_3 F s fuel) F m q (q32 en) (q32 ((d : Int) + 1)) (q32 (bg + i : Nat)) (q32 ((0 : Nat) : Int)) := by
      have hg : bg + i < en := by omega
      generalize bg + i = g at *
      show nb_X5_stepToTwins_3 F s (nl_X5_stepToTwins_3 F s fuel) m q _ _ _ = _
      unfold nb_X5_stepToTwins_3
      simp (disch := omega) only [Option.bind_some, bindv, bindv0, bind2_s, bind3_s, ↓reduceIte, Bool.false_eq_true, rZM_0, rZM_1, rZP_0, rZP_1, ptZ_0, ptZ_1, c32i, c64i, ncI, Int.natCast_add, Int.natCast_mul, q32_neg, q64_neg, q32_add, q32_sub, q32_mul, q64_add, q64_sub, q64_mul, q32_64i, q64_32, q32_lt_t, q32_lt_f, q32_le_t, q32_le_f, q32_eq_t, q32_eq_f, q64_lt_t, q64_lt_f, q64_le_t, q64_le_f, q64_eq_t, q64_eq_f, rdI_i, rdL_i, rdR_i, rdN_i, stI_i, stL_i, stR_i, wI_s, wI_n, wL_s, wL_n, wI_2, wI_3, wL_1, wL_3, wR_1, wR_2, Int.toNat_natCast, tnO, tn_add, tn_sub, tn_mul, Nat.add_sub_cancel, Nat.add_zero, Nat.zero_add, lnO, win_t, win_f]
      first | done | rfl
    rw [eq]
    cases hb : (TWB al bc p.1 p.2 bc 0 R).1 with
    | some z =>
      have hB : TWL al bc (p :: Q) R = (some z, (TWB al bc p.1 p.2 bc 0 R).2) := by
        show (match (TWB al bc p.1 p.2 bc 0 R).1 with | some b => _ | none => _) = _
        rw [hb]
      rw [hB]
      refine ⟨m1, S1, K1, fun c0 c1 h => ?_, fun h => by (cases h), j3⟩
      cases h
      exact j1 c0 c1 hb
    | none =>
      have hB : TWL al bc (p :: Q) R = TWL al bc Q (TWB al bc p.1 p.2 bc 0 R).2 := by
        show (match (TWB al bc p.1 p.2 bc 0 R).1 with | some b => _ | none => _) = _
        rw [hb]
      rw [hB]
      obtain ⟨z1, z2, z3, z4, z5⟩ := j2 hb
      obtain ⟨m2, S2, K2, v1, v2, v3⟩ := ih fuel (i + 1) (by omega) (by omega) (fun j hj => by
        have := hQ (j + 1) (by rw [List.length_cons]; omega)
        rw [show i + 1 + j = i + (j + 1) by omega]
        exact this) m1 S1 K1 _ (hc.k j3) z2 z3 z4 (by omega)
      rw [z1]
      exact ⟨m2, S2, K2, v1, v2, j3.tr v3⟩
def tvl (o : Option (Nat × Nat × Nat)) : Int := match o with
  | some p => (p.1 : Int)
  | none => -1
theorem twS9 {F : Nat} (hF : 20000 ≤ F) {s : List Sh} {ow : Nat → Nat} {nw q : Nat} {al : Nat → Int32} {bc : Nat} : ∀ k d fuel bg, d + k = 5 → k < fuel → ∀ (m : Mem) (S : BST) (K : Nat → Nat) (P : RPL), RC s m ow nw q al bc → LG m q S.1 (CM S) → TOK (A al 1) bc S K → TIN S K bg S.1.length d P [] → S.1.length ≤ SZ d → P.length ≤ 6 ^ d → ∃ m', nl_X5_seekTwins_4 F s fuel m q (q32 (bg : Nat)) (q32 ((d : Int) + 1)) = some (q32 (tvl (TWS al bc k d P)), m') ∧ KCQ q m m' ∧ ∀ n c0 c1, TWS al bc k d P = some (n, c0, c1) → n ≤ 5 ∧ 1 ≤ n ∧ ∀ k', k' < n → m'.1 (q + 8) k' = q32 (DG bc n c0 k' : Nat) ∧ m'.1 (q + 9) k' = q32 (DG bc n c1 k' : Nat) := by
  intro k
  induction k with
  | zero =>
    intro d fuel bg hd hfu m S K P hc hL hk ht hs hP
    obtain ⟨fuel, rfl⟩ : ∃ f, fuel = f + 1 := ⟨fuel - 1, by omega⟩
    refine ⟨m, ?_, KCQ.rf m, fun n c0 c1 h => by (cases h)⟩
    show nb_X5_seekTwins_4 F s (nl_X5_seekTwins_4 F s fuel) m q _ _ = some (q32 (-1), m)
    unfold nb_X5_seekTwins_4
    simp (disch := omega) only [Option.bind_some, bindv, bindv0, bind2_s, bind3_s, ↓reduceIte, Bool.false_eq_true, rZM_0, rZM_1, rZP_0, rZP_1, ptZ_0, ptZ_1, c32i, c64i, ncI, Int.natCast_add, Int.natCast_mul, q32_neg, q64_neg, q32_add, q32_sub, q32_mul, q64_add, q64_sub, q64_mul, q32_64i, q64_32, q32_lt_t, q32_lt_f, q32_le_t, q32_le_f, q32_eq_t, q32_eq_f, q64_lt_t, q64_lt_f, q64_le_t, q64_le_f, q64_eq_t, q64_eq_f, rdI_i, rdL_i, rdR_i, rdN_i, stI_i, stL_i, stR_i, wI_s, wI_n, wL_s, wL_n, wI_2, wI_3, wL_1, wL_3, wR_1, wR_2, Int.toNat_natCast, tnO, tn_add, tn_sub, tn_mul, Nat.add_sub_cancel, Nat.add_zero, Nat.zero_add, lnO, win_t, win_f]
  | succ k ih =>
    intro d fuel bg hd hfu m S K P hc hL hk ht hs hP
    obtain ⟨fuel, rfl⟩ : ∃ f, fuel = f + 1 := ⟨fuel - 1, by omega⟩
    have h7 := hc.2.2.2.2.2
    have k2 := hk.2.1
    have t1 := ht.1
    have s5 := SZ_le (d + 1) (by omega)
    have e6 : 6 ^ (d + 1) = 6 ^ d * 6 := Nat.pow_succ ..
    have eS : SZ (d + 1) = SZ d + 6 ^ (d + 1) := rfl
    obtain ⟨m1, S1, K1, j1, j2, j3⟩ := twO9 hF (al := al) (bg := bg) (en := S.1.length) (d := d) (by omega) (P := P) P F 0 (by omega) (by omega) (fun j _ => by rw [Nat.zero_add]) m S K [] hc hL hk ht (by omega)
    rw [Nat.add_zero] at j1 j2
    have q0 := hc.qb.2.2.2.1
    have sz := hL.2.1
    show ∃ m', nb_X5_seekTwins_4 F s (nl_X5_seekTwins_4 F s fuel) m q _ _ = _ ∧ _
    cases hb : (TWL al bc P []).1 with
    | some z =>
      obtain ⟨c0, c1⟩ := z
      have hB : TWS al bc (k + 1) d P = some (d + 1, c0, c1) := by
        show (match (TWL al bc P []).1 with | some z => _ | none => _) = _
        rw [hb]
      rw [hB]
      obtain ⟨z1, z2⟩ := j1 c0 c1 hb
      have z1' : n_X5_stepToTwins F s m q (q32 bg) (q32 S.1.length) (q32 ((d : Int) + 1)) = some (q32 1, m1) := z1
      refine ⟨m1, ?_, j3, fun n a b h => ?_⟩
      · show _ = some (q32 ((d + 1 : Nat) : Int), m1)
        rw [Int.natCast_add]
        unfold nb_X5_seekTwins_4
        simp (disch := omega) only [Option.bind_some, bindv, bindv0, bind2_s, bind3_s, ↓reduceIte, Bool.false_eq_true, rZM_0, rZM_1, rZP_0, rZP_1, ptZ_0, ptZ_1, c32i, c64i, ncI, Int.natCast_add, Int.natCast_mul, q32_neg, q64_neg, q32_add, q32_sub, q32_mul, q64_add, q64_sub, q64_mul, q32_64i, q64_32, q32_lt_t, q32_lt_f, q32_le_t, q32_le_f, q32_eq_t, q32_eq_f, q64_lt_t, q64_lt_f, q64_le_t, q64_le_f, q64_eq_t, q64_eq_f, rdI_i, rdL_i, rdR_i, rdN_i, stI_i, stL_i, stR_i, wI_s, wI_n, wL_s, wL_n, wI_2, wI_3, wL_1, wL_3, wR_1, wR_2, Int.toNat_natCast, tnO, tn_add, tn_sub, tn_mul, Nat.add_sub_cancel, Nat.add_zero, Nat.zero_add, lnO, win_t, win_f, q0, sz, z1']
        first | done | rfl
      · cases h
        exact ⟨by omega, by omega, fun k' hk' => z2 k' (by omega)⟩
    | none =>
      have hB : TWS al bc (k + 1) d P = TWS al bc k (d + 1) (TWL al bc P []).2 := by
        show (match (TWL al bc P []).1 with | some z => _ | none => _) = _
        rw [hb]
      rw [hB]
      obtain ⟨z1, z2, z3, z4⟩ := j2 hb
      have z1' : n_X5_stepToTwins F s m q (q32 bg) (q32 S.1.length) (q32 ((d : Int) + 1)) = some (q32 0, m1) := z1
      have ll := TWL_len al h7 P []
      have e : ([] : RPL).length = 0 := rfl
      obtain ⟨v1, v2, v3, v4, v5, v6⟩ := z4
      obtain ⟨m2, i1, i2, i3⟩ := ih (d + 1) fuel S.1.length (by omega) (by omega) m1 S1 K1 (TWL al bc P []).2 (hc.k j3) z2 z3 ⟨v2.symm, by show _ = _ + 0; omega, v4, fun i hi => absurd hi (Nat.not_lt_zero _), ⟨fun j p1 p2 => v5.2 j p1 p2, fun j p1 p2 => absurd p2 (by omega)⟩, List.nodup_nil⟩ (by omega) (by omega)
      refine ⟨m2, ?_, j3.tr i2, i3⟩
      rw [← i1, Int.natCast_add]
      unfold nb_X5_seekTwins_4
      simp (disch := omega) only [Option.bind_some, bindv, bindv0, bind2_s, bind3_s, ↓reduceIte, Bool.false_eq_true, rZM_0, rZM_1, rZP_0, rZP_1, ptZ_0, ptZ_1, c32i, c64i, ncI, Int.natCast_add, Int.natCast_mul, q32_neg, q64_neg, q32_add, q32_sub, q32_mul, q64_add, q64_sub, q64_mul, q32_64i, q64_32, q32_lt_t, q32_lt_f, q32_le_t, q32_le_f, q32_eq_t, q32_eq_f, q64_lt_t, q64_lt_f, q64_le_t, q64_le_f, q64_eq_t, q64_eq_f, rdI_i, rdL_i, rdR_i, rdN_i, stI_i, stL_i, stR_i, wI_s, wI_n, wL_s, wL_n, wI_2, wI_3, wL_1, wL_3, wR_1, wR_2, Int.toNat_natCast, tnO, tn_add, tn_sub, tn_mul, Nat.add_sub_cancel, Nat.add_zero, Nat.zero_add, lnO, win_t, win_f, q0, sz, z1']
      first | done | rfl
theorem seekT9 {F : Nat} (hF : 20000 ≤ F) {s : List Sh} {ow : Nat → Nat} {nw q : Nat} {al : Nat → Int32} {bc : Nat} {m : Mem} {x : FR} (hx : FLR (A al 1) x.1 x.2) (hc : RC s m ow nw q al bc) (hL : LG m q [x] (fun _ => -1)) : ∃ m', n_X5_seekTwins F s m q = some (q32 (tvl (TWS al bc 5 0 [(x, 0)])), m') ∧ KCQ q m m' ∧ ∀ n c0 c1, TWS al bc 5 0 [(x, 0)] = some (n, c0, c1) → n ≤ 5 ∧ 1 ≤ n ∧ ∀ k', k' < n → m'.1 (q + 8) k' = q32 (DG bc n c0 k' : Nat) ∧ m'.1 (q + 9) k' = q32 (DG bc n c1 k' : Nat) := by
  have lg : LG m q [x] (CM ([x], fun _ => -1, fun _ => -1)) := hL.c (fun i hi => by
    have hi' : i = 0 := by have : [x].length = 1 := rfl; omega
    subst hi'
    rfl)
  exact twS9 hF 5 0 F 0 (by omega) (by omega) m ([x], fun _ => -1, fun _ => -1) (fun _ => 0) [(x, 0)] hc lg ⟨by show 1 ≤ 1; omega, by show 1 ≤ 9331; omega, FLS.one hx, fun j h0 hj => absurd (show j < 1 from hj) (by omega)⟩ ⟨rfl, rfl, fun i hi => by
    have hi' : i = 0 := by have : i < 1 := hi; omega
    subst hi'
    exact ⟨rfl, rfl⟩, fun i hi => absurd hi (Nat.not_lt_zero _), ⟨fun j p1 p2 => by
      have : j < 1 := p2
      show j = 0
      omega, fun j p1 p2 => absurd p2 (by omega)⟩, List.nodup_nil⟩ (by show 1 ≤ 1; omega) (by show 1 ≤ 1; omega)
