theorem CHL_len (al : Nat → Int32) (sk b : Nat) : ∀ P R, (CHL al sk b P R).length ≤ R.length + 2 * P.length := by
  have hB : ∀ p R, (BRN al sk b p R).length ≤ R.length + 2 := fun p R => by
    have a1 := addW_len R (LE al (b : Nat) p.1).2 (p.2 * (10 - sk))
    have a2 := addW_len (addW R (LE al (b : Nat) p.1).2 (p.2 * (10 - sk))) p.1 (p.2 * sk)
    have a3 := addW_len R p.1 (p.2 * 10)
    unfold BRN
    split
    · split <;> omega
    · omega
  intro P
  induction P with
  | nil => intro R; exact Nat.le_refl _
  | cons p P ih =>
    intro R
    have h1 := hB p R
    have h2 := ih (BRN al sk b p R)
    unfold CHL
    rw [List.length_cons]
    omega
theorem CH_len (al : Nat → Int32) (sk : Nat) (B : Nat → Nat) (x : FR) : ∀ k, (CH al sk B x k).length ≤ 2 ^ k := by
  intro k
  induction k with
  | zero => exact Nat.le_refl _
  | succ k ih =>
    have := CHL_len al sk (B k) (CH al sk B x k) []
    have e : ([] : RPL).length = 0 := rfl
    show (CHL al sk (B k) (CH al sk B x k) []).length ≤ _
    rw [Nat.pow_succ]
    omega
theorem KCQ.sk {s : List Sh} {m m' : Mem} {ow : Nat → Nat} {nw q : Nat} {al : Nat → Int32} {bc sk : Nat} (hc : RC s m ow nw q al bc) (e : KCQ q m m') (h : m.1 nw 1 = q32 sk) : m'.1 nw 1 = q32 sk := by
  have o := hc.out (i := 0) (by omega)
  have hn := hc.1.1.2.2.2.1.1
  rw [e.1 nw 1 (by omega) (by omega)]; exact h
theorem chI9 {F : Nat} (hF : 20000 ≤ F) {s : List Sh} {ow : Nat → Nat} {nw q : Nat} {al : Nat → Int32} {bc sk b : Nat} (hs9 : sk ≤ 9) (hb : b ≤ 100) {B : List FR} {P : RPL} {bg : Nat} (hbg : bg + P.length = B.length) {t k : Nat} (hk : k ≤ 8) (ns : Mem → Nat → Nat → Int32 → Int32 → Option (Int32 × Mem)) : ∀ (Q : RPL) fuel i, i + Q.length = P.length → Q.length < fuel → (∀ j, j < Q.length → gp P (i + j) = gp Q j) → ∀ (m : Mem) (R : RPL), RC s m ow nw q al bc → m.1 nw 1 = q32 sk → LHW m q B P R bg → FLS (A al 1) (B ++ R.map Prod.fst) → (R.map Prod.fst).Nodup → B.length + R.length + 2 * Q.length ≤ 511 → ∃ m', nl_X5_layChances_41 F s ns fuel m q t (q32 k) (q32 B.length) (q32 b) (q32 (bg + i : Nat)) = ns m' q t (q32 B.length) (q32 (k + 1)) ∧ KCQ q m m' ∧ LHW m' q B P (CHL al sk b Q R) bg ∧ FLS (A al 1) (B ++ (CHL al sk b Q R).map Prod.fst) := by
  intro Q
  induction Q with
  | nil =>
    intro fuel i hi hfu hQ m R hc hsk h hf nd hlen
    obtain ⟨fuel, rfl⟩ : ∃ f, fuel = f + 1 := ⟨fuel - 1, by omega⟩
    have hi' : i = P.length := hi
    rw [show bg + i = B.length by omega]
    refine ⟨m, ?_, KCQ.rf m, h, hf⟩
    show nb_X5_layChances_41 F s ns (nl_X5_layChances_41 F s ns fuel) m q t _ _ _ _ = _
    unfold nb_X5_layChances_41 nb_X5_layChances_72
    simp (disch := omega) only [Option.bind_some, bindv, bindv0, bind2_s, bind3_s, ↓reduceIte, Bool.false_eq_true, rZM_0, rZM_1, rZP_0, rZP_1, ptZ_0, ptZ_1, c32i, c64i, ncI, Int.natCast_add, Int.natCast_mul, q32_neg, q64_neg, q32_add, q32_sub, q32_mul, q64_add, q64_sub, q64_mul, q32_64i, q64_32, q32_lt_t, q32_lt_f, q32_le_t, q32_le_f, q32_eq_t, q32_eq_f, q64_lt_t, q64_lt_f, q64_le_t, q64_le_f, q64_eq_t, q64_eq_f, rdI_i, rdL_i, rdR_i, rdN_i, stI_i, stL_i, stR_i, wI_s, wI_n, wL_s, wL_n, wI_2, wI_3, wL_1, wL_3, wR_1, wR_2, Int.toNat_natCast, tnO, tn_add, tn_sub, tn_mul, Nat.add_sub_cancel, Nat.add_zero, Nat.zero_add, lnO, win_t, win_f]
  | cons p Q ih =>
    intro fuel i hi hfu hQ m R hc hsk h hf nd hlen
    rw [List.length_cons] at hi hfu hlen
    obtain ⟨fuel, rfl⟩ : ∃ f, fuel = f + 1 := ⟨fuel - 1, by omega⟩
    have hpi : gp P i = p := by
      have := hQ 0 (by rw [List.length_cons]; omega)
      rw [Nat.add_zero] at this
      exact this
    obtain ⟨m1, a1, a2, a3, a4, a5⟩ := brn9 hF hc hsk hs9 hb h hf nd (i := i) (by omega) (by omega)
    rw [hpi] at a3 a4 a5
    have bl := CHL_len al sk b [p] R
    have bl' : (BRN al sk b p R).length ≤ R.length + 2 * 1 := bl
    obtain ⟨m2, i1, i2, i3, i4⟩ := ih fuel (i + 1) (by omega) (by omega) (fun j hj => by
      have := hQ (j + 1) (by rw [List.length_cons]; omega)
      rw [show i + 1 + j = i + (j + 1) by omega]
      exact this) m1 _ (hc.k a2) (a2.sk hc hsk) a3 a4 a5 (by omega)
    refine ⟨m2, ?_, a2.tr i2, i3, i4⟩
    rw [← i1]
    show nb_X5_layChances_41 F s ns (nl_X5_layChances_41 F s ns fuel) m q t _ _ _ _ = _
    have hg : bg + i < B.length := by omega
    rw [show bg + (i + 1) = bg + i + 1 by omega, Int.natCast_add (bg + i) 1]
    generalize bg + i = g at *
    unfold nb_X5_layChances_41
    simp (disch := omega) only [Option.bind_some, bindv, bindv0, bind2_s, bind3_s, ↓reduceIte, Bool.false_eq_true, rZM_0, rZM_1, rZP_0, rZP_1, ptZ_0, ptZ_1, c32i, c64i, ncI, Int.natCast_add, Int.natCast_mul, q32_neg, q64_neg, q32_add, q32_sub, q32_mul, q64_add, q64_sub, q64_mul, q32_64i, q64_32, q32_lt_t, q32_lt_f, q32_le_t, q32_le_f, q32_eq_t, q32_eq_f, q64_lt_t, q64_lt_f, q64_le_t, q64_le_f, q64_eq_t, q64_eq_f, rdI_i, rdL_i, rdR_i, rdN_i, stI_i, stL_i, stR_i, wI_s, wI_n, wL_s, wL_n, wI_2, wI_3, wL_1, wL_3, wR_1, wR_2, Int.toNat_natCast, tnO, tn_add, tn_sub, tn_mul, Nat.add_sub_cancel, Nat.add_zero, Nat.zero_add, lnO, win_t, win_f, a1]
    first | done | rfl
theorem TR.kc {s : List Sh} {m m' : Mem} {q j t sz : Nat} (q53 : 53 ≤ q) (h : TR s m j t sz) (e : KCQ q m m') (ho : ¬ (q ≤ t ∧ t < q + 10) ∧ t + 1 ≠ q + 7) : TR s m' j t sz := by
  obtain ⟨h1, h2, h3, h4, h5, h6, h7, h8, h9, ⟨so, k1, k2, k3⟩, h10⟩ := h
  refine ⟨h1, by rw [e.2.2]; exact h2, h3, h4, by rw [e.2.2]; exact h5, h6, h7, by rw [e.1 t 1 (by omega) ho.1]; exact h8, by rw [e.1 51 j (by omega) (by omega)]; exact h9, ⟨so, k1, by rw [e.1 t 0 (by omega) ho.1]; exact k2, by rw [e.1 50 j (by omega) (by omega)]; exact k3⟩, fun k hk => ?_⟩
  rw [e.2.1 (t + 1) k (by omega) (by omega) (by omega), e.2.1 52 (40 * j + k) (by omega) (by omega) (by omega)]
  exact h10 k hk
theorem chS9 {F : Nat} (hF : 20000 ≤ F) {s : List Sh} {ow : Nat → Nat} {nw q : Nat} {al : Nat → Int32} {bc sk : Nat} (hs9 : sk ≤ 9) {x : FR} {j t sz : Nat} (hsz : sz ≤ 8) {V : Nat → Nat} (hV : ∀ k, k < sz → V k ≤ 100) (hto : ¬ (q ≤ t ∧ t < q + 10) ∧ t + 1 ≠ q + 7) : ∀ n k fuel, k + n = sz → n < fuel → ∀ (m : Mem) (B : List FR), RC s m ow nw q al bc → m.1 nw 1 = q32 sk → TR s m j t sz → (∀ k, k < sz → smA (m.2.1 52 (40 * j + k)) = (V k : Nat)) → (∃ C, LG m q (B ++ (CH al sk V x k).map Prod.fst) C) → (∀ i, i < (CH al sk V x k).length → m.2.1 (q + 7) (B.length + i) = q64 ((gp (CH al sk V x k) i).2 : Nat)) → FLS (A al 1) (B ++ (CH al sk V x k).map Prod.fst) → B.length + (CH al sk V x k).length ≤ 2 ^ (k + 1) - 1 → ∃ m' B', nl_X5_layChances_14 F s fuel m q t (q32 B.length) (q32 (k : Nat)) = some (q32 B'.length, m') ∧ KCQ q m m' ∧ (∃ C, LG m' q (B' ++ (CH al sk V x sz).map Prod.fst) C) ∧ (∀ i, i < (CH al sk V x sz).length → m'.2.1 (q + 7) (B'.length + i) = q64 ((gp (CH al sk V x sz) i).2 : Nat)) ∧ FLS (A al 1) (B' ++ (CH al sk V x sz).map Prod.fst) ∧ B'.length + (CH al sk V x sz).length ≤ 511 := by
  intro n
  induction n with
  | zero =>
    intro k fuel hk hfu m B hc hsk ht hm hL hW hf hlen
    obtain ⟨fuel, rfl⟩ : ∃ f, fuel = f + 1 := ⟨fuel - 1, by omega⟩
    have hk' : k = sz := by omega
    subst hk'
    have s1 := ht.2.2.2.2.2.2.2.1
    have h9 : 2 ^ (k + 1) ≤ 2 ^ 9 := Nat.pow_le_pow_right (by omega) (by omega)
    have h9' : 2 ^ 9 = 512 := by decide
    refine ⟨m, B, ?_, KCQ.rf m, hL, hW, hf, by omega⟩
    show nb_X5_layChances_14 F s (nl_X5_layChances_14 F s fuel) m q t _ _ = _
    unfold nb_X5_layChances_14
    simp (disch := omega) only [Option.bind_some, bindv, bindv0, bind2_s, bind3_s, ↓reduceIte, Bool.false_eq_true, rZM_0, rZM_1, rZP_0, rZP_1, ptZ_0, ptZ_1, c32i, c64i, ncI, Int.natCast_add, Int.natCast_mul, q32_neg, q64_neg, q32_add, q32_sub, q32_mul, q64_add, q64_sub, q64_mul, q32_64i, q64_32, q32_lt_t, q32_lt_f, q32_le_t, q32_le_f, q32_eq_t, q32_eq_f, q64_lt_t, q64_lt_f, q64_le_t, q64_le_f, q64_eq_t, q64_eq_f, rdI_i, rdL_i, rdR_i, rdN_i, stI_i, stL_i, stR_i, wI_s, wI_n, wL_s, wL_n, wI_2, wI_3, wL_1, wL_3, wR_1, wR_2, Int.toNat_natCast, tnO, tn_add, tn_sub, tn_mul, Nat.add_sub_cancel, Nat.add_zero, Nat.zero_add, lnO, win_t, win_f, s1]
  | succ n ih =>
    intro k fuel hk hfu m B hc hsk ht hm hL hW hf hlen
    obtain ⟨fuel, rfl⟩ : ∃ f, fuel = f + 1 := ⟨fuel - 1, by omega⟩
    have s1 := ht.2.2.2.2.2.2.2.1
    have q53 := hc.qb.1
    have q4 := hc.qb.2.2.2.1
    have sm := small9 ht (k := k) (by omega)
    rw [hm k (by omega)] at sm
    have hml : ((CH al sk V x k).map Prod.fst).length = (CH al sk V x k).length := List.length_map _
    have hl : (B ++ (CH al sk V x k).map Prod.fst).length = B.length + ((CH al sk V x k).map Prod.fst).length := List.length_append
    obtain ⟨C, hL'⟩ := hL
    have sz' := hL'.2.1
    have ck := CH_len al sk V x k
    have e2 : 2 ^ (k + 1) = 2 ^ k * 2 := Nat.pow_succ ..
    have e3 : 2 ^ (k + 1 + 1) = 2 ^ (k + 1) * 2 := Nat.pow_succ ..
    have h8 : 2 ^ (k + 1 + 1) ≤ 2 ^ 9 := Nat.pow_le_pow_right (by omega) (by omega)
    have h9' : 2 ^ 9 = 512 := by decide
    have lh : LHW m q (B ++ (CH al sk V x k).map Prod.fst) (CH al sk V x k) [] B.length := by
      refine ⟨⟨C, by rw [List.map_nil, List.append_nil]; exact hL'⟩, by omega, fun i hi => ⟨?_, hW i hi⟩, fun i hi => absurd hi (Nat.not_lt_zero _)⟩
      rw [gt_r, gt_map hi]
    obtain ⟨m1, a1, a2, a3, a4⟩ := chI9 hF hs9 (b := V k) (hV k (by omega)) (B := B ++ (CH al sk V x k).map Prod.fst) (P := CH al sk V x k) (bg := B.length) (by omega) (t := t) (k := k) (by omega) (nl_X5_layChances_14 F s fuel) (CH al sk V x k) F 0 (by omega) (by omega) (fun j _ => by rw [Nat.zero_add]) m [] hc hsk lh (by rw [List.map_nil, List.append_nil]; exact hf) List.nodup_nil (by show _ + 0 + _ ≤ _; omega)
    have eC : CH al sk V x (k + 1) = CHL al sk (V k) (CH al sk V x k) [] := rfl
    rw [← eC] at a3 a4
    have ck1 := CH_len al sk V x (k + 1)
    obtain ⟨m2, B2, i1, i2, i3, i4, i5, i6⟩ := ih (k + 1) fuel (by omega) (by omega) m1 (B ++ (CH al sk V x k).map Prod.fst) (hc.k a2) (a2.sk hc hsk) (ht.kc q53 a2 hto) (fun k hk => by rw [a2.2.1 52 _ (by omega) (by omega) (by omega)]; exact hm k hk) a3.1 a3.2.2.2 a4 (by omega)
    refine ⟨m2, B2, ?_, a2.tr i2, i3, i4, i5, i6⟩
    rw [← i1]
    rw [Nat.add_zero] at a1
    rw [Int.natCast_add]
    show nb_X5_layChances_14 F s (nl_X5_layChances_14 F s fuel) m q t _ _ = _
    unfold nb_X5_layChances_14
    simp (disch := omega) only [Option.bind_some, bindv, bindv0, bind2_s, bind3_s, ↓reduceIte, Bool.false_eq_true, rZM_0, rZM_1, rZP_0, rZP_1, ptZ_0, ptZ_1, c32i, c64i, ncI, Int.natCast_add, Int.natCast_mul, q32_neg, q64_neg, q32_add, q32_sub, q32_mul, q64_add, q64_sub, q64_mul, q32_64i, q64_32, q32_lt_t, q32_lt_f, q32_le_t, q32_le_f, q32_eq_t, q32_eq_f, q64_lt_t, q64_lt_f, q64_le_t, q64_le_f, q64_eq_t, q64_eq_f, rdI_i, rdL_i, rdR_i, rdN_i, stI_i, stL_i, stR_i, wI_s, wI_n, wL_s, wL_n, wI_2, wI_3, wL_1, wL_3, wR_1, wR_2, Int.toNat_natCast, tnO, tn_add, tn_sub, tn_mul, Nat.add_sub_cancel, Nat.add_zero, Nat.zero_add, lnO, win_t, win_f, s1, q4, sz', sm, a1]
    first | done | rfl
