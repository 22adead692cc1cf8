/-! what may rest: the class -/
theorem bt_lt {v : Int32} {k : Nat} (h : bt v k = true) : k < 32 := by
  unfold bt at h
  exact BitVec.lt_of_getLsbD h
def LQ9 (F : Nat) (s : List Sh) (m0 : Mem) (nw bc md : Nat) (Q : Nat → Nat → Option Nat) : Prop := ∀ m, K9 m0 m → (m.2.2 0 4 = some nw ∧ m.2.2 0 11 = some 16 ∧ m.1 nw 6 = q32 bc) ∧ ∀ b x, b < bc → x < md → (∃ m', n_X4_remainderLed F s m 16 nw (q32 b) (q32 x) (q32 md) = some (q32 (RQ (Q b x)), m') ∧ K9 m m') ∧ ∀ y, Q b x = some y → y < md
theorem fromL9 {F : Nat} {s : List Sh} {m0 : Mem} {nw bc md : Nat} {Q : Nat → Nat → Option Nat} (h : LQ9 F s m0 nw bc md Q) (hm : 2 ≤ md ∧ md ≤ 30) (hb : bc ≤ 6) {r : Nat} (hr : r < md) (all : Int32) : ∀ (n fuel : Nat), n < fuel → ∀ (m : Mem) (b : Nat) (acc : Int32), K9 m0 m → b + n = bc → ∃ w m', nl_X9_remaindersFrom_6 F s fuel m 0 (q32 r) (q32 md) all acc (q32 b) = some (w, m') ∧ K9 m0 m' ∧ (((∃ b', b ≤ b' ∧ b' < bc ∧ Q b' r = none) ∧ w = all) ∨ ((∀ b', b ≤ b' → b' < bc → Q b' r ≠ none) ∧ ∀ k, k < 32 → (bt w k = true ↔ bt acc k = true ∨ ∃ b', b ≤ b' ∧ b' < bc ∧ Q b' r = some k))) := by
  intro n
  induction n with
  | zero =>
    intro fuel hf m b acc hk hi
    obtain ⟨fuel, rfl⟩ : ∃ f, fuel = f + 1 := ⟨fuel - 1, by omega⟩
    obtain ⟨⟨r4, r11, g6⟩, -⟩ := h m hk
    refine ⟨acc, m, ?_, hk, Or.inr ⟨fun b' h1 h2 => by omega, fun k _ => ⟨Or.inl, fun hh => ?_⟩⟩⟩
    · show nb_X9_remaindersFrom_6 F s (nl_X9_remaindersFrom_6 F s fuel) m 0 _ _ _ _ _ = _
      unfold nb_X9_remaindersFrom_6
      simp (disch := omega) only [Option.bind_some, bindv, bindv0, bind2_s, bind3_s, ↓reduceIte, Bool.false_eq_true, rZM_0, rZM_1, rZP_0, rZP_1, ptZ_0, ptZ_1, c32i, c64i, ncI, Int.natCast_add, Int.natCast_mul, q32_neg, q64_neg, q32_add, q32_sub, q32_mul, q64_add, q64_sub, q64_mul, q32_64i, q64_32, q32_lt_t, q32_lt_f, q32_le_t, q32_le_f, q32_eq_t, q32_eq_f, q64_lt_t, q64_lt_f, q64_le_t, q64_le_f, q64_eq_t, q64_eq_f, rdI_i, rdL_i, rdR_i, rdN_i, stI_i, stL_i, stR_i, wI_s, wI_n, wL_s, wL_n, wI_2, wI_3, wL_1, wL_3, wR_1, wR_2, Int.toNat_natCast, tnO, tn_add, tn_sub, tn_mul, Nat.add_sub_cancel, Nat.add_zero, Nat.zero_add, lnO, win_t, win_f, r4, g6]
    · rcases hh with hh | ⟨b', h1, h2, -⟩
      · exact hh
      · omega
  | succ n ih =>
    intro fuel hf m b acc hk hi
    obtain ⟨fuel, rfl⟩ : ∃ f, fuel = f + 1 := ⟨fuel - 1, by omega⟩
    obtain ⟨⟨r4, r11, g6⟩, hq⟩ := h m hk
    obtain ⟨⟨m1, q1, q2⟩, q3⟩ := hq b r (by omega) hr
    cases hQ : Q b r with
    | none =>
      rw [hQ] at q1
      refine ⟨all, m1, ?_, hk.tr q2, Or.inl ⟨⟨b, Nat.le_refl _, by omega, hQ⟩, rfl⟩⟩
      show nb_X9_remaindersFrom_6 F s (nl_X9_remaindersFrom_6 F s fuel) m 0 _ _ _ _ _ = _
      unfold nb_X9_remaindersFrom_6
      unfold RQ at q1
      simp (disch := omega) only [Option.bind_some, bindv, bindv0, bind2_s, bind3_s, ↓reduceIte, Bool.false_eq_true, rZM_0, rZM_1, rZP_0, rZP_1, ptZ_0, ptZ_1, c32i, c64i, ncI, Int.natCast_add, Int.natCast_mul, q32_neg, q64_neg, q32_add, q32_sub, q32_mul, q64_add, q64_sub, q64_mul, q32_64i, q64_32, q32_lt_t, q32_lt_f, q32_le_t, q32_le_f, q32_eq_t, q32_eq_f, q64_lt_t, q64_lt_f, q64_le_t, q64_le_f, q64_eq_t, q64_eq_f, rdI_i, rdL_i, rdR_i, rdN_i, stI_i, stL_i, stR_i, wI_s, wI_n, wL_s, wL_n, wI_2, wI_3, wL_1, wL_3, wR_1, wR_2, Int.toNat_natCast, tnO, tn_add, tn_sub, tn_mul, Nat.add_sub_cancel, Nat.add_zero, Nat.zero_add, lnO, win_t, win_f, r4, r11, g6, q1]
    | some y =>
      rw [hQ] at q1
      have hy := q3 y hQ
      obtain ⟨w, m', w1, w2, w3⟩ := ih fuel (by omega) m1 (b + 1) (acc ||| ((1 : Int32) <<< (q32 y &&& 31))) (hk.tr q2) (by omega)
      rw [Int.natCast_add] at w1
      refine ⟨w, m', ?_, w2, ?_⟩
      · show nb_X9_remaindersFrom_6 F s (nl_X9_remaindersFrom_6 F s fuel) m 0 _ _ _ _ _ = _
        unfold nb_X9_remaindersFrom_6
        unfold RQ at q1
        simp (disch := omega) only [Option.bind_some, bindv, bindv0, bind2_s, bind3_s, ↓reduceIte, Bool.false_eq_true, rZM_0, rZM_1, rZP_0, rZP_1, ptZ_0, ptZ_1, c32i, c64i, ncI, Int.natCast_add, Int.natCast_mul, q32_neg, q64_neg, q32_add, q32_sub, q32_mul, q64_add, q64_sub, q64_mul, q32_64i, q64_32, q32_lt_t, q32_lt_f, q32_le_t, q32_le_f, q32_eq_t, q32_eq_f, q64_lt_t, q64_lt_f, q64_le_t, q64_le_f, q64_eq_t, q64_eq_f, rdI_i, rdL_i, rdR_i, rdN_i, stI_i, stL_i, stR_i, wI_s, wI_n, wL_s, wL_n, wI_2, wI_3, wL_1, wL_3, wR_1, wR_2, Int.toNat_natCast, tnO, tn_add, tn_sub, tn_mul, Nat.add_sub_cancel, Nat.add_zero, Nat.zero_add, lnO, win_t, win_f, r4, r11, g6, q1]
        exact w1
      · rcases w3 with ⟨⟨b', a1, a2, a3⟩, a4⟩ | ⟨a1, a2⟩
        · exact Or.inl ⟨⟨b', by omega, a2, a3⟩, a4⟩
        · refine Or.inr ⟨fun b' h1 h2 => ?_, fun k hk => ?_⟩
          · by_cases e : b' = b
            · subst e; rw [hQ]; exact fun h => by cases h
            · exact a1 b' (by omega) h2
          · rw [a2 k hk, bt_or, bt_one (by omega) hk]
            constructor
            · intro hh
              rcases hh with hh | ⟨b', c1, c2, c3⟩
              · rw [Bool.or_eq_true, decide_eq_true_eq] at hh
                rcases hh with hh | hh
                · exact Or.inl hh
                · exact Or.inr ⟨b, Nat.le_refl _, by omega, by rw [hQ, hh]⟩
              · exact Or.inr ⟨b', by omega, c2, c3⟩
            · intro hh
              rcases hh with hh | ⟨b', c1, c2, c3⟩
              · exact Or.inl (by rw [hh]; rfl)
              · by_cases e : b' = b
                · subst e
                  rw [hQ] at c3
                  cases c3
                  exact Or.inl (by simp)
                · exact Or.inr ⟨b', by omega, c2, c3⟩
theorem from9 {F : Nat} (hF : 1000 ≤ F) {s : List Sh} {m0 : Mem} {nw bc md : Nat} {Q : Nat → Nat → Option Nat} (h : LQ9 F s m0 nw bc md Q) (hm : 2 ≤ md ∧ md ≤ 30) (hb : bc ≤ 6) {r : Nat} (hr : r < md) {all : Int32} (ha : ∀ k, k < 32 → bt all k = decide (k < md)) {m : Mem} (hk : K9 m0 m) : ∃ w m', n_X9_remaindersFrom F s m 0 (q32 r) (q32 md) all = some (w, m') ∧ K9 m0 m' ∧ ∀ k, k < 32 → (bt w k = true ↔ RR Q bc md r k) := by
  obtain ⟨w, m', w1, w2, w3⟩ := fromL9 h hm hb hr all bc F (by omega) m 0 0 hk (by omega)
  refine ⟨w, m', w1, w2, fun k hk' => ?_⟩
  have hq : ∀ b y, b < bc → Q b r = some y → y < md := fun b y hb hy => ((h m hk).2 b r hb hr).2 y hy
  unfold RR
  rcases w3 with ⟨⟨b', a1, a2, a3⟩, rfl⟩ | ⟨a1, a2⟩
  · rw [ha k hk', decide_eq_true_eq]
    exact ⟨fun hh => ⟨hh, Or.inl ⟨b', a2, a3⟩⟩, fun hh => hh.1⟩
  · rw [a2 k hk']
    constructor
    · intro hh
      rcases hh with hh | ⟨b', c1, c2, c3⟩
      · rw [bt_z] at hh; cases hh
      · exact ⟨hq b' k c2 c3, Or.inr ⟨b', c2, c3⟩⟩
    · intro hh
      rcases hh.2 with ⟨b', c1, c2⟩ | ⟨b', c1, c2⟩
      · exact absurd c2 (a1 b' (by omega) c1)
      · exact Or.inr ⟨b', by omega, c1, c2⟩
theorem rndL9 {F : Nat} (hF : 1000 ≤ F) {s : List Sh} {m0 : Mem} {nw bc md : Nat} {Q : Nat → Nat → Option Nat} (h : LQ9 F s m0 nw bc md Q) (hm : 2 ≤ md ∧ md ≤ 30) (hb : bc ≤ 6) {all : Int32} (ha : ∀ k, k < 32 → bt all k = decide (k < md)) {self : Mem → Nat → Int32 → Int32 → Int32 → Int32 → Int32 → Option (Int32 × Mem)} (bf rd fr : Int32) : ∀ (n fuel : Nat), n < fuel → ∀ (m : Mem) (r : Nat) (st : Int32), K9 m0 m → r + n = md → ∃ st' m', nl_X9_remaindersBy_74 F s self fuel m 0 (q32 md) all st bf rd fr (q32 r) = self m' 0 (q32 md) all st' bf (rd + 1) ∧ K9 m0 m' ∧ ∀ k, k < 32 → (bt st' k = true ↔ bt st k = true ∨ ∃ r', r ≤ r' ∧ r' < md ∧ bt fr r' = true ∧ RR Q bc md r' k) := by
  intro n
  induction n with
  | zero =>
    intro fuel hf m r st hk hi
    obtain ⟨fuel, rfl⟩ : ∃ f, fuel = f + 1 := ⟨fuel - 1, by omega⟩
    refine ⟨st, m, ?_, hk, fun k _ => ⟨Or.inl, fun hh => ?_⟩⟩
    · show nb_X9_remaindersBy_74 F s self (nl_X9_remaindersBy_74 F s self fuel) m 0 _ _ _ _ _ _ _ = _
      unfold nb_X9_remaindersBy_74
      simp (disch := omega) only [Option.bind_some, bindv, bindv0, bind2_s, bind3_s, ↓reduceIte, Bool.false_eq_true, rZM_0, rZM_1, rZP_0, rZP_1, ptZ_0, ptZ_1, c32i, c64i, ncI, Int.natCast_add, Int.natCast_mul, q32_neg, q64_neg, q32_add, q32_sub, q32_mul, q64_add, q64_sub, q64_mul, q32_64i, q64_32, q32_lt_t, q32_lt_f, q32_le_t, q32_le_f, q32_eq_t, q32_eq_f, q64_lt_t, q64_lt_f, q64_le_t, q64_le_f, q64_eq_t, q64_eq_f, rdI_i, rdL_i, rdR_i, rdN_i, stI_i, stL_i, stR_i, wI_s, wI_n, wL_s, wL_n, wI_2, wI_3, wL_1, wL_3, wR_1, wR_2, Int.toNat_natCast, tnO, tn_add, tn_sub, tn_mul, Nat.add_sub_cancel, Nat.add_zero, Nat.zero_add, lnO, win_t, win_f]
    · rcases hh with hh | ⟨b', h1, h2, -⟩
      · exact hh
      · omega
  | succ n ih =>
    intro fuel hf m r st hk hi
    obtain ⟨fuel, rfl⟩ : ∃ f, fuel = f + 1 := ⟨fuel - 1, by omega⟩
    cases hbt : bt fr r with
    | false =>
      obtain ⟨st', m', w1, w2, w3⟩ := ih fuel (by omega) m (r + 1) st hk (by omega)
      rw [Int.natCast_add] at w1
      refine ⟨st', m', ?_, w2, fun k hk => ?_⟩
      · show nb_X9_remaindersBy_74 F s self (nl_X9_remaindersBy_74 F s self fuel) m 0 _ _ _ _ _ _ _ = _
        have e := (bt_u (v := fr) (k := r) (by omega)).mpr hbt
        unfold nb_X9_remaindersBy_74 nb_X9_remaindersBy_103
        rw [if_neg (by simp (disch := omega) only [q32_le_f, not_false_eq_true]), if_pos e]
        simp (disch := omega) only [Option.bind_some, bindv, bindv0, bind2_s, bind3_s, ↓reduceIte, Bool.false_eq_true, rZM_0, rZM_1, rZP_0, rZP_1, ptZ_0, ptZ_1, c32i, c64i, ncI, Int.natCast_add, Int.natCast_mul, q32_neg, q64_neg, q32_add, q32_sub, q32_mul, q64_add, q64_sub, q64_mul, q32_64i, q64_32, q32_lt_t, q32_lt_f, q32_le_t, q32_le_f, q32_eq_t, q32_eq_f, q64_lt_t, q64_lt_f, q64_le_t, q64_le_f, q64_eq_t, q64_eq_f, rdI_i, rdL_i, rdR_i, rdN_i, stI_i, stL_i, stR_i, wI_s, wI_n, wL_s, wL_n, wI_2, wI_3, wL_1, wL_3, wR_1, wR_2, Int.toNat_natCast, tnO, tn_add, tn_sub, tn_mul, Nat.add_sub_cancel, Nat.add_zero, Nat.zero_add, lnO, win_t, win_f]
        exact w1
      · rw [w3 k hk]
        constructor
        · intro hh
          rcases hh with hh | ⟨b', h1, h2, h3⟩
          · exact Or.inl hh
          · exact Or.inr ⟨b', by omega, h2, h3⟩
        · intro hh
          rcases hh with hh | ⟨b', h1, h2, h3, h4⟩
          · exact Or.inl hh
          · by_cases e : b' = r
            · subst e; rw [hbt] at h3; cases h3
            · exact Or.inr ⟨b', by omega, h2, h3, h4⟩
    | true =>
      obtain ⟨w, m1, f1, f2, f3⟩ := from9 hF h hm hb (r := r) (by omega) ha hk
      obtain ⟨st', m', w1, w2, w3⟩ := ih fuel (by omega) m1 (r + 1) (st ||| w) f2 (by omega)
      rw [Int.natCast_add] at w1
      refine ⟨st', m', ?_, w2, fun k hk => ?_⟩
      · show nb_X9_remaindersBy_74 F s self (nl_X9_remaindersBy_74 F s self fuel) m 0 _ _ _ _ _ _ _ = _
        have e : ¬ (ushr fr (q32 r) &&& (1 : Int32) = 0) := fun e => by
          rw [(bt_u (v := fr) (k := r) (by omega)).mp e] at hbt
          cases hbt
        unfold nb_X9_remaindersBy_74 nb_X9_remaindersBy_103
        rw [if_neg (by simp (disch := omega) only [q32_le_f, not_false_eq_true]), if_neg e, f1]
        simp (disch := omega) only [Option.bind_some, bindv, bindv0, bind2_s, bind3_s, ↓reduceIte, Bool.false_eq_true, rZM_0, rZM_1, rZP_0, rZP_1, ptZ_0, ptZ_1, c32i, c64i, ncI, Int.natCast_add, Int.natCast_mul, q32_neg, q64_neg, q32_add, q32_sub, q32_mul, q64_add, q64_sub, q64_mul, q32_64i, q64_32, q32_lt_t, q32_lt_f, q32_le_t, q32_le_f, q32_eq_t, q32_eq_f, q64_lt_t, q64_lt_f, q64_le_t, q64_le_f, q64_eq_t, q64_eq_f, rdI_i, rdL_i, rdR_i, rdN_i, stI_i, stL_i, stR_i, wI_s, wI_n, wL_s, wL_n, wI_2, wI_3, wL_1, wL_3, wR_1, wR_2, Int.toNat_natCast, tnO, tn_add, tn_sub, tn_mul, Nat.add_sub_cancel, Nat.add_zero, Nat.zero_add, lnO, win_t, win_f]
        exact w1
      · rw [w3 k hk, bt_or, Bool.or_eq_true, f3 k hk]
        constructor
        · intro hh
          rcases hh with (hh | hh) | ⟨b', h1, h2, h3⟩
          · exact Or.inl hh
          · exact Or.inr ⟨r, Nat.le_refl _, by omega, hbt, hh⟩
          · exact Or.inr ⟨b', by omega, h2, h3⟩
        · intro hh
          rcases hh with hh | ⟨b', h1, h2, h3, h4⟩
          · exact Or.inl (Or.inl hh)
          · by_cases e : b' = r
            · subst e; exact Or.inl (Or.inr h4)
            · exact Or.inr ⟨b', by omega, h2, h3, h4⟩
theorem byL9 {F : Nat} (hF : 1000 ≤ F) {s : List Sh} {m0 : Mem} {nw bc md x0 : Nat} {Q : Nat → Nat → Option Nat} (h : LQ9 F s m0 nw bc md Q) (hm : 2 ≤ md ∧ md ≤ 30) (hb : bc ≤ 6) {all : Int32} (ha : ∀ k, k < 32 → bt all k = decide (k < md)) : ∀ (n fuel : Nat), n < fuel → ∀ (m : Mem) (rd : Nat) (st bf : Int32), K9 m0 m → rd + n = md → rd ≤ cdB bf md → (∀ k, bt bf k = true → bt st k = true) → (∀ k, bt st k = true → k < md ∧ Cl (RR Q bc md) x0 k) → bt st x0 = true → (∀ r k, bt bf r = true → RR Q bc md r k → bt st k = true) → ∃ w m', nl_X9_remaindersBy_45 F s fuel m 0 (q32 md) all st bf (q32 rd) = some (w, m') ∧ K9 m0 m' ∧ ∀ k, k < 32 → (bt w k = true ↔ Cl (RR Q bc md) x0 k) := by
  intro n
  induction n with
  | zero =>
    intro fuel hf m rd st bf hk hi hc h1 h2 h3 h4
    obtain ⟨fuel, rfl⟩ : ∃ f, fuel = f + 1 := ⟨fuel - 1, by omega⟩
    refine ⟨st, m, ?_, hk, Cl_eq h3 (fun k _ hk => (h2 k hk).2) (fun r k hr hR => h4 r k ?_ hR)⟩
    · show nb_X9_remaindersBy_45 F s (nl_X9_remaindersBy_45 F s fuel) m 0 _ _ _ _ _ = _
      unfold nb_X9_remaindersBy_45
      simp (disch := omega) only [Option.bind_some, bindv, bindv0, bind2_s, bind3_s, ↓reduceIte, Bool.false_eq_true, rZM_0, rZM_1, rZP_0, rZP_1, ptZ_0, ptZ_1, c32i, c64i, ncI, Int.natCast_add, Int.natCast_mul, q32_neg, q64_neg, q32_add, q32_sub, q32_mul, q64_add, q64_sub, q64_mul, q32_64i, q64_32, q32_lt_t, q32_lt_f, q32_le_t, q32_le_f, q32_eq_t, q32_eq_f, q64_lt_t, q64_lt_f, q64_le_t, q64_le_f, q64_eq_t, q64_eq_f, rdI_i, rdL_i, rdR_i, rdN_i, stI_i, stL_i, stR_i, wI_s, wI_n, wL_s, wL_n, wI_2, wI_3, wL_1, wL_3, wR_1, wR_2, Int.toNat_natCast, tnO, tn_add, tn_sub, tn_mul, Nat.add_sub_cancel, Nat.add_zero, Nat.zero_add, lnO, win_t, win_f]
    · exact cdB_full md (by omega) r (h2 r hr).1
  | succ n ih =>
    intro fuel hf m rd st bf hk hi hc h1 h2 h3 h4
    obtain ⟨fuel, rfl⟩ : ∃ f, fuel = f + 1 := ⟨fuel - 1, by omega⟩
    by_cases e : bf = st
    · subst e
      refine ⟨bf, m, ?_, hk, Cl_eq h3 (fun k _ hk => (h2 k hk).2) h4⟩
      show nb_X9_remaindersBy_45 F s (nl_X9_remaindersBy_45 F s fuel) m 0 _ _ _ _ _ = _
      unfold nb_X9_remaindersBy_45
      rw [if_neg (by simp (disch := omega) only [q32_le_f, not_false_eq_true]), if_pos rfl]
    · obtain ⟨k0, k1, k2, k3⟩ : ∃ k, k < 32 ∧ bt st k = true ∧ bt bf k = false := by
        apply Classical.byContradiction
        intro hn
        apply e
        apply bt_ext
        intro k hk
        cases c1 : bt bf k
        · cases c2 : bt st k
          · rfl
          · exact absurd ⟨k, hk, c2, c1⟩ hn
        · exact (h1 k c1).symm
      have cm := (cdB_mono (a := bf) (b := st) md (fun k _ => h1 k)).2 ⟨k0, (h2 k0 k2).1, k2, k3⟩
      obtain ⟨st', m1, w1, w2, w3⟩ := rndL9 hF h hm hb ha (self := nl_X9_remaindersBy_45 F s fuel) st (q32 rd) (st &&& (bf ^^^ (-1 : Int32))) md F (by omega) m 0 st hk (by omega)
      have up : ∀ k, bt st k = true → bt st' k = true := fun k hk => (w3 k (bt_lt hk)).mpr (Or.inl hk)
      obtain ⟨w, m', i1, i2, i3⟩ := ih fuel (by omega) m1 (rd + 1) st' st w2 (by omega) (by omega) up (fun k hk => by
        rcases (w3 k (bt_lt hk)).mp hk with c | ⟨r', c1, c2, c3, c4⟩
        · exact h2 k c
        · rw [bt_dif _ _ (by omega), Bool.and_eq_true] at c3
          exact ⟨c4.1, (h2 r' c3.1).2.st c4⟩) (up _ h3) (fun r k hr hR => by
        have hk32 : k < 32 := by have := hR.1; omega
        cases c : bt bf r
        · refine (w3 k hk32).mpr (Or.inr ⟨r, by omega, (h2 r hr).1, ?_, hR⟩)
          rw [bt_dif _ _ (bt_lt hr), hr, c]
          rfl
        · exact up k (h4 r k c hR))
      rw [Int.natCast_add] at i1
      refine ⟨w, m', ?_, i2, i3⟩
      show nb_X9_remaindersBy_45 F s (nl_X9_remaindersBy_45 F s fuel) m 0 _ _ _ _ _ = _
      unfold nb_X9_remaindersBy_45
      rw [if_neg (by simp (disch := omega) only [q32_le_f, not_false_eq_true]), if_neg e]
      refine Eq.trans w1 (Eq.trans ?_ i1)
      rw [c32i, q32_add]
      rfl
/-! what may rest: the reference -/
def LQ10 (F : Nat) (s : List Sh) (m0 : Mem) (bc md : Nat) (Q : Nat → Nat → Option Nat) : Prop := ∀ m, KgS m0 m → (m.2.2 23 1 = some 24 ∧ m.1 24 2 = q32 bc) ∧ ∀ b x, b < bc → x < md → (∃ m', n_X10_leadsRest F s m 23 (q32 b) (q32 x) (q32 md) = some (q32 (RQ (Q b x)), m') ∧ KgS m m') ∧ ∀ y, Q b x = some y → y < md
theorem imgL10 {F : Nat} {s : List Sh} (hp : ∃ t, s = sB ++ t) {m0 : Mem} {bc md : Nat} {Q : Nat → Nat → Option Nat} (h : LQ10 F s m0 bc md Q) (hm : 2 ≤ md ∧ md ≤ 30) (hb : bc ≤ 6) {r : Nat} (hr : r < md) (all bf : Int32) {self30 : Mem → Nat → Int32 → Int32 → Int32 → Int32 → Option (Int32 × Mem)} {self37 : Mem → Nat → Int32 → Int32 → Int32 → Int32 → Int32 → Option (Int32 × Mem)} : ∀ (n fuel : Nat), n < fuel → ∀ (m : Mem) (b : Nat) (st : Int32), KgS m0 m → b + n = bc → ∃ m', KgS m0 m' ∧ (((∃ b', b ≤ b' ∧ b' < bc ∧ Q b' r = none) ∧ nl_X10_restsOf_78 F s self30 self37 fuel m 23 (q32 md) all st bf (q32 r) (q32 b) = some (all, m')) ∨ ((∀ b', b ≤ b' → b' < bc → Q b' r ≠ none) ∧ ∃ st', nl_X10_restsOf_78 F s self30 self37 fuel m 23 (q32 md) all st bf (q32 r) (q32 b) = self37 m' 23 (q32 md) all st' bf (q32 ((r : Int) + 1)) ∧ ∀ k, k < 32 → (bt st' k = true ↔ bt st k = true ∨ ∃ b', b ≤ b' ∧ b' < bc ∧ Q b' r = some k))) := by
  have l24 := ln24 hp
  intro n
  induction n with
  | zero =>
    intro fuel hf m b st hk hi
    obtain ⟨fuel, rfl⟩ : ∃ f, fuel = f + 1 := ⟨fuel - 1, by omega⟩
    obtain ⟨⟨r1, g2⟩, -⟩ := h m hk
    refine ⟨m, hk, Or.inr ⟨fun b' h1 h2 => by omega, st, ?_, fun k _ => ⟨Or.inl, fun hh => ?_⟩⟩⟩
    · show nb_X10_restsOf_78 F s self30 self37 (nl_X10_restsOf_78 F s self30 self37 fuel) m 23 _ _ _ _ _ _ = _
      unfold nb_X10_restsOf_78 nb_X10_restsOf_123
      simp (disch := omega) only [Option.bind_some, bindv, bindv0, bind2_s, bind3_s, ↓reduceIte, Bool.false_eq_true, rZM_0, rZM_1, rZP_0, rZP_1, ptZ_0, ptZ_1, c32i, c64i, ncI, Int.natCast_add, Int.natCast_mul, q32_neg, q64_neg, q32_add, q32_sub, q32_mul, q64_add, q64_sub, q64_mul, q32_64i, q64_32, q32_lt_t, q32_lt_f, q32_le_t, q32_le_f, q32_eq_t, q32_eq_f, q64_lt_t, q64_lt_f, q64_le_t, q64_le_f, q64_eq_t, q64_eq_f, rdI_i, rdL_i, rdR_i, rdN_i, stI_i, stL_i, stR_i, wI_s, wI_n, wL_s, wL_n, wI_2, wI_3, wL_1, wL_3, wR_1, wR_2, Int.toNat_natCast, tnO, tn_add, tn_sub, tn_mul, Nat.add_sub_cancel, Nat.add_zero, Nat.zero_add, lnO, win_t, win_f, r1, g2]
    · rcases hh with hh | ⟨b', h1, h2, -⟩
      · exact hh
      · omega
  | succ n ih =>
    intro fuel hf m b st hk hi
    obtain ⟨fuel, rfl⟩ : ∃ f, fuel = f + 1 := ⟨fuel - 1, by omega⟩
    obtain ⟨⟨r1, g2⟩, hq⟩ := h m hk
    obtain ⟨⟨m1, q1, q2⟩, q3⟩ := hq b r (by omega) hr
    cases hQ : Q b r with
    | none =>
      rw [hQ] at q1
      refine ⟨m1, hk.tr q2, Or.inl ⟨⟨b, Nat.le_refl _, by omega, hQ⟩, ?_⟩⟩
      show nb_X10_restsOf_78 F s self30 self37 (nl_X10_restsOf_78 F s self30 self37 fuel) m 23 _ _ _ _ _ _ = _
      unfold nb_X10_restsOf_78
      unfold RQ at q1
      simp (disch := omega) only [Option.bind_some, bindv, bindv0, bind2_s, bind3_s, ↓reduceIte, Bool.false_eq_true, rZM_0, rZM_1, rZP_0, rZP_1, ptZ_0, ptZ_1, c32i, c64i, ncI, Int.natCast_add, Int.natCast_mul, q32_neg, q64_neg, q32_add, q32_sub, q32_mul, q64_add, q64_sub, q64_mul, q32_64i, q64_32, q32_lt_t, q32_lt_f, q32_le_t, q32_le_f, q32_eq_t, q32_eq_f, q64_lt_t, q64_lt_f, q64_le_t, q64_le_f, q64_eq_t, q64_eq_f, rdI_i, rdL_i, rdR_i, rdN_i, stI_i, stL_i, stR_i, wI_s, wI_n, wL_s, wL_n, wI_2, wI_3, wL_1, wL_3, wR_1, wR_2, Int.toNat_natCast, tnO, tn_add, tn_sub, tn_mul, Nat.add_sub_cancel, Nat.add_zero, Nat.zero_add, lnO, win_t, win_f, r1, g2, q1]
    | some y =>
      rw [hQ] at q1
      have hy := q3 y hQ
      have step : nl_X10_restsOf_78 F s self30 self37 (fuel + 1) m 23 (q32 md) all st bf (q32 r) (q32 b) = nl_X10_restsOf_78 F s self30 self37 fuel m1 23 (q32 md) all (st ||| ((1 : Int32) <<< (q32 y &&& 31))) bf (q32 r) (q32 ((b + 1 : Nat) : Int)) := by
        show nb_X10_restsOf_78 F s self30 self37 (nl_X10_restsOf_78 F s self30 self37 fuel) m 23 _ _ _ _ _ _ = _
        unfold nb_X10_restsOf_78
        unfold RQ at q1
        simp (disch := omega) only [Option.bind_some, bindv, bindv0, bind2_s, bind3_s, ↓reduceIte, Bool.false_eq_true, rZM_0, rZM_1, rZP_0, rZP_1, ptZ_0, ptZ_1, c32i, c64i, ncI, Int.natCast_add, Int.natCast_mul, q32_neg, q64_neg, q32_add, q32_sub, q32_mul, q64_add, q64_sub, q64_mul, q32_64i, q64_32, q32_lt_t, q32_lt_f, q32_le_t, q32_le_f, q32_eq_t, q32_eq_f, q64_lt_t, q64_lt_f, q64_le_t, q64_le_f, q64_eq_t, q64_eq_f, rdI_i, rdL_i, rdR_i, rdN_i, stI_i, stL_i, stR_i, wI_s, wI_n, wL_s, wL_n, wI_2, wI_3, wL_1, wL_3, wR_1, wR_2, Int.toNat_natCast, tnO, tn_add, tn_sub, tn_mul, Nat.add_sub_cancel, Nat.add_zero, Nat.zero_add, lnO, win_t, win_f, r1, g2, q1]
      obtain ⟨m', w2, w3⟩ := ih fuel (by omega) m1 (b + 1) (st ||| ((1 : Int32) <<< (q32 y &&& 31))) (hk.tr q2) (by omega)
      rw [← step] at w3
      refine ⟨m', w2, ?_⟩
      rcases w3 with ⟨⟨b', a1, a2, a3⟩, a4⟩ | ⟨a1, st', a2, a3⟩
      · exact Or.inl ⟨⟨b', by omega, a2, a3⟩, a4⟩
      · refine Or.inr ⟨fun b' h1 h2 => ?_, st', a2, fun k hk => ?_⟩
        · by_cases e : b' = b
          · subst e; rw [hQ]; exact fun h => by cases h
          · exact a1 b' (by omega) h2
        · rw [a3 k hk, bt_or, bt_one (by omega) hk]
          constructor
          · intro hh
            rcases hh with hh | ⟨b', c1, c2, c3⟩
            · rw [Bool.or_eq_true, decide_eq_true_eq] at hh
              rcases hh with hh | hh
              · exact Or.inl hh
              · exact Or.inr ⟨b, Nat.le_refl _, by omega, by rw [hQ, hh]⟩
            · exact Or.inr ⟨b', by omega, c2, c3⟩
          · intro hh
            rcases hh with hh | ⟨b', c1, c2, c3⟩
            · exact Or.inl (by rw [hh]; rfl)
            · by_cases e : b' = b
              · subst e
                rw [hQ] at c3
                cases c3
                exact Or.inl (by simp)
              · exact Or.inr ⟨b', by omega, c2, c3⟩
theorem midL10 {F : Nat} (hF : 1000 ≤ F) {s : List Sh} (hp : ∃ t, s = sB ++ t) {m0 : Mem} {bc md : Nat} {Q : Nat → Nat → Option Nat} (h : LQ10 F s m0 bc md Q) (hm : 2 ≤ md ∧ md ≤ 30) (hb : bc ≤ 6) (all bf : Int32) {self : Mem → Nat → Int32 → Int32 → Int32 → Int32 → Option (Int32 × Mem)} : ∀ (n fuel : Nat), n < fuel → ∀ (m : Mem) (r : Nat) (st : Int32), KgS m0 m → r + n = md → ∃ m', KgS m0 m' ∧ (((∃ r', r ≤ r' ∧ r' < md ∧ bt bf r' = true ∧ ∃ b, b < bc ∧ Q b r' = none) ∧ nl_X10_restsOf_56 F s self fuel m 23 (q32 md) all st bf (q32 r) = some (all, m')) ∨ ((∀ r', r ≤ r' → r' < md → bt bf r' = true → ∀ b, b < bc → Q b r' ≠ none) ∧ ∃ st', nl_X10_restsOf_56 F s self fuel m 23 (q32 md) all st bf (q32 r) = self m' 23 (q32 md) all st' bf ∧ ∀ k, k < 32 → (bt st' k = true ↔ bt st k = true ∨ ∃ r', r ≤ r' ∧ r' < md ∧ bt bf r' = true ∧ ∃ b, b < bc ∧ Q b r' = some k))) := by
  intro n
  induction n with
  | zero =>
    intro fuel hf m r st hk hi
    obtain ⟨fuel, rfl⟩ : ∃ f, fuel = f + 1 := ⟨fuel - 1, by omega⟩
    refine ⟨m, hk, Or.inr ⟨fun b' h1 h2 => by omega, st, ?_, fun k _ => ⟨Or.inl, fun hh => ?_⟩⟩⟩
    · show nb_X10_restsOf_56 F s self (nl_X10_restsOf_56 F s self fuel) m 23 _ _ _ _ _ = _
      unfold nb_X10_restsOf_56
      simp (disch := omega) only [Option.bind_some, bindv, bindv0, bind2_s, bind3_s, ↓reduceIte, Bool.false_eq_true, rZM_0, rZM_1, rZP_0, rZP_1, ptZ_0, ptZ_1, c32i, c64i, ncI, Int.natCast_add, Int.natCast_mul, q32_neg, q64_neg, q32_add, q32_sub, q32_mul, q64_add, q64_sub, q64_mul, q32_64i, q64_32, q32_lt_t, q32_lt_f, q32_le_t, q32_le_f, q32_eq_t, q32_eq_f, q64_lt_t, q64_lt_f, q64_le_t, q64_le_f, q64_eq_t, q64_eq_f, rdI_i, rdL_i, rdR_i, rdN_i, stI_i, stL_i, stR_i, wI_s, wI_n, wL_s, wL_n, wI_2, wI_3, wL_1, wL_3, wR_1, wR_2, Int.toNat_natCast, tnO, tn_add, tn_sub, tn_mul, Nat.add_sub_cancel, Nat.add_zero, Nat.zero_add, lnO, win_t, win_f]
    · rcases hh with hh | ⟨b', h1, h2, -⟩
      · exact hh
      · omega
  | succ n ih =>
    intro fuel hf m r st hk hi
    obtain ⟨fuel, rfl⟩ : ∃ f, fuel = f + 1 := ⟨fuel - 1, by omega⟩
    cases hbt : bt bf r with
    | false =>
      have step : nl_X10_restsOf_56 F s self (fuel + 1) m 23 (q32 md) all st bf (q32 r) = nl_X10_restsOf_56 F s self fuel m 23 (q32 md) all st bf (q32 ((r + 1 : Nat) : Int)) := by
        show nb_X10_restsOf_56 F s self (nl_X10_restsOf_56 F s self fuel) m 23 _ _ _ _ _ = _
        have e := (bt_s (v := bf) (k := r) (by omega)).mpr hbt
        unfold nb_X10_restsOf_56 nb_X10_restsOf_123
        rw [if_neg (by simp (disch := omega) only [q32_le_f, not_false_eq_true]), if_pos e]
        simp (disch := omega) only [Option.bind_some, bindv, bindv0, bind2_s, bind3_s, ↓reduceIte, Bool.false_eq_true, rZM_0, rZM_1, rZP_0, rZP_1, ptZ_0, ptZ_1, c32i, c64i, ncI, Int.natCast_add, Int.natCast_mul, q32_neg, q64_neg, q32_add, q32_sub, q32_mul, q64_add, q64_sub, q64_mul, q32_64i, q64_32, q32_lt_t, q32_lt_f, q32_le_t, q32_le_f, q32_eq_t, q32_eq_f, q64_lt_t, q64_lt_f, q64_le_t, q64_le_f, q64_eq_t, q64_eq_f, rdI_i, rdL_i, rdR_i, rdN_i, stI_i, stL_i, stR_i, wI_s, wI_n, wL_s, wL_n, wI_2, wI_3, wL_1, wL_3, wR_1, wR_2, Int.toNat_natCast, tnO, tn_add, tn_sub, tn_mul, Nat.add_sub_cancel, Nat.add_zero, Nat.zero_add, lnO, win_t, win_f]
      obtain ⟨m', w2, w3⟩ := ih fuel (by omega) m (r + 1) st hk (by omega)
      rw [← step] at w3
      refine ⟨m', w2, ?_⟩
      rcases w3 with ⟨⟨b', a1, a2, a3⟩, a4⟩ | ⟨a1, st', a2, a3⟩
      · exact Or.inl ⟨⟨b', by omega, a2, a3⟩, a4⟩
      · refine Or.inr ⟨fun b' h1 h2 h3 => ?_, st', a2, fun k hk => ?_⟩
        · by_cases e : b' = r
          · subst e; rw [hbt] at h3; cases h3
          · exact a1 b' (by omega) h2 h3
        · rw [a3 k hk]
          constructor
          · intro hh
            rcases hh with hh | ⟨b', h1, h2, h3⟩
            · exact Or.inl hh
            · exact Or.inr ⟨b', by omega, h2, h3⟩
          · intro hh
            rcases hh with hh | ⟨b', h1, h2, h3, h4⟩
            · exact Or.inl hh
            · by_cases e : b' = r
              · subst e; rw [hbt] at h3; cases h3
              · exact Or.inr ⟨b', by omega, h2, h3, h4⟩
    | true =>
      obtain ⟨m1, i2, i3⟩ := imgL10 hp h hm hb (r := r) (by omega) all bf (self30 := self) (self37 := nl_X10_restsOf_56 F s self fuel) bc F (by omega) m 0 st hk (by omega)
      have step : nl_X10_restsOf_56 F s self (fuel + 1) m 23 (q32 md) all st bf (q32 r) = nl_X10_restsOf_78 F s self (nl_X10_restsOf_56 F s self fuel) F m 23 (q32 md) all st bf (q32 r) (q32 ((0 : Nat) : Int)) := by
        show nb_X10_restsOf_56 F s self (nl_X10_restsOf_56 F s self fuel) m 23 _ _ _ _ _ = _
        have e : ¬ ((bf >>> (q32 (r : Int) &&& 31)) &&& (1 : Int32) = 0) := fun e => by
          rw [(bt_s (v := bf) (k := r) (by omega)).mp e] at hbt
          cases hbt
        unfold nb_X10_restsOf_56
        rw [if_neg (by simp (disch := omega) only [q32_le_f, not_false_eq_true]), if_neg e]
        rfl
      rcases i3 with ⟨⟨b', a1, a2, a3⟩, a4⟩ | ⟨a1, st1, a2, a3⟩
      · exact ⟨m1, i2, Or.inl ⟨⟨r, Nat.le_refl _, by omega, hbt, b', a2, a3⟩, step.trans a4⟩⟩
      · obtain ⟨m', w2, w3⟩ := ih fuel (by omega) m1 (r + 1) st1 i2 (by omega)
        have step2 := step.trans a2
        rw [show q32 ((r : Int) + 1) = q32 ((r + 1 : Nat) : Int) from rfl] at step2
        rw [← step2] at w3
        refine ⟨m', w2, ?_⟩
        rcases w3 with ⟨⟨b', c1, c2, c3⟩, c4⟩ | ⟨c1, st', c2, c3⟩
        · exact Or.inl ⟨⟨b', by omega, c2, c3⟩, c4⟩
        · refine Or.inr ⟨fun b' h1 h2 h3 => ?_, st', c2, fun k hk => ?_⟩
          · by_cases e : b' = r
            · subst e; exact fun b hb => a1 b (by omega) hb
            · exact c1 b' (by omega) h2 h3
          · rw [c3 k hk, a3 k hk]
            constructor
            · intro hh
              rcases hh with (hh | ⟨b', h1, h2, h3⟩) | ⟨b', h1, h2, h3⟩
              · exact Or.inl hh
              · exact Or.inr ⟨r, Nat.le_refl _, by omega, hbt, b', h2, h3⟩
              · exact Or.inr ⟨b', by omega, h2, h3⟩
            · intro hh
              rcases hh with hh | ⟨b', h1, h2, h3, b, h4, h5⟩
              · exact Or.inl (Or.inl hh)
              · by_cases e : b' = r
                · subst e; exact Or.inl (Or.inr ⟨b, by omega, h4, h5⟩)
                · exact Or.inr ⟨b', by omega, h2, h3, b, h4, h5⟩
theorem outL10 {F : Nat} (hF : 1000 ≤ F) {s : List Sh} (hp : ∃ t, s = sB ++ t) {m0 : Mem} {bc md x0 : Nat} {Q : Nat → Nat → Option Nat} (h : LQ10 F s m0 bc md Q) (hm : 2 ≤ md ∧ md ≤ 30) (hb : bc ≤ 6) {all : Int32} (ha : ∀ k, k < 32 → bt all k = decide (k < md)) (hx : x0 < md) : ∀ (n fuel : Nat), n < fuel → ∀ (m : Mem) (st bf : Int32), KgS m0 m → md ≤ n + cdB bf md → (∀ k, bt bf k = true → bt st k = true) → (∀ k, bt st k = true → k < md ∧ Cl (RR Q bc md) x0 k) → bt st x0 = true → (∀ r k, bt bf r = true → RR Q bc md r k → bt st k = true) → ∃ w m', nl_X10_restsOf_42 F s fuel m 23 (q32 md) all st bf = some (w, m') ∧ KgS m0 m' ∧ ∀ k, k < 32 → (bt w k = true ↔ Cl (RR Q bc md) x0 k) := by
  have hlt : ∀ k, Cl (RR Q bc md) x0 k → k < md := fun k hk => hk (fun k => k < md) hx (fun r k _ hR => hR.1)
  intro n
  induction n with
  | zero =>
    intro fuel hf m st bf hk hc h1 h2 h3 h4
    obtain ⟨fuel, rfl⟩ : ∃ f, fuel = f + 1 := ⟨fuel - 1, by omega⟩
    have e : st = bf := bt_ext fun k hk => by
      cases c1 : bt bf k
      · cases c2 : bt st k
        · rfl
        · have := cdB_full (v := bf) md (by omega) k (h2 k c2).1
          rw [c1] at this
          cases this
      · exact h1 k c1
    subst e
    refine ⟨st, m, ?_, hk, Cl_eq h3 (fun k _ hk => (h2 k hk).2) h4⟩
    show nb_X10_restsOf_42 F s (nl_X10_restsOf_42 F s fuel) m 23 _ _ _ _ = _
    unfold nb_X10_restsOf_42
    rw [if_pos rfl]
  | succ n ih =>
    intro fuel hf m st bf hk hc h1 h2 h3 h4
    obtain ⟨fuel, rfl⟩ : ∃ f, fuel = f + 1 := ⟨fuel - 1, by omega⟩
    by_cases e : st = bf
    · subst e
      refine ⟨st, m, ?_, hk, Cl_eq h3 (fun k _ hk => (h2 k hk).2) h4⟩
      show nb_X10_restsOf_42 F s (nl_X10_restsOf_42 F s fuel) m 23 _ _ _ _ = _
      unfold nb_X10_restsOf_42
      rw [if_pos rfl]
    · obtain ⟨k0, k1, k2, k3⟩ : ∃ k, k < 32 ∧ bt st k = true ∧ bt bf k = false := by
        apply Classical.byContradiction
        intro hn
        apply e
        apply bt_ext
        intro k hk
        cases c1 : bt bf k
        · cases c2 : bt st k
          · rfl
          · exact absurd ⟨k, hk, c2, c1⟩ hn
        · exact h1 k c1
      have cm := (cdB_mono (a := bf) (b := st) md (fun k _ => h1 k)).2 ⟨k0, (h2 k0 k2).1, k2, k3⟩
      obtain ⟨m1, w2, w3⟩ := midL10 hF hp h hm hb all st (self := nl_X10_restsOf_42 F s fuel) md F (by omega) m 0 st hk (by omega)
      have step : nl_X10_restsOf_42 F s (fuel + 1) m 23 (q32 md) all st bf = nl_X10_restsOf_56 F s (nl_X10_restsOf_42 F s fuel) F m 23 (q32 md) all st st (q32 ((0 : Nat) : Int)) := by
        show nb_X10_restsOf_42 F s (nl_X10_restsOf_42 F s fuel) m 23 _ _ _ _ = _
        unfold nb_X10_restsOf_42
        rw [if_neg e]
        rfl
      rcases w3 with ⟨⟨r', a1, a2, a3, b, a4, a5⟩, a6⟩ | ⟨a1, st', a2, a3⟩
      · refine ⟨all, m1, step.trans a6, w2, fun k hk => ?_⟩
        rw [ha k hk, decide_eq_true_eq]
        exact ⟨fun hh => (h2 r' a3).2.st ⟨hh, Or.inl ⟨b, a4, a5⟩⟩, hlt k⟩
      · have up : ∀ k, bt st k = true → bt st' k = true := fun k hk => (a3 k (bt_lt hk)).mpr (Or.inl hk)
        obtain ⟨w, m', i1, i2, i3⟩ := ih fuel (by omega) m1 st' st w2 (by omega) up (fun k hk => by
          rcases (a3 k (bt_lt hk)).mp hk with c | ⟨r', c1, c2, c3, b, c4, c5⟩
          · exact h2 k c
          · have : RR Q bc md r' k := ⟨((h m1 w2).2 b r' c4 c2).2 k c5, Or.inr ⟨b, c4, c5⟩⟩
            exact ⟨this.1, (h2 r' c3).2.st this⟩) (up _ h3) (fun r k hr hR => by
          have hk32 : k < 32 := by have := hR.1; omega
          have hr' := (h2 r hr).1
          rcases hR.2 with ⟨b, c1, c2⟩ | ⟨b, c1, c2⟩
          · exact absurd c2 (a1 r (by omega) hr' hr b c1)
          · exact (a3 k hk32).mpr (Or.inr ⟨r, by omega, hr', hr, b, c1, c2⟩))
        exact ⟨w, m', (step.trans a2).trans i1, i2, i3⟩
/-- what may rest after any presses: both the same -/
theorem rests_both {F : Nat} (hF : 1000 ≤ F) {s : List Sh} {m : Mem} {ow : Nat → Nat} {nw : Nat} (hst : ST s m ow nw) {md : Nat} (hm : 2 ≤ md ∧ md ≤ 30) : ∃ w, (∃ m', n_X9_remaindersBy F s m 0 (q32 md) = some (w, m') ∧ K9 m m') ∧ ∀ M : Mem, RF M → (∀ k, k < 999 → M.1 24 k = m.1 24 k) → ∃ M', n_X10_restsOf F s M 23 (q32 md) = some (w, M') ∧ KgS M M' := by
  have hl := hst.1
  have hp := hl.hp
  have hr := hl.rf
  have hn := hl.hn
  have rn := hl.nw
  have r11 := rf0_11 hr
  have l24 := ln24 hp
  obtain ⟨t1, t2, t3⟩ := hst.at
  obtain ⟨tp, c1, c2, c3, c4, c5, c6, c7, bc, c8, c9, c10⟩ := hst.2.1.wa.at
  have g6 : m.1 nw 6 = q32 bc := by obtain ⟨tp, sk, nl, bc, fc, tc, au, aw, S, U, L, V, W, X, O, h1, ⟨a0, a1, a2, a4, a5, a6, a9, a15⟩, ⟨b0, b1, b2, b3, b4, b5, b6, b7, b8⟩, h4, ⟨s1, s2, s3, s4, s5, s6, s7⟩, h6, ⟨h7, h7b⟩, h8⟩ := hst.2.1; rw [a6, ← b2]; exact c9
  obtain ⟨f1, f2, f3, f4, -⟩ := t3
  obtain ⟨u, hu⟩ := Int.eq_ofNat_of_zero_le f1
  obtain ⟨l, hl'⟩ := Int.eq_ofNat_of_zero_le (show 0 ≤ A (m.1 24) 8 by omega)
  rw [hu] at t1 c6 f1 f2
  rw [hl'] at t2 c7 f3 f4
  obtain ⟨ro9, ro10⟩ := rest_both hF hm (u := u) (l := l) (by omega) (by omega)
  have rb := RO_b (u := u) (l := l) hm.1
  have ha : ∀ k, k < 32 → bt ((1 : Int32) <<< (q32 md &&& 31) - 1) k = decide (k < md) := fun k hk => bt_all (by omega) hk
  have q9 : LQ9 F s m nw bc md (RLB (m.1 24) md) := fun m1 hk => by
    have e24 : m1.1 24 = m.1 24 := funext fun k => hk.1 _ _ (by omega)
    have st1 := hst.sc hk.sc
    refine ⟨⟨by rw [hk.2.2]; exact rn, by rw [hk.2.2]; exact r11, by rw [hk.1 _ _ (by omega)]; exact g6⟩, fun b x hb hx => ?_⟩
    obtain ⟨m', e1, e2, e3⟩ := led9 hF st1.1 (al := m.1 24) (by rw [← e24]; exact st1.2.1) hm hx (b := b) (by rw [c10]; omega)
    exact ⟨⟨m', e1, e2⟩, e3⟩
  have q10 : ∀ M : Mem, RF M → (∀ k, k < 999 → M.1 24 k = m.1 24 k) → LQ10 F s M bc md (RLB (m.1 24) md) := fun M hM h24 m1 hk => by
    have hM1 : RF m1 := hM.same (by rw [hk.2])
    have h241 : ∀ k, k < 999 → m1.1 24 k = m.1 24 k := fun k hk' => by rw [hk.1 _ _ (by omega)]; exact h24 k hk'
    refine ⟨⟨rf23_1 hM1, by rw [h241 2 (by omega)]; exact c9⟩, fun b x hb hx => ?_⟩
    obtain ⟨m', e1, e2⟩ := led10 hF hp hM1 hst.2.1.wa h241 hm hx (b := b) (by rw [c10]; omega)
    exact ⟨⟨m', e1, e2⟩, ((q9 m (K9.rf m)).2 b x hb hx).2⟩
  by_cases c : RO md u l = -1
  · rw [c] at ro9 ro10
    refine ⟨(1 : Int32) <<< (q32 md &&& 31) - 1, ⟨m, ?_, K9.rf m⟩, fun M hM h24 => ⟨M, ?_, KgS.rf M⟩⟩
    · unfold n_X9_remaindersBy nb_X9_remaindersBy_0
      simp (disch := omega) only [Option.bind_some, bindv, bindv0, rn, t1, t2, q32_64i, ro9]
      rfl
    · have x7 : M.1 24 7 = q32 u := by rw [h24 7 (by omega)]; exact c6
      have x8 : M.1 24 8 = q32 l := by rw [h24 8 (by omega)]; exact c7
      have r1 := rf23_1 hM
      have e7 : rdI s M 24 7 = some (q32 u) := by
        rw [show (7 : Int32) = q32 ((7 : Nat) : Int) from rfl]
        simp (disch := omega) only [Option.bind_some, bindv, bindv0, bind2_s, bind3_s, ↓reduceIte, Bool.false_eq_true, rZM_0, rZM_1, rZP_0, rZP_1, ptZ_0, ptZ_1, c32i, c64i, ncI, Int.natCast_add, Int.natCast_mul, q32_neg, q64_neg, q32_add, q32_sub, q32_mul, q64_add, q64_sub, q64_mul, q32_64i, q64_32, q32_lt_t, q32_lt_f, q32_le_t, q32_le_f, q32_eq_t, q32_eq_f, q64_lt_t, q64_lt_f, q64_le_t, q64_le_f, q64_eq_t, q64_eq_f, rdI_i, rdL_i, rdR_i, rdN_i, stI_i, stL_i, stR_i, wI_s, wI_n, wL_s, wL_n, wI_2, wI_3, wL_1, wL_3, wR_1, wR_2, Int.toNat_natCast, tnO, tn_add, tn_sub, tn_mul, Nat.add_sub_cancel, Nat.add_zero, Nat.zero_add, lnO, win_t, win_f, x7]
      have e8 : rdI s M 24 8 = some (q32 l) := by
        rw [show (8 : Int32) = q32 ((8 : Nat) : Int) from rfl]
        simp (disch := omega) only [Option.bind_some, bindv, bindv0, bind2_s, bind3_s, ↓reduceIte, Bool.false_eq_true, rZM_0, rZM_1, rZP_0, rZP_1, ptZ_0, ptZ_1, c32i, c64i, ncI, Int.natCast_add, Int.natCast_mul, q32_neg, q64_neg, q32_add, q32_sub, q32_mul, q64_add, q64_sub, q64_mul, q32_64i, q64_32, q32_lt_t, q32_lt_f, q32_le_t, q32_le_f, q32_eq_t, q32_eq_f, q64_lt_t, q64_lt_f, q64_le_t, q64_le_f, q64_eq_t, q64_eq_f, rdI_i, rdL_i, rdR_i, rdN_i, stI_i, stL_i, stR_i, wI_s, wI_n, wL_s, wL_n, wI_2, wI_3, wL_1, wL_3, wR_1, wR_2, Int.toNat_natCast, tnO, tn_add, tn_sub, tn_mul, Nat.add_sub_cancel, Nat.add_zero, Nat.zero_add, lnO, win_t, win_f, x8]
      unfold n_X10_restsOf nb_X10_restsOf_0
      simp (disch := omega) only [Option.bind_some, bindv, bindv0, r1, e7, e8, q32_64i, ro10]
      rfl
  · obtain ⟨x0, hx0⟩ := Int.eq_ofNat_of_zero_le (show 0 ≤ RO md u l by omega)
    rw [hx0] at ro9 ro10 rb
    have hx : x0 < md := by omega
    have i1 : ∀ k, bt ((1 : Int32) <<< (q32 x0 &&& 31)) k = true → k = x0 := fun k hk => by
      have := bt_lt hk
      rw [bt_one (by omega) this, decide_eq_true_eq] at hk
      exact hk
    have i0 : bt ((1 : Int32) <<< (q32 x0 &&& 31)) x0 = true := by rw [bt_one (by omega) (by omega)]; simp
    have iz : ∀ k, bt 0 k = true → False := fun k hk => by rw [bt_z] at hk; cases hk
    obtain ⟨w, m', w1, w2, w3⟩ := byL9 hF q9 hm c8 ha (x0 := x0) md F (by omega) m 0 ((1 : Int32) <<< (q32 x0 &&& 31)) 0 (K9.rf m) (by omega) (by omega) (fun k hk => (iz k hk).elim) (fun k hk => by rw [i1 k hk]; exact ⟨hx, Cl.base⟩) i0 (fun r k hr => (iz r hr).elim)
    have nx : ¬ q32 (x0 : Int) = (-1 : Int32) := by simp (disch := omega) only [c32i, q32_neg, q32_eq_f, not_false_eq_true]
    refine ⟨w, ⟨m', ?_, w2⟩, fun M hM h24 => ?_⟩
    · unfold n_X9_remaindersBy nb_X9_remaindersBy_0
      simp (disch := omega) only [Option.bind_some, bindv, bindv0, rn, t1, t2, q32_64i, ro9]
      rw [if_neg nx]
      exact w1
    · obtain ⟨w', M', v1, v2, v3⟩ := outL10 hF hp (q10 M hM h24) hm c8 ha (x0 := x0) hx md F (by omega) M ((1 : Int32) <<< (q32 x0 &&& 31)) 0 (KgS.rf M) (by omega) (fun k hk => (iz k hk).elim) (fun k hk => by rw [i1 k hk]; exact ⟨hx, Cl.base⟩) i0 (fun r k hr => (iz r hr).elim)
      obtain rfl := same_bits v3 w3
      refine ⟨M', ?_, v2⟩
      have x7 : M.1 24 7 = q32 u := by rw [h24 7 (by omega)]; exact c6
      have x8 : M.1 24 8 = q32 l := by rw [h24 8 (by omega)]; exact c7
      have r1 := rf23_1 hM
      have e7 : rdI s M 24 7 = some (q32 u) := by
        rw [show (7 : Int32) = q32 ((7 : Nat) : Int) from rfl]
        simp (disch := omega) only [Option.bind_some, bindv, bindv0, bind2_s, bind3_s, ↓reduceIte, Bool.false_eq_true, rZM_0, rZM_1, rZP_0, rZP_1, ptZ_0, ptZ_1, c32i, c64i, ncI, Int.natCast_add, Int.natCast_mul, q32_neg, q64_neg, q32_add, q32_sub, q32_mul, q64_add, q64_sub, q64_mul, q32_64i, q64_32, q32_lt_t, q32_lt_f, q32_le_t, q32_le_f, q32_eq_t, q32_eq_f, q64_lt_t, q64_lt_f, q64_le_t, q64_le_f, q64_eq_t, q64_eq_f, rdI_i, rdL_i, rdR_i, rdN_i, stI_i, stL_i, stR_i, wI_s, wI_n, wL_s, wL_n, wI_2, wI_3, wL_1, wL_3, wR_1, wR_2, Int.toNat_natCast, tnO, tn_add, tn_sub, tn_mul, Nat.add_sub_cancel, Nat.add_zero, Nat.zero_add, lnO, win_t, win_f, x7]
      have e8 : rdI s M 24 8 = some (q32 l) := by
        rw [show (8 : Int32) = q32 ((8 : Nat) : Int) from rfl]
        simp (disch := omega) only [Option.bind_some, bindv, bindv0, bind2_s, bind3_s, ↓reduceIte, Bool.false_eq_true, rZM_0, rZM_1, rZP_0, rZP_1, ptZ_0, ptZ_1, c32i, c64i, ncI, Int.natCast_add, Int.natCast_mul, q32_neg, q64_neg, q32_add, q32_sub, q32_mul, q64_add, q64_sub, q64_mul, q32_64i, q64_32, q32_lt_t, q32_lt_f, q32_le_t, q32_le_f, q32_eq_t, q32_eq_f, q64_lt_t, q64_lt_f, q64_le_t, q64_le_f, q64_eq_t, q64_eq_f, rdI_i, rdL_i, rdR_i, rdN_i, stI_i, stL_i, stR_i, wI_s, wI_n, wL_s, wL_n, wI_2, wI_3, wL_1, wL_3, wR_1, wR_2, Int.toNat_natCast, tnO, tn_add, tn_sub, tn_mul, Nat.add_sub_cancel, Nat.add_zero, Nat.zero_add, lnO, win_t, win_f, x8]
      unfold n_X10_restsOf nb_X10_restsOf_0
      simp (disch := omega) only [Option.bind_some, bindv, bindv0, r1, e7, e8, q32_64i, ro10]
      rw [if_neg nx]
      exact v1
