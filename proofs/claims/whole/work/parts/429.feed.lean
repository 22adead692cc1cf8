/-! PURE: bytes -/
theorem bt_uj {v : Int32} {k j : Nat} (hk : k < 32) : bt (ushr v (q32 k)) j = bt v (k + j) := by
  have e2 : ((q32 (k : Int)).toUInt32 &&& Int32.toUInt32 31) = UInt32.ofNat k := by
    have : ∀ k : Fin 32, ((q32 (k.val : Int)).toUInt32 &&& Int32.toUInt32 31) = UInt32.ofNat k.val := by decide +kernel
    exact this ⟨k, hk⟩
  unfold ushr bt
  rw [e2]
  show (v.toUInt32 >>> UInt32.ofNat k).toBitVec.getLsbD j = v.toBitVec.getLsbD (k + j)
  rw [UInt32.toBitVec_shiftRight]
  have e3 : ((UInt32.ofNat k).toBitVec % 32).toNat = k := by
    have : ∀ k : Fin 32, ((UInt32.ofNat k.val).toBitVec % 32).toNat = k.val := by decide +kernel
    exact this ⟨k, hk⟩
  rw [BitVec.ushiftRight_eq', e3, BitVec.getLsbD_ushiftRight]
  rfl
theorem bt_sj {v : Int32} {k j : Nat} (hk : k + j < 32) : bt (v >>> (q32 k &&& 31)) j = bt v (k + j) := by
  have e2 : (q32 (k : Int) &&& 31) = q32 k := by
    have : ∀ k : Fin 32, (q32 (k.val : Int) &&& 31) = q32 (k.val : Int) := by decide +kernel
    exact this ⟨k, by omega⟩
  unfold bt
  rw [e2, Int32.toBitVec_shiftRight]
  have e3 : ((q32 (k : Int)).toBitVec.smod 32).toNat = k := by
    have : ∀ k : Fin 32, ((q32 (k.val : Int)).toBitVec.smod 32).toNat = k.val := by decide +kernel
    exact this ⟨k, by omega⟩
  rw [BitVec.sshiftRight_eq', e3, BitVec.getLsbD_sshiftRight]
  simp [hk]
  omega
theorem bt_and (a b : Int32) (k : Nat) : bt (a &&& b) k = (bt a k && bt b k) := by
  unfold bt
  rw [Int32.toBitVec_and, BitVec.getLsbD_and]
theorem bt_255 {k : Nat} (hk : k < 32) : bt 255 k = decide (k < 8) := by
  have : ∀ k : Fin 32, bt 255 k.val = decide (k.val < 8) := by decide +kernel
  exact this ⟨k, hk⟩
def BS (v : Int32) (n : Nat) : Int32 := ushr v (q32 ((8 * n : Nat) : Int)) &&& (255 : Int32)
theorem BS_s {v : Int32} {n : Nat} (hn : n < 4) : (v >>> (q32 ((8 * n : Nat) : Int) &&& 31)) &&& (255 : Int32) = BS v n := by
  apply bt_ext
  intro k hk
  unfold BS
  rw [bt_and, bt_and, bt_255 hk]
  by_cases c : k < 8
  · rw [bt_uj (by omega), bt_sj (by omega)]
  · rw [decide_eq_false c, Bool.and_false, Bool.and_false]
theorem b255 (x : Int32) : ∃ v : Nat, v < 256 ∧ x &&& (255 : Int32) = q32 v := by
  refine ⟨(x &&& (255 : Int32)).toBitVec.toNat, ?_, ?_⟩
  · rw [Int32.toBitVec_and, BitVec.toNat_and]
    have : x.toBitVec.toNat &&& (Int32.toBitVec 255).toNat ≤ (Int32.toBitVec 255).toNat := Nat.and_le_right
    have e : (Int32.toBitVec 255).toNat = 255 := rfl
    omega
  · apply Int32.toBitVec_inj.mp
    apply BitVec.eq_of_toNat_eq
    have hlt := (x &&& (255 : Int32)).toBitVec.isLt
    generalize (x &&& (255 : Int32)).toBitVec.toNat = n at *
    show n = (BitVec.ofInt 32 (n : Int)).toNat
    rw [BitVec.ofInt_natCast, BitVec.toNat_ofNat]
    omega
/-! the tape is fed -/
theorem tapeL {F : Nat} {s : List Sh} (hp : ∃ t, s = sB ++ t) (v : Int32) : ∀ (n fuel : Nat), n < fuel → n ≤ 4 → ∀ (m : Mem) (p : Nat), RF m → m.1 0 1 = q32 p → p + n ≤ 900 → ∃ m', nl_X9_tapeInt_3 F s fuel m 0 v (q32 (8 * (n : Int) - 8)) = some ((), m') ∧ m'.2 = m.2 ∧ (∀ c k, (c ≠ 0 ∨ k ≠ 1) → (c ≠ 1 ∨ k < p ∨ p + n ≤ k) → m'.1 c k = m.1 c k) ∧ m'.1 0 1 = q32 ((p + n : Nat) : Int) ∧ ∀ k, k < n → m'.1 1 (p + k) = BS v (n - 1 - k) := by
  have l1 := ln1 hp
  intro n
  induction n with
  | zero =>
    intro fuel hf h4 m p hr hm hb
    obtain ⟨fuel, rfl⟩ : ∃ f, fuel = f + 1 := ⟨fuel - 1, by omega⟩
    refine ⟨m, ?_, rfl, fun _ _ _ _ => rfl, hm, fun k hk => by omega⟩
    show nb_X9_tapeInt_3 F s (nl_X9_tapeInt_3 F s fuel) m 0 _ _ = _
    unfold nb_X9_tapeInt_3
    simp (disch := omega) only [Option.bind_some, bindv, bindv0, bind2_s, bind3_s, ↓reduceIte, Bool.false_eq_true, rZM_0, rZM_1, rZP_0, rZP_1, ptZ_0, ptZ_1, c32i, c64i, ncI, Int.natCast_add, Int.natCast_mul, q32_neg, q64_neg, q32_add, q32_sub, q32_mul, q64_add, q64_sub, q64_mul, q32_64i, q64_32, q32_lt_t, q32_lt_f, q32_le_t, q32_le_f, q32_eq_t, q32_eq_f, q64_lt_t, q64_lt_f, q64_le_t, q64_le_f, q64_eq_t, q64_eq_f, rdI_i, rdL_i, rdR_i, rdN_i, stI_i, stL_i, stR_i, wI_s, wI_n, wL_s, wL_n, wI_2, wI_3, wL_1, wL_3, wR_1, wR_2, Int.toNat_natCast, tnO, tn_add, tn_sub, tn_mul, Nat.add_sub_cancel, Nat.add_zero, Nat.zero_add, lnO, win_t, win_f]
  | succ n ih =>
    intro fuel hf h4 m p hr hm hb
    obtain ⟨fuel, rfl⟩ : ∃ f, fuel = f + 1 := ⟨fuel - 1, by omega⟩
    have r0 := rf0_0 hr
    obtain ⟨m', e1, e2, e3, e4, e5⟩ := ih fuel (by omega) (by omega) (wI (wI m 1 p (BS v n)) 0 1 (q32 ((p : Int) + 1))) (p + 1) (hr.same rfl) (by rw [wI_s]; rfl) (by omega)
    refine ⟨m', ?_, e2, fun c k h1 h2 => ?_, ?_, fun k hk => ?_⟩
    · refine Eq.trans ?_ e1
      show nb_X9_tapeInt_3 F s (nl_X9_tapeInt_3 F s fuel) m 0 _ _ = _
      have es : q32 (8 * ((n + 1 : Nat) : Int) - 8) = q32 ((8 * n : Nat) : Int) := by congr 1; omega
      have ln1' : Int32.ofNat (ln s 1) = q32 900 := by rw [l1]; rfl
      have st : stI s m 1 (q32 p) (BS v n) = some (wI m 1 p (BS v n)) := stI_q (by omega) (by omega)
      have m1 : (wI m 1 p (BS v n)).1 0 1 = q32 p := by rw [wI_n (by omega)]; exact hm
      rw [es]
      unfold nb_X9_tapeInt_3 nb_X9_tapeInt_45
      rw [show ushr v (q32 ((8 * n : Nat) : Int)) &&& (255 : Int32) = BS v n from rfl, r0, Option.bind_some, Option.bind_some, hm, st, Option.bind_some, ln1']
      have e8 : q32 ((8 * n : Nat) : Int) + (-8 : Int32) = q32 (8 * (n : Int) - 8) := by
        rw [c32i, q32_neg, q32_add]
        congr 1
      rw [if_neg (by simp (disch := omega) only [Option.bind_some, bindv, bindv0, bind2_s, bind3_s, ↓reduceIte, Bool.false_eq_true, rZM_0, rZM_1, rZP_0, rZP_1, ptZ_0, ptZ_1, c32i, c64i, ncI, Int.natCast_add, Int.natCast_mul, q32_neg, q64_neg, q32_add, q32_sub, q32_mul, q64_add, q64_sub, q64_mul, q32_64i, q64_32, q32_lt_t, q32_lt_f, q32_le_t, q32_le_f, q32_eq_t, q32_eq_f, q64_lt_t, q64_lt_f, q64_le_t, q64_le_f, q64_eq_t, q64_eq_f, rdI_i, rdL_i, rdR_i, rdN_i, stI_i, stL_i, stR_i, wI_s, wI_n, wL_s, wL_n, wI_2, wI_3, wL_1, wL_3, wR_1, wR_2, Int.toNat_natCast, tnO, tn_add, tn_sub, tn_mul, Nat.add_sub_cancel, Nat.add_zero, Nat.zero_add, lnO, win_t, win_f]; exact id), if_neg (by simp (disch := omega) only [Option.bind_some, bindv, bindv0, bind2_s, bind3_s, ↓reduceIte, Bool.false_eq_true, rZM_0, rZM_1, rZP_0, rZP_1, ptZ_0, ptZ_1, c32i, c64i, ncI, Int.natCast_add, Int.natCast_mul, q32_neg, q64_neg, q32_add, q32_sub, q32_mul, q64_add, q64_sub, q64_mul, q32_64i, q64_32, q32_lt_t, q32_lt_f, q32_le_t, q32_le_f, q32_eq_t, q32_eq_f, q64_lt_t, q64_lt_f, q64_le_t, q64_le_f, q64_eq_t, q64_eq_f, rdI_i, rdL_i, rdR_i, rdN_i, stI_i, stL_i, stR_i, wI_s, wI_n, wL_s, wL_n, wI_2, wI_3, wL_1, wL_3, wR_1, wR_2, Int.toNat_natCast, tnO, tn_add, tn_sub, tn_mul, Nat.add_sub_cancel, Nat.add_zero, Nat.zero_add, lnO, win_t, win_f]; exact id)]
      simp only [bindv, bindv0, m1, e8]
      rw [c32i, q32_add]
    · rw [e3 c k h1 (by omega), wI_n (by omega), wI_n (by omega)]
    · rw [e4]; congr 1; omega
    · by_cases e : k = 0
      · subst e
        rw [Nat.add_zero, e3 1 p (by omega) (by omega), wI_n (by omega), wI_s]
        rfl
      · have := e5 (k - 1) (by omega)
        rw [show p + 1 + (k - 1) = p + k by omega] at this
        rw [this]
        congr 1
        omega
theorem tape9 {F : Nat} (hF : 1000 ≤ F) {s : List Sh} (hp : ∃ t, s = sB ++ t) (v : Int32) {m : Mem} {p : Nat} (hr : RF m) (hm : m.1 0 1 = q32 p) (hb : p + 4 ≤ 900) : ∃ m', n_X9_tapeInt F s m 0 v = some ((), m') ∧ m'.2 = m.2 ∧ (∀ c k, (c ≠ 0 ∨ k ≠ 1) → (c ≠ 1 ∨ k < p ∨ p + 4 ≤ k) → m'.1 c k = m.1 c k) ∧ m'.1 0 1 = q32 ((p + 4 : Nat) : Int) ∧ ∀ k, k < 4 → m'.1 1 (p + k) = BS v (3 - k) := tapeL (F := F) hp v 4 F (by omega) (by omega) m p hr hm hb
def VAL (a b c d e : Int32) (q : Nat) : Int32 := if q = 0 then a else if q = 1 then b else if q = 2 then c else if q = 3 then d else e
theorem feedL10 {F : Nat} {s : List Sh} (hp : ∃ t, s = sB ++ t) (a b c d e : Int32) {p : Nat} (hb : p + 20 ≤ 900) : ∀ (n fuel : Nat), n < fuel → ∀ (m : Mem) (j : Nat), RF m → m.1 23 5 = q32 ((p + j : Nat) : Int) → j + n = 20 → ∃ m', nl_X10_feed_24 F s fuel m 23 a b c d e (q32 j) = some (q32 ((p + 20 : Nat) : Int), m') ∧ m'.2 = m.2 ∧ (∀ c k, (c ≠ 23 ∨ k ≠ 5) → (c ≠ 26 ∨ k < p + j ∨ p + 20 ≤ k) → m'.1 c k = m.1 c k) ∧ m'.1 23 5 = q32 ((p + 20 : Nat) : Int) ∧ ∀ k, j ≤ k → k < 20 → m'.1 26 (p + k) = BS (VAL a b c d e (k / 4)) (3 - k % 4) := by
  have l26 := ln26 hp
  intro n
  induction n with
  | zero =>
    intro fuel hf m j hr hm hj
    obtain ⟨fuel, rfl⟩ : ∃ f, fuel = f + 1 := ⟨fuel - 1, by omega⟩
    obtain rfl : j = 20 := by omega
    refine ⟨m, ?_, rfl, fun _ _ _ _ => rfl, hm, fun k h1 h2 => by omega⟩
    show nb_X10_feed_24 F s (nl_X10_feed_24 F s fuel) m 23 _ _ _ _ _ _ = _
    unfold nb_X10_feed_24
    rw [if_pos (by decide), hm]
  | succ n ih =>
    intro fuel hf m j hr hm hj
    obtain ⟨fuel, rfl⟩ : ∃ f, fuel = f + 1 := ⟨fuel - 1, by omega⟩
    have r3 := rf23_3 hr
    obtain ⟨m', e1, e2, e3, e4, e5⟩ := ih fuel (by omega) (wI (wI m 26 (p + j) (BS (VAL a b c d e (j / 4)) (3 - j % 4))) 23 5 (q32 (((p + j : Nat) : Int) + 1))) (j + 1) (hr.same rfl) (by rw [wI_s]; rfl) (by omega)
    refine ⟨m', ?_, e2, fun c k h1 h2 => ?_, e4, fun k h1 h2 => ?_⟩
    · refine Eq.trans ?_ e1
      have s1 : nb_X10_feed_24 F s (nl_X10_feed_24 F s fuel) m 23 a b c d e (q32 j) = nb_X10_feed_77 F s (nl_X10_feed_24 F s fuel) m 23 a b c d e (q32 j) (VAL a b c d e (j / 4)) := by
        unfold nb_X10_feed_24 VAL
        by_cases c1 : j < 4
        · rw [if_pos (show j / 4 = 0 by omega)]; simp (disch := omega) only [Option.bind_some, bindv, bindv0, bind2_s, bind3_s, ↓reduceIte, Bool.false_eq_true, rZM_0, rZM_1, rZP_0, rZP_1, ptZ_0, ptZ_1, c32i, c64i, ncI, Int.natCast_add, Int.natCast_mul, q32_neg, q64_neg, q32_add, q32_sub, q32_mul, q64_add, q64_sub, q64_mul, q32_64i, q64_32, q32_lt_t, q32_lt_f, q32_le_t, q32_le_f, q32_eq_t, q32_eq_f, q64_lt_t, q64_lt_f, q64_le_t, q64_le_f, q64_eq_t, q64_eq_f, rdI_i, rdL_i, rdR_i, rdN_i, stI_i, stL_i, stR_i, wI_s, wI_n, wL_s, wL_n, wI_2, wI_3, wL_1, wL_3, wR_1, wR_2, Int.toNat_natCast, tnO, tn_add, tn_sub, tn_mul, Nat.add_sub_cancel, Nat.add_zero, Nat.zero_add, lnO, win_t, win_f]
        · by_cases c2 : j < 8
          · rw [if_neg (show ¬ j / 4 = 0 by omega), if_pos (show j / 4 = 1 by omega)]; simp (disch := omega) only [Option.bind_some, bindv, bindv0, bind2_s, bind3_s, ↓reduceIte, Bool.false_eq_true, rZM_0, rZM_1, rZP_0, rZP_1, ptZ_0, ptZ_1, c32i, c64i, ncI, Int.natCast_add, Int.natCast_mul, q32_neg, q64_neg, q32_add, q32_sub, q32_mul, q64_add, q64_sub, q64_mul, q32_64i, q64_32, q32_lt_t, q32_lt_f, q32_le_t, q32_le_f, q32_eq_t, q32_eq_f, q64_lt_t, q64_lt_f, q64_le_t, q64_le_f, q64_eq_t, q64_eq_f, rdI_i, rdL_i, rdR_i, rdN_i, stI_i, stL_i, stR_i, wI_s, wI_n, wL_s, wL_n, wI_2, wI_3, wL_1, wL_3, wR_1, wR_2, Int.toNat_natCast, tnO, tn_add, tn_sub, tn_mul, Nat.add_sub_cancel, Nat.add_zero, Nat.zero_add, lnO, win_t, win_f]
          · by_cases c3 : j < 12
            · rw [if_neg (show ¬ j / 4 = 0 by omega), if_neg (show ¬ j / 4 = 1 by omega), if_pos (show j / 4 = 2 by omega)]; simp (disch := omega) only [Option.bind_some, bindv, bindv0, bind2_s, bind3_s, ↓reduceIte, Bool.false_eq_true, rZM_0, rZM_1, rZP_0, rZP_1, ptZ_0, ptZ_1, c32i, c64i, ncI, Int.natCast_add, Int.natCast_mul, q32_neg, q64_neg, q32_add, q32_sub, q32_mul, q64_add, q64_sub, q64_mul, q32_64i, q64_32, q32_lt_t, q32_lt_f, q32_le_t, q32_le_f, q32_eq_t, q32_eq_f, q64_lt_t, q64_lt_f, q64_le_t, q64_le_f, q64_eq_t, q64_eq_f, rdI_i, rdL_i, rdR_i, rdN_i, stI_i, stL_i, stR_i, wI_s, wI_n, wL_s, wL_n, wI_2, wI_3, wL_1, wL_3, wR_1, wR_2, Int.toNat_natCast, tnO, tn_add, tn_sub, tn_mul, Nat.add_sub_cancel, Nat.add_zero, Nat.zero_add, lnO, win_t, win_f]
            · by_cases c4 : j < 16
              · rw [if_neg (show ¬ j / 4 = 0 by omega), if_neg (show ¬ j / 4 = 1 by omega), if_neg (show ¬ j / 4 = 2 by omega), if_pos (show j / 4 = 3 by omega)]; simp (disch := omega) only [Option.bind_some, bindv, bindv0, bind2_s, bind3_s, ↓reduceIte, Bool.false_eq_true, rZM_0, rZM_1, rZP_0, rZP_1, ptZ_0, ptZ_1, c32i, c64i, ncI, Int.natCast_add, Int.natCast_mul, q32_neg, q64_neg, q32_add, q32_sub, q32_mul, q64_add, q64_sub, q64_mul, q32_64i, q64_32, q32_lt_t, q32_lt_f, q32_le_t, q32_le_f, q32_eq_t, q32_eq_f, q64_lt_t, q64_lt_f, q64_le_t, q64_le_f, q64_eq_t, q64_eq_f, rdI_i, rdL_i, rdR_i, rdN_i, stI_i, stL_i, stR_i, wI_s, wI_n, wL_s, wL_n, wI_2, wI_3, wL_1, wL_3, wR_1, wR_2, Int.toNat_natCast, tnO, tn_add, tn_sub, tn_mul, Nat.add_sub_cancel, Nat.add_zero, Nat.zero_add, lnO, win_t, win_f]
              · rw [if_neg (show ¬ j / 4 = 0 by omega), if_neg (show ¬ j / 4 = 1 by omega), if_neg (show ¬ j / 4 = 2 by omega), if_neg (show ¬ j / 4 = 3 by omega)]; simp (disch := omega) only [Option.bind_some, bindv, bindv0, bind2_s, bind3_s, ↓reduceIte, Bool.false_eq_true, rZM_0, rZM_1, rZP_0, rZP_1, ptZ_0, ptZ_1, c32i, c64i, ncI, Int.natCast_add, Int.natCast_mul, q32_neg, q64_neg, q32_add, q32_sub, q32_mul, q64_add, q64_sub, q64_mul, q32_64i, q64_32, q32_lt_t, q32_lt_f, q32_le_t, q32_le_f, q32_eq_t, q32_eq_f, q64_lt_t, q64_lt_f, q64_le_t, q64_le_f, q64_eq_t, q64_eq_f, rdI_i, rdL_i, rdR_i, rdN_i, stI_i, stL_i, stR_i, wI_s, wI_n, wL_s, wL_n, wI_2, wI_3, wL_1, wL_3, wR_1, wR_2, Int.toNat_natCast, tnO, tn_add, tn_sub, tn_mul, Nat.add_sub_cancel, Nat.add_zero, Nat.zero_add, lnO, win_t, win_f]
      refine Eq.trans s1 ?_
      have rm : remI (q32 (j : Int)) (4 : Int32) = q32 ((j % 4 : Nat) : Int) := rem_n (a := j) (b := 4) (by omega) (by omega)
      have sh : (24 : Int32) - (8 : Int32) * remI (q32 (j : Int)) (4 : Int32) = q32 ((8 * (3 - j % 4) : Nat) : Int) := by
        rw [rm, c32i, c32i, q32_mul, q32_sub]
        congr 1
        omega
      have st : stI s m 26 (q32 ((p + j : Nat) : Int)) (BS (VAL a b c d e (j / 4)) (3 - j % 4)) = some (wI m 26 (p + j) (BS (VAL a b c d e (j / 4)) (3 - j % 4))) := stI_q (by omega) (by omega)
      have m1 : (wI m 26 (p + j) (BS (VAL a b c d e (j / 4)) (3 - j % 4))).1 23 5 = q32 ((p + j : Nat) : Int) := by rw [wI_n (by omega)]; exact hm
      unfold nb_X10_feed_77
      rw [sh, BS_s (by omega), r3, Option.bind_some, if_neg (by decide), hm, st, Option.bind_some]
      simp only [bindv, bindv0, m1]
      rw [c32i, q32_add, q32_add]
      rfl
    · rw [e3 c k h1 (by omega), wI_n (by omega), wI_n (by omega)]
    · by_cases e : k = j
      · subst e
        rw [e3 26 (p + k) (by omega) (by omega), wI_n (by omega), wI_s]
      · exact e5 k (by omega) h2
theorem opk_feed {F : Nat} (hF : 1000 ≤ F) {s : List Sh} {m : Mem} (h : INV s m) (a b c d e : Int32) : OPK s m (n_X9_feed F s m 0 a b c d e) (fun m1 => n_X10_feed F s m1 23 a b c d e) := by
  have h0 := h
  obtain ⟨hg, ow, nw, hst⟩ := h
  have hl := hst.1
  have hp := hl.hp
  have hr := hl.rf
  have hn := hl.hn
  have rn := hl.nw
  have r1 := rf23_1 hr
  have l24 := ln24 hp
  obtain ⟨tpd, t1, t2, t3, t4, t5, t6, t7⟩ := hst.2.2.1.1
  by_cases cb : tpd + 20 ≤ 900
  · obtain ⟨m1, x1, x2, x3, x4, x5⟩ := tape9 hF hp a hr t3 (by omega)
    obtain ⟨m2, y1, y2, y3, y4, y5⟩ := tape9 hF hp b (hr.same (by rw [x2])) x4 (by omega)
    rw [x2] at y2
    obtain ⟨m3, z1, z2, z3, z4, z5⟩ := tape9 hF hp c (hr.same (by rw [y2])) y4 (by omega)
    rw [y2] at z2
    obtain ⟨m4, u1, u2, u3, u4, u5⟩ := tape9 hF hp d (hr.same (by rw [z2])) z4 (by omega)
    rw [z2] at u2
    obtain ⟨m5, v1, v2, v3, v4, v5⟩ := tape9 hF hp e (hr.same (by rw [u2])) u4 (by omega)
    rw [u2] at v2
    have e1 : n_X9_feed F s m 0 a b c d e = some (q32 ((tpd + 20 : Nat) : Int), m5) := by
      unfold n_X9_feed nb_X9_feed_0
      rw [t3, if_pos (by simp (disch := omega) only [Option.bind_some, bindv, bindv0, bind2_s, bind3_s, ↓reduceIte, Bool.false_eq_true, rZM_0, rZM_1, rZP_0, rZP_1, ptZ_0, ptZ_1, c32i, c64i, ncI, Int.natCast_add, Int.natCast_mul, q32_neg, q64_neg, q32_add, q32_sub, q32_mul, q64_add, q64_sub, q64_mul, q32_64i, q64_32, q32_lt_t, q32_lt_f, q32_le_t, q32_le_f, q32_eq_t, q32_eq_f, q64_lt_t, q64_lt_f, q64_le_t, q64_le_f, q64_eq_t, q64_eq_f, rdI_i, rdL_i, rdR_i, rdN_i, stI_i, stL_i, stR_i, wI_s, wI_n, wL_s, wL_n, wI_2, wI_3, wL_1, wL_3, wR_1, wR_2, Int.toNat_natCast, tnO, tn_add, tn_sub, tn_mul, Nat.add_sub_cancel, Nat.add_zero, Nat.zero_add, lnO, win_t, win_f]), x1, bind2_s, y1, bind2_s, z1, bind2_s, u1, bind2_s, v1, bind2_s, v4]
    have keep : ∀ c k, (c ≠ 0 ∨ k ≠ 1) → (c ≠ 1 ∨ k < tpd ∨ tpd + 20 ≤ k) → m5.1 c k = m.1 c k := fun c k h1 h2 => by
      rw [v3 c k h1 (by omega), u3 c k h1 (by omega), z3 c k h1 (by omega), y3 c k h1 (by omega), x3 c k h1 (by omega)]
    have byt : ∀ k, k < 20 → m5.1 1 (tpd + k) = BS (VAL a b c d e (k / 4)) (3 - k % 4) := fun k hk => by
      unfold VAL
      by_cases c1 : k < 4
      · rw [if_pos (show k / 4 = 0 by omega), v3 1 (tpd + k) (by omega) (by omega), u3 1 (tpd + k) (by omega) (by omega), z3 1 (tpd + k) (by omega) (by omega), y3 1 (tpd + k) (by omega) (by omega), x5 k (by omega)]
        congr 1; omega
      · by_cases c2 : k < 8
        · have := y5 (k - 4) (by omega)
          rw [show tpd + 4 + (k - 4) = tpd + k by omega] at this
          rw [if_neg (show ¬ k / 4 = 0 by omega), if_pos (show k / 4 = 1 by omega), v3 1 (tpd + k) (by omega) (by omega), u3 1 (tpd + k) (by omega) (by omega), z3 1 (tpd + k) (by omega) (by omega), this]
          congr 1; omega
        · by_cases c3 : k < 12
          · have := z5 (k - 8) (by omega)
            rw [show tpd + 4 + 4 + (k - 8) = tpd + k by omega] at this
            rw [if_neg (show ¬ k / 4 = 0 by omega), if_neg (show ¬ k / 4 = 1 by omega), if_pos (show k / 4 = 2 by omega), v3 1 (tpd + k) (by omega) (by omega), u3 1 (tpd + k) (by omega) (by omega), this]
            congr 1; omega
          · by_cases c4 : k < 16
            · have := u5 (k - 12) (by omega)
              rw [show tpd + 4 + 4 + 4 + (k - 12) = tpd + k by omega] at this
              rw [if_neg (show ¬ k / 4 = 0 by omega), if_neg (show ¬ k / 4 = 1 by omega), if_neg (show ¬ k / 4 = 2 by omega), if_pos (show k / 4 = 3 by omega), v3 1 (tpd + k) (by omega) (by omega), this]
              congr 1; omega
            · have := v5 (k - 16) (by omega)
              rw [show tpd + 4 + 4 + 4 + 4 + (k - 16) = tpd + k by omega] at this
              rw [if_neg (show ¬ k / 4 = 0 by omega), if_neg (show ¬ k / 4 = 1 by omega), if_neg (show ¬ k / 4 = 2 by omega), if_neg (show ¬ k / 4 = 3 by omega), this]
              congr 1; omega
    have hr5 : RF (wI m5 23 0 (q32 0)) := hr.same (by show m5.2.2 = _; rw [v2])
    have t4' : m5.1 23 5 = q32 tpd := by rw [keep 23 5 (by omega) (by omega)]; exact t4
    obtain ⟨m6, w1, w2, w3, w4, w5⟩ := feedL10 (F := F) hp a b c d e cb 20 F (by omega) (wI m5 23 0 (q32 0)) 0 hr5 (by rw [wI_n (by omega)]; exact t4') (by omega)
    have e2 : n_X10_feed F s m5 23 a b c d e = some (q32 ((tpd + 20 : Nat) : Int), m6) := by
      unfold n_X10_feed nb_X10_feed_0
      have q5 : (wI m5 23 0 (0 : Int32)).1 23 5 = q32 tpd := by rw [wI_n (by omega)]; exact t4'
      simp only [bindv, bindv0, q5]
      rw [if_pos (by simp (disch := omega) only [Option.bind_some, bindv, bindv0, bind2_s, bind3_s, ↓reduceIte, Bool.false_eq_true, rZM_0, rZM_1, rZP_0, rZP_1, ptZ_0, ptZ_1, c32i, c64i, ncI, Int.natCast_add, Int.natCast_mul, q32_neg, q64_neg, q32_add, q32_sub, q32_mul, q64_add, q64_sub, q64_mul, q32_64i, q64_32, q32_lt_t, q32_lt_f, q32_le_t, q32_le_f, q32_eq_t, q32_eq_f, q64_lt_t, q64_lt_f, q64_le_t, q64_le_f, q64_eq_t, q64_eq_f, rdI_i, rdL_i, rdR_i, rdN_i, stI_i, stL_i, stR_i, wI_s, wI_n, wL_s, wL_n, wI_2, wI_3, wL_1, wL_3, wR_1, wR_2, Int.toNat_natCast, tnO, tn_add, tn_sub, tn_mul, Nat.add_sub_cancel, Nat.add_zero, Nat.zero_add, lnO, win_t, win_f])]
      exact w1
    have kp : ∀ c k, (c ≠ 0 ∨ k ≠ 1) → (c ≠ 1 ∨ k < tpd ∨ tpd + 20 ≤ k) → (c ≠ 23 ∨ (k ≠ 5 ∧ k ≠ 0)) → (c ≠ 26 ∨ k < tpd ∨ tpd + 20 ≤ k) → m6.1 c k = m.1 c k := fun c k h1 h2 h3 h4 => by
      rw [w3 c k (by omega) (by omega), wI_n (by omega), keep c k h1 h2]
    have er : m6.2 = m.2 := by rw [w2]; show m5.2 = _; rw [v2]
    refine ⟨_, m5, m6, e1, e2, ⟨(un_X10_feed (un_X9_feed hg (okB hp).1 e1).2 (okB hp).2 e2).2, ow, nw, ?_⟩, by rw [er]⟩
    refine hst.hu (by rw [er]) (fun a ha hb hc => funext fun k => kp a k (by omega) (by omega) (by omega) (by omega)) (fun a ha hb => by rw [er]) (fun k hk => kp 24 k (by omega) (by omega) (by omega) (by omega)) ?_ ⟨⟨tpd + 20, by omega, by omega, ?_, w4, fun k hk => ?_, ?_, ?_⟩, ?_⟩
    · exact hst.2.1.same (fun j hj => funext fun k => kp _ k (by omega) (by omega) (by omega) (by omega)) (fun k hk => kp 24 k (by omega) (by omega) (by omega) (by omega))
    · rw [w3 0 1 (by omega) (by omega), wI_n (by omega)]; exact v4
    · by_cases ck : k < tpd
      · rw [kp 1 k (by omega) (by omega) (by omega) (by omega), kp 26 k (by omega) (by omega) (by omega) (by omega)]
        exact t5 k ck
      · have x1 := byt (k - tpd) (by omega)
        have x2 := w5 (k - tpd) (by omega) (by omega)
        rw [show tpd + (k - tpd) = k by omega] at x1 x2
        have x3 : m6.1 1 k = BS (VAL a b c d e ((k - tpd) / 4)) (3 - (k - tpd) % 4) := by rw [w3 1 k (by omega) (by omega), wI_n (by omega)]; exact x1
        refine ⟨x3.trans x2.symm, ?_⟩
        rw [x3]
        exact b255 _
    · rw [kp 23 13 (by omega) (by omega) (by omega) (by omega), kp 0 2 (by omega) (by omega) (by omega) (by omega)]; exact t6
    · rw [kp 23 14 (by omega) (by omega) (by omega) (by omega), kp 0 3 (by omega) (by omega) (by omega) (by omega)]; exact t7
    · have hus := hst.2.2.1.2
      unfold US at hus ⊢
      rw [kp 0 10 (by omega) (by omega) (by omega) (by omega), show m6.1 24 = m.1 24 from funext fun k => kp 24 k (by omega) (by omega) (by omega) (by omega), show m6.1 14 = m.1 14 from funext fun k => kp 14 k (by omega) (by omega) (by omega) (by omega), show m6.1 15 = m.1 15 from funext fun k => kp 15 k (by omega) (by omega) (by omega) (by omega)]
      exact hus
  · have e1 : n_X9_feed F s m 0 a b c d e = some (q32 (-5), m) := by
      unfold n_X9_feed nb_X9_feed_0
      simp (disch := omega) only [Option.bind_some, bindv, bindv0, bind2_s, bind3_s, ↓reduceIte, Bool.false_eq_true, rZM_0, rZM_1, rZP_0, rZP_1, ptZ_0, ptZ_1, c32i, c64i, ncI, Int.natCast_add, Int.natCast_mul, q32_neg, q64_neg, q32_add, q32_sub, q32_mul, q64_add, q64_sub, q64_mul, q32_64i, q64_32, q32_lt_t, q32_lt_f, q32_le_t, q32_le_f, q32_eq_t, q32_eq_f, q64_lt_t, q64_lt_f, q64_le_t, q64_le_f, q64_eq_t, q64_eq_f, rdI_i, rdL_i, rdR_i, rdN_i, stI_i, stL_i, stR_i, wI_s, wI_n, wL_s, wL_n, wI_2, wI_3, wL_1, wL_3, wR_1, wR_2, Int.toNat_natCast, tnO, tn_add, tn_sub, tn_mul, Nat.add_sub_cancel, Nat.add_zero, Nat.zero_add, lnO, win_t, win_f, t3]
    have e2 : n_X10_feed F s m 23 a b c d e = some (q32 (-5), wI m 23 0 (q32 0)) := by
      unfold n_X10_feed nb_X10_feed_0
      simp (disch := omega) only [Option.bind_some, bindv, bindv0, bind2_s, bind3_s, ↓reduceIte, Bool.false_eq_true, rZM_0, rZM_1, rZP_0, rZP_1, ptZ_0, ptZ_1, c32i, c64i, ncI, Int.natCast_add, Int.natCast_mul, q32_neg, q64_neg, q32_add, q32_sub, q32_mul, q64_add, q64_sub, q64_mul, q32_64i, q64_32, q32_lt_t, q32_lt_f, q32_le_t, q32_le_f, q32_eq_t, q32_eq_f, q64_lt_t, q64_lt_f, q64_le_t, q64_le_f, q64_eq_t, q64_eq_f, rdI_i, rdL_i, rdR_i, rdN_i, stI_i, stL_i, stR_i, wI_s, wI_n, wL_s, wL_n, wI_2, wI_3, wL_1, wL_3, wR_1, wR_2, Int.toNat_natCast, tnO, tn_add, tn_sub, tn_mul, Nat.add_sub_cancel, Nat.add_zero, Nat.zero_add, lnO, win_t, win_f, t4]
    exact opk_fin h0 e1 e2 (un_X10_feed (un_X9_feed hg (okB hp).1 e1).2 (okB hp).2 e2).2 (SC.k0 m)
