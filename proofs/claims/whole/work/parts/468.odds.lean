theorem OGW.k {m m' : Mem} {R : RPL} (h : OGW m R) (e : K10 m m') : OGW m' R := ⟨by rw [e.1 23 51 (by omega)]; exact h.1, fun i hi => by rw [e.1 47 i (by omega), e.1 48 i (by omega), e.2.1 49 i (by omega)]; exact h.2 i hi⟩
theorem come10 {F : Nat} (hF : 20000 ≤ F) {s : List Sh} (hp : ∃ t, s = sB ++ t) {m : Mem} (hr : RF m) {tp : Int} {R : RPL} (ho : OGW m R) (hf : FLS tp (R.map Prod.fst)) (nd : (R.map Prod.fst).Nodup) (hl : R.length < 300) {y : FR} (hy : FLR tp y.1 y.2) {w : Nat} (hw : w ≤ 100000000) : ∃ m', n_X10_comes F s m 23 (q64 y.1) (q64 y.2) (q64 (w : Nat)) = some ((), m') ∧ KO m m' ∧ OGW m' (if w = 0 then R else addW R y w) := by
  by_cases c : w = 0
  · subst c
    refine ⟨m, ?_, KO.rf m, by rw [if_pos rfl]; exact ho⟩
    unfold n_X10_comes nb_X10_comes_0
    simp (disch := omega) only [Option.bind_some, bindv, bindv0, bind2_s, bind3_s, ↓reduceIte, Bool.false_eq_true, rZM_0, rZM_1, rZP_0, rZP_1, ptZ_0, ptZ_1, c32i, c64i, ncI, Int.natCast_add, Int.natCast_mul, q32_neg, q64_neg, q32_add, q32_sub, q32_mul, q64_add, q64_sub, q64_mul, q32_64i, q64_32, q32_lt_t, q32_lt_f, q32_le_t, q32_le_f, q32_eq_t, q32_eq_f, q64_lt_t, q64_lt_f, q64_le_t, q64_le_f, q64_eq_t, q64_eq_f, rdI_i, rdL_i, rdR_i, rdN_i, stI_i, stL_i, stR_i, wI_s, wI_n, wL_s, wL_n, wI_2, wI_3, wL_1, wL_3, wR_1, wR_2, Int.toNat_natCast, tnO, tn_add, tn_sub, tn_mul, Nat.add_sub_cancel, Nat.add_zero, Nat.zero_add, lnO, win_t, win_f]
  · rw [if_neg c]
    obtain ⟨m', i1, i2, i3⟩ := comL10 (F := F) hp hr ho hf nd hl hy (w := w) R.length 0 F (by omega) (by omega) (fun i hi => by omega)
    refine ⟨m', ?_, i2, i3⟩
    have i1' : nl_X10_comes_11 F s F m 23 (q64 y.1) (q64 y.2) (q64 (w : Nat)) (q32 0) = some ((), m') := i1
    unfold n_X10_comes nb_X10_comes_0
    simp (disch := omega) only [Option.bind_some, bindv, bindv0, bind2_s, bind3_s, ↓reduceIte, Bool.false_eq_true, rZM_0, rZM_1, rZP_0, rZP_1, ptZ_0, ptZ_1, c32i, c64i, ncI, Int.natCast_add, Int.natCast_mul, q32_neg, q64_neg, q32_add, q32_sub, q32_mul, q64_add, q64_sub, q64_mul, q32_64i, q64_32, q32_lt_t, q32_lt_f, q32_le_t, q32_le_f, q32_eq_t, q32_eq_f, q64_lt_t, q64_lt_f, q64_le_t, q64_le_f, q64_eq_t, q64_eq_f, rdI_i, rdL_i, rdR_i, rdN_i, stI_i, stL_i, stR_i, wI_s, wI_n, wL_s, wL_n, wI_2, wI_3, wL_1, wL_3, wR_1, wR_2, Int.toNat_natCast, tnO, tn_add, tn_sub, tn_mul, Nat.add_sub_cancel, Nat.add_zero, Nat.zero_add, lnO, win_t, win_f, i1']
theorem god10 {F : Nat} (hF : 20000 ≤ F) {s : List Sh} (hp : ∃ t, s = sB ++ t) {al : Nat → Int32} (hw : WA al) {bc sk : Nat} (h2 : al 2 = q32 bc) (hbc : bc ≤ 6) (h5 : al 5 = q32 sk) (hs9 : sk ≤ 9) {j sz : Nat} (hj : j < 4) (hsz : sz ≤ 8) {V : Nat → Nat} (hV : ∀ k, k < sz → V k ≤ 100) : ∀ n k d, k + n = sz → n < d → ∀ (m : Mem) (x : FR) (w : Nat) (R : RPL), RD m al → m.1 51 j = q32 sz → (∀ k, k < sz → btA al (m.2.1 52 (40 * j + k)) = (V k : Nat)) → OGW m R → FLS (A al 1) (R.map Prod.fst) → (R.map Prod.fst).Nodup → FLR (A al 1) x.1 x.2 → w * 10 ^ n ≤ 100000000 → R.length + 2 ^ n ≤ 300 → ∃ m', nd_X10_goesOdds F s d m 23 (q32 j) (q32 (k : Nat)) (q64 x.1) (q64 x.2) (q64 (w : Nat)) = some ((), m') ∧ KO m m' ∧ OGW m' (GOD al sk V n k x w R) ∧ ((GOD al sk V n k x w R).map Prod.fst).Nodup := by
  have l24 := ln24 hp
  have l51 := ln51 hp
  intro n
  induction n with
  | zero =>
    intro k d hk hd m x w R hr h51 hm ho hf nd hx hwb hl
    obtain ⟨d, rfl⟩ : ∃ e, d = e + 1 := ⟨d - 1, by omega⟩
    have hk' : k = sz := by omega
    subst hk'
    rw [Nat.pow_zero, Nat.mul_one] at hwb
    have r53 := rf23_53 hr.1
    obtain ⟨m', i1, i2, i3⟩ := come10 hF hp hr.1 ho hf nd (by have : 2 ^ 0 = 1 := rfl; omega) hx hwb
    refine ⟨m', ?_, i2, i3, ?_⟩
    · show ng_X10_goesOdds (nd_X10_goesOdds F s d) F s m 23 _ _ _ _ _ = _
      unfold ng_X10_goesOdds nb_X10_goesOdds_0 nb_X10_goesOdds_17
      by_cases c : w = 0
      · subst c
        have i1' : n_X10_comes F s m 23 (q64 x.1) (q64 x.2) (q64 0) = some ((), m') := i1
        simp (disch := omega) only [Option.bind_some, bindv, bindv0, bind2_s, bind3_s, ↓reduceIte, Bool.false_eq_true, rZM_0, rZM_1, rZP_0, rZP_1, ptZ_0, ptZ_1, c32i, c64i, ncI, Int.natCast_add, Int.natCast_mul, q32_neg, q64_neg, q32_add, q32_sub, q32_mul, q64_add, q64_sub, q64_mul, q32_64i, q64_32, q32_lt_t, q32_lt_f, q32_le_t, q32_le_f, q32_eq_t, q32_eq_f, q64_lt_t, q64_lt_f, q64_le_t, q64_le_f, q64_eq_t, q64_eq_f, rdI_i, rdL_i, rdR_i, rdN_i, stI_i, stL_i, stR_i, wI_s, wI_n, wL_s, wL_n, wI_2, wI_3, wL_1, wL_3, wR_1, wR_2, Int.toNat_natCast, tnO, tn_add, tn_sub, tn_mul, Nat.add_sub_cancel, Nat.add_zero, Nat.zero_add, lnO, win_t, win_f, i1']
      · simp (disch := omega) only [Option.bind_some, bindv, bindv0, bind2_s, bind3_s, ↓reduceIte, Bool.false_eq_true, rZM_0, rZM_1, rZP_0, rZP_1, ptZ_0, ptZ_1, c32i, c64i, ncI, Int.natCast_add, Int.natCast_mul, q32_neg, q64_neg, q32_add, q32_sub, q32_mul, q64_add, q64_sub, q64_mul, q32_64i, q64_32, q32_lt_t, q32_lt_f, q32_le_t, q32_le_f, q32_eq_t, q32_eq_f, q64_lt_t, q64_lt_f, q64_le_t, q64_le_f, q64_eq_t, q64_eq_f, rdI_i, rdL_i, rdR_i, rdN_i, stI_i, stL_i, stR_i, wI_s, wI_n, wL_s, wL_n, wI_2, wI_3, wL_1, wL_3, wR_1, wR_2, Int.toNat_natCast, tnO, tn_add, tn_sub, tn_mul, Nat.add_sub_cancel, Nat.add_zero, Nat.zero_add, lnO, win_t, win_f, r53, h51, i1]
    · unfold GOD
      split
      · exact nd
      · exact addW_nd nd
  | succ n ih =>
    intro k d hk hd m x w R hr h51 hm ho hf nd hx hwb hl
    obtain ⟨d, rfl⟩ : ∃ e, d = e + 1 := ⟨d - 1, by omega⟩
    have r53 := rf23_53 hr.1
    have e10 : 10 ^ (n + 1) = 10 ^ n * 10 := Nat.pow_succ ..
    have e2 : 2 ^ (n + 1) = 2 ^ n * 2 := Nat.pow_succ ..
    have p10 : 1 ≤ 10 ^ n := Nat.one_le_pow _ _ (by omega)
    have hwle : w ≤ 100000000 := by
      have : w * 1 ≤ w * 10 ^ (n + 1) := Nat.mul_le_mul_left _ (by omega)
      omega
    show ∃ m', ng_X10_goesOdds (nd_X10_goesOdds F s d) F s m 23 _ _ _ _ _ = _ ∧ _
    by_cases c : w = 0
    · subst c
      obtain ⟨m', i1, i2, i3⟩ := come10 hF hp hr.1 ho hf nd (by have : 1 ≤ 2 ^ (n + 1) := Nat.one_le_pow _ _ (by omega); omega) hx (w := 0) (by omega)
      have i1' : n_X10_comes F s m 23 (q64 x.1) (q64 x.2) (q64 0) = some ((), m') := i1
      refine ⟨m', ?_, i2, by unfold GOD; rw [if_pos rfl]; exact i3, by unfold GOD; rw [if_pos rfl]; exact nd⟩
      unfold ng_X10_goesOdds nb_X10_goesOdds_0 nb_X10_goesOdds_17
      simp (disch := omega) only [Option.bind_some, bindv, bindv0, bind2_s, bind3_s, ↓reduceIte, Bool.false_eq_true, rZM_0, rZM_1, rZP_0, rZP_1, ptZ_0, ptZ_1, c32i, c64i, ncI, Int.natCast_add, Int.natCast_mul, q32_neg, q64_neg, q32_add, q32_sub, q32_mul, q64_add, q64_sub, q64_mul, q32_64i, q64_32, q32_lt_t, q32_lt_f, q32_le_t, q32_le_f, q32_eq_t, q32_eq_f, q64_lt_t, q64_lt_f, q64_le_t, q64_le_f, q64_eq_t, q64_eq_f, rdI_i, rdL_i, rdR_i, rdN_i, stI_i, stL_i, stR_i, wI_s, wI_n, wL_s, wL_n, wI_2, wI_3, wL_1, wL_3, wR_1, wR_2, Int.toNat_natCast, tnO, tn_add, tn_sub, tn_mul, Nat.add_sub_cancel, Nat.add_zero, Nat.zero_add, lnO, win_t, win_f, i1']
    · have td := told10 (s := s) (m := m) hp hr.1 hbc h2 hr.2 (j := j) (k := k) hj (by omega)
      rw [hm k (by omega)] at td
      have hVk := hV k (by omega)
      obtain ⟨m1, f1, f2, f3⟩ := lead10 (F := F) (by omega) hp hr.1 hw hr.2 (x := x) hx.ok (b := ((V k : Nat) : Int)) (by unfold B31; omega)
      have hr1 := hr.sc f2.ko.sc
      have r1 := rf23_1 hr1.1
      have h51' : m1.1 51 j = q32 sz := by rw [f2.1 51 j (by omega)]; exact h51
      have hm1 : ∀ k, k < sz → btA al (m1.2.1 52 (40 * j + k)) = (V k : Nat) := fun k hk => by rw [f2.2.1 52 _ (by omega)]; exact hm k hk
      have sk1 : m1.1 24 5 = q32 sk := by rw [hr1.2 5 (by omega)]; exact h5
      have le := LE_b al ((V k : Nat) : Int) x
      unfold GOD
      rw [if_neg c]
      by_cases c0 : (LE al (V k : Nat) x).1 = 0
      · rw [if_pos c0]
        rw [c0] at f1
        obtain ⟨a0, a1⟩ := f3 c0
        have ay := LE_flr hw hx.ok c0
        have hws : w * sk * 10 ^ n ≤ 100000000 := by
          have h1 : w * sk * 10 ^ n ≤ w * 10 * 10 ^ n := Nat.mul_le_mul_right _ (Nat.mul_le_mul_left _ (by omega))
          rw [e10, Nat.mul_comm (10 ^ n), ← Nat.mul_assoc] at hwb
          omega
        have hwt : w * (10 - sk) * 10 ^ n ≤ 100000000 := by
          have h1 : w * (10 - sk) * 10 ^ n ≤ w * 10 * 10 ^ n := Nat.mul_le_mul_right _ (Nat.mul_le_mul_left _ (by omega))
          rw [e10, Nat.mul_comm (10 ^ n), ← Nat.mul_assoc] at hwb
          omega
        obtain ⟨m2, i1, i2, i3, i4⟩ := ih (k + 1) d (by omega) (by omega) m1 x (w * sk) R hr1 h51' hm1 (ho.k f2) hf nd hx hws (by omega)
        have gl := GOD_len (al := al) (sk := sk) (B := V) n (k + 1) x (w * sk) R
        have hr2 := hr1.sc i2.sc
        have r12 := rf23_1 hr2.1
        have sk2 : m2.1 24 5 = q32 sk := by rw [hr2.2 5 (by omega)]; exact h5
        obtain ⟨m3, j1, j2, j3, j4⟩ := ih (k + 1) d (by omega) (by omega) m2 (LE al (V k : Nat) x).2 (w * (10 - sk)) _ hr2 (by rw [i2.1 51 j (by omega) (by omega) (by omega)]; exact h51') (fun k hk => by rw [i2.2.1 52 _ (by omega) (by omega) (by omega) (by omega)]; exact hm1 k hk) i3 (FLS.god hw n (k + 1) x (w * sk) R hx hf) i4 ay hwt (by omega)
        refine ⟨m3, ?_, (f2.ko.tr i2).tr j2, j3, j4⟩
        have ew1 : ((w * sk : Nat) : Int) = (w : Int) * sk := Int.natCast_mul ..
        have ew2 : ((w * (10 - sk) : Nat) : Int) = (w : Int) * (10 - sk) := by rw [Int.natCast_mul, Int.natCast_sub (by omega)]; rfl
        rw [ew1, Int.natCast_add] at i1
        rw [ew2, Int.natCast_add] at j1
        have i1' : nd_X10_goesOdds F s d m1 23 (q32 j) (q32 ((k : Int) + 1)) (q64 x.1) (q64 x.2) (q64 ((w : Int) * sk)) = some ((), m2) := i1
        have j1' : nd_X10_goesOdds F s d m2 23 (q32 j) (q32 ((k : Int) + 1)) (q64 (LE al (V k : Nat) x).2.1) (q64 (LE al (V k : Nat) x).2.2) (q64 ((w : Int) * (10 - sk))) = some ((), m3) := j1
        unfold ng_X10_goesOdds nb_X10_goesOdds_0 nb_X10_goesOdds_17
        simp (disch := omega) only [Option.bind_some, bindv, bindv0, bind2_s, bind3_s, ↓reduceIte, Bool.false_eq_true, rZM_0, rZM_1, rZP_0, rZP_1, ptZ_0, ptZ_1, c32i, c64i, ncI, Int.natCast_add, Int.natCast_mul, q32_neg, q64_neg, q32_add, q32_sub, q32_mul, q64_add, q64_sub, q64_mul, q32_64i, q64_32, q32_lt_t, q32_lt_f, q32_le_t, q32_le_f, q32_eq_t, q32_eq_f, q64_lt_t, q64_lt_f, q64_le_t, q64_le_f, q64_eq_t, q64_eq_f, rdI_i, rdL_i, rdR_i, rdN_i, stI_i, stL_i, stR_i, wI_s, wI_n, wL_s, wL_n, wI_2, wI_3, wL_1, wL_3, wR_1, wR_2, Int.toNat_natCast, tnO, tn_add, tn_sub, tn_mul, Nat.add_sub_cancel, Nat.add_zero, Nat.zero_add, lnO, win_t, win_f, r53, h51, td, f1, r1, sk1, i1', r12, sk2, a0, a1, j1']
      · rw [if_neg c0]
        have hwt : 10 * w * 10 ^ n ≤ 100000000 := by
          rw [e10, Nat.mul_comm (10 ^ n), ← Nat.mul_assoc] at hwb
          rw [Nat.mul_comm 10 w]
          omega
        obtain ⟨m2, i1, i2, i3, i4⟩ := ih (k + 1) d (by omega) (by omega) m1 x (10 * w) R hr1 h51' hm1 (ho.k f2) hf nd hx hwt (by omega)
        refine ⟨m2, ?_, f2.ko.tr i2, i3, i4⟩
        have ew1 : ((10 * w : Nat) : Int) = (10 : Int) * w := Int.natCast_mul ..
        rw [ew1, Int.natCast_add] at i1
        have i1' : nd_X10_goesOdds F s d m1 23 (q32 j) (q32 ((k : Int) + 1)) (q64 x.1) (q64 x.2) (q64 ((10 : Int) * w)) = some ((), m2) := i1
        unfold ng_X10_goesOdds nb_X10_goesOdds_0 nb_X10_goesOdds_17
        simp (disch := omega) only [Option.bind_some, bindv, bindv0, bind2_s, bind3_s, ↓reduceIte, Bool.false_eq_true, rZM_0, rZM_1, rZP_0, rZP_1, ptZ_0, ptZ_1, c32i, c64i, ncI, Int.natCast_add, Int.natCast_mul, q32_neg, q64_neg, q32_add, q32_sub, q32_mul, q64_add, q64_sub, q64_mul, q32_64i, q64_32, q32_lt_t, q32_lt_f, q32_le_t, q32_le_f, q32_eq_t, q32_eq_f, q64_lt_t, q64_lt_f, q64_le_t, q64_le_f, q64_eq_t, q64_eq_f, rdI_i, rdL_i, rdR_i, rdN_i, stI_i, stL_i, stR_i, wI_s, wI_n, wL_s, wL_n, wI_2, wI_3, wL_1, wL_3, wR_1, wR_2, Int.toNat_natCast, tnO, tn_add, tn_sub, tn_mul, Nat.add_sub_cancel, Nat.add_zero, Nat.zero_add, lnO, win_t, win_f, r53, h51, td, f1, i1']
/-! rows of buttons alone -/
def BAL (v : Nat → Int) (bc k n : Nat) : Prop := ∀ i, k ≤ i → i < k + n → 0 ≤ v i ∧ v i < bc
theorem BAL_s {v : Nat → Int} {bc k n : Nat} : BAL v bc k (n + 1) ↔ (0 ≤ v k ∧ v k < bc) ∧ BAL v bc (k + 1) n := by
  unfold BAL
  constructor
  · exact fun h => ⟨h k (by omega) (by omega), fun i h1 h2 => h i (by omega) (by omega)⟩
  · rintro ⟨h1, h2⟩ i h3 h4
    by_cases c : i = k
    · rw [c]; exact h1
    · exact h2 i (by omega) (by omega)
theorem aloL9 {F : Nat} {s : List Sh} {m : Mem} {nw bc j t sz : Nat} (rn : m.2.2 0 4 = some nw) (g6 : m.1 nw 6 = q32 bc) (hbc : bc ≤ 6) (ht : TR s m j t sz) (hsz : sz ≤ 8) : ∀ n k fuel, k + n = sz → n < fuel → (BAL (fun k => (m.2.1 52 (40 * j + k)).toInt) bc k n → nl_X9_hasButtonsAlone_2 F s m fuel 0 t (q32 (k : Nat)) = some (q32 1)) ∧ (¬ BAL (fun k => (m.2.1 52 (40 * j + k)).toInt) bc k n → nl_X9_hasButtonsAlone_2 F s m fuel 0 t (q32 (k : Nat)) = some (q32 0)) := by
  obtain ⟨h1, h2, h3, h4, h5, h6, h7, h8, h9, h9', h10⟩ := ht
  intro n
  induction n with
  | zero =>
    intro k fuel hk hfu
    obtain ⟨fuel, rfl⟩ : ∃ f, fuel = f + 1 := ⟨fuel - 1, by omega⟩
    refine ⟨fun _ => ?_, fun h => absurd (fun i h1 h2 => by omega) h⟩
    show nb_X9_hasButtonsAlone_2 F s (nl_X9_hasButtonsAlone_2 F s m fuel) m 0 t _ = _
    unfold nb_X9_hasButtonsAlone_2
    simp (disch := omega) only [Option.bind_some, bindv, bindv0, bind2_s, bind3_s, ↓reduceIte, Bool.false_eq_true, rZM_0, rZM_1, rZP_0, rZP_1, ptZ_0, ptZ_1, c32i, c64i, ncI, Int.natCast_add, Int.natCast_mul, q32_neg, q64_neg, q32_add, q32_sub, q32_mul, q64_add, q64_sub, q64_mul, q32_64i, q64_32, q32_lt_t, q32_lt_f, q32_le_t, q32_le_f, q32_eq_t, q32_eq_f, q64_lt_t, q64_lt_f, q64_le_t, q64_le_f, q64_eq_t, q64_eq_f, rdI_i, rdL_i, rdR_i, rdN_i, stI_i, stL_i, stR_i, wI_s, wI_n, wL_s, wL_n, wI_2, wI_3, wL_1, wL_3, wR_1, wR_2, Int.toNat_natCast, tnO, tn_add, tn_sub, tn_mul, Nat.add_sub_cancel, Nat.add_zero, Nat.zero_add, lnO, win_t, win_f, h8]
  | succ n ih =>
    intro k fuel hk hfu
    obtain ⟨fuel, rfl⟩ : ∃ f, fuel = f + 1 := ⟨fuel - 1, by omega⟩
    have ih := ih (k + 1) fuel (by omega) (by omega)
    rw [Int.natCast_add] at ih
    have hv := h10 k (by omega)
    have hb := v64b (m.2.1 52 (40 * j + k))
    rw [v64 (m.2.1 52 (40 * j + k))] at hv
    rw [BAL_s]
    generalize (m.2.1 52 (40 * j + k)).toInt = v at *
    show (_ → nb_X9_hasButtonsAlone_2 F s (nl_X9_hasButtonsAlone_2 F s m fuel) m 0 t _ = _) ∧ (_ → nb_X9_hasButtonsAlone_2 F s (nl_X9_hasButtonsAlone_2 F s m fuel) m 0 t _ = _)
    by_cases c1 : v < 0
    · refine ⟨fun h => by omega, fun _ => ?_⟩
      unfold nb_X9_hasButtonsAlone_2
      simp (disch := omega) only [Option.bind_some, bindv, bindv0, bind2_s, bind3_s, ↓reduceIte, Bool.false_eq_true, rZM_0, rZM_1, rZP_0, rZP_1, ptZ_0, ptZ_1, c32i, c64i, ncI, Int.natCast_add, Int.natCast_mul, q32_neg, q64_neg, q32_add, q32_sub, q32_mul, q64_add, q64_sub, q64_mul, q32_64i, q64_32, q32_lt_t, q32_lt_f, q32_le_t, q32_le_f, q32_eq_t, q32_eq_f, q64_lt_t, q64_lt_f, q64_le_t, q64_le_f, q64_eq_t, q64_eq_f, rdI_i, rdL_i, rdR_i, rdN_i, stI_i, stL_i, stR_i, wI_s, wI_n, wL_s, wL_n, wI_2, wI_3, wL_1, wL_3, wR_1, wR_2, Int.toNat_natCast, tnO, tn_add, tn_sub, tn_mul, Nat.add_sub_cancel, Nat.add_zero, Nat.zero_add, lnO, win_t, win_f, h8, h5, hv]
    · by_cases c2 : v < bc
      · have go : nb_X9_hasButtonsAlone_2 F s (nl_X9_hasButtonsAlone_2 F s m fuel) m 0 t (q32 (k : Int)) = nl_X9_hasButtonsAlone_2 F s m fuel 0 t (q32 ((k : Int) + 1)) := by
          unfold nb_X9_hasButtonsAlone_2
          simp (disch := omega) only [Option.bind_some, bindv, bindv0, bind2_s, bind3_s, ↓reduceIte, Bool.false_eq_true, rZM_0, rZM_1, rZP_0, rZP_1, ptZ_0, ptZ_1, c32i, c64i, ncI, Int.natCast_add, Int.natCast_mul, q32_neg, q64_neg, q32_add, q32_sub, q32_mul, q64_add, q64_sub, q64_mul, q32_64i, q64_32, q32_lt_t, q32_lt_f, q32_le_t, q32_le_f, q32_eq_t, q32_eq_f, q64_lt_t, q64_lt_f, q64_le_t, q64_le_f, q64_eq_t, q64_eq_f, rdI_i, rdL_i, rdR_i, rdN_i, stI_i, stL_i, stR_i, wI_s, wI_n, wL_s, wL_n, wI_2, wI_3, wL_1, wL_3, wR_1, wR_2, Int.toNat_natCast, tnO, tn_add, tn_sub, tn_mul, Nat.add_sub_cancel, Nat.add_zero, Nat.zero_add, lnO, win_t, win_f, h8, h5, hv, rn, g6]
        rw [go]
        exact ⟨fun h => ih.1 h.2, fun h => ih.2 (fun hb' => h ⟨⟨by omega, c2⟩, hb'⟩)⟩
      · refine ⟨fun h => by omega, fun _ => ?_⟩
        unfold nb_X9_hasButtonsAlone_2
        simp (disch := omega) only [Option.bind_some, bindv, bindv0, bind2_s, bind3_s, ↓reduceIte, Bool.false_eq_true, rZM_0, rZM_1, rZP_0, rZP_1, ptZ_0, ptZ_1, c32i, c64i, ncI, Int.natCast_add, Int.natCast_mul, q32_neg, q64_neg, q32_add, q32_sub, q32_mul, q64_add, q64_sub, q64_mul, q32_64i, q64_32, q32_lt_t, q32_lt_f, q32_le_t, q32_le_f, q32_eq_t, q32_eq_f, q64_lt_t, q64_lt_f, q64_le_t, q64_le_f, q64_eq_t, q64_eq_f, rdI_i, rdL_i, rdR_i, rdN_i, stI_i, stL_i, stR_i, wI_s, wI_n, wL_s, wL_n, wI_2, wI_3, wL_1, wL_3, wR_1, wR_2, Int.toNat_natCast, tnO, tn_add, tn_sub, tn_mul, Nat.add_sub_cancel, Nat.add_zero, Nat.zero_add, lnO, win_t, win_f, h8, h5, hv, rn, g6]
