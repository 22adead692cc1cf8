/-! a button's sum: the reference -/
def cx (x : Int) : Int := if x = -1 then 1000 else if x = -2 then 1001 else if x = -3 then 3000 else if x = -4 then 3001 else if x = -5 then 3002 else if x = -6 then 3003 else x
def CDE10 (m : Mem) (out : List Int) : Prop := m.1 27 98 = q32 out.length ∧ ∀ i, i < out.length → m.1 27 (99 + i) = q32 (cx (out.getD i 0))
def FLT10 (m : Mem) (k p : Nat) : Prop := m.1 23 11 = q32 (k : Nat) ∧ 1 ≤ k ∧ k ≤ 4 ∧ m.1 23 12 = q32 (p : Nat)
/-- what reading writes: the token, a fault, the code -/
def KS10 (m m' : Mem) : Prop := (∀ a k, (a ≠ 23 ∨ (k ≠ 6 ∧ k ≠ 7 ∧ k ≠ 9 ∧ k ≠ 10 ∧ k ≠ 11 ∧ k ≠ 12)) → (a ≠ 27 ∨ k < 98) → m'.1 a k = m.1 a k) ∧ m'.2 = m.2
theorem KS10.rf (m : Mem) : KS10 m m := ⟨fun _ _ _ _ => rfl, rfl⟩
theorem KS10.tr {m m1 m2 : Mem} (h : KS10 m m1) (h2 : KS10 m1 m2) : KS10 m m2 := ⟨fun a k p q => (h2.1 a k p q).trans (h.1 a k p q), h2.2.trans h.2⟩
theorem KX.ks {m m' : Mem} (h : KX m m') : KS10 m m' := ⟨fun a k p _ => h.1 a k (by omega), h.2⟩
theorem TXR.ks {s : List Sh} {m m' : Mem} {N : Nat} {T : Nat → Int} (h : TXR s m N T) (e : KS10 m m') : TXR s m' N T := h.k (by rw [e.2]) (e.1 _ _ (by omega) (by omega)) (fun k => e.1 _ _ (by omega) (by omega))
abbrev vk (k : Nat) : Prop := k ≤ 11 ∨ (40 ≤ k ∧ k ≤ 43) ∨ k = 45 ∨ k = 47 ∨ k = 58 ∨ k = 59
theorem kdT_v {T : Nat → Int} {N p : Nat} : ∃ k : Nat, kdT T N p = (k : Nat) ∧ vk k ∧ k < 60 := by
  have wb := wkT_b T p (endT T N p - p)
  have : (0 ≤ kdT T N p ∧ kdT T N p ≤ 11) ∨ isSg (kdT T N p) := by
    unfold kdT
    split
    · omega
    · split
      · split <;> omega
      · split
        · omega
        · split
          · next c => exact Or.inr c
          · omega
  rcases this with h | h
  · obtain ⟨k, hk⟩ := Int.eq_ofNat_of_zero_le h.1
    exact ⟨k, hk, by unfold vk; omega, by omega⟩
  · obtain ⟨k, hk⟩ := Int.eq_ofNat_of_zero_le (show 0 ≤ kdT T N p by omega)
    exact ⟨k, hk, by unfold vk; omega, by omega⟩
def vkB (k : Nat) : Bool := decide (k ≤ 11) || (decide (40 ≤ k) && decide (k ≤ 43)) || decide (k = 45) || decide (k = 47) || decide (k = 58) || decide (k = 59)
theorem vk_B {k : Nat} (h : vk k) : vkB k = true := by
  unfold vkB
  simp only [Bool.or_eq_true, Bool.and_eq_true, decide_eq_true_eq]
  unfold vk at h
  omega
def rkC (a b : Nat) : Bool := !(vkB a && vkB b && decide (rk (a : Int) = rk (b : Int))) || decide (a = b)
theorem rk_inj0 : ∀ a : Nat, a < 60 → ∀ b : Nat, b < 60 → rkC a b = true := by decide +kernel
theorem rk_inj (a : Nat) (ha : a < 60) (b : Nat) (hb : b < 60) (va : vk a) (vb : vk b) (h : rk (a : Int) = rk (b : Int)) : a = b := by
  have := rk_inj0 a ha b hb
  unfold rkC at this
  rw [vk_B va, vk_B vb, decide_eq_true h] at this
  simpa using this
theorem rk_b : ∀ a : Nat, a < 60 → 0 ≤ rk a ∧ rk a ≤ 27 := by decide +kernel
theorem rk_q {T : Nat → Int} {N p : Nat} {c : Nat} (hc : vk c) (h60 : c < 60) : (q32 (rk (kdT T N p)) = q32 (rk c)) ↔ kdT T N p = c := by
  obtain ⟨k, e, v, l⟩ := kdT_v (T := T) (N := N) (p := p)
  rw [e]
  have b1 := rk_b k l
  have b2 := rk_b c h60
  constructor
  · intro h
    by_cases hh : rk (k : Int) = rk (c : Int)
    · rw [rk_inj k l c h60 v hc hh]
    · rw [q32_eq_f (by omega)] at h; exact h.elim
  · intro h
    rw [h]
theorem is10 {s : List Sh} {m : Mem} {T : Nat → Int} {N p : Nat} (h0 : m.1 23 11 = q32 0) (hs : RST m T N p) {c : Nat} (hc : vk c) (h60 : c < 60) : n_X10_is s m 23 (q32 (rk c)) = some (if kdT T N p = c then q32 1 else q32 0) := by
  have h9 := hs.2.2.2.1
  unfold n_X10_is nb_X10_is_0
  rw [h0, if_pos (show q32 0 = (0 : Int32) from rfl), h9]
  by_cases e : kdT T N p = c
  · rw [if_pos e, if_pos ((rk_q hc h60).mpr e)]; rfl
  · rw [if_neg e, if_neg (fun h => e ((rk_q hc h60).mp h))]; rfl
theorem eat10 {F : Nat} (hF : 20000 ≤ F) {s : List Sh} {m : Mem} {T : Nat → Int} {N i : Nat} (h : TXR s m N T) (h0 : m.1 23 11 = q32 0) (hs : RST m T N (tpos T N i)) {c : Nat} (hc : vk c) (h60 : c < 60) (h1 : c ≠ 1) : (kdT T N (tpos T N i) = c → ∃ m', n_X10_eats F s m 23 (q32 (rk c)) = some (q32 1, m') ∧ KX m m' ∧ RST m' T N (tpos T N (i + 1))) ∧ (kdT T N (tpos T N i) ≠ c → n_X10_eats F s m 23 (q32 (rk c)) = some (q32 0, m)) := by
  have is := is10 (s := s) h0 hs hc h60
  refine ⟨fun e => ?_, fun e => ?_⟩
  · have hp : tpos T N i < N := by
      rcases Nat.lt_or_ge (tpos T N i) N with h' | h'
      · exact h'
      · rw [kdT_end h'] at e; omega
    obtain ⟨m', a1, a2, a3⟩ := step10 hF h hs hp
    refine ⟨m', ?_, a2, a3⟩
    rw [if_pos e] at is
    unfold n_X10_eats nb_X10_eats_0
    rw [is, Option.bind_some, if_neg (by decide), a1, bind2_s]
    rfl
  · rw [if_neg e] at is
    unfold n_X10_eats nb_X10_eats_0
    rw [is, Option.bind_some, if_pos (show q32 0 = (0 : Int32) from rfl)]
    rfl
theorem fai10 {s : List Sh} {m : Mem} {T : Nat → Int} {N i : Nat} (h0 : m.1 23 11 = q32 0) (hs : RST m T N (tpos T N i)) {k : Nat} (hk : 1 ≤ k ∧ k ≤ 4) : ∃ m', n_X10_fails s m 23 (q32 (k : Nat)) = some ((), m') ∧ KS10 m m' ∧ FLT10 m' (if kdT T N (tpos T N i) = 0 then 1 else k) (tpos T N i) := by
  have h9 := hs.2.2.2.1
  have h6 := hs.1
  refine ⟨wI (wI m 23 11 (q32 ((if kdT T N (tpos T N i) = 0 then 1 else k : Nat) : Int))) 23 12 (q32 (tpos T N i : Nat)), ?_, ⟨fun a j p1 p2 => by rw [wI_n (by omega), wI_n (by omega)], rfl⟩, by rw [wI_n (by omega), wI_s], by split <;> omega, by split <;> omega, wI_s ..⟩
  unfold n_X10_fails nb_X10_fails_0 nb_X10_fails_23
  rw [h0, if_pos (show q32 0 = (0 : Int32) from rfl), h9]
  have rq := rk_q (T := T) (N := N) (p := tpos T N i) (c := 0) (by decide) (by decide)
  by_cases e : kdT T N (tpos T N i) = 0
  · rw [if_pos (show q32 (rk (kdT T N (tpos T N i))) = (18 : Int32) from rq.mpr e), if_pos e]
    simp (disch := omega) only [Option.bind_some, bindv, bindv0, bind2_s, bind3_s, ↓reduceIte, Bool.false_eq_true, rZM_0, rZM_1, rZP_0, rZP_1, ptZ_0, ptZ_1, c32i, c64i, ncI, Int.natCast_add, Int.natCast_mul, q32_neg, q64_neg, q32_add, q32_sub, q32_mul, q64_add, q64_sub, q64_mul, q32_64i, q64_32, q32_lt_t, q32_lt_f, q32_le_t, q32_le_f, q32_eq_t, q32_eq_f, q64_lt_t, q64_lt_f, q64_le_t, q64_le_f, q64_eq_t, q64_eq_f, rdI_i, rdL_i, rdR_i, rdN_i, stI_i, stL_i, stR_i, wI_s, wI_n, wL_s, wL_n, wI_2, wI_3, wL_1, wL_3, wR_1, wR_2, Int.toNat_natCast, tnO, tn_add, tn_sub, tn_mul, Nat.add_sub_cancel, Nat.add_zero, Nat.zero_add, lnO, win_t, win_f, h6]
    first | done | rfl
  · rw [if_neg (show ¬ q32 (rk (kdT T N (tpos T N i))) = (18 : Int32) from fun h => e (rq.mp h)), if_neg e]
    simp (disch := omega) only [Option.bind_some, bindv, bindv0, bind2_s, bind3_s, ↓reduceIte, Bool.false_eq_true, rZM_0, rZM_1, rZP_0, rZP_1, ptZ_0, ptZ_1, c32i, c64i, ncI, Int.natCast_add, Int.natCast_mul, q32_neg, q64_neg, q32_add, q32_sub, q32_mul, q64_add, q64_sub, q64_mul, q32_64i, q64_32, q32_lt_t, q32_lt_f, q32_le_t, q32_le_f, q32_eq_t, q32_eq_f, q64_lt_t, q64_lt_f, q64_le_t, q64_le_f, q64_eq_t, q64_eq_f, rdI_i, rdL_i, rdR_i, rdN_i, stI_i, stL_i, stR_i, wI_s, wI_n, wL_s, wL_n, wI_2, wI_3, wL_1, wL_3, wR_1, wR_2, Int.toNat_natCast, tnO, tn_add, tn_sub, tn_mul, Nat.add_sub_cancel, Nat.add_zero, Nat.zero_add, lnO, win_t, win_f, h6]
/-- where a fault is already, nothing more is done -/
theorem flt_ne {m : Mem} {k p : Nat} (h : FLT10 m k p) : ¬ m.1 23 11 = 0 := by
  rw [h.1, show (0 : Int32) = q32 0 from rfl, q32_eq_f (by have := h.2.1; have := h.2.2.1; omega)]
  exact fun h => h
theorem is10f {s : List Sh} {m : Mem} {k p : Nat} (h : FLT10 m k p) (c : Int32) : n_X10_is s m 23 c = some 0 := by
  unfold n_X10_is nb_X10_is_0
  rw [if_neg (flt_ne h)]
  rfl
theorem eat10f {F : Nat} {s : List Sh} {m : Mem} {k p : Nat} (h : FLT10 m k p) (c : Int32) : n_X10_eats F s m 23 c = some (0, m) := by
  unfold n_X10_eats nb_X10_eats_0
  rw [is10f h, Option.bind_some, if_pos rfl]
  rfl
theorem fai10f {s : List Sh} {m : Mem} {k p : Nat} (h : FLT10 m k p) (c : Int32) : n_X10_fails s m 23 c = some ((), m) := by
  unfold n_X10_fails nb_X10_fails_0
  rw [if_neg (flt_ne h)]
theorem tel10f {s : List Sh} {m : Mem} {k p : Nat} (h : FLT10 m k p) (c : Int32) : n_X10_tellsCode s m 23 c = some ((), m) := by
  unfold n_X10_tellsCode nb_X10_tellsCode_0
  rw [if_neg (flt_ne h)]
theorem tel10 {s : List Sh} (hp : ∃ t, s = sB ++ t) {m : Mem} (hr : RF m) (h0 : m.1 23 11 = q32 0) {out : List Int} (hc : CDE10 m out) (hl : out.length < 900) {x : Int} {y : Int32} (hy : y = q32 (cx x)) : ∃ m', n_X10_tellsCode s m 23 y = some ((), m') ∧ KS10 m m' ∧ CDE10 m' (out ++ [x]) ∧ ∀ k, m'.1 23 k = m.1 23 k := by
  have l27 := ln27 hp
  have r4 := rf23_4 hr
  obtain ⟨c1, c2⟩ := hc
  subst hy
  refine ⟨wI (wI m 27 (99 + out.length) (q32 (cx x))) 27 98 (q32 (out.length + 1)), ?_, ⟨fun a k p1 p2 => by rw [wI_n (by omega), wI_n (by omega)], rfl⟩, ⟨?_, fun i hi => ?_⟩, fun k => by rw [wI_n (by omega), wI_n (by omega)]⟩
  · unfold n_X10_tellsCode nb_X10_tellsCode_0
    simp (disch := omega) only [Option.bind_some, bindv, bindv0, bind2_s, bind3_s, ↓reduceIte, Bool.false_eq_true, rZM_0, rZM_1, rZP_0, rZP_1, ptZ_0, ptZ_1, c32i, c64i, ncI, Int.natCast_add, Int.natCast_mul, q32_neg, q64_neg, q32_add, q32_sub, q32_mul, q64_add, q64_sub, q64_mul, q32_64i, q64_32, q32_lt_t, q32_lt_f, q32_le_t, q32_le_f, q32_eq_t, q32_eq_f, q64_lt_t, q64_lt_f, q64_le_t, q64_le_f, q64_eq_t, q64_eq_f, rdI_i, rdL_i, rdR_i, rdN_i, stI_i, stL_i, stR_i, wI_s, wI_n, wL_s, wL_n, wI_2, wI_3, wL_1, wL_3, wR_1, wR_2, Int.toNat_natCast, tnO, tn_add, tn_sub, tn_mul, Nat.add_sub_cancel, Nat.add_zero, Nat.zero_add, lnO, win_t, win_f, h0, r4, c1]
  · rw [wI_s, List.length_append, List.length_singleton, Int.natCast_add]; rfl
  · rw [List.length_append, List.length_singleton] at hi
    rw [wI_n (by omega), List.getD_eq_getElem?_getD]
    by_cases c : i = out.length
    · rw [c, wI_s, List.getElem?_append_right (Nat.le_refl _), Nat.sub_self]; rfl
    · rw [wI_n (by omega), c2 i (by omega), List.getD_eq_getElem?_getD, List.getElem?_append_left (by omega)]
theorem RST.k {m m' : Mem} {T : Nat → Int} {N p : Nat} (h : RST m T N p) (e : ∀ k, m'.1 23 k = m.1 23 k) : RST m' T N p := by
  unfold RST at h ⊢
  rw [e 6, e 7, e 9, e 10]
  exact h
