/-! PURE: addresses; trays that are written -/
theorem q64_rem_n {a b : Int} (h : a.natAbs < 9223372036854775808 ∧ b.natAbs < 9223372036854775808) : remL (q64 a) (q64 b) = q64 (a.tmod b) := q64_remU (b63n h.1) (b63n h.2)
theorem tdn (p q : Nat) : (p : Int).tdiv (q : Int) = ((p / q : Nat) : Int) := rfl
theorem tmn (p q : Nat) : (p : Int).tmod (q : Int) = ((p % q : Nat) : Int) := rfl
def CF : Nat → Nat → Nat → List Nat
  | 0, _, _ => []
  | f + 1, p, q => if q = 0 then [] else (p / q) :: CF f q (p % q)
theorem CF_0 (f p : Nat) : CF f p 0 = [] := by cases f <;> rfl
theorem CF_s {f p q : Nat} (h : q ≠ 0) : CF (f + 1) p q = (p / q) :: CF f q (p % q) := if_neg h
theorem CF_len : ∀ (k f p q : Nat), q < 2 ^ k → (CF f p q).length ≤ 2 * k := by
  intro k
  induction k with
  | zero =>
    intro f p q h
    have : q = 0 := by simp at h; exact h
    subst this
    rw [CF_0]; simp
  | succ k ih =>
    intro f p q h
    cases f with
    | zero => simp [CF]
    | succ f =>
      by_cases h0 : q = 0
      · subst h0; rw [CF_0]; simp
      · rw [CF_s h0, List.length_cons]
        cases f with
        | zero => simp [CF]; omega
        | succ f =>
          by_cases h1 : p % q = 0
          · rw [h1, CF_0]; simp; omega
          · rw [CF_s h1, List.length_cons]
            have hh : 2 * (q % (p % q)) < q := eu_half (by omega) (by omega)
            have := ih f (p % q) (q % (p % q)) (by rw [Nat.pow_succ] at h; omega)
            omega
theorem CF_le : ∀ (f p q B : Nat), p ≤ B → q ≤ B → ∀ k, k < (CF f p q).length → (CF f p q).getD k 0 ≤ B := by
  intro f
  induction f with
  | zero => intro p q B _ _ k hk; simp [CF] at hk
  | succ f ih =>
    intro p q B hp hq k hk
    by_cases h0 : q = 0
    · subst h0; rw [CF_0] at hk; simp at hk
    · rw [CF_s h0] at hk ⊢
      cases k with
      | zero => show p / q ≤ B; exact Nat.le_trans (Nat.div_le_self _ _) hp
      | succ k =>
        show (CF f q (p % q)).getD k 0 ≤ B
        refine ih q (p % q) B hq (by have := Nat.mod_lt p (show 0 < q by omega); omega) k ?_
        simpa using hk
theorem termsL {F : Nat} {s : List Sh} (hp : ∃ t, s = sB ++ t) : ∀ (f fuel : Nat) (m : Mem) (p q i : Nat), RF m → q < f → p < 4294967296 → q < 4294967296 → (CF f p q).length < fuel → i + (CF f p q).length ≤ 40 → ∃ m', nl_X9_layTerms_12 F s fuel m 0 (q64 p) (q64 q) (q32 i) (q32 i) = some (q32 (i + (CF f p q).length : Nat), m') ∧ m'.1 = m.1 ∧ m'.2.2 = m.2.2 ∧ (∀ a k, a ≠ 21 ∨ k < i → m'.2.1 a k = m.2.1 a k) ∧ ∀ k, k < (CF f p q).length → m'.2.1 21 (i + k) = q64 ((CF f p q).getD k 0 : Nat) := by
  have l21 := ln21 hp
  intro f
  induction f with
  | zero => intro fuel m p q i hr hq; omega
  | succ f ih =>
    intro fuel m p q i hr hq hp2 hq2 hfu hi
    obtain ⟨fuel, rfl⟩ : ∃ f, fuel = f + 1 := ⟨fuel - 1, by omega⟩
    have r14 := rf0_14 hr
    show ∃ m', nb_X9_layTerms_12 F s (nl_X9_layTerms_12 F s fuel) m 0 (q64 p) (q64 q) (q32 i) (q32 i) = _ ∧ _
    unfold nb_X9_layTerms_12
    by_cases h0 : q = 0
    · subst h0
      rw [CF_0] at *
      refine ⟨m, ?_, rfl, rfl, fun _ _ _ => rfl, fun k hk => by simp at hk⟩
      by_cases c : i = 40
      · subst c
        simp (disch := omega) only [Option.bind_some, bindv, bindv0, bind2_s, bind3_s, ↓reduceIte, Bool.false_eq_true, rZM_0, rZM_1, rZP_0, rZP_1, ptZ_0, ptZ_1, c32i, c64i, ncI, Int.natCast_add, Int.natCast_mul, q32_neg, q64_neg, q32_add, q32_sub, q32_mul, q64_add, q64_sub, q64_mul, q32_64i, q64_32, q32_lt_t, q32_lt_f, q32_le_t, q32_le_f, q32_eq_t, q32_eq_f, q64_lt_t, q64_lt_f, q64_le_t, q64_le_f, q64_eq_t, q64_eq_f, rdI_i, rdL_i, rdR_i, rdN_i, stI_i, stL_i, stR_i, wI_s, wI_n, wL_s, wL_n, wI_2, wI_3, wL_1, wL_3, wR_1, wR_2, Int.toNat_natCast, tnO, tn_add, tn_sub, tn_mul, Nat.add_sub_cancel, Nat.add_zero, Nat.zero_add, lnO, win_t, win_f, r14, l21, List.length_nil]
      · have : i < 40 := by simp at hi; omega
        simp (disch := omega) only [Option.bind_some, bindv, bindv0, bind2_s, bind3_s, ↓reduceIte, Bool.false_eq_true, rZM_0, rZM_1, rZP_0, rZP_1, ptZ_0, ptZ_1, c32i, c64i, ncI, Int.natCast_add, Int.natCast_mul, q32_neg, q64_neg, q32_add, q32_sub, q32_mul, q64_add, q64_sub, q64_mul, q32_64i, q64_32, q32_lt_t, q32_lt_f, q32_le_t, q32_le_f, q32_eq_t, q32_eq_f, q64_lt_t, q64_lt_f, q64_le_t, q64_le_f, q64_eq_t, q64_eq_f, rdI_i, rdL_i, rdR_i, rdN_i, stI_i, stL_i, stR_i, wI_s, wI_n, wL_s, wL_n, wI_2, wI_3, wL_1, wL_3, wR_1, wR_2, Int.toNat_natCast, tnO, tn_add, tn_sub, tn_mul, Nat.add_sub_cancel, Nat.add_zero, Nat.zero_add, lnO, win_t, win_f, r14, l21, List.length_nil]
    · rw [CF_s h0] at hfu hi ⊢
      rw [List.length_cons] at hfu hi ⊢
      have hlt := Nat.mod_lt p (show 0 < q by omega)
      obtain ⟨m', q1, q2, q3, q4, q5⟩ := ih fuel (wL m 21 i (q64 (p / q : Nat))) q (p % q) (i + 1) (hr.same rfl) (by omega) hq2 (by omega) (by omega) (by omega)
      refine ⟨m', ?_, q2, q3, fun a k hk => ?_, fun k hk => ?_⟩
      · rw [show i + 1 + (CF f q (p % q)).length = i + ((CF f q (p % q)).length + 1) by omega] at q1
        rw [Int.natCast_add i 1] at q1
        simp (disch := omega) only [Option.bind_some, bindv, bindv0, bind2_s, bind3_s, ↓reduceIte, Bool.false_eq_true, rZM_0, rZM_1, rZP_0, rZP_1, ptZ_0, ptZ_1, c32i, c64i, ncI, Int.natCast_add, Int.natCast_mul, q32_neg, q64_neg, q32_add, q32_sub, q32_mul, q64_add, q64_sub, q64_mul, q32_64i, q64_32, q32_lt_t, q32_lt_f, q32_le_t, q32_le_f, q32_eq_t, q32_eq_f, q64_lt_t, q64_lt_f, q64_le_t, q64_le_f, q64_eq_t, q64_eq_f, rdI_i, rdL_i, rdR_i, rdN_i, stI_i, stL_i, stR_i, wI_s, wI_n, wL_s, wL_n, wI_2, wI_3, wL_1, wL_3, wR_1, wR_2, Int.toNat_natCast, tnO, tn_add, tn_sub, tn_mul, Nat.add_sub_cancel, Nat.add_zero, Nat.zero_add, lnO, win_t, win_f, r14, l21, q64_div_n, q64_rem_n, tdn, tmn]
        exact q1
      · rw [q4 a k (by omega), wL_n (by omega)]
      · cases k with
        | zero =>
          rw [q4 21 (i + 0) (by omega)]
          simp (disch := omega) only [Option.bind_some, bindv, bindv0, bind2_s, bind3_s, ↓reduceIte, Bool.false_eq_true, rZM_0, rZM_1, rZP_0, rZP_1, ptZ_0, ptZ_1, c32i, c64i, ncI, Int.natCast_add, Int.natCast_mul, q32_neg, q64_neg, q32_add, q32_sub, q32_mul, q64_add, q64_sub, q64_mul, q32_64i, q64_32, q32_lt_t, q32_lt_f, q32_le_t, q32_le_f, q32_eq_t, q32_eq_f, q64_lt_t, q64_lt_f, q64_le_t, q64_le_f, q64_eq_t, q64_eq_f, rdI_i, rdL_i, rdR_i, rdN_i, stI_i, stL_i, stR_i, wI_s, wI_n, wL_s, wL_n, wI_2, wI_3, wL_1, wL_3, wR_1, wR_2, Int.toNat_natCast, tnO, tn_add, tn_sub, tn_mul, Nat.add_sub_cancel, Nat.add_zero, Nat.zero_add, lnO, win_t, win_f]
          rfl
        | succ k =>
          have := q5 k (by omega)
          rw [show i + 1 + k = i + (k + 1) by omega] at this
          exact this
theorem addrL {F : Nat} {s : List Sh} (hp : ∃ t, s = sB ++ t) : ∀ (f fuel : Nat) (m : Mem) (p q i : Nat), RF m → q < f → p < 4294967296 → q < 4294967296 → (CF f p q).length < fuel → i + (CF f p q).length ≤ 40 → ∃ m', nl_X10_laysAddress_9 F s fuel m 23 (q32 i) (q64 p) (q64 q) = some (q32 (i + (CF f p q).length : Nat), m') ∧ m'.2 = m.2 ∧ (∀ a k, a ≠ 42 ∨ k < i → m'.1 a k = m.1 a k) ∧ ∀ k, k < (CF f p q).length → m'.1 42 (i + k) = q32 ((CF f p q).getD k 0 : Nat) := by
  have l42 := ln42 hp
  intro f
  induction f with
  | zero => intro fuel m p q i hr hq; omega
  | succ f ih =>
    intro fuel m p q i hr hq hp2 hq2 hfu hi
    obtain ⟨fuel, rfl⟩ : ∃ f, fuel = f + 1 := ⟨fuel - 1, by omega⟩
    have r41 := rf23_41 hr
    show ∃ m', nb_X10_laysAddress_9 F s (nl_X10_laysAddress_9 F s fuel) m 23 (q32 i) (q64 p) (q64 q) = _ ∧ _
    unfold nb_X10_laysAddress_9
    by_cases h0 : q = 0
    · subst h0
      rw [CF_0] at *
      refine ⟨m, ?_, rfl, fun _ _ _ => rfl, fun k hk => by simp at hk⟩
      simp (disch := omega) only [Option.bind_some, bindv, bindv0, bind2_s, bind3_s, ↓reduceIte, Bool.false_eq_true, rZM_0, rZM_1, rZP_0, rZP_1, ptZ_0, ptZ_1, c32i, c64i, ncI, Int.natCast_add, Int.natCast_mul, q32_neg, q64_neg, q32_add, q32_sub, q32_mul, q64_add, q64_sub, q64_mul, q32_64i, q64_32, q32_lt_t, q32_lt_f, q32_le_t, q32_le_f, q32_eq_t, q32_eq_f, q64_lt_t, q64_lt_f, q64_le_t, q64_le_f, q64_eq_t, q64_eq_f, rdI_i, rdL_i, rdR_i, rdN_i, stI_i, stL_i, stR_i, wI_s, wI_n, wL_s, wL_n, wI_2, wI_3, wL_1, wL_3, wR_1, wR_2, Int.toNat_natCast, tnO, tn_add, tn_sub, tn_mul, Nat.add_sub_cancel, Nat.add_zero, Nat.zero_add, lnO, win_t, win_f, r41, l42, List.length_nil]
    · rw [CF_s h0] at hfu hi ⊢
      rw [List.length_cons] at hfu hi ⊢
      have hlt := Nat.mod_lt p (show 0 < q by omega)
      obtain ⟨m', q1, q2, q4, q5⟩ := ih fuel (wI m 42 i (q32 (p / q : Nat))) q (p % q) (i + 1) (hr.same rfl) (by omega) hq2 (by omega) (by omega) (by omega)
      refine ⟨m', ?_, q2, fun a k hk => ?_, fun k hk => ?_⟩
      · rw [show i + 1 + (CF f q (p % q)).length = i + ((CF f q (p % q)).length + 1) by omega] at q1
        rw [Int.natCast_add i 1] at q1
        simp (disch := omega) only [Option.bind_some, bindv, bindv0, bind2_s, bind3_s, ↓reduceIte, Bool.false_eq_true, rZM_0, rZM_1, rZP_0, rZP_1, ptZ_0, ptZ_1, c32i, c64i, ncI, Int.natCast_add, Int.natCast_mul, q32_neg, q64_neg, q32_add, q32_sub, q32_mul, q64_add, q64_sub, q64_mul, q32_64i, q64_32, q32_lt_t, q32_lt_f, q32_le_t, q32_le_f, q32_eq_t, q32_eq_f, q64_lt_t, q64_lt_f, q64_le_t, q64_le_f, q64_eq_t, q64_eq_f, rdI_i, rdL_i, rdR_i, rdN_i, stI_i, stL_i, stR_i, wI_s, wI_n, wL_s, wL_n, wI_2, wI_3, wL_1, wL_3, wR_1, wR_2, Int.toNat_natCast, tnO, tn_add, tn_sub, tn_mul, Nat.add_sub_cancel, Nat.add_zero, Nat.zero_add, lnO, win_t, win_f, r41, l42, q64_div_n, q64_rem_n, tdn, tmn]
        exact q1
      · rw [q4 a k (by omega), wI_n (by omega)]
      · cases k with
        | zero =>
          rw [q4 42 (i + 0) (by omega)]
          simp (disch := omega) only [Option.bind_some, bindv, bindv0, bind2_s, bind3_s, ↓reduceIte, Bool.false_eq_true, rZM_0, rZM_1, rZP_0, rZP_1, ptZ_0, ptZ_1, c32i, c64i, ncI, Int.natCast_add, Int.natCast_mul, q32_neg, q64_neg, q32_add, q32_sub, q32_mul, q64_add, q64_sub, q64_mul, q32_64i, q64_32, q32_lt_t, q32_lt_f, q32_le_t, q32_le_f, q32_eq_t, q32_eq_f, q64_lt_t, q64_lt_f, q64_le_t, q64_le_f, q64_eq_t, q64_eq_f, rdI_i, rdL_i, rdR_i, rdN_i, stI_i, stL_i, stR_i, wI_s, wI_n, wL_s, wL_n, wI_2, wI_3, wL_1, wL_3, wR_1, wR_2, Int.toNat_natCast, tnO, tn_add, tn_sub, tn_mul, Nat.add_sub_cancel, Nat.add_zero, Nat.zero_add, lnO, win_t, win_f]
          rfl
        | succ k =>
          have := q5 k (by omega)
          rw [show i + 1 + k = i + (k + 1) by omega] at this
          exact this
/-- the address of a floor -/
def ADR (f : FR) : List Nat := CF 2000000 f.1.toNat f.2.toNat
theorem ADR_len {f : FR} (h : f.2 ≤ 1000000) : (ADR f).length ≤ 40 := CF_len 20 _ _ _ (by omega)
theorem terms9 {F : Nat} (hF : 1000 ≤ F) {s : List Sh} {m : Mem} (hp : ∃ t, s = sB ++ t) (hr : RF m) {f : FR} {tp : Int} (hf : FLR tp f.1 f.2) : ∃ m', n_X9_layTerms F s m 0 (q64 f.1) (q64 f.2) = some (q32 ((ADR f).length : Nat), m') ∧ m'.1 = m.1 ∧ m'.2.2 = m.2.2 ∧ (∀ a k, a ≠ 21 → m'.2.1 a k = m.2.1 a k) ∧ ∀ k, k < (ADR f).length → m'.2.1 21 k = q64 ((ADR f).getD k 0 : Nat) := by
  unfold FLR at hf
  have hlen := ADR_len (f := f) (by omega)
  obtain ⟨u, l⟩ := f
  obtain ⟨u, rfl⟩ := Int.eq_ofNat_of_zero_le hf.1
  obtain ⟨l, rfl⟩ := Int.eq_ofNat_of_zero_le (show 0 ≤ l by omega)
  unfold ADR at hlen ⊢
  simp only [Int.toNat_natCast] at hlen ⊢ hf
  obtain ⟨m', q1, q2, q3, q4, q5⟩ := termsL (F := F) hp 2000000 F m u l 0 hr (by omega) (by omega) (by omega) (by omega) (by omega)
  refine ⟨m', ?_, q2, q3, fun a k h => q4 a k (Or.inl h), fun k hk => ?_⟩
  · rw [Nat.zero_add] at q1
    exact q1
  · have := q5 k hk
    rw [Nat.zero_add] at this
    exact this
theorem addr10 {F : Nat} (hF : 1000 ≤ F) {s : List Sh} {m : Mem} (hp : ∃ t, s = sB ++ t) (hr : RF m) {f : FR} {tp : Int} (hf : FLR tp f.1 f.2) : ∃ m', n_X10_laysAddress F s m 23 (q64 f.1) (q64 f.2) = some (q32 ((ADR f).length : Nat), m') ∧ m'.2 = m.2 ∧ (∀ a k, a ≠ 42 → m'.1 a k = m.1 a k) ∧ ∀ k, k < (ADR f).length → m'.1 42 k = q32 ((ADR f).getD k 0 : Nat) := by
  unfold FLR at hf
  have hlen := ADR_len (f := f) (by omega)
  obtain ⟨u, l⟩ := f
  obtain ⟨u, rfl⟩ := Int.eq_ofNat_of_zero_le hf.1
  obtain ⟨l, rfl⟩ := Int.eq_ofNat_of_zero_le (show 0 ≤ l by omega)
  unfold ADR at hlen ⊢
  simp only [Int.toNat_natCast] at hlen ⊢ hf
  obtain ⟨m', q1, q2, q4, q5⟩ := addrL (F := F) hp 2000000 F m u l 0 hr (by omega) (by omega) (by omega) (by omega) (by omega)
  refine ⟨m', ?_, q2, fun a k h => q4 a k (Or.inl h), fun k hk => ?_⟩
  · rw [Nat.zero_add] at q1
    exact q1
  · have := q5 k hk
    rw [Nat.zero_add] at this
    exact this
theorem ADR_le {f : FR} {tp : Int} (hf : FLR tp f.1 f.2) : ∀ k, k < (ADR f).length → (ADR f).getD k 0 ≤ 1000000 := by
  unfold FLR at hf
  exact CF_le _ _ _ 1000000 (by omega) (by omega)
theorem SC.of {m m' : Mem} (h1 : ∀ a k, (16 ≤ a ∧ a ≤ 22) ∨ (27 ≤ a ∧ a ≤ 49) ∨ (a = 23 ∧ k ≠ 5 ∧ k ≠ 13 ∧ k ≠ 14) ∨ m'.1 a k = m.1 a k) (h2 : ∀ a k, (16 ≤ a ∧ a ≤ 23) ∨ (27 ≤ a ∧ a ≤ 49) ∨ m'.2.1 a k = m.2.1 a k) (h3 : m'.2.2 = m.2.2) : SC m m' := by
  refine ⟨fun a ha hb => funext fun k => ?_, ⟨?_, ?_, ?_⟩, fun a ha hb => funext fun k => ?_, h3⟩
  · unfold Fx at ha
    rcases h1 a k with h | h | h | h
    · omega
    · omega
    · omega
    · exact h
  · rcases h1 23 5 with h | h | h | h
    · omega
    · omega
    · omega
    · exact h
  · rcases h1 23 13 with h | h | h | h
    · omega
    · omega
    · omega
    · exact h
  · rcases h1 23 14 with h | h | h | h
    · omega
    · omega
    · omega
    · exact h
  · unfold Fx at ha
    rcases h2 a k with h | h | h
    · omega
    · omega
    · exact h
theorem opk_address {F : Nat} (hF : 1000 ≤ F) {s : List Sh} {m : Mem} (h : INV s m) (w1 w2 w3 : Int32) : OPK s m (n_X9_address F s m 0 w1 w2 w3) (fun m1 => n_X10_address F s m1 23 w1 w2 w3) := by
  have h0 := h
  obtain ⟨hg, ow, nw, hst⟩ := h
  have hl := hst.1
  have hp := hl.hp
  have hr := hl.rf
  have hn := hl.hn
  have rn := hl.nw
  have r1 := rf23_1 hr
  have l24 := ln24 hp
  obtain ⟨u, hu, rfl⟩ := q32_of w1
  obtain ⟨l, hll, rfl⟩ := q32_of w2
  obtain ⟨k, hk, rfl⟩ := q32_of w3
  have r12 := rf0_12 hr
  have r14 := rf0_14 hr
  have l21 := ln21 hp
  have l42 := ln42 hp
  have fin : ∀ r m1 m2, n_X9_address F s m 0 (q32 u) (q32 l) (q32 k) = some (r, m1) → n_X10_address F s m1 23 (q32 u) (q32 l) (q32 k) = some (r, m2) → SC m m2 → OPK s m (n_X9_address F s m 0 (q32 u) (q32 l) (q32 k)) (fun m1 => n_X10_address F s m1 23 (q32 u) (q32 l) (q32 k)) := fun r m1 m2 e1 e2 sc =>
    opk_fin h0 e1 e2 (un_X10_address (un_X9_address hg (okB hp).1 e1).2 (okB hp).2 e2).2 sc
  rcases asks_cases (F := F) (by omega) hst hu hll with ⟨m1, k1, k2, k3⟩ | ⟨f, k1, k2, k3⟩
  · obtain ⟨m2, k4, k5⟩ := k3 (wI m1 23 0 (q32 0)) (hr.same k2.r) (by simp (disch := omega) only [Option.bind_some, bindv, bindv0, bind2_s, bind3_s, ↓reduceIte, Bool.false_eq_true, rZM_0, rZM_1, rZP_0, rZP_1, ptZ_0, ptZ_1, c32i, c64i, ncI, Int.natCast_add, Int.natCast_mul, q32_neg, q64_neg, q32_add, q32_sub, q32_mul, q64_add, q64_sub, q64_mul, q32_64i, q64_32, q32_lt_t, q32_lt_f, q32_le_t, q32_le_f, q32_eq_t, q32_eq_f, q64_lt_t, q64_lt_f, q64_le_t, q64_le_f, q64_eq_t, q64_eq_f, rdI_i, rdL_i, rdR_i, rdN_i, stI_i, stL_i, stR_i, wI_s, wI_n, wL_s, wL_n, wI_2, wI_3, wL_1, wL_3, wR_1, wR_2, Int.toNat_natCast, tnO, tn_add, tn_sub, tn_mul, Nat.add_sub_cancel, Nat.add_zero, Nat.zero_add, lnO, win_t, win_f]; exact k2.i _ _ (by omega))
    refine fin (q32 (-3)) m1 m2 ?_ ?_ (k2.tr ((SC.k0 m1).tr k5))
    · unfold n_X9_address nb_X9_address_0
      simp (disch := omega) only [Option.bind_some, bindv, bindv0, bind2_s, bind3_s, ↓reduceIte, Bool.false_eq_true, rZM_0, rZM_1, rZP_0, rZP_1, ptZ_0, ptZ_1, c32i, c64i, ncI, Int.natCast_add, Int.natCast_mul, q32_neg, q64_neg, q32_add, q32_sub, q32_mul, q64_add, q64_sub, q64_mul, q32_64i, q64_32, q32_lt_t, q32_lt_f, q32_le_t, q32_le_f, q32_eq_t, q32_eq_f, q64_lt_t, q64_lt_f, q64_le_t, q64_le_f, q64_eq_t, q64_eq_f, rdI_i, rdL_i, rdR_i, rdN_i, stI_i, stL_i, stR_i, wI_s, wI_n, wL_s, wL_n, wI_2, wI_3, wL_1, wL_3, wR_1, wR_2, Int.toNat_natCast, tnO, tn_add, tn_sub, tn_mul, Nat.add_sub_cancel, Nat.add_zero, Nat.zero_add, lnO, win_t, win_f, k1]
    · unfold n_X10_address nb_X10_address_0
      simp (disch := omega) only [Option.bind_some, bindv, bindv0, bind2_s, bind3_s, ↓reduceIte, Bool.false_eq_true, rZM_0, rZM_1, rZP_0, rZP_1, ptZ_0, ptZ_1, c32i, c64i, ncI, Int.natCast_add, Int.natCast_mul, q32_neg, q64_neg, q32_add, q32_sub, q32_mul, q64_add, q64_sub, q64_mul, q32_64i, q64_32, q32_lt_t, q32_lt_f, q32_le_t, q32_le_f, q32_eq_t, q32_eq_f, q64_lt_t, q64_lt_f, q64_le_t, q64_le_f, q64_eq_t, q64_eq_f, rdI_i, rdL_i, rdR_i, rdN_i, stI_i, stL_i, stR_i, wI_s, wI_n, wL_s, wL_n, wI_2, wI_3, wL_1, wL_3, wR_1, wR_2, Int.toNat_natCast, tnO, tn_add, tn_sub, tn_mul, Nat.add_sub_cancel, Nat.add_zero, Nat.zero_add, lnO, win_t, win_f, k4]
  · obtain ⟨m1, p1, p2, p3, p4, p5⟩ := terms9 (m := PT m 19 f) hF hp (hr.same rfl) k1
    have r14' : m1.2.2 0 14 = some 21 := by rw [p3]; exact r14
    have hr1 : RF m1 := hr.same p3
    have k4 := k3 (wI m1 23 0 (q32 0)) (hr1.same rfl) (by simp (disch := omega) only [Option.bind_some, bindv, bindv0, bind2_s, bind3_s, ↓reduceIte, Bool.false_eq_true, rZM_0, rZM_1, rZP_0, rZP_1, ptZ_0, ptZ_1, c32i, c64i, ncI, Int.natCast_add, Int.natCast_mul, q32_neg, q64_neg, q32_add, q32_sub, q32_mul, q64_add, q64_sub, q64_mul, q32_64i, q64_32, q32_lt_t, q32_lt_f, q32_le_t, q32_le_f, q32_eq_t, q32_eq_f, q64_lt_t, q64_lt_f, q64_le_t, q64_le_f, q64_eq_t, q64_eq_f, rdI_i, rdL_i, rdR_i, rdN_i, stI_i, stL_i, stR_i, wI_s, wI_n, wL_s, wL_n, wI_2, wI_3, wL_1, wL_3, wR_1, wR_2, Int.toNat_natCast, tnO, tn_add, tn_sub, tn_mul, Nat.add_sub_cancel, Nat.add_zero, Nat.zero_add, lnO, win_t, win_f]; rw [p2]; rfl)
    obtain ⟨m2, q1, q2, q3, q4⟩ := addr10 (m := PS (wI m1 23 0 (q32 0)) f) hF hp (hr1.same rfl) k1
    have r41 : m2.2.2 23 41 = some 42 := by rw [q2]; exact rf23_41 hr1
    have hlen := ADR_len (f := f) k1.2.2.2.1
    have k2' : n_X9_asksFloor F s m 0 (q32 u) (q32 l) = some (q32 1, PT m 19 f) := k2
    have sc : SC m m2 := by
      refine SC.of (fun a k => ?_) (fun a k => ?_) (by rw [q2]; exact p3)
      · by_cases c : a = 42
        · omega
        · by_cases c2 : a = 23 ∧ k = 0
          · omega
          · rw [q3 a k c, PS_1, wI_n (by omega), p2]; simp [PT_1]
      · by_cases c : a = 21 ∨ a = 23 ∨ a = 19
        · omega
        · rw [q2, PS_n (by omega), wI_2, p4 a k (by omega), PT_n (by omega)]; simp
    by_cases c1 : k = -1
    · refine fin (q32 ((ADR f).length : Nat)) m1 m2 ?_ ?_ sc
      · unfold n_X9_address nb_X9_address_0
        simp (disch := omega) only [Option.bind_some, bindv, bindv0, bind2_s, bind3_s, ↓reduceIte, Bool.false_eq_true, rZM_0, rZM_1, rZP_0, rZP_1, ptZ_0, ptZ_1, c32i, c64i, ncI, Int.natCast_add, Int.natCast_mul, q32_neg, q64_neg, q32_add, q32_sub, q32_mul, q64_add, q64_sub, q64_mul, q32_64i, q64_32, q32_lt_t, q32_lt_f, q32_le_t, q32_le_f, q32_eq_t, q32_eq_f, q64_lt_t, q64_lt_f, q64_le_t, q64_le_f, q64_eq_t, q64_eq_f, rdI_i, rdL_i, rdR_i, rdN_i, stI_i, stL_i, stR_i, wI_s, wI_n, wL_s, wL_n, wI_2, wI_3, wL_1, wL_3, wR_1, wR_2, Int.toNat_natCast, tnO, tn_add, tn_sub, tn_mul, Nat.add_sub_cancel, Nat.add_zero, Nat.zero_add, lnO, win_t, win_f, k2', PT_3, r12, PT_0, PT_l, p1]
      · unfold n_X10_address nb_X10_address_0
        simp (disch := omega) only [Option.bind_some, bindv, bindv0, bind2_s, bind3_s, ↓reduceIte, Bool.false_eq_true, rZM_0, rZM_1, rZP_0, rZP_1, ptZ_0, ptZ_1, c32i, c64i, ncI, Int.natCast_add, Int.natCast_mul, q32_neg, q64_neg, q32_add, q32_sub, q32_mul, q64_add, q64_sub, q64_mul, q32_64i, q64_32, q32_lt_t, q32_lt_f, q32_le_t, q32_le_f, q32_eq_t, q32_eq_f, q64_lt_t, q64_lt_f, q64_le_t, q64_le_f, q64_eq_t, q64_eq_f, rdI_i, rdL_i, rdR_i, rdN_i, stI_i, stL_i, stR_i, wI_s, wI_n, wL_s, wL_n, wI_2, wI_3, wL_1, wL_3, wR_1, wR_2, Int.toNat_natCast, tnO, tn_add, tn_sub, tn_mul, Nat.add_sub_cancel, Nat.add_zero, Nat.zero_add, lnO, win_t, win_f, k4, PS_0, PS_l, q1]
    · by_cases c2 : 0 ≤ k ∧ k < (ADR f).length
      · obtain ⟨j, rfl⟩ := Int.eq_ofNat_of_zero_le c2.1
        have v9 := p5 j (by omega)
        have v10 := q4 j (by omega)
        refine fin (q32 ((ADR f).getD j 0 : Nat)) m1 m2 ?_ ?_ sc
        · unfold n_X9_address nb_X9_address_0
          simp (disch := omega) only [Option.bind_some, bindv, bindv0, bind2_s, bind3_s, ↓reduceIte, Bool.false_eq_true, rZM_0, rZM_1, rZP_0, rZP_1, ptZ_0, ptZ_1, c32i, c64i, ncI, Int.natCast_add, Int.natCast_mul, q32_neg, q64_neg, q32_add, q32_sub, q32_mul, q64_add, q64_sub, q64_mul, q32_64i, q64_32, q32_lt_t, q32_lt_f, q32_le_t, q32_le_f, q32_eq_t, q32_eq_f, q64_lt_t, q64_lt_f, q64_le_t, q64_le_f, q64_eq_t, q64_eq_f, rdI_i, rdL_i, rdR_i, rdN_i, stI_i, stL_i, stR_i, wI_s, wI_n, wL_s, wL_n, wI_2, wI_3, wL_1, wL_3, wR_1, wR_2, Int.toNat_natCast, tnO, tn_add, tn_sub, tn_mul, Nat.add_sub_cancel, Nat.add_zero, Nat.zero_add, lnO, win_t, win_f, k2', PT_3, r12, PT_0, PT_l, p1, r14', v9]
        · unfold n_X10_address nb_X10_address_0
          simp (disch := omega) only [Option.bind_some, bindv, bindv0, bind2_s, bind3_s, ↓reduceIte, Bool.false_eq_true, rZM_0, rZM_1, rZP_0, rZP_1, ptZ_0, ptZ_1, c32i, c64i, ncI, Int.natCast_add, Int.natCast_mul, q32_neg, q64_neg, q32_add, q32_sub, q32_mul, q64_add, q64_sub, q64_mul, q32_64i, q64_32, q32_lt_t, q32_lt_f, q32_le_t, q32_le_f, q32_eq_t, q32_eq_f, q64_lt_t, q64_lt_f, q64_le_t, q64_le_f, q64_eq_t, q64_eq_f, rdI_i, rdL_i, rdR_i, rdN_i, stI_i, stL_i, stR_i, wI_s, wI_n, wL_s, wL_n, wI_2, wI_3, wL_1, wL_3, wR_1, wR_2, Int.toNat_natCast, tnO, tn_add, tn_sub, tn_mul, Nat.add_sub_cancel, Nat.add_zero, Nat.zero_add, lnO, win_t, win_f, k4, PS_0, PS_l, q1, r41, v10]
      · refine fin (q32 (-1)) m1 m2 ?_ ?_ sc
        · unfold n_X9_address nb_X9_address_0
          by_cases c3 : k < 0
          · simp (disch := omega) only [Option.bind_some, bindv, bindv0, bind2_s, bind3_s, ↓reduceIte, Bool.false_eq_true, rZM_0, rZM_1, rZP_0, rZP_1, ptZ_0, ptZ_1, c32i, c64i, ncI, Int.natCast_add, Int.natCast_mul, q32_neg, q64_neg, q32_add, q32_sub, q32_mul, q64_add, q64_sub, q64_mul, q32_64i, q64_32, q32_lt_t, q32_lt_f, q32_le_t, q32_le_f, q32_eq_t, q32_eq_f, q64_lt_t, q64_lt_f, q64_le_t, q64_le_f, q64_eq_t, q64_eq_f, rdI_i, rdL_i, rdR_i, rdN_i, stI_i, stL_i, stR_i, wI_s, wI_n, wL_s, wL_n, wI_2, wI_3, wL_1, wL_3, wR_1, wR_2, Int.toNat_natCast, tnO, tn_add, tn_sub, tn_mul, Nat.add_sub_cancel, Nat.add_zero, Nat.zero_add, lnO, win_t, win_f, k2', PT_3, r12, PT_0, PT_l, p1]
          · simp (disch := omega) only [Option.bind_some, bindv, bindv0, bind2_s, bind3_s, ↓reduceIte, Bool.false_eq_true, rZM_0, rZM_1, rZP_0, rZP_1, ptZ_0, ptZ_1, c32i, c64i, ncI, Int.natCast_add, Int.natCast_mul, q32_neg, q64_neg, q32_add, q32_sub, q32_mul, q64_add, q64_sub, q64_mul, q32_64i, q64_32, q32_lt_t, q32_lt_f, q32_le_t, q32_le_f, q32_eq_t, q32_eq_f, q64_lt_t, q64_lt_f, q64_le_t, q64_le_f, q64_eq_t, q64_eq_f, rdI_i, rdL_i, rdR_i, rdN_i, stI_i, stL_i, stR_i, wI_s, wI_n, wL_s, wL_n, wI_2, wI_3, wL_1, wL_3, wR_1, wR_2, Int.toNat_natCast, tnO, tn_add, tn_sub, tn_mul, Nat.add_sub_cancel, Nat.add_zero, Nat.zero_add, lnO, win_t, win_f, k2', PT_3, r12, PT_0, PT_l, p1]
        · unfold n_X10_address nb_X10_address_0
          simp (disch := omega) only [Option.bind_some, bindv, bindv0, bind2_s, bind3_s, ↓reduceIte, Bool.false_eq_true, rZM_0, rZM_1, rZP_0, rZP_1, ptZ_0, ptZ_1, c32i, c64i, ncI, Int.natCast_add, Int.natCast_mul, q32_neg, q64_neg, q32_add, q32_sub, q32_mul, q64_add, q64_sub, q64_mul, q32_64i, q64_32, q32_lt_t, q32_lt_f, q32_le_t, q32_le_f, q32_eq_t, q32_eq_f, q64_lt_t, q64_lt_f, q64_le_t, q64_le_f, q64_eq_t, q64_eq_f, rdI_i, rdL_i, rdR_i, rdN_i, stI_i, stL_i, stR_i, wI_s, wI_n, wL_s, wL_n, wI_2, wI_3, wL_1, wL_3, wR_1, wR_2, Int.toNat_natCast, tnO, tn_add, tn_sub, tn_mul, Nat.add_sub_cancel, Nat.add_zero, Nat.zero_add, lnO, win_t, win_f, k4, PS_0, PS_l, q1]
/-! a tray that is another one -/
theorem ST.tru {s : List Sh} {m m' : Mem} {ow : Nat → Nat} {nw : Nat} (h : ST s m ow nw) {j t : Nat} (hj : j < 4) (ht : m.2.2 13 j = some t) (eR : m'.2.2 = m.2.2) (e1 : ∀ a k, (16 ≤ a ∧ a ≤ 22) ∨ (27 ≤ a ∧ a ≤ 49) ∨ (a = 23 ∧ k ≠ 5 ∧ k ≠ 13 ∧ k ≠ 14) ∨ a = t ∨ (a = 50 ∧ k = j) ∨ (a = 51 ∧ k = j) ∨ m'.1 a k = m.1 a k) (eL : ∀ a k, (16 ≤ a ∧ a ≤ 23) ∨ (27 ≤ a ∧ a ≤ 49) ∨ a = t + 1 ∨ (a = 52 ∧ 40 * j ≤ k ∧ k < 40 * j + 40) ∨ m'.2.1 a k = m.2.1 a k) (hT : TREL m' j t) : ST s m' ow nw := by
  obtain ⟨hl, hrel, ⟨htp, hus⟩, him, htr⟩ := h
  have hn := hl.2.2.2.1.1
  have hon := hl.2.2.2.2.1
  have hok := hl.2.2.2.1.2.1
  obtain ⟨htb, hto⟩ := hl.2.2.2.2.2.2.2.2.2.2.1 j t hj ht
  have h53 := htb.1
  have owt : ow t = t := by have := hto 0 (by omega); rwa [Nat.add_zero] at this
  have i1 : ∀ a k, (a < 16 ∨ (23 < a ∧ a < 27) ∨ 49 < a) → a ≠ t → a ≠ 50 → a ≠ 51 → m'.1 a k = m.1 a k := fun a k h1 h2 h3 h4 => by
    rcases e1 a k with h | h | h | h | h | h | h
    · omega
    · omega
    · omega
    · omega
    · omega
    · omega
    · exact h
  have iL : ∀ a k, (a < 16 ∨ (23 < a ∧ a < 27) ∨ 49 < a) → a ≠ t + 1 → a ≠ 52 → m'.2.1 a k = m.2.1 a k := fun a k h1 h2 h3 => by
    rcases eL a k with h | h | h | h | h
    · omega
    · omega
    · omega
    · omega
    · exact h
  have hne : ∀ n, (n = 2 ∨ 53 ≤ n) → ok s n 0 → OWN ow n 10 → ∀ i, i < 10 → ∀ k, m'.1 (n + i) k = m.1 (n + i) k := fun n h2 hk hw i hi k => by
    refine i1 _ _ (by omega) ?_ (by omega) (by omega)
    intro e
    have := hw i hi
    rw [e, owt] at this
    exact ok_ne htb.2.1 hk (by omega) (by omega) (by omega) this
  have i23 : ∀ k, k = 5 ∨ k = 13 ∨ k = 14 → m'.1 23 k = m.1 23 k := fun k hk => by
    rcases e1 23 k with h | h | h | h | h | h | h
    · omega
    · omega
    · omega
    · omega
    · omega
    · omega
    · exact h
  have c0 : m'.1 0 = m.1 0 := funext fun k => i1 0 k (by omega) (by omega) (by omega) (by omega)
  have c1 : m'.1 1 = m.1 1 := funext fun k => i1 1 k (by omega) (by omega) (by omega) (by omega)
  have c14 : m'.1 14 = m.1 14 := funext fun k => i1 14 k (by omega) (by omega) (by omega) (by omega)
  have c15 : m'.1 15 = m.1 15 := funext fun k => i1 15 k (by omega) (by omega) (by omega) (by omega)
  have c24 : m'.1 24 = m.1 24 := funext fun k => i1 24 k (by omega) (by omega) (by omega) (by omega)
  have c25 : m'.1 25 = m.1 25 := funext fun k => i1 25 k (by omega) (by omega) (by omega) (by omega)
  have c26 : m'.1 26 = m.1 26 := funext fun k => i1 26 k (by omega) (by omega) (by omega) (by omega)
  refine ⟨hl.same eR, ?_, ⟨?_, ?_⟩, fun i hi => ?_, fun i hi => ?_⟩
  · rw [c24]; exact hrel.same (fun i hi => funext fun k => hne nw hn hok hon i hi k) (fun _ _ => rfl)
  · unfold TPR at htp ⊢
    rw [c0, c1, c26, i23 5 (by omega), i23 13 (by omega), i23 14 (by omega)]
    exact htp
  · unfold US at hus ⊢
    rw [c0, c14, c15, c24]
    exact hus
  · rw [eR, c25, c24]
    rcases him i hi with h | ⟨n, h1, h2, h3⟩
    · exact Or.inl h
    · obtain ⟨hb, hown, -, -⟩ := hl.2.2.2.2.2.2.2.2.1 i n hi h1
      exact Or.inr ⟨n, h1, h2, h3.same (fun i hi => funext fun k => hne n hb.1 hb.2.1 hown i hi k) (fun _ _ => rfl)⟩
  · by_cases ij : i = j
    · subst ij
      exact Or.inr ⟨t, by rw [eR]; exact ht, hT⟩
    · have c50 : m'.1 50 i = m.1 50 i := by
        rcases e1 50 i with h | h | h | h | h | h | h
        · omega
        · omega
        · omega
        · omega
        · omega
        · omega
        · exact h
      have c51 : m'.1 51 i = m.1 51 i := by
        rcases e1 51 i with h | h | h | h | h | h | h
        · omega
        · omega
        · omega
        · omega
        · omega
        · omega
        · exact h
      rw [eR, c50]
      rcases htr i hi with h | ⟨t2, h1, h2⟩
      · exact Or.inl h
      · obtain ⟨hb, hown⟩ := hl.2.2.2.2.2.2.2.2.2.2.1 i t2 hi h1
        have hne2 : t2 ≠ t := fun e => ij (hl.2.2.2.2.2.2.2.2.2.2.2 i j t2 hi hj h1 (by rw [e]; exact ht))
        have := hb.1
        refine Or.inr ⟨t2, h1, ?_⟩
        obtain ⟨so, sz, d1, d2, d3, d4, d5, d6, d7⟩ := h2
        refine ⟨so, sz, d1, d2, ?_, ?_, ?_, ?_, fun k hk => ?_⟩
        · rw [i1 _ _ (by omega) hne2 (by omega) (by omega)]; exact d3
        · rw [i1 _ _ (by omega) hne2 (by omega) (by omega)]; exact d4
        · rw [c50]; exact d5
        · rw [c51]; exact d6
        · have c52 : m'.2.1 52 (40 * i + k) = m.2.1 52 (40 * i + k) := by
            rcases eL 52 (40 * i + k) with h | h | h | h | h
            · omega
            · omega
            · omega
            · omega
            · exact h
          rw [iL _ _ (by omega) (by omega) (by omega), c52]
          exact d7 k hk
def CUT (so : Nat) (v : Int64) : Int64 := if so = 0 then Int32.toInt64 ((Int32.toInt8 (Int64.toInt32 v)).toInt32) else if so = 1 then Int32.toInt64 ((Int32.toInt16 (Int64.toInt32 v)).toInt32) else if so = 2 then Int32.toInt64 (Int64.toInt32 v) else v
theorem cut9 {s : List Sh} {m : Mem} {t so : Nat} (hs : so ≤ 3) (h : m.1 t 0 = q32 so) (v : Int64) : n_X7_cut s m t v = some (CUT so v) := by
  unfold n_X7_cut nb_X7_cut_0 CUT
  rw [h]
  rcases (show so = 0 ∨ so = 1 ∨ so = 2 ∨ so = 3 by omega) with rfl | rfl | rfl | rfl
  · rw [sw_at (by omega) 0 (by omega) rfl]; rfl
  · rw [sw_at (by omega) 1 (by omega) rfl]; rfl
  · rw [sw_at (by omega) 2 (by omega) rfl]; rfl
  · rw [sw_out (by omega) (by simp)]; rfl
theorem cut10 {so : Nat} (hs : so ≤ 3) (v : Int64) : m_X10_cut v (q32 so) = some (CUT so v) := by
  unfold m_X10_cut b_X10_cut_0 CUT
  rcases (show so = 0 ∨ so = 1 ∨ so = 2 ∨ so = 3 by omega) with rfl | rfl | rfl | rfl <;> rfl
theorem lay9 {s : List Sh} {m : Mem} {t so sz : Nat} (hs : so ≤ 3) (h0 : m.1 t 0 = q32 so) (h1 : m.1 t 1 = q32 sz) (hz : sz ≤ 40) (h2 : m.2.2 t 2 = some (t + 1)) (hl : ln s (t + 1) = 40) {k : Nat} (hk : k < sz) (v : Int64) : n_X7_lay s m t (q32 k) v = some (CUT so v, wL m (t + 1) k (CUT so v)) := by
  unfold n_X7_lay nb_X7_lay_0
  simp (disch := omega) only [Option.bind_some, bindv, bindv0, bind2_s, bind3_s, ↓reduceIte, Bool.false_eq_true, rZM_0, rZM_1, rZP_0, rZP_1, ptZ_0, ptZ_1, c32i, c64i, ncI, Int.natCast_add, Int.natCast_mul, q32_neg, q64_neg, q32_add, q32_sub, q32_mul, q64_add, q64_sub, q64_mul, q32_64i, q64_32, q32_lt_t, q32_lt_f, q32_le_t, q32_le_f, q32_eq_t, q32_eq_f, q64_lt_t, q64_lt_f, q64_le_t, q64_le_f, q64_eq_t, q64_eq_f, rdI_i, rdL_i, rdR_i, rdN_i, stI_i, stL_i, stR_i, wI_s, wI_n, wL_s, wL_n, wI_2, wI_3, wL_1, wL_3, wR_1, wR_2, Int.toNat_natCast, tnO, tn_add, tn_sub, tn_mul, Nat.add_sub_cancel, Nat.add_zero, Nat.zero_add, lnO, win_t, win_f, h1, h2, cut9 hs h0]
theorem opk_write {s : List Sh} {m : Mem} (h : INV s m) (w1 w2 : Int32) (v : Int64) : OPK s m (n_X9_write s m 0 w1 w2 v) (fun m1 => n_X10_write s m1 23 w1 w2 v) := by
  have h0 := h
  obtain ⟨hg, ow, nw, hst⟩ := h
  have hl := hst.1
  have hp := hl.hp
  have hr := hl.rf
  have hn := hl.hn
  have rn := hl.nw
  have r1 := rf23_1 hr
  have l24 := ln24 hp
  obtain ⟨i, hi, rfl⟩ := q32_of w1
  obtain ⟨k, hk, rfl⟩ := q32_of w2
  have r7 := rf0_7 hr
  have r52 := rf23_52 hr
  have r53 := rf23_53 hr
  have r54 := rf23_54 hr
  have l13 := ln13 hp
  have l50 := ln50 hp
  have l51 := ln51 hp
  have l52 := ln52 hp
  have fin : ∀ r m1 m2, n_X9_write s m 0 (q32 i) (q32 k) v = some (r, m1) → n_X10_write s m1 23 (q32 i) (q32 k) v = some (r, m2) → ST s m2 ow nw → m2.2.2 = m.2.2 → OPK s m (n_X9_write s m 0 (q32 i) (q32 k) v) (fun m1 => n_X10_write s m1 23 (q32 i) (q32 k) v) := fun r m1 m2 e1 e2 st er =>
    ⟨r, m1, m2, e1, e2, ⟨(un_X10_write (un_X9_write hg (okB hp).1 e1).2 (okB hp).2 e2).2, ow, nw, st⟩, er⟩
  by_cases c : 0 ≤ i ∧ i < 4
  · obtain ⟨j, rfl⟩ := Int.eq_ofNat_of_zero_le c.1
    rcases hst.tray (j := j) (by omega) with ⟨t1, t2⟩ | ⟨t, sz, ht⟩
    · refine fin (q64 (-6)) m _ ?_ ?_ (hst.sc (SC.k0 m)) rfl
      · unfold n_X9_write nb_X9_write_0 n_X9_refusedTray nb_X9_refusedTray_0
        simp (disch := omega) only [Option.bind_some, bindv, bindv0, bind2_s, bind3_s, ↓reduceIte, Bool.false_eq_true, rZM_0, rZM_1, rZP_0, rZP_1, ptZ_0, ptZ_1, c32i, c64i, ncI, Int.natCast_add, Int.natCast_mul, q32_neg, q64_neg, q32_add, q32_sub, q32_mul, q64_add, q64_sub, q64_mul, q32_64i, q64_32, q32_lt_t, q32_lt_f, q32_le_t, q32_le_f, q32_eq_t, q32_eq_f, q64_lt_t, q64_lt_f, q64_le_t, q64_le_f, q64_eq_t, q64_eq_f, rdI_i, rdL_i, rdR_i, rdN_i, stI_i, stL_i, stR_i, wI_s, wI_n, wL_s, wL_n, wI_2, wI_3, wL_1, wL_3, wR_1, wR_2, Int.toNat_natCast, tnO, tn_add, tn_sub, tn_mul, Nat.add_sub_cancel, Nat.add_zero, Nat.zero_add, lnO, win_t, win_f, r7, t1]
      · unfold n_X10_write nb_X10_write_0
        simp (disch := omega) only [Option.bind_some, bindv, bindv0, bind2_s, bind3_s, ↓reduceIte, Bool.false_eq_true, rZM_0, rZM_1, rZP_0, rZP_1, ptZ_0, ptZ_1, c32i, c64i, ncI, Int.natCast_add, Int.natCast_mul, q32_neg, q64_neg, q32_add, q32_sub, q32_mul, q64_add, q64_sub, q64_mul, q32_64i, q64_32, q32_lt_t, q32_lt_f, q32_le_t, q32_le_f, q32_eq_t, q32_eq_f, q64_lt_t, q64_lt_f, q64_le_t, q64_le_f, q64_eq_t, q64_eq_f, rdI_i, rdL_i, rdR_i, rdN_i, stI_i, stL_i, stR_i, wI_s, wI_n, wL_s, wL_n, wI_2, wI_3, wL_1, wL_3, wR_1, wR_2, Int.toNat_natCast, tnO, tn_add, tn_sub, tn_mul, Nat.add_sub_cancel, Nat.add_zero, Nat.zero_add, lnO, win_t, win_f, r52, t2]
    · obtain ⟨d1, d2, d3, d4, d5, d6, d7, d8, d9, ⟨so, e1, e2, e3⟩, d10⟩ := ht
      have en : (some t = (none : Option Nat)) = False := by simp
      by_cases ck : 0 ≤ k ∧ k < sz
      · obtain ⟨n, rfl⟩ := Int.eq_ofNat_of_zero_le ck.1
        have ly := lay9 (s := s) e1 e2 d8 d7 d5 d6 (k := n) (by omega) v
        have en1 : (40 * (j : Int) + n).toNat = 40 * j + n := by omega
        refine fin (CUT so v) (wL m (t + 1) n (CUT so v)) (wL (wI (wL m (t + 1) n (CUT so v)) 23 0 (q32 0)) 52 (40 * j + n) (CUT so v)) ?_ ?_ (hst.tru (j := j) (t := t) (by omega) d2 rfl (fun a k => ?_) (fun a k => ?_) ?_) rfl
        · unfold n_X9_write nb_X9_write_0 n_X9_refusedTray nb_X9_refusedTray_0
          simp (disch := omega) only [Option.bind_some, bindv, bindv0, bind2_s, bind3_s, ↓reduceIte, Bool.false_eq_true, rZM_0, rZM_1, rZP_0, rZP_1, ptZ_0, ptZ_1, c32i, c64i, ncI, Int.natCast_add, Int.natCast_mul, q32_neg, q64_neg, q32_add, q32_sub, q32_mul, q64_add, q64_sub, q64_mul, q32_64i, q64_32, q32_lt_t, q32_lt_f, q32_le_t, q32_le_f, q32_eq_t, q32_eq_f, q64_lt_t, q64_lt_f, q64_le_t, q64_le_f, q64_eq_t, q64_eq_f, rdI_i, rdL_i, rdR_i, rdN_i, stI_i, stL_i, stR_i, wI_s, wI_n, wL_s, wL_n, wI_2, wI_3, wL_1, wL_3, wR_1, wR_2, Int.toNat_natCast, tnO, tn_add, tn_sub, tn_mul, Nat.add_sub_cancel, Nat.add_zero, Nat.zero_add, lnO, win_t, win_f, r7, d2, en, ly]
        · unfold n_X10_write nb_X10_write_0
          simp (disch := omega) only [Option.bind_some, bindv, bindv0, bind2_s, bind3_s, ↓reduceIte, Bool.false_eq_true, rZM_0, rZM_1, rZP_0, rZP_1, ptZ_0, ptZ_1, c32i, c64i, ncI, Int.natCast_add, Int.natCast_mul, q32_neg, q64_neg, q32_add, q32_sub, q32_mul, q64_add, q64_sub, q64_mul, q32_64i, q64_32, q32_lt_t, q32_lt_f, q32_le_t, q32_le_f, q32_eq_t, q32_eq_f, q64_lt_t, q64_lt_f, q64_le_t, q64_le_f, q64_eq_t, q64_eq_f, rdI_i, rdL_i, rdR_i, rdN_i, stI_i, stL_i, stR_i, wI_s, wI_n, wL_s, wL_n, wI_2, wI_3, wL_1, wL_3, wR_1, wR_2, Int.toNat_natCast, tnO, tn_add, tn_sub, tn_mul, Nat.add_sub_cancel, Nat.add_zero, Nat.zero_add, lnO, win_t, win_f, r52, r53, r54, e3, d9, cut10 e1]
        · by_cases c2 : a = 23 ∧ k = 0
          · omega
          · simp (disch := omega) only [Option.bind_some, bindv, bindv0, bind2_s, bind3_s, ↓reduceIte, Bool.false_eq_true, rZM_0, rZM_1, rZP_0, rZP_1, ptZ_0, ptZ_1, c32i, c64i, ncI, Int.natCast_add, Int.natCast_mul, q32_neg, q64_neg, q32_add, q32_sub, q32_mul, q64_add, q64_sub, q64_mul, q32_64i, q64_32, q32_lt_t, q32_lt_f, q32_le_t, q32_le_f, q32_eq_t, q32_eq_f, q64_lt_t, q64_lt_f, q64_le_t, q64_le_f, q64_eq_t, q64_eq_f, rdI_i, rdL_i, rdR_i, rdN_i, stI_i, stL_i, stR_i, wI_s, wI_n, wL_s, wL_n, wI_2, wI_3, wL_1, wL_3, wR_1, wR_2, Int.toNat_natCast, tnO, tn_add, tn_sub, tn_mul, Nat.add_sub_cancel, Nat.add_zero, Nat.zero_add, lnO, win_t, win_f]; simp
        · by_cases c2 : a = t + 1 ∨ (a = 52 ∧ k = 40 * j + n)
          · omega
          · simp (disch := omega) only [Option.bind_some, bindv, bindv0, bind2_s, bind3_s, ↓reduceIte, Bool.false_eq_true, rZM_0, rZM_1, rZP_0, rZP_1, ptZ_0, ptZ_1, c32i, c64i, ncI, Int.natCast_add, Int.natCast_mul, q32_neg, q64_neg, q32_add, q32_sub, q32_mul, q64_add, q64_sub, q64_mul, q32_64i, q64_32, q32_lt_t, q32_lt_f, q32_le_t, q32_le_f, q32_eq_t, q32_eq_f, q64_lt_t, q64_lt_f, q64_le_t, q64_le_f, q64_eq_t, q64_eq_f, rdI_i, rdL_i, rdR_i, rdN_i, stI_i, stL_i, stR_i, wI_s, wI_n, wL_s, wL_n, wI_2, wI_3, wL_1, wL_3, wR_1, wR_2, Int.toNat_natCast, tnO, tn_add, tn_sub, tn_mul, Nat.add_sub_cancel, Nat.add_zero, Nat.zero_add, lnO, win_t, win_f]; simp
        · refine ⟨so, sz, e1, d7, by simp (disch := omega) only [Option.bind_some, bindv, bindv0, bind2_s, bind3_s, ↓reduceIte, Bool.false_eq_true, rZM_0, rZM_1, rZP_0, rZP_1, ptZ_0, ptZ_1, c32i, c64i, ncI, Int.natCast_add, Int.natCast_mul, q32_neg, q64_neg, q32_add, q32_sub, q32_mul, q64_add, q64_sub, q64_mul, q32_64i, q64_32, q32_lt_t, q32_lt_f, q32_le_t, q32_le_f, q32_eq_t, q32_eq_f, q64_lt_t, q64_lt_f, q64_le_t, q64_le_f, q64_eq_t, q64_eq_f, rdI_i, rdL_i, rdR_i, rdN_i, stI_i, stL_i, stR_i, wI_s, wI_n, wL_s, wL_n, wI_2, wI_3, wL_1, wL_3, wR_1, wR_2, Int.toNat_natCast, tnO, tn_add, tn_sub, tn_mul, Nat.add_sub_cancel, Nat.add_zero, Nat.zero_add, lnO, win_t, win_f, e2], by simp (disch := omega) only [Option.bind_some, bindv, bindv0, bind2_s, bind3_s, ↓reduceIte, Bool.false_eq_true, rZM_0, rZM_1, rZP_0, rZP_1, ptZ_0, ptZ_1, c32i, c64i, ncI, Int.natCast_add, Int.natCast_mul, q32_neg, q64_neg, q32_add, q32_sub, q32_mul, q64_add, q64_sub, q64_mul, q32_64i, q64_32, q32_lt_t, q32_lt_f, q32_le_t, q32_le_f, q32_eq_t, q32_eq_f, q64_lt_t, q64_lt_f, q64_le_t, q64_le_f, q64_eq_t, q64_eq_f, rdI_i, rdL_i, rdR_i, rdN_i, stI_i, stL_i, stR_i, wI_s, wI_n, wL_s, wL_n, wI_2, wI_3, wL_1, wL_3, wR_1, wR_2, Int.toNat_natCast, tnO, tn_add, tn_sub, tn_mul, Nat.add_sub_cancel, Nat.add_zero, Nat.zero_add, lnO, win_t, win_f, d8], by simp (disch := omega) only [Option.bind_some, bindv, bindv0, bind2_s, bind3_s, ↓reduceIte, Bool.false_eq_true, rZM_0, rZM_1, rZP_0, rZP_1, ptZ_0, ptZ_1, c32i, c64i, ncI, Int.natCast_add, Int.natCast_mul, q32_neg, q64_neg, q32_add, q32_sub, q32_mul, q64_add, q64_sub, q64_mul, q32_64i, q64_32, q32_lt_t, q32_lt_f, q32_le_t, q32_le_f, q32_eq_t, q32_eq_f, q64_lt_t, q64_lt_f, q64_le_t, q64_le_f, q64_eq_t, q64_eq_f, rdI_i, rdL_i, rdR_i, rdN_i, stI_i, stL_i, stR_i, wI_s, wI_n, wL_s, wL_n, wI_2, wI_3, wL_1, wL_3, wR_1, wR_2, Int.toNat_natCast, tnO, tn_add, tn_sub, tn_mul, Nat.add_sub_cancel, Nat.add_zero, Nat.zero_add, lnO, win_t, win_f, e3], by simp (disch := omega) only [Option.bind_some, bindv, bindv0, bind2_s, bind3_s, ↓reduceIte, Bool.false_eq_true, rZM_0, rZM_1, rZP_0, rZP_1, ptZ_0, ptZ_1, c32i, c64i, ncI, Int.natCast_add, Int.natCast_mul, q32_neg, q64_neg, q32_add, q32_sub, q32_mul, q64_add, q64_sub, q64_mul, q32_64i, q64_32, q32_lt_t, q32_lt_f, q32_le_t, q32_le_f, q32_eq_t, q32_eq_f, q64_lt_t, q64_lt_f, q64_le_t, q64_le_f, q64_eq_t, q64_eq_f, rdI_i, rdL_i, rdR_i, rdN_i, stI_i, stL_i, stR_i, wI_s, wI_n, wL_s, wL_n, wI_2, wI_3, wL_1, wL_3, wR_1, wR_2, Int.toNat_natCast, tnO, tn_add, tn_sub, tn_mul, Nat.add_sub_cancel, Nat.add_zero, Nat.zero_add, lnO, win_t, win_f, d9], fun z hz => ?_⟩
          by_cases c2 : z = n
          · subst c2; simp (disch := omega) only [Option.bind_some, bindv, bindv0, bind2_s, bind3_s, ↓reduceIte, Bool.false_eq_true, rZM_0, rZM_1, rZP_0, rZP_1, ptZ_0, ptZ_1, c32i, c64i, ncI, Int.natCast_add, Int.natCast_mul, q32_neg, q64_neg, q32_add, q32_sub, q32_mul, q64_add, q64_sub, q64_mul, q32_64i, q64_32, q32_lt_t, q32_lt_f, q32_le_t, q32_le_f, q32_eq_t, q32_eq_f, q64_lt_t, q64_lt_f, q64_le_t, q64_le_f, q64_eq_t, q64_eq_f, rdI_i, rdL_i, rdR_i, rdN_i, stI_i, stL_i, stR_i, wI_s, wI_n, wL_s, wL_n, wI_2, wI_3, wL_1, wL_3, wR_1, wR_2, Int.toNat_natCast, tnO, tn_add, tn_sub, tn_mul, Nat.add_sub_cancel, Nat.add_zero, Nat.zero_add, lnO, win_t, win_f]
          · simp (disch := omega) only [Option.bind_some, bindv, bindv0, bind2_s, bind3_s, ↓reduceIte, Bool.false_eq_true, rZM_0, rZM_1, rZP_0, rZP_1, ptZ_0, ptZ_1, c32i, c64i, ncI, Int.natCast_add, Int.natCast_mul, q32_neg, q64_neg, q32_add, q32_sub, q32_mul, q64_add, q64_sub, q64_mul, q32_64i, q64_32, q32_lt_t, q32_lt_f, q32_le_t, q32_le_f, q32_eq_t, q32_eq_f, q64_lt_t, q64_lt_f, q64_le_t, q64_le_f, q64_eq_t, q64_eq_f, rdI_i, rdL_i, rdR_i, rdN_i, stI_i, stL_i, stR_i, wI_s, wI_n, wL_s, wL_n, wI_2, wI_3, wL_1, wL_3, wR_1, wR_2, Int.toNat_natCast, tnO, tn_add, tn_sub, tn_mul, Nat.add_sub_cancel, Nat.add_zero, Nat.zero_add, lnO, win_t, win_f]; exact d10 z hz
      · refine fin (q64 (-7)) m _ ?_ ?_ (hst.sc (SC.k0 m)) rfl
        · unfold n_X9_write nb_X9_write_0 n_X9_refusedTray nb_X9_refusedTray_0 n_X7_lay nb_X7_lay_0
          by_cases c2 : k < 0
          · simp (disch := omega) only [Option.bind_some, bindv, bindv0, bind2_s, bind3_s, ↓reduceIte, Bool.false_eq_true, rZM_0, rZM_1, rZP_0, rZP_1, ptZ_0, ptZ_1, c32i, c64i, ncI, Int.natCast_add, Int.natCast_mul, q32_neg, q64_neg, q32_add, q32_sub, q32_mul, q64_add, q64_sub, q64_mul, q32_64i, q64_32, q32_lt_t, q32_lt_f, q32_le_t, q32_le_f, q32_eq_t, q32_eq_f, q64_lt_t, q64_lt_f, q64_le_t, q64_le_f, q64_eq_t, q64_eq_f, rdI_i, rdL_i, rdR_i, rdN_i, stI_i, stL_i, stR_i, wI_s, wI_n, wL_s, wL_n, wI_2, wI_3, wL_1, wL_3, wR_1, wR_2, Int.toNat_natCast, tnO, tn_add, tn_sub, tn_mul, Nat.add_sub_cancel, Nat.add_zero, Nat.zero_add, lnO, win_t, win_f, r7, d2, en]
          · simp (disch := omega) only [Option.bind_some, bindv, bindv0, bind2_s, bind3_s, ↓reduceIte, Bool.false_eq_true, rZM_0, rZM_1, rZP_0, rZP_1, ptZ_0, ptZ_1, c32i, c64i, ncI, Int.natCast_add, Int.natCast_mul, q32_neg, q64_neg, q32_add, q32_sub, q32_mul, q64_add, q64_sub, q64_mul, q32_64i, q64_32, q32_lt_t, q32_lt_f, q32_le_t, q32_le_f, q32_eq_t, q32_eq_f, q64_lt_t, q64_lt_f, q64_le_t, q64_le_f, q64_eq_t, q64_eq_f, rdI_i, rdL_i, rdR_i, rdN_i, stI_i, stL_i, stR_i, wI_s, wI_n, wL_s, wL_n, wI_2, wI_3, wL_1, wL_3, wR_1, wR_2, Int.toNat_natCast, tnO, tn_add, tn_sub, tn_mul, Nat.add_sub_cancel, Nat.add_zero, Nat.zero_add, lnO, win_t, win_f, r7, d2, en, d8]
        · unfold n_X10_write nb_X10_write_0
          simp (disch := omega) only [Option.bind_some, bindv, bindv0, bind2_s, bind3_s, ↓reduceIte, Bool.false_eq_true, rZM_0, rZM_1, rZP_0, rZP_1, ptZ_0, ptZ_1, c32i, c64i, ncI, Int.natCast_add, Int.natCast_mul, q32_neg, q64_neg, q32_add, q32_sub, q32_mul, q64_add, q64_sub, q64_mul, q32_64i, q64_32, q32_lt_t, q32_lt_f, q32_le_t, q32_le_f, q32_eq_t, q32_eq_f, q64_lt_t, q64_lt_f, q64_le_t, q64_le_f, q64_eq_t, q64_eq_f, rdI_i, rdL_i, rdR_i, rdN_i, stI_i, stL_i, stR_i, wI_s, wI_n, wL_s, wL_n, wI_2, wI_3, wL_1, wL_3, wR_1, wR_2, Int.toNat_natCast, tnO, tn_add, tn_sub, tn_mul, Nat.add_sub_cancel, Nat.add_zero, Nat.zero_add, lnO, win_t, win_f, r52, r53, e3, d9]
  · refine fin (q64 (-2)) m _ ?_ ?_ (hst.sc (SC.k0 m)) rfl
    · unfold n_X9_write nb_X9_write_0 n_X9_refusedTray nb_X9_refusedTray_0
      by_cases c2 : i < 0
      · simp (disch := omega) only [Option.bind_some, bindv, bindv0, bind2_s, bind3_s, ↓reduceIte, Bool.false_eq_true, rZM_0, rZM_1, rZP_0, rZP_1, ptZ_0, ptZ_1, c32i, c64i, ncI, Int.natCast_add, Int.natCast_mul, q32_neg, q64_neg, q32_add, q32_sub, q32_mul, q64_add, q64_sub, q64_mul, q32_64i, q64_32, q32_lt_t, q32_lt_f, q32_le_t, q32_le_f, q32_eq_t, q32_eq_f, q64_lt_t, q64_lt_f, q64_le_t, q64_le_f, q64_eq_t, q64_eq_f, rdI_i, rdL_i, rdR_i, rdN_i, stI_i, stL_i, stR_i, wI_s, wI_n, wL_s, wL_n, wI_2, wI_3, wL_1, wL_3, wR_1, wR_2, Int.toNat_natCast, tnO, tn_add, tn_sub, tn_mul, Nat.add_sub_cancel, Nat.add_zero, Nat.zero_add, lnO, win_t, win_f]
      · simp (disch := omega) only [Option.bind_some, bindv, bindv0, bind2_s, bind3_s, ↓reduceIte, Bool.false_eq_true, rZM_0, rZM_1, rZP_0, rZP_1, ptZ_0, ptZ_1, c32i, c64i, ncI, Int.natCast_add, Int.natCast_mul, q32_neg, q64_neg, q32_add, q32_sub, q32_mul, q64_add, q64_sub, q64_mul, q32_64i, q64_32, q32_lt_t, q32_lt_f, q32_le_t, q32_le_f, q32_eq_t, q32_eq_f, q64_lt_t, q64_lt_f, q64_le_t, q64_le_f, q64_eq_t, q64_eq_f, rdI_i, rdL_i, rdR_i, rdN_i, stI_i, stL_i, stR_i, wI_s, wI_n, wL_s, wL_n, wI_2, wI_3, wL_1, wL_3, wR_1, wR_2, Int.toNat_natCast, tnO, tn_add, tn_sub, tn_mul, Nat.add_sub_cancel, Nat.add_zero, Nat.zero_add, lnO, win_t, win_f]
    · unfold n_X10_write nb_X10_write_0
      simp (disch := omega) only [Option.bind_some, bindv, bindv0, bind2_s, bind3_s, ↓reduceIte, Bool.false_eq_true, rZM_0, rZM_1, rZP_0, rZP_1, ptZ_0, ptZ_1, c32i, c64i, ncI, Int.natCast_add, Int.natCast_mul, q32_neg, q64_neg, q32_add, q32_sub, q32_mul, q64_add, q64_sub, q64_mul, q32_64i, q64_32, q32_lt_t, q32_lt_f, q32_le_t, q32_le_f, q32_eq_t, q32_eq_f, q64_lt_t, q64_lt_f, q64_le_t, q64_le_f, q64_eq_t, q64_eq_f, rdI_i, rdL_i, rdR_i, rdN_i, stI_i, stL_i, stR_i, wI_s, wI_n, wL_s, wL_n, wI_2, wI_3, wL_1, wL_3, wR_1, wR_2, Int.toNat_natCast, tnO, tn_add, tn_sub, tn_mul, Nat.add_sub_cancel, Nat.add_zero, Nat.zero_add, lnO, win_t, win_f]
theorem copyL9 {F : Nat} {s : List Sh} {t so sz N : Nat} {T : Nat → Int64} (hs : so ≤ 3) (hz : sz ≤ 40) (hl : ln s (t + 1) = 40) (hp : ∃ t, s = sB ++ t) (ht : 53 ≤ t) (hN : N ≤ sz) : ∀ (n fuel : Nat), n < fuel → ∀ (m : Mem) (i : Nat), RF m → m.1 t 0 = q32 so → m.1 t 1 = q32 sz → m.2.2 t 2 = some (t + 1) → (∀ k, k < N → m.2.1 21 k = T k) → i + n = N → ∃ m', nl_X9_copy_51 F s fuel m 0 t (q32 N) (q32 i) = some (q32 N, m') ∧ m'.1 = m.1 ∧ m'.2.2 = m.2.2 ∧ (∀ a k, a ≠ t + 1 ∨ k < i ∨ N ≤ k → m'.2.1 a k = m.2.1 a k) ∧ ∀ k, i ≤ k → k < N → m'.2.1 (t + 1) k = CUT so (T k) := by
  have l21 := ln21 hp
  intro n
  induction n with
  | zero =>
    intro fuel hf m i hr h0 h1 h2 hT hi
    obtain ⟨fuel, rfl⟩ : ∃ f, fuel = f + 1 := ⟨fuel - 1, by omega⟩
    refine ⟨m, ?_, rfl, rfl, fun _ _ _ => rfl, fun k h1 h2 => by omega⟩
    show nb_X9_copy_51 F s (nl_X9_copy_51 F s fuel) m 0 t (q32 N) (q32 i) = _
    unfold nb_X9_copy_51
    simp (disch := omega) only [Option.bind_some, bindv, bindv0, bind2_s, bind3_s, ↓reduceIte, Bool.false_eq_true, rZM_0, rZM_1, rZP_0, rZP_1, ptZ_0, ptZ_1, c32i, c64i, ncI, Int.natCast_add, Int.natCast_mul, q32_neg, q64_neg, q32_add, q32_sub, q32_mul, q64_add, q64_sub, q64_mul, q32_64i, q64_32, q32_lt_t, q32_lt_f, q32_le_t, q32_le_f, q32_eq_t, q32_eq_f, q64_lt_t, q64_lt_f, q64_le_t, q64_le_f, q64_eq_t, q64_eq_f, rdI_i, rdL_i, rdR_i, rdN_i, stI_i, stL_i, stR_i, wI_s, wI_n, wL_s, wL_n, wI_2, wI_3, wL_1, wL_3, wR_1, wR_2, Int.toNat_natCast, tnO, tn_add, tn_sub, tn_mul, Nat.add_sub_cancel, Nat.add_zero, Nat.zero_add, lnO, win_t, win_f]
  | succ n ih =>
    intro fuel hf m i hr h0 h1 h2 hT hi
    obtain ⟨fuel, rfl⟩ : ∃ f, fuel = f + 1 := ⟨fuel - 1, by omega⟩
    have r14 := rf0_14 hr
    have ly := lay9 (s := s) hs h0 h1 hz h2 hl (k := i) (by omega) (T i)
    obtain ⟨m', q1, q2, q3, q4, q5⟩ := ih fuel (by omega) (wL m (t + 1) i (CUT so (T i))) (i + 1) (hr.same rfl) h0 h1 h2 (fun k hk => by simp (disch := omega) only [Option.bind_some, bindv, bindv0, bind2_s, bind3_s, ↓reduceIte, Bool.false_eq_true, rZM_0, rZM_1, rZP_0, rZP_1, ptZ_0, ptZ_1, c32i, c64i, ncI, Int.natCast_add, Int.natCast_mul, q32_neg, q64_neg, q32_add, q32_sub, q32_mul, q64_add, q64_sub, q64_mul, q32_64i, q64_32, q32_lt_t, q32_lt_f, q32_le_t, q32_le_f, q32_eq_t, q32_eq_f, q64_lt_t, q64_lt_f, q64_le_t, q64_le_f, q64_eq_t, q64_eq_f, rdI_i, rdL_i, rdR_i, rdN_i, stI_i, stL_i, stR_i, wI_s, wI_n, wL_s, wL_n, wI_2, wI_3, wL_1, wL_3, wR_1, wR_2, Int.toNat_natCast, tnO, tn_add, tn_sub, tn_mul, Nat.add_sub_cancel, Nat.add_zero, Nat.zero_add, lnO, win_t, win_f]; exact hT k hk) (by omega)
    refine ⟨m', ?_, q2, q3, fun a k hk => ?_, fun k k1 k2 => ?_⟩
    · show nb_X9_copy_51 F s (nl_X9_copy_51 F s fuel) m 0 t (q32 N) (q32 i) = _
      unfold nb_X9_copy_51
      rw [Int.natCast_add] at q1
      simp (disch := omega) only [Option.bind_some, bindv, bindv0, bind2_s, bind3_s, ↓reduceIte, Bool.false_eq_true, rZM_0, rZM_1, rZP_0, rZP_1, ptZ_0, ptZ_1, c32i, c64i, ncI, Int.natCast_add, Int.natCast_mul, q32_neg, q64_neg, q32_add, q32_sub, q32_mul, q64_add, q64_sub, q64_mul, q32_64i, q64_32, q32_lt_t, q32_lt_f, q32_le_t, q32_le_f, q32_eq_t, q32_eq_f, q64_lt_t, q64_lt_f, q64_le_t, q64_le_f, q64_eq_t, q64_eq_f, rdI_i, rdL_i, rdR_i, rdN_i, stI_i, stL_i, stR_i, wI_s, wI_n, wL_s, wL_n, wI_2, wI_3, wL_1, wL_3, wR_1, wR_2, Int.toNat_natCast, tnO, tn_add, tn_sub, tn_mul, Nat.add_sub_cancel, Nat.add_zero, Nat.zero_add, lnO, win_t, win_f, r14, hT i (by omega), ly]
      exact q1
    · rw [q4 a k (by omega)]; simp (disch := omega) only [Option.bind_some, bindv, bindv0, bind2_s, bind3_s, ↓reduceIte, Bool.false_eq_true, rZM_0, rZM_1, rZP_0, rZP_1, ptZ_0, ptZ_1, c32i, c64i, ncI, Int.natCast_add, Int.natCast_mul, q32_neg, q64_neg, q32_add, q32_sub, q32_mul, q64_add, q64_sub, q64_mul, q32_64i, q64_32, q32_lt_t, q32_lt_f, q32_le_t, q32_le_f, q32_eq_t, q32_eq_f, q64_lt_t, q64_lt_f, q64_le_t, q64_le_f, q64_eq_t, q64_eq_f, rdI_i, rdL_i, rdR_i, rdN_i, stI_i, stL_i, stR_i, wI_s, wI_n, wL_s, wL_n, wI_2, wI_3, wL_1, wL_3, wR_1, wR_2, Int.toNat_natCast, tnO, tn_add, tn_sub, tn_mul, Nat.add_sub_cancel, Nat.add_zero, Nat.zero_add, lnO, win_t, win_f]
    · by_cases c : k = i
      · subst c; rw [q4 _ _ (by omega)]; simp (disch := omega) only [Option.bind_some, bindv, bindv0, bind2_s, bind3_s, ↓reduceIte, Bool.false_eq_true, rZM_0, rZM_1, rZP_0, rZP_1, ptZ_0, ptZ_1, c32i, c64i, ncI, Int.natCast_add, Int.natCast_mul, q32_neg, q64_neg, q32_add, q32_sub, q32_mul, q64_add, q64_sub, q64_mul, q32_64i, q64_32, q32_lt_t, q32_lt_f, q32_le_t, q32_le_f, q32_eq_t, q32_eq_f, q64_lt_t, q64_lt_f, q64_le_t, q64_le_f, q64_eq_t, q64_eq_f, rdI_i, rdL_i, rdR_i, rdN_i, stI_i, stL_i, stR_i, wI_s, wI_n, wL_s, wL_n, wI_2, wI_3, wL_1, wL_3, wR_1, wR_2, Int.toNat_natCast, tnO, tn_add, tn_sub, tn_mul, Nat.add_sub_cancel, Nat.add_zero, Nat.zero_add, lnO, win_t, win_f]
      · exact q5 k (by omega) k2
theorem copyL10 {F : Nat} {s : List Sh} {j so N : Nat} {T : Nat → Nat} (hs : so ≤ 3) (hp : ∃ t, s = sB ++ t) (hj : j < 4) (hN : N ≤ 40) (hT1 : ∀ k, k < N → T k ≤ 1000000) : ∀ (n fuel : Nat), n < fuel → ∀ (m : Mem) (i : Nat), RF m → m.1 50 j = q32 so → (∀ k, k < N → m.1 42 k = q32 (T k)) → i + n = N → ∃ m', nl_X10_copy_78 F s fuel m 23 (q32 j) (q32 N) (q32 i) = some (q32 N, m') ∧ m'.1 = m.1 ∧ m'.2.2 = m.2.2 ∧ (∀ a k, a ≠ 52 ∨ k < 40 * j + i ∨ 40 * j + N ≤ k → m'.2.1 a k = m.2.1 a k) ∧ ∀ k, i ≤ k → k < N → m'.2.1 52 (40 * j + k) = CUT so (q64 (T k)) := by
  have l42 := ln42 hp
  have l50 := ln50 hp
  have l52 := ln52 hp
  intro n
  induction n with
  | zero =>
    intro fuel hf m i hr h0 hT hi
    obtain ⟨fuel, rfl⟩ : ∃ f, fuel = f + 1 := ⟨fuel - 1, by omega⟩
    refine ⟨m, ?_, rfl, rfl, fun _ _ _ => rfl, fun k h1 h2 => by omega⟩
    show nb_X10_copy_78 F s (nl_X10_copy_78 F s fuel) m 23 (q32 j) (q32 N) (q32 i) = _
    unfold nb_X10_copy_78
    simp (disch := omega) only [Option.bind_some, bindv, bindv0, bind2_s, bind3_s, ↓reduceIte, Bool.false_eq_true, rZM_0, rZM_1, rZP_0, rZP_1, ptZ_0, ptZ_1, c32i, c64i, ncI, Int.natCast_add, Int.natCast_mul, q32_neg, q64_neg, q32_add, q32_sub, q32_mul, q64_add, q64_sub, q64_mul, q32_64i, q64_32, q32_lt_t, q32_lt_f, q32_le_t, q32_le_f, q32_eq_t, q32_eq_f, q64_lt_t, q64_lt_f, q64_le_t, q64_le_f, q64_eq_t, q64_eq_f, rdI_i, rdL_i, rdR_i, rdN_i, stI_i, stL_i, stR_i, wI_s, wI_n, wL_s, wL_n, wI_2, wI_3, wL_1, wL_3, wR_1, wR_2, Int.toNat_natCast, tnO, tn_add, tn_sub, tn_mul, Nat.add_sub_cancel, Nat.add_zero, Nat.zero_add, lnO, win_t, win_f]
  | succ n ih =>
    intro fuel hf m i hr h0 hT hi
    obtain ⟨fuel, rfl⟩ : ∃ f, fuel = f + 1 := ⟨fuel - 1, by omega⟩
    have r41 := rf23_41 hr
    have r52 := rf23_52 hr
    have r54 := rf23_54 hr
    have b1 := hT1 i (by omega)
    obtain ⟨m', q1, q2, q3, q4, q5⟩ := ih fuel (by omega) (wL m 52 (40 * j + i) (CUT so (q64 (T i)))) (i + 1) (hr.same rfl) h0 hT (by omega)
    refine ⟨m', ?_, q2, q3, fun a k hk => ?_, fun k k1 k2 => ?_⟩
    · show nb_X10_copy_78 F s (nl_X10_copy_78 F s fuel) m 23 (q32 j) (q32 N) (q32 i) = _
      unfold nb_X10_copy_78
      rw [Int.natCast_add] at q1
      simp (disch := omega) only [Option.bind_some, bindv, bindv0, bind2_s, bind3_s, ↓reduceIte, Bool.false_eq_true, rZM_0, rZM_1, rZP_0, rZP_1, ptZ_0, ptZ_1, c32i, c64i, ncI, Int.natCast_add, Int.natCast_mul, q32_neg, q64_neg, q32_add, q32_sub, q32_mul, q64_add, q64_sub, q64_mul, q32_64i, q64_32, q32_lt_t, q32_lt_f, q32_le_t, q32_le_f, q32_eq_t, q32_eq_f, q64_lt_t, q64_lt_f, q64_le_t, q64_le_f, q64_eq_t, q64_eq_f, rdI_i, rdL_i, rdR_i, rdN_i, stI_i, stL_i, stR_i, wI_s, wI_n, wL_s, wL_n, wI_2, wI_3, wL_1, wL_3, wR_1, wR_2, Int.toNat_natCast, tnO, tn_add, tn_sub, tn_mul, Nat.add_sub_cancel, Nat.add_zero, Nat.zero_add, lnO, win_t, win_f, r41, r52, r54, h0, hT i (by omega), cut10 hs]
      exact q1
    · rw [q4 a k (by omega)]; simp (disch := omega) only [Option.bind_some, bindv, bindv0, bind2_s, bind3_s, ↓reduceIte, Bool.false_eq_true, rZM_0, rZM_1, rZP_0, rZP_1, ptZ_0, ptZ_1, c32i, c64i, ncI, Int.natCast_add, Int.natCast_mul, q32_neg, q64_neg, q32_add, q32_sub, q32_mul, q64_add, q64_sub, q64_mul, q32_64i, q64_32, q32_lt_t, q32_lt_f, q32_le_t, q32_le_f, q32_eq_t, q32_eq_f, q64_lt_t, q64_lt_f, q64_le_t, q64_le_f, q64_eq_t, q64_eq_f, rdI_i, rdL_i, rdR_i, rdN_i, stI_i, stL_i, stR_i, wI_s, wI_n, wL_s, wL_n, wI_2, wI_3, wL_1, wL_3, wR_1, wR_2, Int.toNat_natCast, tnO, tn_add, tn_sub, tn_mul, Nat.add_sub_cancel, Nat.add_zero, Nat.zero_add, lnO, win_t, win_f]
    · by_cases c : k = i
      · subst c; rw [q4 _ _ (by omega)]; simp (disch := omega) only [Option.bind_some, bindv, bindv0, bind2_s, bind3_s, ↓reduceIte, Bool.false_eq_true, rZM_0, rZM_1, rZP_0, rZP_1, ptZ_0, ptZ_1, c32i, c64i, ncI, Int.natCast_add, Int.natCast_mul, q32_neg, q64_neg, q32_add, q32_sub, q32_mul, q64_add, q64_sub, q64_mul, q32_64i, q64_32, q32_lt_t, q32_lt_f, q32_le_t, q32_le_f, q32_eq_t, q32_eq_f, q64_lt_t, q64_lt_f, q64_le_t, q64_le_f, q64_eq_t, q64_eq_f, rdI_i, rdL_i, rdR_i, rdN_i, stI_i, stL_i, stR_i, wI_s, wI_n, wL_s, wL_n, wI_2, wI_3, wL_1, wL_3, wR_1, wR_2, Int.toNat_natCast, tnO, tn_add, tn_sub, tn_mul, Nat.add_sub_cancel, Nat.add_zero, Nat.zero_add, lnO, win_t, win_f]
      · exact q5 k (by omega) k2
theorem jmin_q {a b : Nat} (ha : a < 2147483648) (hb : b < 2147483648) : jmin (q32 a) (q32 b) = q32 ((min a b : Nat) : Int) := by
  unfold jmin
  by_cases c : b < a
  · rw [show min a b = b by omega]; simp (disch := omega) only [Option.bind_some, bindv, bindv0, bind2_s, bind3_s, ↓reduceIte, Bool.false_eq_true, rZM_0, rZM_1, rZP_0, rZP_1, ptZ_0, ptZ_1, c32i, c64i, ncI, Int.natCast_add, Int.natCast_mul, q32_neg, q64_neg, q32_add, q32_sub, q32_mul, q64_add, q64_sub, q64_mul, q32_64i, q64_32, q32_lt_t, q32_lt_f, q32_le_t, q32_le_f, q32_eq_t, q32_eq_f, q64_lt_t, q64_lt_f, q64_le_t, q64_le_f, q64_eq_t, q64_eq_f, rdI_i, rdL_i, rdR_i, rdN_i, stI_i, stL_i, stR_i, wI_s, wI_n, wL_s, wL_n, wI_2, wI_3, wL_1, wL_3, wR_1, wR_2, Int.toNat_natCast, tnO, tn_add, tn_sub, tn_mul, Nat.add_sub_cancel, Nat.add_zero, Nat.zero_add, lnO, win_t, win_f]
  · rw [show min a b = a by omega]; simp (disch := omega) only [Option.bind_some, bindv, bindv0, bind2_s, bind3_s, ↓reduceIte, Bool.false_eq_true, rZM_0, rZM_1, rZP_0, rZP_1, ptZ_0, ptZ_1, c32i, c64i, ncI, Int.natCast_add, Int.natCast_mul, q32_neg, q64_neg, q32_add, q32_sub, q32_mul, q64_add, q64_sub, q64_mul, q32_64i, q64_32, q32_lt_t, q32_lt_f, q32_le_t, q32_le_f, q32_eq_t, q32_eq_f, q64_lt_t, q64_lt_f, q64_le_t, q64_le_f, q64_eq_t, q64_eq_f, rdI_i, rdL_i, rdR_i, rdN_i, stI_i, stL_i, stR_i, wI_s, wI_n, wL_s, wL_n, wI_2, wI_3, wL_1, wL_3, wR_1, wR_2, Int.toNat_natCast, tnO, tn_add, tn_sub, tn_mul, Nat.add_sub_cancel, Nat.add_zero, Nat.zero_add, lnO, win_t, win_f]
theorem opk_copy {F : Nat} (hF : 1000 ≤ F) {s : List Sh} {m : Mem} (h : INV s m) (w1 : Int32) : OPK s m (n_X9_copy F s m 0 w1) (fun m1 => n_X10_copy F s m1 23 w1) := by
  have h0 := h
  obtain ⟨hg, ow, nw, hst⟩ := h
  have hl := hst.1
  have hp := hl.hp
  have hr := hl.rf
  have hn := hl.hn
  have rn := hl.nw
  have r1 := rf23_1 hr
  have l24 := ln24 hp
  obtain ⟨i, hi, rfl⟩ := q32_of w1
  have r7 := rf0_7 hr
  have r52 := rf23_52 hr
  have r53 := rf23_53 hr
  have r54 := rf23_54 hr
  have l13 := ln13 hp
  have l50 := ln50 hp
  have l51 := ln51 hp
  have l52 := ln52 hp
  have fin : ∀ r m1 m2, n_X9_copy F s m 0 (q32 i) = some (r, m1) → n_X10_copy F s m1 23 (q32 i) = some (r, m2) → ST s m2 ow nw → m2.2.2 = m.2.2 → OPK s m (n_X9_copy F s m 0 (q32 i)) (fun m1 => n_X10_copy F s m1 23 (q32 i)) := fun r m1 m2 e1 e2 st er =>
    ⟨r, m1, m2, e1, e2, ⟨(un_X10_copy (un_X9_copy hg (okB hp).1 e1).2 (okB hp).2 e2).2, ow, nw, st⟩, er⟩
  by_cases c : 0 ≤ i ∧ i < 4
  · obtain ⟨j, rfl⟩ := Int.eq_ofNat_of_zero_le c.1
    rcases hst.tray (j := j) (by omega) with ⟨t1, t2⟩ | ⟨t, sz, ht⟩
    · refine fin (q32 (-6)) m _ ?_ ?_ (hst.sc (SC.k0 m)) rfl
      · unfold n_X9_copy nb_X9_copy_0 n_X9_refusedTray nb_X9_refusedTray_0
        simp (disch := omega) only [Option.bind_some, bindv, bindv0, bind2_s, bind3_s, ↓reduceIte, Bool.false_eq_true, rZM_0, rZM_1, rZP_0, rZP_1, ptZ_0, ptZ_1, c32i, c64i, ncI, Int.natCast_add, Int.natCast_mul, q32_neg, q64_neg, q32_add, q32_sub, q32_mul, q64_add, q64_sub, q64_mul, q32_64i, q64_32, q32_lt_t, q32_lt_f, q32_le_t, q32_le_f, q32_eq_t, q32_eq_f, q64_lt_t, q64_lt_f, q64_le_t, q64_le_f, q64_eq_t, q64_eq_f, rdI_i, rdL_i, rdR_i, rdN_i, stI_i, stL_i, stR_i, wI_s, wI_n, wL_s, wL_n, wI_2, wI_3, wL_1, wL_3, wR_1, wR_2, Int.toNat_natCast, tnO, tn_add, tn_sub, tn_mul, Nat.add_sub_cancel, Nat.add_zero, Nat.zero_add, lnO, win_t, win_f, r7, t1]
      · unfold n_X10_copy nb_X10_copy_0
        simp (disch := omega) only [Option.bind_some, bindv, bindv0, bind2_s, bind3_s, ↓reduceIte, Bool.false_eq_true, rZM_0, rZM_1, rZP_0, rZP_1, ptZ_0, ptZ_1, c32i, c64i, ncI, Int.natCast_add, Int.natCast_mul, q32_neg, q64_neg, q32_add, q32_sub, q32_mul, q64_add, q64_sub, q64_mul, q32_64i, q64_32, q32_lt_t, q32_lt_f, q32_le_t, q32_le_f, q32_eq_t, q32_eq_f, q64_lt_t, q64_lt_f, q64_le_t, q64_le_f, q64_eq_t, q64_eq_f, rdI_i, rdL_i, rdR_i, rdN_i, stI_i, stL_i, stR_i, wI_s, wI_n, wL_s, wL_n, wI_2, wI_3, wL_1, wL_3, wR_1, wR_2, Int.toNat_natCast, tnO, tn_add, tn_sub, tn_mul, Nat.add_sub_cancel, Nat.add_zero, Nat.zero_add, lnO, win_t, win_f, r52, t2]
    · obtain ⟨d1, d2, d3, d4, d5, d6, d7, d8, d9, ⟨so, e1, e2, e3⟩, d10⟩ := ht
      have en : (some t = (none : Option Nat)) = False := by simp
      obtain ⟨x4, x5, x6⟩ := hst.at
      have b7 := A_b (m.1 24) 7
      have b8 := A_b (m.1 24) 8
      have y7 := A_s (m.1 24) 7
      have y8 := A_s (m.1 24) 8
      generalize hff : ((A (m.1 24) 7, A (m.1 24) 8) : FR) = f
      have x6' : FLR (A (m.1 24) 1) f.1 f.2 := by rw [← hff]; exact x6
      have f1 : A (m.1 24) 7 = f.1 := by rw [← hff]
      have f2 : A (m.1 24) 8 = f.2 := by rw [← hff]
      rw [f1] at x4 b7 y7
      rw [f2] at x5 b8 y8
      obtain ⟨m1, p1, p2, p3, p4, p5⟩ := terms9 (m := m) hF hp hr x6'
      have hlen := ADR_len (f := f) x6'.2.2.2.1
      have hr1 : RF m1 := hr.same p3
      obtain ⟨m2, q1, q2, q3, q4, q5⟩ := copyL9 (F := F) (s := s) (t := t) (so := so) (sz := sz) (N := min (ADR f).length sz) (T := fun k => q64 ((ADR f).getD k 0 : Nat)) e1 d7 d6 hp d3 (by omega) (min (ADR f).length sz) F (by omega) m1 0 hr1 (by rw [p2]; exact e2) (by rw [p2]; exact d8) (by rw [p3]; exact d5) (fun k hk => p5 k (by omega)) (by omega)
      have z7 : m2.1 24 7 = q32 f.1 := by rw [q2, p2]; exact y7
      have z8 : m2.1 24 8 = q32 f.2 := by rw [q2, p2]; exact y8
      have hr2 : RF m2 := hr1.same q3
      have r1' := rf23_1 hr2
      have r52' := rf23_52 hr2
      have r53' := rf23_53 hr2
      have z50 : m2.1 50 j = q32 so := by rw [q2, p2]; exact e3
      have z51 : m2.1 51 j = q32 sz := by rw [q2, p2]; exact d9
      obtain ⟨m3, s1, s2, s3, s4⟩ := addr10 (m := wI m2 23 0 (q32 0)) hF hp (hr2.same rfl) x6'
      have u53 : m3.2.2 23 53 = some 51 := by rw [s2]; exact r53'
      have u51 : m3.1 51 j = q32 sz := by rw [s3 _ _ (by omega)]; simp (disch := omega) only [Option.bind_some, bindv, bindv0, bind2_s, bind3_s, ↓reduceIte, Bool.false_eq_true, rZM_0, rZM_1, rZP_0, rZP_1, ptZ_0, ptZ_1, c32i, c64i, ncI, Int.natCast_add, Int.natCast_mul, q32_neg, q64_neg, q32_add, q32_sub, q32_mul, q64_add, q64_sub, q64_mul, q32_64i, q64_32, q32_lt_t, q32_lt_f, q32_le_t, q32_le_f, q32_eq_t, q32_eq_f, q64_lt_t, q64_lt_f, q64_le_t, q64_le_f, q64_eq_t, q64_eq_f, rdI_i, rdL_i, rdR_i, rdN_i, stI_i, stL_i, stR_i, wI_s, wI_n, wL_s, wL_n, wI_2, wI_3, wL_1, wL_3, wR_1, wR_2, Int.toNat_natCast, tnO, tn_add, tn_sub, tn_mul, Nat.add_sub_cancel, Nat.add_zero, Nat.zero_add, lnO, win_t, win_f, z51]
      obtain ⟨m4, v1, v2, v3, v4, v5⟩ := copyL10 (F := F) (s := s) (j := j) (so := so) (N := min (ADR f).length sz) (T := fun k => (ADR f).getD k 0) e1 hp (by omega) (by omega) (fun k hk => ADR_le x6' k (by omega)) (min (ADR f).length sz) F (by omega) m3 0 (by rw [show RF m3 = RF m3 from rfl]; exact hr2.same (by rw [s2]; rfl)) (by rw [s3 _ _ (by omega)]; simp (disch := omega) only [Option.bind_some, bindv, bindv0, bind2_s, bind3_s, ↓reduceIte, Bool.false_eq_true, rZM_0, rZM_1, rZP_0, rZP_1, ptZ_0, ptZ_1, c32i, c64i, ncI, Int.natCast_add, Int.natCast_mul, q32_neg, q64_neg, q32_add, q32_sub, q32_mul, q64_add, q64_sub, q64_mul, q32_64i, q64_32, q32_lt_t, q32_lt_f, q32_le_t, q32_le_f, q32_eq_t, q32_eq_f, q64_lt_t, q64_lt_f, q64_le_t, q64_le_f, q64_eq_t, q64_eq_f, rdI_i, rdL_i, rdR_i, rdN_i, stI_i, stL_i, stR_i, wI_s, wI_n, wL_s, wL_n, wI_2, wI_3, wL_1, wL_3, wR_1, wR_2, Int.toNat_natCast, tnO, tn_add, tn_sub, tn_mul, Nat.add_sub_cancel, Nat.add_zero, Nat.zero_add, lnO, win_t, win_f, z50]) (fun k hk => s4 k (by omega)) (by omega)
      have er : m4.2.2 = m.2.2 := by rw [v3, s2, wI_3, q3, p3]
      refine fin (q32 ((min (ADR f).length sz : Nat) : Int)) m2 m4 ?_ ?_ (hst.tru (j := j) (t := t) (by omega) d2 er (fun a k => ?_) (fun a k => ?_) ?_) er
      · unfold n_X9_copy nb_X9_copy_0 n_X9_refusedTray nb_X9_refusedTray_0
        have p28 : m1.1 t 1 = q32 sz := by rw [p2]; exact d8
        simp (disch := omega) only [Option.bind_some, bindv, bindv0, bind2_s, bind3_s, ↓reduceIte, Bool.false_eq_true, rZM_0, rZM_1, rZP_0, rZP_1, ptZ_0, ptZ_1, c32i, c64i, ncI, Int.natCast_add, Int.natCast_mul, q32_neg, q64_neg, q32_add, q32_sub, q32_mul, q64_add, q64_sub, q64_mul, q32_64i, q64_32, q32_lt_t, q32_lt_f, q32_le_t, q32_le_f, q32_eq_t, q32_eq_f, q64_lt_t, q64_lt_f, q64_le_t, q64_le_f, q64_eq_t, q64_eq_f, rdI_i, rdL_i, rdR_i, rdN_i, stI_i, stL_i, stR_i, wI_s, wI_n, wL_s, wL_n, wI_2, wI_3, wL_1, wL_3, wR_1, wR_2, Int.toNat_natCast, tnO, tn_add, tn_sub, tn_mul, Nat.add_sub_cancel, Nat.add_zero, Nat.zero_add, lnO, win_t, win_f, r7, d2, en, rn, x4, x5, p1, p28, jmin_q]
        exact q1
      · unfold n_X10_copy nb_X10_copy_0 nb_X10_copy_74
        by_cases cc : sz ≤ (ADR f).length
        · rw [show min (ADR f).length sz = sz by omega] at v1 ⊢
          simp (disch := omega) only [Option.bind_some, bindv, bindv0, bind2_s, bind3_s, ↓reduceIte, Bool.false_eq_true, rZM_0, rZM_1, rZP_0, rZP_1, ptZ_0, ptZ_1, c32i, c64i, ncI, Int.natCast_add, Int.natCast_mul, q32_neg, q64_neg, q32_add, q32_sub, q32_mul, q64_add, q64_sub, q64_mul, q32_64i, q64_32, q32_lt_t, q32_lt_f, q32_le_t, q32_le_f, q32_eq_t, q32_eq_f, q64_lt_t, q64_lt_f, q64_le_t, q64_le_f, q64_eq_t, q64_eq_f, rdI_i, rdL_i, rdR_i, rdN_i, stI_i, stL_i, stR_i, wI_s, wI_n, wL_s, wL_n, wI_2, wI_3, wL_1, wL_3, wR_1, wR_2, Int.toNat_natCast, tnO, tn_add, tn_sub, tn_mul, Nat.add_sub_cancel, Nat.add_zero, Nat.zero_add, lnO, win_t, win_f, r52', z50, r1', z7, z8, s1, u53, u51]
          exact v1
        · rw [show min (ADR f).length sz = (ADR f).length by omega] at v1 ⊢
          simp (disch := omega) only [Option.bind_some, bindv, bindv0, bind2_s, bind3_s, ↓reduceIte, Bool.false_eq_true, rZM_0, rZM_1, rZP_0, rZP_1, ptZ_0, ptZ_1, c32i, c64i, ncI, Int.natCast_add, Int.natCast_mul, q32_neg, q64_neg, q32_add, q32_sub, q32_mul, q64_add, q64_sub, q64_mul, q32_64i, q64_32, q32_lt_t, q32_lt_f, q32_le_t, q32_le_f, q32_eq_t, q32_eq_f, q64_lt_t, q64_lt_f, q64_le_t, q64_le_f, q64_eq_t, q64_eq_f, rdI_i, rdL_i, rdR_i, rdN_i, stI_i, stL_i, stR_i, wI_s, wI_n, wL_s, wL_n, wI_2, wI_3, wL_1, wL_3, wR_1, wR_2, Int.toNat_natCast, tnO, tn_add, tn_sub, tn_mul, Nat.add_sub_cancel, Nat.add_zero, Nat.zero_add, lnO, win_t, win_f, r52', z50, r1', z7, z8, s1, u53, u51]
          exact v1
      · by_cases c2 : a = 23 ∧ k = 0 ∨ a = 42
        · omega
        · rw [v2, s3 a k (by omega), wI_n (by omega), q2, p2]; simp
      · by_cases c2 : a = 52 ∧ 40 * j ≤ k ∧ k < 40 * j + 40 ∨ a = t + 1 ∨ a = 21
        · omega
        · rw [v4 a k (by omega), s2, wI_2, q4 a k (by omega), p4 a k (by omega)]; simp
      · refine ⟨so, sz, e1, d7, ?_, ?_, ?_, ?_, fun z hz => ?_⟩
        · rw [v2, s3 _ _ (by omega), wI_n (by omega), q2, p2]; exact e2
        · rw [v2, s3 _ _ (by omega), wI_n (by omega), q2, p2]; exact d8
        · rw [v2, s3 _ _ (by omega), wI_n (by omega)]; exact z50
        · rw [v2, u51]
        · by_cases c2 : z < min (ADR f).length sz
          · rw [v5 z (by omega) c2, v4 _ _ (by omega), s2, wI_2, q5 z (by omega) c2]
          · rw [v4 _ _ (by omega), v4 _ _ (by omega), s2, wI_2, q4 _ _ (by omega), q4 _ _ (by omega), p4 _ _ (by omega), p4 _ _ (by omega)]
            exact d10 z hz
  · refine fin (q32 (-2)) m _ ?_ ?_ (hst.sc (SC.k0 m)) rfl
    · unfold n_X9_copy nb_X9_copy_0 n_X9_refusedTray nb_X9_refusedTray_0
      by_cases c2 : i < 0
      · simp (disch := omega) only [Option.bind_some, bindv, bindv0, bind2_s, bind3_s, ↓reduceIte, Bool.false_eq_true, rZM_0, rZM_1, rZP_0, rZP_1, ptZ_0, ptZ_1, c32i, c64i, ncI, Int.natCast_add, Int.natCast_mul, q32_neg, q64_neg, q32_add, q32_sub, q32_mul, q64_add, q64_sub, q64_mul, q32_64i, q64_32, q32_lt_t, q32_lt_f, q32_le_t, q32_le_f, q32_eq_t, q32_eq_f, q64_lt_t, q64_lt_f, q64_le_t, q64_le_f, q64_eq_t, q64_eq_f, rdI_i, rdL_i, rdR_i, rdN_i, stI_i, stL_i, stR_i, wI_s, wI_n, wL_s, wL_n, wI_2, wI_3, wL_1, wL_3, wR_1, wR_2, Int.toNat_natCast, tnO, tn_add, tn_sub, tn_mul, Nat.add_sub_cancel, Nat.add_zero, Nat.zero_add, lnO, win_t, win_f]
      · simp (disch := omega) only [Option.bind_some, bindv, bindv0, bind2_s, bind3_s, ↓reduceIte, Bool.false_eq_true, rZM_0, rZM_1, rZP_0, rZP_1, ptZ_0, ptZ_1, c32i, c64i, ncI, Int.natCast_add, Int.natCast_mul, q32_neg, q64_neg, q32_add, q32_sub, q32_mul, q64_add, q64_sub, q64_mul, q32_64i, q64_32, q32_lt_t, q32_lt_f, q32_le_t, q32_le_f, q32_eq_t, q32_eq_f, q64_lt_t, q64_lt_f, q64_le_t, q64_le_f, q64_eq_t, q64_eq_f, rdI_i, rdL_i, rdR_i, rdN_i, stI_i, stL_i, stR_i, wI_s, wI_n, wL_s, wL_n, wI_2, wI_3, wL_1, wL_3, wR_1, wR_2, Int.toNat_natCast, tnO, tn_add, tn_sub, tn_mul, Nat.add_sub_cancel, Nat.add_zero, Nat.zero_add, lnO, win_t, win_f]
    · unfold n_X10_copy nb_X10_copy_0
      simp (disch := omega) only [Option.bind_some, bindv, bindv0, bind2_s, bind3_s, ↓reduceIte, Bool.false_eq_true, rZM_0, rZM_1, rZP_0, rZP_1, ptZ_0, ptZ_1, c32i, c64i, ncI, Int.natCast_add, Int.natCast_mul, q32_neg, q64_neg, q32_add, q32_sub, q32_mul, q64_add, q64_sub, q64_mul, q32_64i, q64_32, q32_lt_t, q32_lt_f, q32_le_t, q32_le_f, q32_eq_t, q32_eq_f, q64_lt_t, q64_lt_f, q64_le_t, q64_le_f, q64_eq_t, q64_eq_f, rdI_i, rdL_i, rdR_i, rdN_i, stI_i, stL_i, stR_i, wI_s, wI_n, wL_s, wL_n, wI_2, wI_3, wL_1, wL_3, wR_1, wR_2, Int.toNat_natCast, tnO, tn_add, tn_sub, tn_mul, Nat.add_sub_cancel, Nat.add_zero, Nat.zero_add, lnO, win_t, win_f]
