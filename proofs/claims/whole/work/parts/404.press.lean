/-! PURE: pressing -/
/-- frames of a press, by the class and by the reference -/
def KP (nw : Nat) (m m' : Mem) : Prop := (∀ a k, (a ≠ 0 ∨ k ≠ 10) ∧ a ≠ 14 ∧ a ≠ 15 ∧ a ≠ 16 ∧ a ≠ nw → m'.1 a k = m.1 a k) ∧ (∀ a k, a ≠ 17 ∧ a ≠ 18 → m'.2.1 a k = m.2.1 a k) ∧ m'.2.2 = m.2.2
theorem KP.rf {nw : Nat} (m : Mem) : KP nw m m := ⟨fun _ _ _ => rfl, fun _ _ _ => rfl, rfl⟩
theorem KP.tr {nw : Nat} {m m1 m2 : Mem} (h : KP nw m m1) (h2 : KP nw m1 m2) : KP nw m m2 := ⟨fun a k p => (h2.1 a k p).trans (h.1 a k p), fun a k p => (h2.2.1 a k p).trans (h.2.1 a k p), h2.2.2.trans h.2.2⟩
theorem K9.kp {nw : Nat} {m m' : Mem} (h : K9 m m') : KP nw m m' := ⟨fun a k p => h.1 a k p.2.2.2.1, fun a k p => h.2.1 a k p, h.2.2⟩
theorem KP.I {nw : Nat} {m m1 : Mem} {a k : Nat} {x : Int32} (h : KP nw m m1) (ha : (a = 0 ∧ k = 10) ∨ a = 14 ∨ a = 15 ∨ a = 16 ∨ a = nw) : KP nw m (wI m1 a k x) := ⟨fun b j p => by rw [wI_n (by omega)]; exact h.1 b j p, h.2.1, h.2.2⟩
def KQ (m m' : Mem) : Prop := (∀ a k, (a ≠ 23 ∨ (k ≠ 0 ∧ k ≠ 21 ∧ k ≠ 22)) ∧ (a ≠ 24 ∨ 999 ≤ k) → m'.1 a k = m.1 a k) ∧ (∀ a k, (a ≠ 23 ∨ (k ≠ 15 ∧ k ≠ 16)) ∧ a ≠ 28 ∧ a ≠ 29 → m'.2.1 a k = m.2.1 a k) ∧ m'.2.2 = m.2.2
theorem KQ.rf (m : Mem) : KQ m m := ⟨fun _ _ _ => rfl, fun _ _ _ => rfl, rfl⟩
theorem KQ.tr {m m1 m2 : Mem} (h : KQ m m1) (h2 : KQ m1 m2) : KQ m m2 := ⟨fun a k p => (h2.1 a k p).trans (h.1 a k p), fun a k p => (h2.2.1 a k p).trans (h.2.1 a k p), h2.2.2.trans h.2.2⟩
theorem K10.kq {m m' : Mem} (h : K10 m m') : KQ m m' := ⟨fun a k p => h.1 a k (by omega), fun a k p => h.2.1 a k p, h.2.2⟩
theorem KQ.I {m m1 : Mem} {a k : Nat} {x : Int32} (h : KQ m m1) (ha : (a = 23 ∧ (k = 0 ∨ k = 21 ∨ k = 22)) ∨ (a = 24 ∧ k < 999)) : KQ m (wI m1 a k x) := ⟨fun b j p => by rw [wI_n (by omega)]; exact h.1 b j p, h.2.1, h.2.2⟩
/-- a press of the reference, finer -/
def KR (m m' : Mem) : Prop := (∀ a k, (a ≠ 23 ∨ (k ≠ 0 ∧ k ≠ 21)) ∧ (a ≠ 24 ∨ 999 ≤ k) → m'.1 a k = m.1 a k) ∧ (∀ a k, (a ≠ 23 ∨ (k ≠ 15 ∧ k ≠ 16)) ∧ a ≠ 28 ∧ a ≠ 29 → m'.2.1 a k = m.2.1 a k) ∧ m'.2.2 = m.2.2
theorem KR.rf (m : Mem) : KR m m := ⟨fun _ _ _ => rfl, fun _ _ _ => rfl, rfl⟩
theorem KR.tr {m m1 m2 : Mem} (h : KR m m1) (h2 : KR m1 m2) : KR m m2 := ⟨fun a k p => (h2.1 a k p).trans (h.1 a k p), fun a k p => (h2.2.1 a k p).trans (h.2.1 a k p), h2.2.2.trans h.2.2⟩
theorem K10.kr {m m' : Mem} (h : K10 m m') : KR m m' := ⟨fun a k p => h.1 a k (by omega), fun a k p => h.2.1 a k p, h.2.2⟩
theorem KR.kq {m m' : Mem} (h : KR m m') : KQ m m' := ⟨fun a k p => h.1 a k (by omega), fun a k p => h.2.1 a k p, h.2.2⟩
theorem KR.I {m m1 : Mem} {a k : Nat} {x : Int32} (h : KR m m1) (ha : (a = 23 ∧ (k = 0 ∨ k = 21)) ∨ (a = 24 ∧ k < 999)) : KR m (wI m1 a k x) := ⟨fun b j p => by rw [wI_n (by omega)]; exact h.1 b j p, h.2.1, h.2.2⟩
theorem HB.hn {s : List Sh} {m : Mem} {n : Nat} (h : HB s m n) : n = 2 ∨ 53 ≤ n := h.1
/-- both have gone on -/
theorem ST.two {s : List Sh} {m m1 m2 : Mem} {ow : Nat → Nat} {nw : Nat} {al : Nat → Int32} (h : ST s m ow nw) (k1 : KP nw m m1) (k2 : KQ m1 m2) (hH : HREL m1 nw al) (hU : US m1 al) (h24 : ∀ k, k < 999 → m2.1 24 k = al k) : ST s m2 ow nw := by
  have hn := h.1.2.2.2.1.1
  refine h.hu (k2.2.2.trans k1.2.2) (fun a ha hb hc => funext fun k => ?_) (fun a ha hb => funext fun k => ?_) (fun k hk => ?_) ?_ ⟨?_, ?_⟩
  · unfold Fx at ha
    rw [k2.1 a k (by omega), k1.1 a k (by omega)]
  · unfold Fx at ha
    rw [k2.2.1 a k (by omega), k1.2.1 a k (by omega)]
  · rw [k2.1 24 k (by omega), k1.1 24 k (by omega)]
  · exact hH.same (fun j hj => funext fun k => k2.1 _ k (by omega)) h24
  · obtain ⟨tpd, t1, t2, t3, t4, t5, t6, t7⟩ := h.2.2.1.1
    refine ⟨tpd, t1, t2, ?_, ?_, fun k hk => ?_, ?_, ?_⟩
    · rw [k2.1 0 1 (by omega), k1.1 0 1 (by omega)]; exact t3
    · rw [k2.1 23 5 (by omega), k1.1 23 5 (by omega)]; exact t4
    · rw [k2.1 1 k (by omega), k1.1 1 k (by omega), k2.1 26 k (by omega), k1.1 26 k (by omega)]; exact t5 k hk
    · rw [k2.1 23 13 (by omega), k1.1 23 13 (by omega), k2.1 0 2 (by omega), k1.1 0 2 (by omega)]; exact t6
    · rw [k2.1 23 14 (by omega), k1.1 23 14 (by omega), k2.1 0 3 (by omega), k1.1 0 3 (by omega)]; exact t7
  · obtain ⟨ud, u1, u2, u3, u4⟩ := hU
    refine ⟨ud, u1, ?_, ?_, fun k hk => ?_⟩
    · rw [k2.1 0 10 (by omega)]; exact u2
    · rw [h24 73 (by omega)]; exact u3
    · rw [h24 _ (by omega), h24 _ (by omega), h24 _ (by omega), k2.1 14 k (by omega), k2.1 15 k (by omega)]; exact u4 k hk
theorem LAY.hp {s : List Sh} {m : Mem} {ow : Nat → Nat} {nw : Nat} (h : LAY s m ow nw) : ∃ t, s = sB ++ t := h.1
theorem LAY.rf {s : List Sh} {m : Mem} {ow : Nat → Nat} {nw : Nat} (h : LAY s m ow nw) : RF m := h.2.1
theorem LAY.nw {s : List Sh} {m : Mem} {ow : Nat → Nat} {nw : Nat} (h : LAY s m ow nw) : m.2.2 0 4 = some nw := h.2.2.1
theorem LAY.hn {s : List Sh} {m : Mem} {ow : Nat → Nat} {nw : Nat} (h : LAY s m ow nw) : nw = 2 ∨ 53 ≤ nw := h.2.2.2.1.1
/-- a house that is elsewhere -/
theorem HR.at {hs st cd fu fl sf od tu tl al hs' al' : Nat → Int32} (h : HR hs st cd fu fl sf od tu tl al) {u l : Int} (hf : FLR (A al 1) u l) (e1 : ∀ k, k ≠ 3 ∧ k ≠ 4 ∧ k ≠ 5 → hs' k = hs k) (e4 : hs' 4 = q32 u) (e5 : hs' 5 = q32 l) (a6 : al' 6 = hs' 3) (a7 : al' 7 = q32 u) (a8 : al' 8 = q32 l) (ea : ∀ k, (k < 6 ∨ 8 < k) ∧ (k < 73 ∨ 98 ≤ k) → al' k = al k) : HR hs' st cd fu fl sf od tu tl al' := by
  obtain ⟨tp, sk, nl, bc, fc, tc, au, aw, S, U, L, V, W, X, O, h1, h2, h3, h4, ⟨s1, s2, s3, s4, s5, s6, s7⟩, h6, h7, h8⟩ := h
  have hA1 : A al 1 = tp := A_q h3.2.1 (by omega)
  rw [hA1] at hf
  refine ⟨tp, sk, nl, bc, fc, tc, u, l, S, U, L, V, W, X, O, h1, ?_, ?_, hf, ⟨s1, s2, s3, s4, fun b hb => ?_, fun i hi => ?_, s7⟩, fun k hk => ?_, h7, fun t ht => ?_⟩
  · rw [e1 0 (by omega), e1 1 (by omega), e1 2 (by omega), e1 6 (by omega), e1 9 (by omega), e1 15 (by omega)]
    exact ⟨h2.1, h2.2.1, h2.2.2.1, e4, e5, h2.2.2.2.2.2.1, h2.2.2.2.2.2.2.1, h2.2.2.2.2.2.2.2⟩
  · rw [ea 0 (by omega), ea 1 (by omega), ea 2 (by omega), ea 3 (by omega), ea 4 (by omega), ea 5 (by omega)]
    exact ⟨h3.1, h3.2.1, h3.2.2.1, h3.2.2.2.1, h3.2.2.2.2.1, h3.2.2.2.2.2.1, a6, a7, a8⟩
  · rw [ea _ (by omega), ea _ (by omega)]; exact s5 b hb
  · rw [ea _ (by omega)]; exact s6 i hi
  · obtain ⟨b1, b2, b3, b4, b5, b6, b7⟩ := h6 k hk
    refine ⟨b1, b2, b3, b4, by rw [ea _ (by omega)]; exact b5, by rw [ea _ (by omega)]; exact b6, fun z hz => ?_⟩
    rw [ea _ (by omega)]; exact b7 z hz
  · obtain ⟨b1, b2, b3, b4, b5, b6⟩ := h8 t ht
    exact ⟨b1, b2, b3, b4, by rw [ea _ (by omega)]; exact b5, by rw [ea _ (by omega)]; exact b6⟩
theorem HREL.at {m m' : Mem} {n : Nat} {al al' : Nat → Int32} (h : HREL m n al) {u l : Int} (hf : FLR (A al 1) u l) (er : ∀ a k, n + 1 ≤ a ∧ a < n + 10 → m'.1 a k = m.1 a k) (e1 : ∀ k, k ≠ 3 ∧ k ≠ 4 ∧ k ≠ 5 → m'.1 n k = m.1 n k) (e4 : m'.1 n 4 = q32 u) (e5 : m'.1 n 5 = q32 l) (a6 : al' 6 = m'.1 n 3) (a7 : al' 7 = q32 u) (a8 : al' 8 = q32 l) (ea : ∀ k, (k < 6 ∨ 8 < k) ∧ (k < 73 ∨ 98 ≤ k) → al' k = al k) : HREL m' n al' := by
  have e : ∀ j, 1 ≤ j → j < 10 → m'.1 (n + j) = m.1 (n + j) := fun j h1 h2 => funext fun k => er _ _ (by omega)
  unfold HREL at h ⊢
  rw [e 1 (by omega) (by omega), e 2 (by omega) (by omega), e 3 (by omega) (by omega), e 4 (by omega) (by omega), e 5 (by omega) (by omega), e 7 (by omega) (by omega), e 8 (by omega) (by omega), e 9 (by omega) (by omega)]
  exact h.at hf e1 e4 e5 a6 a7 a8 ea
theorem LDF_b (al : Nat → Int32) (x : FR) : ∀ n i d P, 0 ≤ (LDF al x n i d P).1 ∧ (LDF al x n i d P).1 ≤ 4 := by
  intro n
  induction n with
  | zero => intro i d P; unfold LDF; dsimp only; split <;> omega
  | succ n ih =>
    intro i d P
    unfold LDF
    split
    · exact ih _ _ _
    · split
      · exact ih _ _ _
      · split
        · exact ih _ _ _
        · split
          · dsimp only; omega
          · split
            · dsimp only; omega
            · exact ih _ _ _
theorem LE_b (al : Nat → Int32) (b : Int) (x : FR) : 0 ≤ (LE al b x).1 ∧ (LE al b x).1 ≤ 4 := by
  unfold LE
  split
  · exact LDF_b _ _ _ _ _ _
  · dsimp only; omega
/-- the row behind a press that leads to f -/
def PRS (al : Nat → Int32) (f : FR) : Nat → Int32 := fun k =>
  let ud := (A al 73).toNat
  let n := if ud = 12 then 11 else ud
  if k = 74 + n then al 7 else if k = 86 + n then al 8 else if k = 73 then q32 (n + 1 : Nat) else if k = 7 then q32 f.1 else if k = 8 then q32 f.2 else if k = 6 then al 6 + 1 else if ud = 12 ∧ ((74 ≤ k ∧ k < 85) ∨ (86 ≤ k ∧ k < 97)) then al (k + 1) else al k
def PR (al : Nat → Int32) (b : Int) : Int × (Nat → Int32) := if (LE al b (A al 7, A al 8)).1 = 0 then (0, PRS al (LE al b (A al 7, A al 8)).2) else ((LE al b (A al 7, A al 8)).1, al)
theorem forgetL {F : Nat} {s : List Sh} (hp : ∃ t, s = sB ++ t) : ∀ (n fuel : Nat), n < fuel → ∀ (m : Mem) (i : Nat), RF m → 1 ≤ i → i + n = 12 → ∃ m', nl_X9_forgetEldest_2 F s fuel m 0 (q32 i) = some ((), m') ∧ (∀ k, m'.1 14 k = if i ≤ k + 1 ∧ k < 11 then m.1 14 (k + 1) else m.1 14 k) ∧ (∀ k, m'.1 15 k = if i ≤ k + 1 ∧ k < 11 then m.1 15 (k + 1) else m.1 15 k) ∧ m'.1 0 10 = q32 11 ∧ (∀ a k, (a ≠ 0 ∨ k ≠ 10) ∧ a ≠ 14 ∧ a ≠ 15 → m'.1 a k = m.1 a k) ∧ m'.2 = m.2 := by
  have l14 := ln14 hp
  have l15 := ln15 hp
  intro n
  induction n with
  | zero =>
    intro fuel hf m i hr h1 hi
    obtain ⟨fuel, rfl⟩ : ∃ f, fuel = f + 1 := ⟨fuel - 1, by omega⟩
    refine ⟨wI m 0 10 (q32 11), ?_, fun k => ?_, fun k => ?_, by simp (disch := omega) only [Option.bind_some, bindv, bindv0, bind2_s, bind3_s, ↓reduceIte, Bool.false_eq_true, rZM_0, rZM_1, rZP_0, rZP_1, ptZ_0, ptZ_1, c32i, c64i, ncI, Int.natCast_add, Int.natCast_mul, q32_neg, q64_neg, q32_add, q32_sub, q32_mul, q64_add, q64_sub, q64_mul, q32_64i, q64_32, q32_lt_t, q32_lt_f, q32_le_t, q32_le_f, q32_eq_t, q32_eq_f, q64_lt_t, q64_lt_f, q64_le_t, q64_le_f, q64_eq_t, q64_eq_f, rdI_i, rdL_i, rdR_i, rdN_i, stI_i, stL_i, stR_i, wI_s, wI_n, wL_s, wL_n, wI_2, wI_3, wL_1, wL_3, wR_1, wR_2, Int.toNat_natCast], fun a k h => by simp (disch := omega) only [Option.bind_some, bindv, bindv0, bind2_s, bind3_s, ↓reduceIte, Bool.false_eq_true, rZM_0, rZM_1, rZP_0, rZP_1, ptZ_0, ptZ_1, c32i, c64i, ncI, Int.natCast_add, Int.natCast_mul, q32_neg, q64_neg, q32_add, q32_sub, q32_mul, q64_add, q64_sub, q64_mul, q32_64i, q64_32, q32_lt_t, q32_lt_f, q32_le_t, q32_le_f, q32_eq_t, q32_eq_f, q64_lt_t, q64_lt_f, q64_le_t, q64_le_f, q64_eq_t, q64_eq_f, rdI_i, rdL_i, rdR_i, rdN_i, stI_i, stL_i, stR_i, wI_s, wI_n, wL_s, wL_n, wI_2, wI_3, wL_1, wL_3, wR_1, wR_2, Int.toNat_natCast], rfl⟩
    · show nb_X9_forgetEldest_2 F s (nl_X9_forgetEldest_2 F s fuel) m 0 (q32 i) = _
      unfold nb_X9_forgetEldest_2
      simp (disch := omega) only [Option.bind_some, bindv, bindv0, bind2_s, bind3_s, ↓reduceIte, Bool.false_eq_true, rZM_0, rZM_1, rZP_0, rZP_1, ptZ_0, ptZ_1, c32i, c64i, ncI, Int.natCast_add, Int.natCast_mul, q32_neg, q64_neg, q32_add, q32_sub, q32_mul, q64_add, q64_sub, q64_mul, q32_64i, q64_32, q32_lt_t, q32_lt_f, q32_le_t, q32_le_f, q32_eq_t, q32_eq_f, q64_lt_t, q64_lt_f, q64_le_t, q64_le_f, q64_eq_t, q64_eq_f, rdI_i, rdL_i, rdR_i, rdN_i, stI_i, stL_i, stR_i, wI_s, wI_n, wL_s, wL_n, wI_2, wI_3, wL_1, wL_3, wR_1, wR_2, Int.toNat_natCast]
    · rw [if_neg (by omega)]; simp (disch := omega) only [Option.bind_some, bindv, bindv0, bind2_s, bind3_s, ↓reduceIte, Bool.false_eq_true, rZM_0, rZM_1, rZP_0, rZP_1, ptZ_0, ptZ_1, c32i, c64i, ncI, Int.natCast_add, Int.natCast_mul, q32_neg, q64_neg, q32_add, q32_sub, q32_mul, q64_add, q64_sub, q64_mul, q32_64i, q64_32, q32_lt_t, q32_lt_f, q32_le_t, q32_le_f, q32_eq_t, q32_eq_f, q64_lt_t, q64_lt_f, q64_le_t, q64_le_f, q64_eq_t, q64_eq_f, rdI_i, rdL_i, rdR_i, rdN_i, stI_i, stL_i, stR_i, wI_s, wI_n, wL_s, wL_n, wI_2, wI_3, wL_1, wL_3, wR_1, wR_2, Int.toNat_natCast]
    · rw [if_neg (by omega)]; simp (disch := omega) only [Option.bind_some, bindv, bindv0, bind2_s, bind3_s, ↓reduceIte, Bool.false_eq_true, rZM_0, rZM_1, rZP_0, rZP_1, ptZ_0, ptZ_1, c32i, c64i, ncI, Int.natCast_add, Int.natCast_mul, q32_neg, q64_neg, q32_add, q32_sub, q32_mul, q64_add, q64_sub, q64_mul, q32_64i, q64_32, q32_lt_t, q32_lt_f, q32_le_t, q32_le_f, q32_eq_t, q32_eq_f, q64_lt_t, q64_lt_f, q64_le_t, q64_le_f, q64_eq_t, q64_eq_f, rdI_i, rdL_i, rdR_i, rdN_i, stI_i, stL_i, stR_i, wI_s, wI_n, wL_s, wL_n, wI_2, wI_3, wL_1, wL_3, wR_1, wR_2, Int.toNat_natCast]
  | succ n ih =>
    intro fuel hf m i hr h1 hi
    obtain ⟨fuel, rfl⟩ : ∃ f, fuel = f + 1 := ⟨fuel - 1, by omega⟩
    have r8 := rf0_8 hr
    have r9 := rf0_9 hr
    have e1 : ((i : Int) - 1).toNat = i - 1 := by omega
    obtain ⟨m', p1, p2, p3, p4, p5, p6⟩ := ih fuel (by omega) (wI (wI m 14 (i - 1) (m.1 14 i)) 15 (i - 1) (m.1 15 i)) (i + 1) (hr.same rfl) (by omega) (by omega)
    refine ⟨m', ?_, fun k => ?_, fun k => ?_, p4, fun a k h => ?_, p6⟩
    · show nb_X9_forgetEldest_2 F s (nl_X9_forgetEldest_2 F s fuel) m 0 (q32 i) = _
      unfold nb_X9_forgetEldest_2
      rw [Int.natCast_add] at p1
      simp (disch := omega) only [Option.bind_some, bindv, bindv0, bind2_s, bind3_s, ↓reduceIte, Bool.false_eq_true, rZM_0, rZM_1, rZP_0, rZP_1, ptZ_0, ptZ_1, c32i, c64i, ncI, Int.natCast_add, Int.natCast_mul, q32_neg, q64_neg, q32_add, q32_sub, q32_mul, q64_add, q64_sub, q64_mul, q32_64i, q64_32, q32_lt_t, q32_lt_f, q32_le_t, q32_le_f, q32_eq_t, q32_eq_f, q64_lt_t, q64_lt_f, q64_le_t, q64_le_f, q64_eq_t, q64_eq_f, rdI_i, rdL_i, rdR_i, rdN_i, stI_i, stL_i, stR_i, wI_s, wI_n, wL_s, wL_n, wI_2, wI_3, wL_1, wL_3, wR_1, wR_2, Int.toNat_natCast, r8, r9, e1]
      exact p1
    · rw [p2 k]
      by_cases c : i + 1 ≤ k + 1 ∧ k < 11
      · rw [if_pos c, if_pos (by omega)]; simp (disch := omega) only [Option.bind_some, bindv, bindv0, bind2_s, bind3_s, ↓reduceIte, Bool.false_eq_true, rZM_0, rZM_1, rZP_0, rZP_1, ptZ_0, ptZ_1, c32i, c64i, ncI, Int.natCast_add, Int.natCast_mul, q32_neg, q64_neg, q32_add, q32_sub, q32_mul, q64_add, q64_sub, q64_mul, q32_64i, q64_32, q32_lt_t, q32_lt_f, q32_le_t, q32_le_f, q32_eq_t, q32_eq_f, q64_lt_t, q64_lt_f, q64_le_t, q64_le_f, q64_eq_t, q64_eq_f, rdI_i, rdL_i, rdR_i, rdN_i, stI_i, stL_i, stR_i, wI_s, wI_n, wL_s, wL_n, wI_2, wI_3, wL_1, wL_3, wR_1, wR_2, Int.toNat_natCast]
      · rw [if_neg c]
        by_cases c2 : i ≤ k + 1 ∧ k < 11
        · rw [if_pos c2]
          have : k = i - 1 := by omega
          subst this
          rw [show i - 1 + 1 = i by omega]
          simp (disch := omega) only [Option.bind_some, bindv, bindv0, bind2_s, bind3_s, ↓reduceIte, Bool.false_eq_true, rZM_0, rZM_1, rZP_0, rZP_1, ptZ_0, ptZ_1, c32i, c64i, ncI, Int.natCast_add, Int.natCast_mul, q32_neg, q64_neg, q32_add, q32_sub, q32_mul, q64_add, q64_sub, q64_mul, q32_64i, q64_32, q32_lt_t, q32_lt_f, q32_le_t, q32_le_f, q32_eq_t, q32_eq_f, q64_lt_t, q64_lt_f, q64_le_t, q64_le_f, q64_eq_t, q64_eq_f, rdI_i, rdL_i, rdR_i, rdN_i, stI_i, stL_i, stR_i, wI_s, wI_n, wL_s, wL_n, wI_2, wI_3, wL_1, wL_3, wR_1, wR_2, Int.toNat_natCast]
        · rw [if_neg c2]; simp (disch := omega) only [Option.bind_some, bindv, bindv0, bind2_s, bind3_s, ↓reduceIte, Bool.false_eq_true, rZM_0, rZM_1, rZP_0, rZP_1, ptZ_0, ptZ_1, c32i, c64i, ncI, Int.natCast_add, Int.natCast_mul, q32_neg, q64_neg, q32_add, q32_sub, q32_mul, q64_add, q64_sub, q64_mul, q32_64i, q64_32, q32_lt_t, q32_lt_f, q32_le_t, q32_le_f, q32_eq_t, q32_eq_f, q64_lt_t, q64_lt_f, q64_le_t, q64_le_f, q64_eq_t, q64_eq_f, rdI_i, rdL_i, rdR_i, rdN_i, stI_i, stL_i, stR_i, wI_s, wI_n, wL_s, wL_n, wI_2, wI_3, wL_1, wL_3, wR_1, wR_2, Int.toNat_natCast]
    · rw [p3 k]
      by_cases c : i + 1 ≤ k + 1 ∧ k < 11
      · rw [if_pos c, if_pos (by omega)]; simp (disch := omega) only [Option.bind_some, bindv, bindv0, bind2_s, bind3_s, ↓reduceIte, Bool.false_eq_true, rZM_0, rZM_1, rZP_0, rZP_1, ptZ_0, ptZ_1, c32i, c64i, ncI, Int.natCast_add, Int.natCast_mul, q32_neg, q64_neg, q32_add, q32_sub, q32_mul, q64_add, q64_sub, q64_mul, q32_64i, q64_32, q32_lt_t, q32_lt_f, q32_le_t, q32_le_f, q32_eq_t, q32_eq_f, q64_lt_t, q64_lt_f, q64_le_t, q64_le_f, q64_eq_t, q64_eq_f, rdI_i, rdL_i, rdR_i, rdN_i, stI_i, stL_i, stR_i, wI_s, wI_n, wL_s, wL_n, wI_2, wI_3, wL_1, wL_3, wR_1, wR_2, Int.toNat_natCast]
      · rw [if_neg c]
        by_cases c2 : i ≤ k + 1 ∧ k < 11
        · rw [if_pos c2]
          have : k = i - 1 := by omega
          subst this
          rw [show i - 1 + 1 = i by omega]
          simp (disch := omega) only [Option.bind_some, bindv, bindv0, bind2_s, bind3_s, ↓reduceIte, Bool.false_eq_true, rZM_0, rZM_1, rZP_0, rZP_1, ptZ_0, ptZ_1, c32i, c64i, ncI, Int.natCast_add, Int.natCast_mul, q32_neg, q64_neg, q32_add, q32_sub, q32_mul, q64_add, q64_sub, q64_mul, q32_64i, q64_32, q32_lt_t, q32_lt_f, q32_le_t, q32_le_f, q32_eq_t, q32_eq_f, q64_lt_t, q64_lt_f, q64_le_t, q64_le_f, q64_eq_t, q64_eq_f, rdI_i, rdL_i, rdR_i, rdN_i, stI_i, stL_i, stR_i, wI_s, wI_n, wL_s, wL_n, wI_2, wI_3, wL_1, wL_3, wR_1, wR_2, Int.toNat_natCast]
        · rw [if_neg c2]; simp (disch := omega) only [Option.bind_some, bindv, bindv0, bind2_s, bind3_s, ↓reduceIte, Bool.false_eq_true, rZM_0, rZM_1, rZP_0, rZP_1, ptZ_0, ptZ_1, c32i, c64i, ncI, Int.natCast_add, Int.natCast_mul, q32_neg, q64_neg, q32_add, q32_sub, q32_mul, q64_add, q64_sub, q64_mul, q32_64i, q64_32, q32_lt_t, q32_lt_f, q32_le_t, q32_le_f, q32_eq_t, q32_eq_f, q64_lt_t, q64_lt_f, q64_le_t, q64_le_f, q64_eq_t, q64_eq_f, rdI_i, rdL_i, rdR_i, rdN_i, stI_i, stL_i, stR_i, wI_s, wI_n, wL_s, wL_n, wI_2, wI_3, wL_1, wL_3, wR_1, wR_2, Int.toNat_natCast]
    · rw [p5 a k h]; simp (disch := omega) only [Option.bind_some, bindv, bindv0, bind2_s, bind3_s, ↓reduceIte, Bool.false_eq_true, rZM_0, rZM_1, rZP_0, rZP_1, ptZ_0, ptZ_1, c32i, c64i, ncI, Int.natCast_add, Int.natCast_mul, q32_neg, q64_neg, q32_add, q32_sub, q32_mul, q64_add, q64_sub, q64_mul, q32_64i, q64_32, q32_lt_t, q32_lt_f, q32_le_t, q32_le_f, q32_eq_t, q32_eq_f, q64_lt_t, q64_lt_f, q64_le_t, q64_le_f, q64_eq_t, q64_eq_f, rdI_i, rdL_i, rdR_i, rdN_i, stI_i, stL_i, stR_i, wI_s, wI_n, wL_s, wL_n, wI_2, wI_3, wL_1, wL_3, wR_1, wR_2, Int.toNat_natCast]
theorem A_b (al : Nat → Int32) (k : Nat) : B31 (A al k) := ⟨by have := Int32.le_toInt (al k); unfold A; omega, by have := Int32.toInt_lt (al k); unfold A; omega⟩
theorem A_s (al : Nat → Int32) (k : Nat) : al k = q32 (A al k) := (Int32.ofInt_toInt (al k)).symm
theorem PRS_n {al : Nat → Int32} {f : FR} {ud n : Nat} (hu : al 73 = q32 ud) (h12 : ud ≤ 12) (hn : n = if ud = 12 then 11 else ud) (k : Nat) : PRS al f k = if k = 74 + n then al 7 else if k = 86 + n then al 8 else if k = 73 then q32 (n + 1 : Nat) else if k = 7 then q32 f.1 else if k = 8 then q32 f.2 else if k = 6 then al 6 + 1 else if ud = 12 ∧ ((74 ≤ k ∧ k < 85) ∨ (86 ≤ k ∧ k < 97)) then al (k + 1) else al k := by
  have : (A al 73).toNat = ud := by rw [A_q hu (by omega)]; rfl
  unfold PRS
  simp only [this, ← hn]
theorem n11 {ud n : Nat} (h12 : ud ≤ 12) (hn : n = if ud = 12 then 11 else ud) : n ≤ 11 := by
  split at hn <;> omega
theorem PRS_o {al : Nat → Int32} {f : FR} {ud : Nat} (hu : al 73 = q32 ud) (h12 : ud ≤ 12) {k : Nat} (h : (k < 6 ∨ 8 < k) ∧ (k < 73 ∨ 98 ≤ k)) : PRS al f k = al k := by
  have := n11 h12 rfl
  rw [PRS_n hu h12 rfl, if_neg (by omega), if_neg (by omega), if_neg (by omega), if_neg (by omega), if_neg (by omega), if_neg (by omega), if_neg (by omega)]
theorem press9 {F : Nat} (hF : 1000 ≤ F) {s : List Sh} {m : Mem} {ow : Nat → Nat} {nw : Nat} (hl : LAY s m ow nw) {al : Nat → Int32} (hrel : HREL m nw al) (hU : US m al) {b : Int} (hb : B31 b) : ∃ m', n_X9_pressOne F s m 0 (q32 b) = some (q32 (PR al b).1, m') ∧ KP nw m m' ∧ HREL m' nw (PR al b).2 ∧ US m' (PR al b).2 := by
  have hp := hl.hp
  have hr := hl.rf
  have hn := hl.hn
  have rn := hl.nw
  have r11 := rf0_11 hr
  have r8 := rf0_8 hr
  have r9 := rf0_9 hr
  have l14 := ln14 hp
  have l15 := ln15 hp
  have hx : OKF (A al 7, A al 8) ∧ m.1 nw 4 = q32 (A al 7) ∧ m.1 nw 5 = q32 (A al 8) ∧ al 6 = m.1 nw 3 ∧ FLR (A al 1) (A al 7) (A al 8) := by
    obtain ⟨tp, sk, nl, bc, fc, tc, au, aw, S, U, L, V, W, X, O, h1, h2, h3, h4, -⟩ := hrel
    have hf := h4
    unfold FLR at hf
    rw [A_q h3.2.2.2.2.2.2.2.1 (by omega), A_q h3.2.2.2.2.2.2.2.2 (by omega), A_q h3.2.1 (by omega)]
    exact ⟨okf_of (x := (au, aw)) h4, h2.2.2.2.1, h2.2.2.2.2.1, h3.2.2.2.2.2.2.1, h4⟩
  obtain ⟨hx, x4, x5, x3, hfl⟩ := hx
  have b7 := A_b al 7
  have b8 := A_b al 8
  obtain ⟨ud, u1, u2, u3, u4⟩ := hU
  obtain ⟨m1, p1, p2, p3⟩ := lead9 hF hl hrel hx hb
  have hl1 : LAY s m1 ow nw := hl.same p2.2.2
  unfold PR
  generalize hw : LE al b (A al 7, A al 8) = w at *
  obtain ⟨why, f⟩ := w
  dsimp only at p1 p3 ⊢
  by_cases hz : why = 0
  · subst hz
    rw [if_pos rfl]
    obtain ⟨f1, f2, f3⟩ := p3 rfl
    have g10 : m1.1 0 10 = q32 ud := by rw [p2.1 _ _ (by omega)]; exact u2
    have g4 : m1.1 nw 4 = q32 (A al 7) := by rw [p2.1 _ _ (by omega)]; exact x4
    have g5 : m1.1 nw 5 = q32 (A al 8) := by rw [p2.1 _ _ (by omega)]; exact x5
    have g3 : m1.1 nw 3 = al 6 := by rw [p2.1 _ _ (by omega)]; exact x3.symm
    -- the tail, from a memory in which n may be undone
    have tail : ∀ (mm : Mem) (n : Nat), n < 12 → mm.2.2 = m.2.2 → mm.1 0 10 = q32 n → (∀ k, mm.1 nw k = m1.1 nw k) → (∀ k, mm.1 16 k = m1.1 16 k) → nb_X9_pressOne_48 F s mm 0 = some (0, wI (wI (wI (wI (wI (wI mm 14 n (al 7)) 15 n (al 8)) 0 10 (q32 (n + 1))) nw 4 (q32 f.1)) nw 5 (q32 f.2)) nw 3 (al 6 + 1)) := by
      intro mm n hn12 hrr h10 hnw h16
      unfold nb_X9_pressOne_48
      simp (disch := omega) only [Option.bind_some, bindv, bindv0, bind2_s, bind3_s, ↓reduceIte, Bool.false_eq_true, rZM_0, rZM_1, rZP_0, rZP_1, ptZ_0, ptZ_1, c32i, c64i, ncI, Int.natCast_add, Int.natCast_mul, q32_neg, q64_neg, q32_add, q32_sub, q32_mul, q64_add, q64_sub, q64_mul, q32_64i, q64_32, q32_lt_t, q32_lt_f, q32_le_t, q32_le_f, q32_eq_t, q32_eq_f, q64_lt_t, q64_lt_f, q64_le_t, q64_le_f, q64_eq_t, q64_eq_f, rdI_i, rdL_i, rdR_i, rdN_i, stI_i, stL_i, stR_i, wI_s, wI_n, wL_s, wL_n, wI_2, wI_3, wL_1, wL_3, wR_1, wR_2, Int.toNat_natCast, hrr, r8, r9, rn, r11, h10, hnw, h16, g4, g5, g3, f1, f2, ← A_s]
    have fin : ∀ (mm : Mem) (n : Nat), n < 12 → n = (if ud = 12 then 11 else ud) → KP nw m mm → (∀ k, k < n → mm.1 14 k = al (if ud = 12 then 75 + k else 74 + k) ∧ mm.1 15 k = al (if ud = 12 then 87 + k else 86 + k)) → mm.1 0 10 = q32 n → (∀ k, mm.1 nw k = m1.1 nw k) → (∀ k, mm.1 16 k = m1.1 16 k) → ∃ m', nb_X9_pressOne_48 F s mm 0 = some (q32 0, m') ∧ KP nw m m' ∧ HREL m' nw (PRS al f) ∧ US m' (PRS al f) := by
      intro mm n hn12 hne hk hund h10 hnw h16
      have hkk := hk.1
      refine ⟨_, tail mm n hn12 hk.2.2 h10 hnw h16, (((((hk.I (by omega)).I (by omega)).I (by omega)).I (by omega)).I (by omega)).I (by omega), ?_, ?_⟩
      · refine HREL.at (u := f.1) (l := f.2) hrel f3 (fun a k hk => ?_) (fun k hk => ?_) ?_ ?_ ?_ ?_ ?_ (fun k hk => PRS_o u3 u1 hk)
        · have e := hk.1
          simp (disch := omega) only [Option.bind_some, bindv, bindv0, bind2_s, bind3_s, ↓reduceIte, Bool.false_eq_true, rZM_0, rZM_1, rZP_0, rZP_1, ptZ_0, ptZ_1, c32i, c64i, ncI, Int.natCast_add, Int.natCast_mul, q32_neg, q64_neg, q32_add, q32_sub, q32_mul, q64_add, q64_sub, q64_mul, q32_64i, q64_32, q32_lt_t, q32_lt_f, q32_le_t, q32_le_f, q32_eq_t, q32_eq_f, q64_lt_t, q64_lt_f, q64_le_t, q64_le_f, q64_eq_t, q64_eq_f, rdI_i, rdL_i, rdR_i, rdN_i, stI_i, stL_i, stR_i, wI_s, wI_n, wL_s, wL_n, wI_2, wI_3, wL_1, wL_3, wR_1, wR_2, Int.toNat_natCast]
          exact hkk a k (by omega)
        · simp (disch := omega) only [Option.bind_some, bindv, bindv0, bind2_s, bind3_s, ↓reduceIte, Bool.false_eq_true, rZM_0, rZM_1, rZP_0, rZP_1, ptZ_0, ptZ_1, c32i, c64i, ncI, Int.natCast_add, Int.natCast_mul, q32_neg, q64_neg, q32_add, q32_sub, q32_mul, q64_add, q64_sub, q64_mul, q32_64i, q64_32, q32_lt_t, q32_lt_f, q32_le_t, q32_le_f, q32_eq_t, q32_eq_f, q64_lt_t, q64_lt_f, q64_le_t, q64_le_f, q64_eq_t, q64_eq_f, rdI_i, rdL_i, rdR_i, rdN_i, stI_i, stL_i, stR_i, wI_s, wI_n, wL_s, wL_n, wI_2, wI_3, wL_1, wL_3, wR_1, wR_2, Int.toNat_natCast, hnw]
          exact p2.1 _ _ (by omega)
        · simp (disch := omega) only [Option.bind_some, bindv, bindv0, bind2_s, bind3_s, ↓reduceIte, Bool.false_eq_true, rZM_0, rZM_1, rZP_0, rZP_1, ptZ_0, ptZ_1, c32i, c64i, ncI, Int.natCast_add, Int.natCast_mul, q32_neg, q64_neg, q32_add, q32_sub, q32_mul, q64_add, q64_sub, q64_mul, q32_64i, q64_32, q32_lt_t, q32_lt_f, q32_le_t, q32_le_f, q32_eq_t, q32_eq_f, q64_lt_t, q64_lt_f, q64_le_t, q64_le_f, q64_eq_t, q64_eq_f, rdI_i, rdL_i, rdR_i, rdN_i, stI_i, stL_i, stR_i, wI_s, wI_n, wL_s, wL_n, wI_2, wI_3, wL_1, wL_3, wR_1, wR_2, Int.toNat_natCast]
        · simp (disch := omega) only [Option.bind_some, bindv, bindv0, bind2_s, bind3_s, ↓reduceIte, Bool.false_eq_true, rZM_0, rZM_1, rZP_0, rZP_1, ptZ_0, ptZ_1, c32i, c64i, ncI, Int.natCast_add, Int.natCast_mul, q32_neg, q64_neg, q32_add, q32_sub, q32_mul, q64_add, q64_sub, q64_mul, q32_64i, q64_32, q32_lt_t, q32_lt_f, q32_le_t, q32_le_f, q32_eq_t, q32_eq_f, q64_lt_t, q64_lt_f, q64_le_t, q64_le_f, q64_eq_t, q64_eq_f, rdI_i, rdL_i, rdR_i, rdN_i, stI_i, stL_i, stR_i, wI_s, wI_n, wL_s, wL_n, wI_2, wI_3, wL_1, wL_3, wR_1, wR_2, Int.toNat_natCast]
        · rw [PRS_n u3 u1 hne, if_neg (by omega), if_neg (by omega), if_neg (by omega), if_neg (by omega), if_neg (by omega), if_pos rfl]; simp (disch := omega) only [Option.bind_some, bindv, bindv0, bind2_s, bind3_s, ↓reduceIte, Bool.false_eq_true, rZM_0, rZM_1, rZP_0, rZP_1, ptZ_0, ptZ_1, c32i, c64i, ncI, Int.natCast_add, Int.natCast_mul, q32_neg, q64_neg, q32_add, q32_sub, q32_mul, q64_add, q64_sub, q64_mul, q32_64i, q64_32, q32_lt_t, q32_lt_f, q32_le_t, q32_le_f, q32_eq_t, q32_eq_f, q64_lt_t, q64_lt_f, q64_le_t, q64_le_f, q64_eq_t, q64_eq_f, rdI_i, rdL_i, rdR_i, rdN_i, stI_i, stL_i, stR_i, wI_s, wI_n, wL_s, wL_n, wI_2, wI_3, wL_1, wL_3, wR_1, wR_2, Int.toNat_natCast]
        · rw [PRS_n u3 u1 hne, if_neg (by omega), if_neg (by omega), if_neg (by omega), if_pos rfl]
        · rw [PRS_n u3 u1 hne, if_neg (by omega), if_neg (by omega), if_neg (by omega), if_neg (by omega), if_pos rfl]
      · refine ⟨n + 1, by omega, by simp (disch := omega) only [Option.bind_some, bindv, bindv0, bind2_s, bind3_s, ↓reduceIte, Bool.false_eq_true, rZM_0, rZM_1, rZP_0, rZP_1, ptZ_0, ptZ_1, c32i, c64i, ncI, Int.natCast_add, Int.natCast_mul, q32_neg, q64_neg, q32_add, q32_sub, q32_mul, q64_add, q64_sub, q64_mul, q32_64i, q64_32, q32_lt_t, q32_lt_f, q32_le_t, q32_le_f, q32_eq_t, q32_eq_f, q64_lt_t, q64_lt_f, q64_le_t, q64_le_f, q64_eq_t, q64_eq_f, rdI_i, rdL_i, rdR_i, rdN_i, stI_i, stL_i, stR_i, wI_s, wI_n, wL_s, wL_n, wI_2, wI_3, wL_1, wL_3, wR_1, wR_2, Int.toNat_natCast], ?_, fun k hk => ?_⟩
        · rw [PRS_n u3 u1 hne, if_neg (by omega), if_neg (by omega), if_pos rfl]
        · have hA : PRS al f 1 = al 1 := PRS_o u3 u1 (by omega)
          rw [hA]
          by_cases ek : k = n
          · subst ek
            refine ⟨?_, ?_, A al 7, A al 8, ?_, ?_, hfl⟩
            · rw [PRS_n u3 u1 hne, if_pos rfl]; simp (disch := omega) only [Option.bind_some, bindv, bindv0, bind2_s, bind3_s, ↓reduceIte, Bool.false_eq_true, rZM_0, rZM_1, rZP_0, rZP_1, ptZ_0, ptZ_1, c32i, c64i, ncI, Int.natCast_add, Int.natCast_mul, q32_neg, q64_neg, q32_add, q32_sub, q32_mul, q64_add, q64_sub, q64_mul, q32_64i, q64_32, q32_lt_t, q32_lt_f, q32_le_t, q32_le_f, q32_eq_t, q32_eq_f, q64_lt_t, q64_lt_f, q64_le_t, q64_le_f, q64_eq_t, q64_eq_f, rdI_i, rdL_i, rdR_i, rdN_i, stI_i, stL_i, stR_i, wI_s, wI_n, wL_s, wL_n, wI_2, wI_3, wL_1, wL_3, wR_1, wR_2, Int.toNat_natCast]
            · rw [PRS_n u3 u1 hne, if_neg (by omega), if_pos rfl]; simp (disch := omega) only [Option.bind_some, bindv, bindv0, bind2_s, bind3_s, ↓reduceIte, Bool.false_eq_true, rZM_0, rZM_1, rZP_0, rZP_1, ptZ_0, ptZ_1, c32i, c64i, ncI, Int.natCast_add, Int.natCast_mul, q32_neg, q64_neg, q32_add, q32_sub, q32_mul, q64_add, q64_sub, q64_mul, q32_64i, q64_32, q32_lt_t, q32_lt_f, q32_le_t, q32_le_f, q32_eq_t, q32_eq_f, q64_lt_t, q64_lt_f, q64_le_t, q64_le_f, q64_eq_t, q64_eq_f, rdI_i, rdL_i, rdR_i, rdN_i, stI_i, stL_i, stR_i, wI_s, wI_n, wL_s, wL_n, wI_2, wI_3, wL_1, wL_3, wR_1, wR_2, Int.toNat_natCast]
            · simp (disch := omega) only [Option.bind_some, bindv, bindv0, bind2_s, bind3_s, ↓reduceIte, Bool.false_eq_true, rZM_0, rZM_1, rZP_0, rZP_1, ptZ_0, ptZ_1, c32i, c64i, ncI, Int.natCast_add, Int.natCast_mul, q32_neg, q64_neg, q32_add, q32_sub, q32_mul, q64_add, q64_sub, q64_mul, q32_64i, q64_32, q32_lt_t, q32_lt_f, q32_le_t, q32_le_f, q32_eq_t, q32_eq_f, q64_lt_t, q64_lt_f, q64_le_t, q64_le_f, q64_eq_t, q64_eq_f, rdI_i, rdL_i, rdR_i, rdN_i, stI_i, stL_i, stR_i, wI_s, wI_n, wL_s, wL_n, wI_2, wI_3, wL_1, wL_3, wR_1, wR_2, Int.toNat_natCast]; exact A_s al 7
            · simp (disch := omega) only [Option.bind_some, bindv, bindv0, bind2_s, bind3_s, ↓reduceIte, Bool.false_eq_true, rZM_0, rZM_1, rZP_0, rZP_1, ptZ_0, ptZ_1, c32i, c64i, ncI, Int.natCast_add, Int.natCast_mul, q32_neg, q64_neg, q32_add, q32_sub, q32_mul, q64_add, q64_sub, q64_mul, q32_64i, q64_32, q32_lt_t, q32_lt_f, q32_le_t, q32_le_f, q32_eq_t, q32_eq_f, q64_lt_t, q64_lt_f, q64_le_t, q64_le_f, q64_eq_t, q64_eq_f, rdI_i, rdL_i, rdR_i, rdN_i, stI_i, stL_i, stR_i, wI_s, wI_n, wL_s, wL_n, wI_2, wI_3, wL_1, wL_3, wR_1, wR_2, Int.toNat_natCast]; exact A_s al 8
          · obtain ⟨v1, v2⟩ := hund k (by omega)
            by_cases h12 : ud = 12
            · rw [if_pos h12] at v1 v2 hne
              obtain ⟨w1, w2, u, l, w3, w4, w5⟩ := u4 (k + 1) (by omega)
              refine ⟨?_, ?_, u, l, ?_, ?_, w5⟩
              · rw [PRS_n u3 u1 (n := n) (by rw [if_pos h12]; exact hne), if_neg (by omega), if_neg (by omega), if_neg (by omega), if_neg (by omega), if_neg (by omega), if_neg (by omega), if_pos (by omega)]
                simp (disch := omega) only [Option.bind_some, bindv, bindv0, bind2_s, bind3_s, ↓reduceIte, Bool.false_eq_true, rZM_0, rZM_1, rZP_0, rZP_1, ptZ_0, ptZ_1, c32i, c64i, ncI, Int.natCast_add, Int.natCast_mul, q32_neg, q64_neg, q32_add, q32_sub, q32_mul, q64_add, q64_sub, q64_mul, q32_64i, q64_32, q32_lt_t, q32_lt_f, q32_le_t, q32_le_f, q32_eq_t, q32_eq_f, q64_lt_t, q64_lt_f, q64_le_t, q64_le_f, q64_eq_t, q64_eq_f, rdI_i, rdL_i, rdR_i, rdN_i, stI_i, stL_i, stR_i, wI_s, wI_n, wL_s, wL_n, wI_2, wI_3, wL_1, wL_3, wR_1, wR_2, Int.toNat_natCast, v1]
                congr 1; omega
              · rw [PRS_n u3 u1 (n := n) (by rw [if_pos h12]; exact hne), if_neg (by omega), if_neg (by omega), if_neg (by omega), if_neg (by omega), if_neg (by omega), if_neg (by omega), if_pos (by omega)]
                simp (disch := omega) only [Option.bind_some, bindv, bindv0, bind2_s, bind3_s, ↓reduceIte, Bool.false_eq_true, rZM_0, rZM_1, rZP_0, rZP_1, ptZ_0, ptZ_1, c32i, c64i, ncI, Int.natCast_add, Int.natCast_mul, q32_neg, q64_neg, q32_add, q32_sub, q32_mul, q64_add, q64_sub, q64_mul, q32_64i, q64_32, q32_lt_t, q32_lt_f, q32_le_t, q32_le_f, q32_eq_t, q32_eq_f, q64_lt_t, q64_lt_f, q64_le_t, q64_le_f, q64_eq_t, q64_eq_f, rdI_i, rdL_i, rdR_i, rdN_i, stI_i, stL_i, stR_i, wI_s, wI_n, wL_s, wL_n, wI_2, wI_3, wL_1, wL_3, wR_1, wR_2, Int.toNat_natCast, v2]
                congr 1; omega
              · simp (disch := omega) only [Option.bind_some, bindv, bindv0, bind2_s, bind3_s, ↓reduceIte, Bool.false_eq_true, rZM_0, rZM_1, rZP_0, rZP_1, ptZ_0, ptZ_1, c32i, c64i, ncI, Int.natCast_add, Int.natCast_mul, q32_neg, q64_neg, q32_add, q32_sub, q32_mul, q64_add, q64_sub, q64_mul, q32_64i, q64_32, q32_lt_t, q32_lt_f, q32_le_t, q32_le_f, q32_eq_t, q32_eq_f, q64_lt_t, q64_lt_f, q64_le_t, q64_le_f, q64_eq_t, q64_eq_f, rdI_i, rdL_i, rdR_i, rdN_i, stI_i, stL_i, stR_i, wI_s, wI_n, wL_s, wL_n, wI_2, wI_3, wL_1, wL_3, wR_1, wR_2, Int.toNat_natCast, v1]; rw [← w3, ← w1]; congr 1; omega
              · simp (disch := omega) only [Option.bind_some, bindv, bindv0, bind2_s, bind3_s, ↓reduceIte, Bool.false_eq_true, rZM_0, rZM_1, rZP_0, rZP_1, ptZ_0, ptZ_1, c32i, c64i, ncI, Int.natCast_add, Int.natCast_mul, q32_neg, q64_neg, q32_add, q32_sub, q32_mul, q64_add, q64_sub, q64_mul, q32_64i, q64_32, q32_lt_t, q32_lt_f, q32_le_t, q32_le_f, q32_eq_t, q32_eq_f, q64_lt_t, q64_lt_f, q64_le_t, q64_le_f, q64_eq_t, q64_eq_f, rdI_i, rdL_i, rdR_i, rdN_i, stI_i, stL_i, stR_i, wI_s, wI_n, wL_s, wL_n, wI_2, wI_3, wL_1, wL_3, wR_1, wR_2, Int.toNat_natCast, v2]; rw [← w4, ← w2]; congr 1; omega
            · rw [if_neg h12] at v1 v2 hne
              obtain ⟨w1, w2, u, l, w3, w4, w5⟩ := u4 k (by omega)
              refine ⟨?_, ?_, u, l, ?_, ?_, w5⟩
              · rw [PRS_n u3 u1 (n := n) (by rw [if_neg h12]; exact hne), if_neg (by omega), if_neg (by omega), if_neg (by omega), if_neg (by omega), if_neg (by omega), if_neg (by omega), if_neg (by omega)]
                simp (disch := omega) only [Option.bind_some, bindv, bindv0, bind2_s, bind3_s, ↓reduceIte, Bool.false_eq_true, rZM_0, rZM_1, rZP_0, rZP_1, ptZ_0, ptZ_1, c32i, c64i, ncI, Int.natCast_add, Int.natCast_mul, q32_neg, q64_neg, q32_add, q32_sub, q32_mul, q64_add, q64_sub, q64_mul, q32_64i, q64_32, q32_lt_t, q32_lt_f, q32_le_t, q32_le_f, q32_eq_t, q32_eq_f, q64_lt_t, q64_lt_f, q64_le_t, q64_le_f, q64_eq_t, q64_eq_f, rdI_i, rdL_i, rdR_i, rdN_i, stI_i, stL_i, stR_i, wI_s, wI_n, wL_s, wL_n, wI_2, wI_3, wL_1, wL_3, wR_1, wR_2, Int.toNat_natCast, v1]
              · rw [PRS_n u3 u1 (n := n) (by rw [if_neg h12]; exact hne), if_neg (by omega), if_neg (by omega), if_neg (by omega), if_neg (by omega), if_neg (by omega), if_neg (by omega), if_neg (by omega)]
                simp (disch := omega) only [Option.bind_some, bindv, bindv0, bind2_s, bind3_s, ↓reduceIte, Bool.false_eq_true, rZM_0, rZM_1, rZP_0, rZP_1, ptZ_0, ptZ_1, c32i, c64i, ncI, Int.natCast_add, Int.natCast_mul, q32_neg, q64_neg, q32_add, q32_sub, q32_mul, q64_add, q64_sub, q64_mul, q32_64i, q64_32, q32_lt_t, q32_lt_f, q32_le_t, q32_le_f, q32_eq_t, q32_eq_f, q64_lt_t, q64_lt_f, q64_le_t, q64_le_f, q64_eq_t, q64_eq_f, rdI_i, rdL_i, rdR_i, rdN_i, stI_i, stL_i, stR_i, wI_s, wI_n, wL_s, wL_n, wI_2, wI_3, wL_1, wL_3, wR_1, wR_2, Int.toNat_natCast, v2]
              · simp (disch := omega) only [Option.bind_some, bindv, bindv0, bind2_s, bind3_s, ↓reduceIte, Bool.false_eq_true, rZM_0, rZM_1, rZP_0, rZP_1, ptZ_0, ptZ_1, c32i, c64i, ncI, Int.natCast_add, Int.natCast_mul, q32_neg, q64_neg, q32_add, q32_sub, q32_mul, q64_add, q64_sub, q64_mul, q32_64i, q64_32, q32_lt_t, q32_lt_f, q32_le_t, q32_le_f, q32_eq_t, q32_eq_f, q64_lt_t, q64_lt_f, q64_le_t, q64_le_f, q64_eq_t, q64_eq_f, rdI_i, rdL_i, rdR_i, rdN_i, stI_i, stL_i, stR_i, wI_s, wI_n, wL_s, wL_n, wI_2, wI_3, wL_1, wL_3, wR_1, wR_2, Int.toNat_natCast, v1]; rw [← w3, ← w1]
              · simp (disch := omega) only [Option.bind_some, bindv, bindv0, bind2_s, bind3_s, ↓reduceIte, Bool.false_eq_true, rZM_0, rZM_1, rZP_0, rZP_1, ptZ_0, ptZ_1, c32i, c64i, ncI, Int.natCast_add, Int.natCast_mul, q32_neg, q64_neg, q32_add, q32_sub, q32_mul, q64_add, q64_sub, q64_mul, q32_64i, q64_32, q32_lt_t, q32_lt_f, q32_le_t, q32_le_f, q32_eq_t, q32_eq_f, q64_lt_t, q64_lt_f, q64_le_t, q64_le_f, q64_eq_t, q64_eq_f, rdI_i, rdL_i, rdR_i, rdN_i, stI_i, stL_i, stR_i, wI_s, wI_n, wL_s, wL_n, wI_2, wI_3, wL_1, wL_3, wR_1, wR_2, Int.toNat_natCast, v2]; rw [← w4, ← w2]
    by_cases h12 : ud = 12
    · obtain ⟨m2, q1, q2, q3, q4, q5, q6⟩ := forgetL (F := F) hp 11 F (by omega) m1 1 hl1.rf (by omega) rfl
      have kf : KP nw m m2 := p2.kp.tr ⟨fun a k h => q5 a k (by omega), fun a k _ => by rw [q6], by rw [q6]⟩
      obtain ⟨m', t1, t2, t3, t4⟩ := fin m2 11 (by omega) (by rw [if_pos h12]) kf (fun k hk => by
        rw [if_pos h12, if_pos h12, q2 k, q3 k, if_pos (by omega), if_pos (by omega), p2.1 _ _ (by omega), p2.1 _ _ (by omega)]
        obtain ⟨w1, w2, -⟩ := u4 (k + 1) (by omega)
        rw [← w1, ← w2]
        exact ⟨by congr 1; omega, by congr 1; omega⟩) q4 (fun k => q5 _ _ (by omega)) (fun k => q5 _ _ (by omega))
      refine ⟨m', ?_, t2, t3, t4⟩
      have q1' : n_X9_forgetEldest F s m1 0 = some ((), m2) := q1
      unfold n_X9_pressOne nb_X9_pressOne_0
      simp (disch := omega) only [Option.bind_some, bindv, bindv0, bind2_s, bind3_s, ↓reduceIte, Bool.false_eq_true, rZM_0, rZM_1, rZP_0, rZP_1, ptZ_0, ptZ_1, c32i, c64i, ncI, Int.natCast_add, Int.natCast_mul, q32_neg, q64_neg, q32_add, q32_sub, q32_mul, q64_add, q64_sub, q64_mul, q32_64i, q64_32, q32_lt_t, q32_lt_f, q32_le_t, q32_le_f, q32_eq_t, q32_eq_f, q64_lt_t, q64_lt_f, q64_le_t, q64_le_f, q64_eq_t, q64_eq_f, rdI_i, rdL_i, rdR_i, rdN_i, stI_i, stL_i, stR_i, wI_s, wI_n, wL_s, wL_n, wI_2, wI_3, wL_1, wL_3, wR_1, wR_2, Int.toNat_natCast, r11, rn, x4, x5, p1, g10, q1', t1]
    · obtain ⟨m', t1, t2, t3, t4⟩ := fin m1 ud (by omega) (by rw [if_neg h12]) p2.kp (fun k hk => by
        rw [if_neg h12, if_neg h12, p2.1 _ _ (by omega), p2.1 _ _ (by omega)]
        obtain ⟨w1, w2, -⟩ := u4 k (by omega)
        exact ⟨w1.symm, w2.symm⟩) g10 (fun k => rfl) (fun k => rfl)
      refine ⟨m', ?_, t2, t3, t4⟩
      unfold n_X9_pressOne nb_X9_pressOne_0
      simp (disch := omega) only [Option.bind_some, bindv, bindv0, bind2_s, bind3_s, ↓reduceIte, Bool.false_eq_true, rZM_0, rZM_1, rZP_0, rZP_1, ptZ_0, ptZ_1, c32i, c64i, ncI, Int.natCast_add, Int.natCast_mul, q32_neg, q64_neg, q32_add, q32_sub, q32_mul, q64_add, q64_sub, q64_mul, q32_64i, q64_32, q32_lt_t, q32_lt_f, q32_le_t, q32_le_f, q32_eq_t, q32_eq_f, q64_lt_t, q64_lt_f, q64_le_t, q64_le_f, q64_eq_t, q64_eq_f, rdI_i, rdL_i, rdR_i, rdN_i, stI_i, stL_i, stR_i, wI_s, wI_n, wL_s, wL_n, wI_2, wI_3, wL_1, wL_3, wR_1, wR_2, Int.toNat_natCast, r11, rn, x4, x5, p1, g10, t1]
  · rw [if_neg hz]
    refine ⟨m1, ?_, p2.kp, hrel.same (fun j hj => funext fun k => p2.1 _ k (by omega)) (fun _ _ => rfl), ?_⟩
    · have hwb := LE_b al b (A al 7, A al 8)
      rw [hw] at hwb
      dsimp only at hwb
      unfold n_X9_pressOne nb_X9_pressOne_0
      simp (disch := omega) only [Option.bind_some, bindv, bindv0, bind2_s, bind3_s, ↓reduceIte, Bool.false_eq_true, rZM_0, rZM_1, rZP_0, rZP_1, ptZ_0, ptZ_1, c32i, c64i, ncI, Int.natCast_add, Int.natCast_mul, q32_neg, q64_neg, q32_add, q32_sub, q32_mul, q64_add, q64_sub, q64_mul, q32_64i, q64_32, q32_lt_t, q32_lt_f, q32_le_t, q32_le_f, q32_eq_t, q32_eq_f, q64_lt_t, q64_lt_f, q64_le_t, q64_le_f, q64_eq_t, q64_eq_f, rdI_i, rdL_i, rdR_i, rdN_i, stI_i, stL_i, stR_i, wI_s, wI_n, wL_s, wL_n, wI_2, wI_3, wL_1, wL_3, wR_1, wR_2, Int.toNat_natCast, r11, rn, x4, x5, p1]
    · exact ⟨ud, u1, by rw [p2.1 _ _ (by omega)]; exact u2, u3, fun k hk => by rw [p2.1 _ _ (by omega), p2.1 _ _ (by omega)]; exact u4 k hk⟩
/-! presses of the reference -/
theorem WA.at {al : Nat → Int32} (h : WA al) : ∃ tp : Nat, 1 ≤ tp ∧ tp ≤ 9 ∧ al 1 = q32 tp ∧ A al 1 = tp ∧ FLR tp (A al 7) (A al 8) ∧ al 7 = q32 (A al 7) ∧ al 8 = q32 (A al 8) ∧ ∃ bc : Nat, bc ≤ 6 ∧ al 2 = q32 bc ∧ A al 2 = bc := by
  obtain ⟨hs, st, cd, fu, fl, sf, od, tu, tl, tp, sk, nl, bc, fc, tc, au, aw, S, U, L, V, W, X, O, h1, h2, h3, h4, -⟩ := h
  have hf := h4
  unfold FLR at hf
  rw [A_q h3.2.2.2.2.2.2.2.1 (by omega), A_q h3.2.2.2.2.2.2.2.2 (by omega), A_q h3.2.1 (by omega), A_q h3.2.2.1 (by omega)]
  exact ⟨tp, by omega, by omega, h3.2.1, rfl, h4, h3.2.2.2.2.2.2.2.1, h3.2.2.2.2.2.2.2.2, bc, by omega, h3.2.2.1, rfl⟩
theorem lead10n {F : Nat} (hF : 1000 ≤ F) {s : List Sh} {m : Mem} (hp : ∃ t, s = sB ++ t) (hr : RF m) {al : Nat → Int32} (hw : WA al) (hm : ∀ k, k < 999 → m.1 24 k = al k) {b : Int} (hb : B31 b) : ∃ m', n_X10_leadsNow F s m 23 (q32 b) = some (q32 (LE al b (A al 7, A al 8)).1, m') ∧ K10 m m' ∧ ((LE al b (A al 7, A al 8)).1 = 0 → m'.2.1 23 15 = q64 (LE al b (A al 7, A al 8)).2.1 ∧ m'.2.1 23 16 = q64 (LE al b (A al 7, A al 8)).2.2) := by
  obtain ⟨tp, t1, t2, t3, t4, t5, t6, t7, -⟩ := hw.at
  have r1 := rf23_1 hr
  have l24 := ln24 hp
  have b7 := A_b al 7
  have b8 := A_b al 8
  have c7 : m.1 24 7 = q32 (A al 7) := by rw [hm 7 (by omega)]; exact t6
  have c8 : m.1 24 8 = q32 (A al 8) := by rw [hm 8 (by omega)]; exact t7
  have e7 : (7 : Int).toNat = 7 := rfl
  have e8 : (8 : Int).toNat = 8 := rfl
  obtain ⟨m1, p1, p2, p3⟩ := lead10 hF hp hr hw hm (okf_of (x := (A al 7, A al 8)) t5) hb
  refine ⟨m1, ?_, p2, p3⟩
  unfold n_X10_leadsNow nb_X10_leadsNow_0
  dsimp only at p1
  simp (disch := omega) only [Option.bind_some, bindv, bindv0, bind2_s, bind3_s, ↓reduceIte, Bool.false_eq_true, rZM_0, rZM_1, rZP_0, rZP_1, ptZ_0, ptZ_1, c32i, c64i, ncI, Int.natCast_add, Int.natCast_mul, q32_neg, q64_neg, q32_add, q32_sub, q32_mul, q64_add, q64_sub, q64_mul, q32_64i, q64_32, q32_lt_t, q32_lt_f, q32_le_t, q32_le_f, q32_eq_t, q32_eq_f, q64_lt_t, q64_lt_f, q64_le_t, q64_le_f, q64_eq_t, q64_eq_f, rdI_i, rdL_i, rdR_i, rdN_i, stI_i, stL_i, stR_i, wI_s, wI_n, wL_s, wL_n, wI_2, wI_3, wL_1, wL_3, wR_1, wR_2, Int.toNat_natCast, r1, e7, e8, c7, c8, p1]
theorem presses89 {F : Nat} {s : List Sh} {m : Mem} (hp : ∃ t, s = sB ++ t) (hr : RF m) {n : Nat} (hn : n < 12) (h73 : m.1 24 73 = q32 n) {f : FR} (h15 : m.2.1 23 15 = q64 f.1) (h16 : m.2.1 23 16 = q64 f.2) : nb_X10_presses_89 F s m 23 = some (0, wI (wI (wI (wI (wI (wI m 24 (74 + n) (m.1 24 7)) 24 (86 + n) (m.1 24 8)) 24 73 (q32 (n + 1))) 24 7 (q32 f.1)) 24 8 (q32 f.2)) 24 6 (m.1 24 6 + 1)) := by
  have r1 := rf23_1 hr
  have l24 := ln24 hp
  have e73 : (73 : Int).toNat = 73 := rfl
  have e6 : (6 : Int).toNat = 6 := rfl
  have e7 : (7 : Int).toNat = 7 := rfl
  have e8 : (8 : Int).toNat = 8 := rfl
  have e74 : (74 + (n : Int)).toNat = 74 + n := by omega
  have e86 : (86 + (n : Int)).toNat = 86 + n := by omega
  unfold nb_X10_presses_89
  simp (disch := omega) only [Option.bind_some, bindv, bindv0, bind2_s, bind3_s, ↓reduceIte, Bool.false_eq_true, rZM_0, rZM_1, rZP_0, rZP_1, ptZ_0, ptZ_1, c32i, c64i, ncI, Int.natCast_add, Int.natCast_mul, q32_neg, q64_neg, q32_add, q32_sub, q32_mul, q64_add, q64_sub, q64_mul, q32_64i, q64_32, q32_lt_t, q32_lt_f, q32_le_t, q32_le_f, q32_eq_t, q32_eq_f, q64_lt_t, q64_lt_f, q64_le_t, q64_le_f, q64_eq_t, q64_eq_f, rdI_i, rdL_i, rdR_i, rdN_i, stI_i, stL_i, stR_i, wI_s, wI_n, wL_s, wL_n, wI_2, wI_3, wL_1, wL_3, wR_1, wR_2, Int.toNat_natCast, r1, e73, e6, e7, e8, e74, e86, h73, h15, h16]
theorem shiftL {F : Nat} {s : List Sh} (hp : ∃ t, s = sB ++ t) : ∀ (n fuel : Nat), n < fuel → ∀ (m : Mem) (i : Nat), RF m → m.1 24 73 = q32 12 → i + n = 11 → ∃ m', nl_X10_presses_26 F s fuel m 23 (q32 i) = nb_X10_presses_89 F s m' 23 ∧ m'.1 24 73 = q32 11 ∧ (∀ k, k ≠ 73 → m'.1 24 k = if (74 + i ≤ k ∧ k < 85) ∨ (86 + i ≤ k ∧ k < 97) then m.1 24 (k + 1) else m.1 24 k) ∧ (∀ a k, a ≠ 24 → m'.1 a k = m.1 a k) ∧ m'.2 = m.2 := by
  have l24 := ln24 hp
  have e73 : (73 : Int).toNat = 73 := rfl
  intro n
  induction n with
  | zero =>
    intro fuel hf m i hr h73 hi
    obtain ⟨fuel, rfl⟩ : ∃ f, fuel = f + 1 := ⟨fuel - 1, by omega⟩
    have r1 := rf23_1 hr
    have e11 : q32 (12 - 1) = q32 11 := rfl
    refine ⟨wI m 24 73 (q32 11), ?_, by simp (disch := omega) only [Option.bind_some, bindv, bindv0, bind2_s, bind3_s, ↓reduceIte, Bool.false_eq_true, rZM_0, rZM_1, rZP_0, rZP_1, ptZ_0, ptZ_1, c32i, c64i, ncI, Int.natCast_add, Int.natCast_mul, q32_neg, q64_neg, q32_add, q32_sub, q32_mul, q64_add, q64_sub, q64_mul, q32_64i, q64_32, q32_lt_t, q32_lt_f, q32_le_t, q32_le_f, q32_eq_t, q32_eq_f, q64_lt_t, q64_lt_f, q64_le_t, q64_le_f, q64_eq_t, q64_eq_f, rdI_i, rdL_i, rdR_i, rdN_i, stI_i, stL_i, stR_i, wI_s, wI_n, wL_s, wL_n, wI_2, wI_3, wL_1, wL_3, wR_1, wR_2, Int.toNat_natCast], fun k hk => ?_, fun a k h => by simp (disch := omega) only [Option.bind_some, bindv, bindv0, bind2_s, bind3_s, ↓reduceIte, Bool.false_eq_true, rZM_0, rZM_1, rZP_0, rZP_1, ptZ_0, ptZ_1, c32i, c64i, ncI, Int.natCast_add, Int.natCast_mul, q32_neg, q64_neg, q32_add, q32_sub, q32_mul, q64_add, q64_sub, q64_mul, q32_64i, q64_32, q32_lt_t, q32_lt_f, q32_le_t, q32_le_f, q32_eq_t, q32_eq_f, q64_lt_t, q64_lt_f, q64_le_t, q64_le_f, q64_eq_t, q64_eq_f, rdI_i, rdL_i, rdR_i, rdN_i, stI_i, stL_i, stR_i, wI_s, wI_n, wL_s, wL_n, wI_2, wI_3, wL_1, wL_3, wR_1, wR_2, Int.toNat_natCast], rfl⟩
    · show nb_X10_presses_26 F s (nl_X10_presses_26 F s fuel) m 23 (q32 i) = _
      unfold nb_X10_presses_26
      simp (disch := omega) only [Option.bind_some, bindv, bindv0, bind2_s, bind3_s, ↓reduceIte, Bool.false_eq_true, rZM_0, rZM_1, rZP_0, rZP_1, ptZ_0, ptZ_1, c32i, c64i, ncI, Int.natCast_add, Int.natCast_mul, q32_neg, q64_neg, q32_add, q32_sub, q32_mul, q64_add, q64_sub, q64_mul, q32_64i, q64_32, q32_lt_t, q32_lt_f, q32_le_t, q32_le_f, q32_eq_t, q32_eq_f, q64_lt_t, q64_lt_f, q64_le_t, q64_le_f, q64_eq_t, q64_eq_f, rdI_i, rdL_i, rdR_i, rdN_i, stI_i, stL_i, stR_i, wI_s, wI_n, wL_s, wL_n, wI_2, wI_3, wL_1, wL_3, wR_1, wR_2, Int.toNat_natCast, r1, e73, h73, e11]
    · rw [if_neg (by omega)]; simp (disch := omega) only [Option.bind_some, bindv, bindv0, bind2_s, bind3_s, ↓reduceIte, Bool.false_eq_true, rZM_0, rZM_1, rZP_0, rZP_1, ptZ_0, ptZ_1, c32i, c64i, ncI, Int.natCast_add, Int.natCast_mul, q32_neg, q64_neg, q32_add, q32_sub, q32_mul, q64_add, q64_sub, q64_mul, q32_64i, q64_32, q32_lt_t, q32_lt_f, q32_le_t, q32_le_f, q32_eq_t, q32_eq_f, q64_lt_t, q64_lt_f, q64_le_t, q64_le_f, q64_eq_t, q64_eq_f, rdI_i, rdL_i, rdR_i, rdN_i, stI_i, stL_i, stR_i, wI_s, wI_n, wL_s, wL_n, wI_2, wI_3, wL_1, wL_3, wR_1, wR_2, Int.toNat_natCast]
  | succ n ih =>
    intro fuel hf m i hr h73 hi
    obtain ⟨fuel, rfl⟩ : ∃ f, fuel = f + 1 := ⟨fuel - 1, by omega⟩
    have r1 := rf23_1 hr
    have a1 : (74 + (i : Int) + 1).toNat = 75 + i := by omega
    have a2 : (74 + (i : Int)).toNat = 74 + i := by omega
    have a3 : (86 + (i : Int) + 1).toNat = 87 + i := by omega
    have a4 : (86 + (i : Int)).toNat = 86 + i := by omega
    obtain ⟨m', p1, p2, p3, p4, p5⟩ := ih fuel (by omega) (wI (wI m 24 (74 + i) (m.1 24 (75 + i))) 24 (86 + i) (m.1 24 (87 + i))) (i + 1) (hr.same rfl) (by simp (disch := omega) only [Option.bind_some, bindv, bindv0, bind2_s, bind3_s, ↓reduceIte, Bool.false_eq_true, rZM_0, rZM_1, rZP_0, rZP_1, ptZ_0, ptZ_1, c32i, c64i, ncI, Int.natCast_add, Int.natCast_mul, q32_neg, q64_neg, q32_add, q32_sub, q32_mul, q64_add, q64_sub, q64_mul, q32_64i, q64_32, q32_lt_t, q32_lt_f, q32_le_t, q32_le_f, q32_eq_t, q32_eq_f, q64_lt_t, q64_lt_f, q64_le_t, q64_le_f, q64_eq_t, q64_eq_f, rdI_i, rdL_i, rdR_i, rdN_i, stI_i, stL_i, stR_i, wI_s, wI_n, wL_s, wL_n, wI_2, wI_3, wL_1, wL_3, wR_1, wR_2, Int.toNat_natCast]; exact h73) (by omega)
    refine ⟨m', ?_, p2, fun k hk => ?_, fun a k h => ?_, p5⟩
    · show nb_X10_presses_26 F s (nl_X10_presses_26 F s fuel) m 23 (q32 i) = _
      unfold nb_X10_presses_26
      rw [Int.natCast_add] at p1
      simp (disch := omega) only [Option.bind_some, bindv, bindv0, bind2_s, bind3_s, ↓reduceIte, Bool.false_eq_true, rZM_0, rZM_1, rZP_0, rZP_1, ptZ_0, ptZ_1, c32i, c64i, ncI, Int.natCast_add, Int.natCast_mul, q32_neg, q64_neg, q32_add, q32_sub, q32_mul, q64_add, q64_sub, q64_mul, q32_64i, q64_32, q32_lt_t, q32_lt_f, q32_le_t, q32_le_f, q32_eq_t, q32_eq_f, q64_lt_t, q64_lt_f, q64_le_t, q64_le_f, q64_eq_t, q64_eq_f, rdI_i, rdL_i, rdR_i, rdN_i, stI_i, stL_i, stR_i, wI_s, wI_n, wL_s, wL_n, wI_2, wI_3, wL_1, wL_3, wR_1, wR_2, Int.toNat_natCast, r1, a1, a2, a3, a4]
      exact p1
    · rw [p3 k hk]
      by_cases c : (74 + (i + 1) ≤ k ∧ k < 85) ∨ (86 + (i + 1) ≤ k ∧ k < 97)
      · rw [if_pos c, if_pos (by omega)]; simp (disch := omega) only [Option.bind_some, bindv, bindv0, bind2_s, bind3_s, ↓reduceIte, Bool.false_eq_true, rZM_0, rZM_1, rZP_0, rZP_1, ptZ_0, ptZ_1, c32i, c64i, ncI, Int.natCast_add, Int.natCast_mul, q32_neg, q64_neg, q32_add, q32_sub, q32_mul, q64_add, q64_sub, q64_mul, q32_64i, q64_32, q32_lt_t, q32_lt_f, q32_le_t, q32_le_f, q32_eq_t, q32_eq_f, q64_lt_t, q64_lt_f, q64_le_t, q64_le_f, q64_eq_t, q64_eq_f, rdI_i, rdL_i, rdR_i, rdN_i, stI_i, stL_i, stR_i, wI_s, wI_n, wL_s, wL_n, wI_2, wI_3, wL_1, wL_3, wR_1, wR_2, Int.toNat_natCast]
      · rw [if_neg c]
        by_cases c2 : (74 + i ≤ k ∧ k < 85) ∨ (86 + i ≤ k ∧ k < 97)
        · rw [if_pos c2]
          rcases (show k = 74 + i ∨ k = 86 + i by omega) with rfl | rfl
          · simp (disch := omega) only [Option.bind_some, bindv, bindv0, bind2_s, bind3_s, ↓reduceIte, Bool.false_eq_true, rZM_0, rZM_1, rZP_0, rZP_1, ptZ_0, ptZ_1, c32i, c64i, ncI, Int.natCast_add, Int.natCast_mul, q32_neg, q64_neg, q32_add, q32_sub, q32_mul, q64_add, q64_sub, q64_mul, q32_64i, q64_32, q32_lt_t, q32_lt_f, q32_le_t, q32_le_f, q32_eq_t, q32_eq_f, q64_lt_t, q64_lt_f, q64_le_t, q64_le_f, q64_eq_t, q64_eq_f, rdI_i, rdL_i, rdR_i, rdN_i, stI_i, stL_i, stR_i, wI_s, wI_n, wL_s, wL_n, wI_2, wI_3, wL_1, wL_3, wR_1, wR_2, Int.toNat_natCast]
            rw [show 75 + i = 74 + i + 1 by omega]
          · simp (disch := omega) only [Option.bind_some, bindv, bindv0, bind2_s, bind3_s, ↓reduceIte, Bool.false_eq_true, rZM_0, rZM_1, rZP_0, rZP_1, ptZ_0, ptZ_1, c32i, c64i, ncI, Int.natCast_add, Int.natCast_mul, q32_neg, q64_neg, q32_add, q32_sub, q32_mul, q64_add, q64_sub, q64_mul, q32_64i, q64_32, q32_lt_t, q32_lt_f, q32_le_t, q32_le_f, q32_eq_t, q32_eq_f, q64_lt_t, q64_lt_f, q64_le_t, q64_le_f, q64_eq_t, q64_eq_f, rdI_i, rdL_i, rdR_i, rdN_i, stI_i, stL_i, stR_i, wI_s, wI_n, wL_s, wL_n, wI_2, wI_3, wL_1, wL_3, wR_1, wR_2, Int.toNat_natCast]
            rw [show 87 + i = 86 + i + 1 by omega]
        · rw [if_neg c2]; simp (disch := omega) only [Option.bind_some, bindv, bindv0, bind2_s, bind3_s, ↓reduceIte, Bool.false_eq_true, rZM_0, rZM_1, rZP_0, rZP_1, ptZ_0, ptZ_1, c32i, c64i, ncI, Int.natCast_add, Int.natCast_mul, q32_neg, q64_neg, q32_add, q32_sub, q32_mul, q64_add, q64_sub, q64_mul, q32_64i, q64_32, q32_lt_t, q32_lt_f, q32_le_t, q32_le_f, q32_eq_t, q32_eq_f, q64_lt_t, q64_lt_f, q64_le_t, q64_le_f, q64_eq_t, q64_eq_f, rdI_i, rdL_i, rdR_i, rdN_i, stI_i, stL_i, stR_i, wI_s, wI_n, wL_s, wL_n, wI_2, wI_3, wL_1, wL_3, wR_1, wR_2, Int.toNat_natCast]
    · rw [p4 a k h]; simp (disch := omega) only [Option.bind_some, bindv, bindv0, bind2_s, bind3_s, ↓reduceIte, Bool.false_eq_true, rZM_0, rZM_1, rZP_0, rZP_1, ptZ_0, ptZ_1, c32i, c64i, ncI, Int.natCast_add, Int.natCast_mul, q32_neg, q64_neg, q32_add, q32_sub, q32_mul, q64_add, q64_sub, q64_mul, q32_64i, q64_32, q32_lt_t, q32_lt_f, q32_le_t, q32_le_f, q32_eq_t, q32_eq_f, q64_lt_t, q64_lt_f, q64_le_t, q64_le_f, q64_eq_t, q64_eq_f, rdI_i, rdL_i, rdR_i, rdN_i, stI_i, stL_i, stR_i, wI_s, wI_n, wL_s, wL_n, wI_2, wI_3, wL_1, wL_3, wR_1, wR_2, Int.toNat_natCast]
theorem presses10 {F : Nat} (hF : 1000 ≤ F) {s : List Sh} {m : Mem} (hp : ∃ t, s = sB ++ t) (hr : RF m) {al : Nat → Int32} (hw : WA al) (hm : ∀ k, k < 999 → m.1 24 k = al k) {ud : Nat} (hud : al 73 = q32 ud) (h12 : ud ≤ 12) {b : Int} (hb : B31 b) : ∃ m', n_X10_presses F s m 23 (q32 b) = some (q32 (PR al b).1, m') ∧ KR m m' ∧ ∀ k, k < 999 → m'.1 24 k = (PR al b).2 k := by
  obtain ⟨m1, p1, p2, p3⟩ := lead10n hF hp hr hw hm hb
  have hwb := LE_b al b (A al 7, A al 8)
  have r1 := rf23_1 hr
  have l24 := ln24 hp
  have e73 : (73 : Int).toNat = 73 := rfl
  have hm1 : ∀ k, k < 999 → m1.1 24 k = al k := fun k hk => by rw [p2.1 _ _ (by omega)]; exact hm k hk
  have c73 : m1.1 24 73 = q32 ud := by rw [hm1 73 (by omega)]; exact hud
  have hr1 : RF m1 := hr.same p2.2.2
  have r1' := rf23_1 hr1
  unfold PR
  generalize hww : LE al b (A al 7, A al 8) = w at *
  obtain ⟨why, f⟩ := w
  dsimp only at p1 p3 hwb ⊢
  by_cases hz : why = 0
  · subst hz
    obtain ⟨f1, f2⟩ := p3 rfl
    rw [if_pos rfl]
    by_cases hc : ud = 12
    · have e0 : (if ud = 12 then 11 else ud) = 11 := if_pos hc
      subst hc
      obtain ⟨m2, q1, q2, q3, q4, q5⟩ := shiftL (F := F) hp 11 F (by omega) m1 0 hr1 c73 rfl
      have hr2 : RF m2 := hr1.same (by rw [q5])
      have h89 := presses89 (F := F) hp hr2 (n := 11) (by omega) q2 (f := f) (by rw [q5]; exact f1) (by rw [q5]; exact f2)
      have pre : n_X10_presses F s m 23 (q32 b) = nl_X10_presses_26 F s F m1 23 (q32 0) := by
        unfold n_X10_presses nb_X10_presses_0
        simp (disch := omega) only [Option.bind_some, bindv, bindv0, bind2_s, bind3_s, ↓reduceIte, Bool.false_eq_true, rZM_0, rZM_1, rZP_0, rZP_1, ptZ_0, ptZ_1, c32i, c64i, ncI, Int.natCast_add, Int.natCast_mul, q32_neg, q64_neg, q32_add, q32_sub, q32_mul, q64_add, q64_sub, q64_mul, q32_64i, q64_32, q32_lt_t, q32_lt_f, q32_le_t, q32_le_f, q32_eq_t, q32_eq_f, q64_lt_t, q64_lt_f, q64_le_t, q64_le_f, q64_eq_t, q64_eq_f, rdI_i, rdL_i, rdR_i, rdN_i, stI_i, stL_i, stR_i, wI_s, wI_n, wL_s, wL_n, wI_2, wI_3, wL_1, wL_3, wR_1, wR_2, Int.toNat_natCast, p1, r1', e73, c73]
      refine ⟨_, pre.trans (q1.trans h89), ((((((KR.tr p2.kr ⟨fun a k h => ?_, fun a k h => by rw [q5], by rw [q5]⟩).I (by omega)).I (by omega)).I (by omega)).I (by omega)).I (by omega)).I (by omega), fun k hk => ?_⟩
      · by_cases ha : a = 24
        · subst ha
          rw [q3 k (by omega), if_neg (by omega)]
        · exact q4 a k ha
      · dsimp only
        rw [PRS_n hud h12 e0.symm]
        have v7 := hm1 7 (by omega)
        have v8 := hm1 8 (by omega)
        have v6 := hm1 6 (by omega)
        have w7 := q3 7 (by omega)
        have w8 := q3 8 (by omega)
        have w6 := q3 6 (by omega)
        rw [if_neg (by omega)] at w6 w7 w8
        by_cases d1 : k = 74 + 11
        · subst d1; rw [if_pos rfl]; simp (disch := omega) only [Option.bind_some, bindv, bindv0, bind2_s, bind3_s, ↓reduceIte, Bool.false_eq_true, rZM_0, rZM_1, rZP_0, rZP_1, ptZ_0, ptZ_1, c32i, c64i, ncI, Int.natCast_add, Int.natCast_mul, q32_neg, q64_neg, q32_add, q32_sub, q32_mul, q64_add, q64_sub, q64_mul, q32_64i, q64_32, q32_lt_t, q32_lt_f, q32_le_t, q32_le_f, q32_eq_t, q32_eq_f, q64_lt_t, q64_lt_f, q64_le_t, q64_le_f, q64_eq_t, q64_eq_f, rdI_i, rdL_i, rdR_i, rdN_i, stI_i, stL_i, stR_i, wI_s, wI_n, wL_s, wL_n, wI_2, wI_3, wL_1, wL_3, wR_1, wR_2, Int.toNat_natCast, w7, v7]
        · rw [if_neg d1]
          by_cases d2 : k = 86 + 11
          · subst d2; rw [if_pos rfl]; simp (disch := omega) only [Option.bind_some, bindv, bindv0, bind2_s, bind3_s, ↓reduceIte, Bool.false_eq_true, rZM_0, rZM_1, rZP_0, rZP_1, ptZ_0, ptZ_1, c32i, c64i, ncI, Int.natCast_add, Int.natCast_mul, q32_neg, q64_neg, q32_add, q32_sub, q32_mul, q64_add, q64_sub, q64_mul, q32_64i, q64_32, q32_lt_t, q32_lt_f, q32_le_t, q32_le_f, q32_eq_t, q32_eq_f, q64_lt_t, q64_lt_f, q64_le_t, q64_le_f, q64_eq_t, q64_eq_f, rdI_i, rdL_i, rdR_i, rdN_i, stI_i, stL_i, stR_i, wI_s, wI_n, wL_s, wL_n, wI_2, wI_3, wL_1, wL_3, wR_1, wR_2, Int.toNat_natCast, w8, v8]
          · rw [if_neg d2]
            by_cases d3 : k = 73
            · subst d3; rw [if_pos rfl]; simp (disch := omega) only [Option.bind_some, bindv, bindv0, bind2_s, bind3_s, ↓reduceIte, Bool.false_eq_true, rZM_0, rZM_1, rZP_0, rZP_1, ptZ_0, ptZ_1, c32i, c64i, ncI, Int.natCast_add, Int.natCast_mul, q32_neg, q64_neg, q32_add, q32_sub, q32_mul, q64_add, q64_sub, q64_mul, q32_64i, q64_32, q32_lt_t, q32_lt_f, q32_le_t, q32_le_f, q32_eq_t, q32_eq_f, q64_lt_t, q64_lt_f, q64_le_t, q64_le_f, q64_eq_t, q64_eq_f, rdI_i, rdL_i, rdR_i, rdN_i, stI_i, stL_i, stR_i, wI_s, wI_n, wL_s, wL_n, wI_2, wI_3, wL_1, wL_3, wR_1, wR_2, Int.toNat_natCast]
            · rw [if_neg d3]
              by_cases d4 : k = 7
              · subst d4; rw [if_pos rfl]; simp (disch := omega) only [Option.bind_some, bindv, bindv0, bind2_s, bind3_s, ↓reduceIte, Bool.false_eq_true, rZM_0, rZM_1, rZP_0, rZP_1, ptZ_0, ptZ_1, c32i, c64i, ncI, Int.natCast_add, Int.natCast_mul, q32_neg, q64_neg, q32_add, q32_sub, q32_mul, q64_add, q64_sub, q64_mul, q32_64i, q64_32, q32_lt_t, q32_lt_f, q32_le_t, q32_le_f, q32_eq_t, q32_eq_f, q64_lt_t, q64_lt_f, q64_le_t, q64_le_f, q64_eq_t, q64_eq_f, rdI_i, rdL_i, rdR_i, rdN_i, stI_i, stL_i, stR_i, wI_s, wI_n, wL_s, wL_n, wI_2, wI_3, wL_1, wL_3, wR_1, wR_2, Int.toNat_natCast]
              · rw [if_neg d4]
                by_cases d5 : k = 8
                · subst d5; rw [if_pos rfl]; simp (disch := omega) only [Option.bind_some, bindv, bindv0, bind2_s, bind3_s, ↓reduceIte, Bool.false_eq_true, rZM_0, rZM_1, rZP_0, rZP_1, ptZ_0, ptZ_1, c32i, c64i, ncI, Int.natCast_add, Int.natCast_mul, q32_neg, q64_neg, q32_add, q32_sub, q32_mul, q64_add, q64_sub, q64_mul, q32_64i, q64_32, q32_lt_t, q32_lt_f, q32_le_t, q32_le_f, q32_eq_t, q32_eq_f, q64_lt_t, q64_lt_f, q64_le_t, q64_le_f, q64_eq_t, q64_eq_f, rdI_i, rdL_i, rdR_i, rdN_i, stI_i, stL_i, stR_i, wI_s, wI_n, wL_s, wL_n, wI_2, wI_3, wL_1, wL_3, wR_1, wR_2, Int.toNat_natCast]
                · rw [if_neg d5]
                  by_cases d6 : k = 6
                  · subst d6; rw [if_pos rfl, wI_s, w6, v6]
                  · rw [if_neg d6]
                    by_cases d7 : (74 ≤ k ∧ k < 85) ∨ (86 ≤ k ∧ k < 97)
                    · rw [if_pos ⟨rfl, d7⟩]
                      simp (disch := omega) only [Option.bind_some, bindv, bindv0, bind2_s, bind3_s, ↓reduceIte, Bool.false_eq_true, rZM_0, rZM_1, rZP_0, rZP_1, ptZ_0, ptZ_1, c32i, c64i, ncI, Int.natCast_add, Int.natCast_mul, q32_neg, q64_neg, q32_add, q32_sub, q32_mul, q64_add, q64_sub, q64_mul, q32_64i, q64_32, q32_lt_t, q32_lt_f, q32_le_t, q32_le_f, q32_eq_t, q32_eq_f, q64_lt_t, q64_lt_f, q64_le_t, q64_le_f, q64_eq_t, q64_eq_f, rdI_i, rdL_i, rdR_i, rdN_i, stI_i, stL_i, stR_i, wI_s, wI_n, wL_s, wL_n, wI_2, wI_3, wL_1, wL_3, wR_1, wR_2, Int.toNat_natCast]
                      rw [q3 k d3, if_pos (by omega)]; exact hm1 _ (by omega)
                    · rw [if_neg (fun z => d7 z.2)]
                      simp (disch := omega) only [Option.bind_some, bindv, bindv0, bind2_s, bind3_s, ↓reduceIte, Bool.false_eq_true, rZM_0, rZM_1, rZP_0, rZP_1, ptZ_0, ptZ_1, c32i, c64i, ncI, Int.natCast_add, Int.natCast_mul, q32_neg, q64_neg, q32_add, q32_sub, q32_mul, q64_add, q64_sub, q64_mul, q32_64i, q64_32, q32_lt_t, q32_lt_f, q32_le_t, q32_le_f, q32_eq_t, q32_eq_f, q64_lt_t, q64_lt_f, q64_le_t, q64_le_f, q64_eq_t, q64_eq_f, rdI_i, rdL_i, rdR_i, rdN_i, stI_i, stL_i, stR_i, wI_s, wI_n, wL_s, wL_n, wI_2, wI_3, wL_1, wL_3, wR_1, wR_2, Int.toNat_natCast]
                      rw [q3 k d3, if_neg (by omega)]; exact hm1 _ (by omega)
    · have e0 : (if ud = 12 then 11 else ud) = ud := if_neg hc
      have h89 := presses89 (F := F) hp hr1 (n := ud) (by omega) c73 (f := f) f1 f2
      have pre : n_X10_presses F s m 23 (q32 b) = nb_X10_presses_89 F s m1 23 := by
        unfold n_X10_presses nb_X10_presses_0
        simp (disch := omega) only [Option.bind_some, bindv, bindv0, bind2_s, bind3_s, ↓reduceIte, Bool.false_eq_true, rZM_0, rZM_1, rZP_0, rZP_1, ptZ_0, ptZ_1, c32i, c64i, ncI, Int.natCast_add, Int.natCast_mul, q32_neg, q64_neg, q32_add, q32_sub, q32_mul, q64_add, q64_sub, q64_mul, q32_64i, q64_32, q32_lt_t, q32_lt_f, q32_le_t, q32_le_f, q32_eq_t, q32_eq_f, q64_lt_t, q64_lt_f, q64_le_t, q64_le_f, q64_eq_t, q64_eq_f, rdI_i, rdL_i, rdR_i, rdN_i, stI_i, stL_i, stR_i, wI_s, wI_n, wL_s, wL_n, wI_2, wI_3, wL_1, wL_3, wR_1, wR_2, Int.toNat_natCast, p1, r1', e73, c73]
      refine ⟨_, pre.trans h89, (((((p2.kr.I (by omega)).I (by omega)).I (by omega)).I (by omega)).I (by omega)).I (by omega), fun k hk => ?_⟩
      · dsimp only
        rw [PRS_n hud h12 e0.symm]
        have v7 := hm1 7 (by omega)
        have v8 := hm1 8 (by omega)
        have v6 := hm1 6 (by omega)
        by_cases d1 : k = 74 + ud
        · subst d1; rw [if_pos rfl]; simp (disch := omega) only [Option.bind_some, bindv, bindv0, bind2_s, bind3_s, ↓reduceIte, Bool.false_eq_true, rZM_0, rZM_1, rZP_0, rZP_1, ptZ_0, ptZ_1, c32i, c64i, ncI, Int.natCast_add, Int.natCast_mul, q32_neg, q64_neg, q32_add, q32_sub, q32_mul, q64_add, q64_sub, q64_mul, q32_64i, q64_32, q32_lt_t, q32_lt_f, q32_le_t, q32_le_f, q32_eq_t, q32_eq_f, q64_lt_t, q64_lt_f, q64_le_t, q64_le_f, q64_eq_t, q64_eq_f, rdI_i, rdL_i, rdR_i, rdN_i, stI_i, stL_i, stR_i, wI_s, wI_n, wL_s, wL_n, wI_2, wI_3, wL_1, wL_3, wR_1, wR_2, Int.toNat_natCast, v7]
        · rw [if_neg d1]
          by_cases d2 : k = 86 + ud
          · subst d2; rw [if_pos rfl]; simp (disch := omega) only [Option.bind_some, bindv, bindv0, bind2_s, bind3_s, ↓reduceIte, Bool.false_eq_true, rZM_0, rZM_1, rZP_0, rZP_1, ptZ_0, ptZ_1, c32i, c64i, ncI, Int.natCast_add, Int.natCast_mul, q32_neg, q64_neg, q32_add, q32_sub, q32_mul, q64_add, q64_sub, q64_mul, q32_64i, q64_32, q32_lt_t, q32_lt_f, q32_le_t, q32_le_f, q32_eq_t, q32_eq_f, q64_lt_t, q64_lt_f, q64_le_t, q64_le_f, q64_eq_t, q64_eq_f, rdI_i, rdL_i, rdR_i, rdN_i, stI_i, stL_i, stR_i, wI_s, wI_n, wL_s, wL_n, wI_2, wI_3, wL_1, wL_3, wR_1, wR_2, Int.toNat_natCast, v8]
          · rw [if_neg d2]
            by_cases d3 : k = 73
            · subst d3; rw [if_pos rfl]; simp (disch := omega) only [Option.bind_some, bindv, bindv0, bind2_s, bind3_s, ↓reduceIte, Bool.false_eq_true, rZM_0, rZM_1, rZP_0, rZP_1, ptZ_0, ptZ_1, c32i, c64i, ncI, Int.natCast_add, Int.natCast_mul, q32_neg, q64_neg, q32_add, q32_sub, q32_mul, q64_add, q64_sub, q64_mul, q32_64i, q64_32, q32_lt_t, q32_lt_f, q32_le_t, q32_le_f, q32_eq_t, q32_eq_f, q64_lt_t, q64_lt_f, q64_le_t, q64_le_f, q64_eq_t, q64_eq_f, rdI_i, rdL_i, rdR_i, rdN_i, stI_i, stL_i, stR_i, wI_s, wI_n, wL_s, wL_n, wI_2, wI_3, wL_1, wL_3, wR_1, wR_2, Int.toNat_natCast]
            · rw [if_neg d3]
              by_cases d4 : k = 7
              · subst d4; rw [if_pos rfl]; simp (disch := omega) only [Option.bind_some, bindv, bindv0, bind2_s, bind3_s, ↓reduceIte, Bool.false_eq_true, rZM_0, rZM_1, rZP_0, rZP_1, ptZ_0, ptZ_1, c32i, c64i, ncI, Int.natCast_add, Int.natCast_mul, q32_neg, q64_neg, q32_add, q32_sub, q32_mul, q64_add, q64_sub, q64_mul, q32_64i, q64_32, q32_lt_t, q32_lt_f, q32_le_t, q32_le_f, q32_eq_t, q32_eq_f, q64_lt_t, q64_lt_f, q64_le_t, q64_le_f, q64_eq_t, q64_eq_f, rdI_i, rdL_i, rdR_i, rdN_i, stI_i, stL_i, stR_i, wI_s, wI_n, wL_s, wL_n, wI_2, wI_3, wL_1, wL_3, wR_1, wR_2, Int.toNat_natCast]
              · rw [if_neg d4]
                by_cases d5 : k = 8
                · subst d5; rw [if_pos rfl]; simp (disch := omega) only [Option.bind_some, bindv, bindv0, bind2_s, bind3_s, ↓reduceIte, Bool.false_eq_true, rZM_0, rZM_1, rZP_0, rZP_1, ptZ_0, ptZ_1, c32i, c64i, ncI, Int.natCast_add, Int.natCast_mul, q32_neg, q64_neg, q32_add, q32_sub, q32_mul, q64_add, q64_sub, q64_mul, q32_64i, q64_32, q32_lt_t, q32_lt_f, q32_le_t, q32_le_f, q32_eq_t, q32_eq_f, q64_lt_t, q64_lt_f, q64_le_t, q64_le_f, q64_eq_t, q64_eq_f, rdI_i, rdL_i, rdR_i, rdN_i, stI_i, stL_i, stR_i, wI_s, wI_n, wL_s, wL_n, wI_2, wI_3, wL_1, wL_3, wR_1, wR_2, Int.toNat_natCast]
                · rw [if_neg d5]
                  by_cases d6 : k = 6
                  · subst d6; rw [if_pos rfl, wI_s, v6]
                  · rw [if_neg d6, if_neg (by omega)]
                    simp (disch := omega) only [Option.bind_some, bindv, bindv0, bind2_s, bind3_s, ↓reduceIte, Bool.false_eq_true, rZM_0, rZM_1, rZP_0, rZP_1, ptZ_0, ptZ_1, c32i, c64i, ncI, Int.natCast_add, Int.natCast_mul, q32_neg, q64_neg, q32_add, q32_sub, q32_mul, q64_add, q64_sub, q64_mul, q32_64i, q64_32, q32_lt_t, q32_lt_f, q32_le_t, q32_le_f, q32_eq_t, q32_eq_f, q64_lt_t, q64_lt_f, q64_le_t, q64_le_f, q64_eq_t, q64_eq_f, rdI_i, rdL_i, rdR_i, rdN_i, stI_i, stL_i, stR_i, wI_s, wI_n, wL_s, wL_n, wI_2, wI_3, wL_1, wL_3, wR_1, wR_2, Int.toNat_natCast]
                    exact hm1 _ (by omega)
  · rw [if_neg hz]
    refine ⟨m1, ?_, p2.kr, hm1⟩
    unfold n_X10_presses nb_X10_presses_0
    simp (disch := omega) only [Option.bind_some, bindv, bindv0, bind2_s, bind3_s, ↓reduceIte, Bool.false_eq_true, rZM_0, rZM_1, rZP_0, rZP_1, ptZ_0, ptZ_1, c32i, c64i, ncI, Int.natCast_add, Int.natCast_mul, q32_neg, q64_neg, q32_add, q32_sub, q32_mul, q64_add, q64_sub, q64_mul, q32_64i, q64_32, q32_lt_t, q32_lt_f, q32_le_t, q32_le_f, q32_eq_t, q32_eq_f, q64_lt_t, q64_lt_f, q64_le_t, q64_le_f, q64_eq_t, q64_eq_f, rdI_i, rdL_i, rdR_i, rdN_i, stI_i, stL_i, stR_i, wI_s, wI_n, wL_s, wL_n, wI_2, wI_3, wL_1, wL_3, wR_1, wR_2, Int.toNat_natCast, p1]
/-! what is asked in a call on both sides -/
def OPK {α : Type} (s : List Sh) (m : Mem) (o9 : Option (α × Mem)) (o10 : Mem → Option (α × Mem)) : Prop := ∃ r m1 m2, o9 = some (r, m1) ∧ o10 m1 = some (r, m2) ∧ INV s m2 ∧ m2.2.2 = m.2.2
theorem SC.k0 (m : Mem) : SC m (wI m 23 0 (q32 0)) := (SC.rf m).aI (by omega)
theorem opk_why {F : Nat} (hF : 1000 ≤ F) {s : List Sh} {m : Mem} (h : INV s m) (w : Int32) : OPK s m (n_X9_why F s m 0 w) (fun m1 => n_X10_why F s m1 23 w) := by
  obtain ⟨hg, ow, nw, hst⟩ := h
  obtain ⟨b, hb, rfl⟩ := q32_of w
  have hl := hst.1
  have rn := hl.nw
  have r11 := rf0_11 hl.rf
  have hrel := hst.2.1
  obtain ⟨tp, t1, t2, t3, t4, t5, t6, t7, -⟩ := hrel.wa.at
  have b7 := A_b (m.1 24) 7
  have b8 := A_b (m.1 24) 8
  have hx : m.1 nw 4 = q32 (A (m.1 24) 7) ∧ m.1 nw 5 = q32 (A (m.1 24) 8) := by
    obtain ⟨tp, sk, nl, bc, fc, tc, au, aw, S, U, L, V, W, X, O, h1, h2, h3, h4, -⟩ := hrel
    unfold FLR at h4
    rw [A_q h3.2.2.2.2.2.2.2.1 (by omega), A_q h3.2.2.2.2.2.2.2.2 (by omega)]
    exact ⟨h2.2.2.2.1, h2.2.2.2.2.1⟩
  obtain ⟨m1, p1, p2, -⟩ := lead9 hF hl hrel (okf_of (x := (A (m.1 24) 7, A (m.1 24) 8)) t5) hb
  have e1 : n_X9_why F s m 0 (q32 b) = some (q32 (LE (m.1 24) b (A (m.1 24) 7, A (m.1 24) 8)).1, m1) := by
    dsimp only at p1
    unfold n_X9_why nb_X9_why_0
    simp (disch := omega) only [Option.bind_some, bindv, bindv0, bind2_s, bind3_s, ↓reduceIte, Bool.false_eq_true, rZM_0, rZM_1, rZP_0, rZP_1, ptZ_0, ptZ_1, c32i, c64i, ncI, Int.natCast_add, Int.natCast_mul, q32_neg, q64_neg, q32_add, q32_sub, q32_mul, q64_add, q64_sub, q64_mul, q32_64i, q64_32, q32_lt_t, q32_lt_f, q32_le_t, q32_le_f, q32_eq_t, q32_eq_f, q64_lt_t, q64_lt_f, q64_le_t, q64_le_f, q64_eq_t, q64_eq_f, rdI_i, rdL_i, rdR_i, rdN_i, stI_i, stL_i, stR_i, wI_s, wI_n, wL_s, wL_n, wI_2, wI_3, wL_1, wL_3, wR_1, wR_2, Int.toNat_natCast, rn, r11, hx.1, hx.2, p1]
  have g1 := (un_X9_why hg (okB hl.hp).1 e1).2
  obtain ⟨m2, q1, q2, -⟩ := lead10n (m := wI m1 23 0 (q32 0)) hF hl.hp (hl.rf.same p2.2.2) hrel.wa (fun k hk => by simp (disch := omega) only [Option.bind_some, bindv, bindv0, bind2_s, bind3_s, ↓reduceIte, Bool.false_eq_true, rZM_0, rZM_1, rZP_0, rZP_1, ptZ_0, ptZ_1, c32i, c64i, ncI, Int.natCast_add, Int.natCast_mul, q32_neg, q64_neg, q32_add, q32_sub, q32_mul, q64_add, q64_sub, q64_mul, q32_64i, q64_32, q32_lt_t, q32_lt_f, q32_le_t, q32_le_f, q32_eq_t, q32_eq_f, q64_lt_t, q64_lt_f, q64_le_t, q64_le_f, q64_eq_t, q64_eq_f, rdI_i, rdL_i, rdR_i, rdN_i, stI_i, stL_i, stR_i, wI_s, wI_n, wL_s, wL_n, wI_2, wI_3, wL_1, wL_3, wR_1, wR_2, Int.toNat_natCast]; rw [p2.1 _ _ (by omega)]) hb
  have e2 : n_X10_why F s m1 23 (q32 b) = some (q32 (LE (m.1 24) b (A (m.1 24) 7, A (m.1 24) 8)).1, m2) := by
    unfold n_X10_why nb_X10_why_0
    simp (disch := omega) only [Option.bind_some, bindv, bindv0, bind2_s, bind3_s, ↓reduceIte, Bool.false_eq_true, rZM_0, rZM_1, rZP_0, rZP_1, ptZ_0, ptZ_1, c32i, c64i, ncI, Int.natCast_add, Int.natCast_mul, q32_neg, q64_neg, q32_add, q32_sub, q32_mul, q64_add, q64_sub, q64_mul, q32_64i, q64_32, q32_lt_t, q32_lt_f, q32_le_t, q32_le_f, q32_eq_t, q32_eq_f, q64_lt_t, q64_lt_f, q64_le_t, q64_le_f, q64_eq_t, q64_eq_f, rdI_i, rdL_i, rdR_i, rdN_i, stI_i, stL_i, stR_i, wI_s, wI_n, wL_s, wL_n, wI_2, wI_3, wL_1, wL_3, wR_1, wR_2, Int.toNat_natCast, q1]
  have g2 := (un_X10_why g1 (okB hl.hp).2 e2).2
  have sc : SC m m2 := p2.sc.tr ((SC.k0 m1).tr q2.sc)
  exact ⟨_, m1, m2, e1, e2, ⟨g2, ow, nw, hst.sc sc⟩, sc.r⟩
theorem PR_b (al : Nat → Int32) (b : Int) : 0 ≤ (PR al b).1 ∧ (PR al b).1 ≤ 4 := by
  have := LE_b al b (A al 7, A al 8)
  unfold PR
  split
  · dsimp only; omega
  · exact this
theorem opk_press {F : Nat} (hF : 1000 ≤ F) {s : List Sh} {m : Mem} (h : INV s m) (w : Int32) : OPK s m (n_X9_press F s m 0 w) (fun m1 => n_X10_press F s m1 23 w) := by
  obtain ⟨hg, ow, nw, hst⟩ := h
  obtain ⟨b, hb, rfl⟩ := q32_of w
  have hl := hst.1
  have hn := hl.hn
  have l24 := ln24 hl.hp
  have e73 : (73 : Int).toNat = 73 := rfl
  obtain ⟨m1, p1, p2, p3, p4⟩ := press9 hF hl hst.2.1 hst.2.2.1.2 hb
  have hpb := PR_b (m.1 24) b
  obtain ⟨ud0, u01, u02, u03, -⟩ := hst.2.2.1.2
  obtain ⟨m2, q1, q2, q3⟩ := presses10 (m := wI m1 23 0 (q32 0)) hF hl.hp (hl.rf.same p2.2.2) hst.2.1.wa (fun k hk => by simp (disch := omega) only [Option.bind_some, bindv, bindv0, bind2_s, bind3_s, ↓reduceIte, Bool.false_eq_true, rZM_0, rZM_1, rZP_0, rZP_1, ptZ_0, ptZ_1, c32i, c64i, ncI, Int.natCast_add, Int.natCast_mul, q32_neg, q64_neg, q32_add, q32_sub, q32_mul, q64_add, q64_sub, q64_mul, q32_64i, q64_32, q32_lt_t, q32_lt_f, q32_le_t, q32_le_f, q32_eq_t, q32_eq_f, q64_lt_t, q64_lt_f, q64_le_t, q64_le_f, q64_eq_t, q64_eq_f, rdI_i, rdL_i, rdR_i, rdN_i, stI_i, stL_i, stR_i, wI_s, wI_n, wL_s, wL_n, wI_2, wI_3, wL_1, wL_3, wR_1, wR_2, Int.toNat_natCast]; rw [p2.1 _ _ (by omega)]) u03 u01 hb
  have hst2 : ST s m2 ow nw := hst.two p2 (((KQ.rf m1).I (by omega)).tr q2.kq) p3 p4 q3
  have r1 := rf23_1 hst2.1.rf
  obtain ⟨ud, u1, u2, u3, -⟩ := p4
  have c73 : m2.1 24 73 = q32 ud := by rw [q3 73 (by omega)]; exact u3
  have e1 : n_X9_press F s m 0 (q32 b) = some (if (PR (m.1 24) b).1 = 0 then q32 ud else q32 (-10 - (PR (m.1 24) b).1), m1) := by
    unfold n_X9_press nb_X9_press_0
    by_cases hz : (PR (m.1 24) b).1 = 0
    · rw [if_pos hz]; simp (disch := omega) only [Option.bind_some, bindv, bindv0, bind2_s, bind3_s, ↓reduceIte, Bool.false_eq_true, rZM_0, rZM_1, rZP_0, rZP_1, ptZ_0, ptZ_1, c32i, c64i, ncI, Int.natCast_add, Int.natCast_mul, q32_neg, q64_neg, q32_add, q32_sub, q32_mul, q64_add, q64_sub, q64_mul, q32_64i, q64_32, q32_lt_t, q32_lt_f, q32_le_t, q32_le_f, q32_eq_t, q32_eq_f, q64_lt_t, q64_lt_f, q64_le_t, q64_le_f, q64_eq_t, q64_eq_f, rdI_i, rdL_i, rdR_i, rdN_i, stI_i, stL_i, stR_i, wI_s, wI_n, wL_s, wL_n, wI_2, wI_3, wL_1, wL_3, wR_1, wR_2, Int.toNat_natCast, p1, u2]
    · rw [if_neg hz]; simp (disch := omega) only [Option.bind_some, bindv, bindv0, bind2_s, bind3_s, ↓reduceIte, Bool.false_eq_true, rZM_0, rZM_1, rZP_0, rZP_1, ptZ_0, ptZ_1, c32i, c64i, ncI, Int.natCast_add, Int.natCast_mul, q32_neg, q64_neg, q32_add, q32_sub, q32_mul, q64_add, q64_sub, q64_mul, q32_64i, q64_32, q32_lt_t, q32_lt_f, q32_le_t, q32_le_f, q32_eq_t, q32_eq_f, q64_lt_t, q64_lt_f, q64_le_t, q64_le_f, q64_eq_t, q64_eq_f, rdI_i, rdL_i, rdR_i, rdN_i, stI_i, stL_i, stR_i, wI_s, wI_n, wL_s, wL_n, wI_2, wI_3, wL_1, wL_3, wR_1, wR_2, Int.toNat_natCast, p1, u2]
  have e2 : n_X10_press F s m1 23 (q32 b) = some (if (PR (m.1 24) b).1 = 0 then q32 ud else q32 (-10 - (PR (m.1 24) b).1), m2) := by
    unfold n_X10_press nb_X10_press_0
    by_cases hz : (PR (m.1 24) b).1 = 0
    · rw [if_pos hz]; simp (disch := omega) only [Option.bind_some, bindv, bindv0, bind2_s, bind3_s, ↓reduceIte, Bool.false_eq_true, rZM_0, rZM_1, rZP_0, rZP_1, ptZ_0, ptZ_1, c32i, c64i, ncI, Int.natCast_add, Int.natCast_mul, q32_neg, q64_neg, q32_add, q32_sub, q32_mul, q64_add, q64_sub, q64_mul, q32_64i, q64_32, q32_lt_t, q32_lt_f, q32_le_t, q32_le_f, q32_eq_t, q32_eq_f, q64_lt_t, q64_lt_f, q64_le_t, q64_le_f, q64_eq_t, q64_eq_f, rdI_i, rdL_i, rdR_i, rdN_i, stI_i, stL_i, stR_i, wI_s, wI_n, wL_s, wL_n, wI_2, wI_3, wL_1, wL_3, wR_1, wR_2, Int.toNat_natCast, q1, r1, e73, c73]
    · rw [if_neg hz]; simp (disch := omega) only [Option.bind_some, bindv, bindv0, bind2_s, bind3_s, ↓reduceIte, Bool.false_eq_true, rZM_0, rZM_1, rZP_0, rZP_1, ptZ_0, ptZ_1, c32i, c64i, ncI, Int.natCast_add, Int.natCast_mul, q32_neg, q64_neg, q32_add, q32_sub, q32_mul, q64_add, q64_sub, q64_mul, q32_64i, q64_32, q32_lt_t, q32_lt_f, q32_le_t, q32_le_f, q32_eq_t, q32_eq_f, q64_lt_t, q64_lt_f, q64_le_t, q64_le_f, q64_eq_t, q64_eq_f, rdI_i, rdL_i, rdR_i, rdN_i, stI_i, stL_i, stR_i, wI_s, wI_n, wL_s, wL_n, wI_2, wI_3, wL_1, wL_3, wR_1, wR_2, Int.toNat_natCast, q1, r1, e73, c73]
  have g1 := (un_X9_press hg (okB hl.hp).1 e1).2
  have g2 := (un_X10_press g1 (okB hl.hp).2 e2).2
  exact ⟨_, m1, m2, e1, e2, ⟨g2, ow, nw, hst2⟩, q2.2.2.trans p2.2.2⟩
