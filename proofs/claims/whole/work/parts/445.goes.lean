/-! the reference's spread -/
def KG (m m' : Mem) : Prop := (∀ a k, (a < 31 ∨ 35 < a) → (a ≠ 23 ∨ (k ≠ 21 ∧ k ≠ 29)) → m'.1 a k = m.1 a k) ∧ (∀ a k, (a ≠ 23 ∨ (k ≠ 15 ∧ k ≠ 16)) → a ≠ 28 → a ≠ 29 → m'.2.1 a k = m.2.1 a k) ∧ m'.2.2 = m.2.2
def KN (m m' : Mem) : Prop := (∀ a k, (a < 31 ∨ 38 < a) → (a ≠ 23 ∨ k < 21 ∨ 40 < k) → m'.1 a k = m.1 a k) ∧ (∀ a k, (a ≠ 23 ∨ (k ≠ 15 ∧ k ≠ 16)) → a ≠ 28 → a ≠ 29 → m'.2.1 a k = m.2.1 a k) ∧ m'.2.2 = m.2.2
theorem KG.rf (m : Mem) : KG m m := ⟨fun _ _ _ _ => rfl, fun _ _ _ _ _ => rfl, rfl⟩
theorem KG.tr {m m1 m2 : Mem} (h : KG m m1) (h2 : KG m1 m2) : KG m m2 := ⟨fun a k p r => (h2.1 a k p r).trans (h.1 a k p r), fun a k p r t => (h2.2.1 a k p r t).trans (h.2.1 a k p r t), h2.2.2.trans h.2.2⟩
theorem KN.rf (m : Mem) : KN m m := ⟨fun _ _ _ _ => rfl, fun _ _ _ _ _ => rfl, rfl⟩
theorem KN.tr {m m1 m2 : Mem} (h : KN m m1) (h2 : KN m1 m2) : KN m m2 := ⟨fun a k p r => (h2.1 a k p r).trans (h.1 a k p r), fun a k p r t => (h2.2.1 a k p r t).trans (h.2.1 a k p r t), h2.2.2.trans h.2.2⟩
theorem KG.kn {m m' : Mem} (h : KG m m') : KN m m' := ⟨fun a k p r => h.1 a k (by omega) (by omega), h.2.1, h.2.2⟩
theorem K10.kg {m m' : Mem} (h : K10 m m') : KG m m' := ⟨fun a k p r => h.1 a k (by omega), fun a k p r t => h.2.1 a k ⟨p, r, t⟩, h.2.2⟩
theorem KN.sc {m m' : Mem} (h : KN m m') : SC m m' := ⟨fun a p q => funext fun k => h.1 a k (by unfold Fx at p; omega) (Or.inl q), ⟨h.1 _ _ (by omega) (by omega), h.1 _ _ (by omega) (by omega), h.1 _ _ (by omega) (by omega)⟩, fun a p q => funext fun k => h.2.1 a k (Or.inl q) (by unfold Fx at p; omega) (by unfold Fx at p; omega), h.2.2⟩
def RD (m : Mem) (al : Nat → Int32) : Prop := RF m ∧ ∀ k, k < 999 → m.1 24 k = al k
theorem RD.k {m m' : Mem} {al : Nat → Int32} (h : RD m al) (e : KN m m') : RD m' al := ⟨h.1.same e.2.2, fun k hk => by rw [e.1 24 k (by omega) (by omega)]; exact h.2 k hk⟩
def PG (m : Mem) (P : List FR) : Prop := m.1 23 33 = q32 P.length ∧ ∀ i, i < P.length → m.1 37 i = q32 (gt P i).1 ∧ m.1 38 i = q32 (gt P i).2
theorem PG.k {m m' : Mem} {P : List FR} (h : PG m P) (e : KG m m') : PG m' P := ⟨by rw [e.1 _ _ (by omega) (by omega)]; exact h.1, fun i hi => by rw [e.1 _ _ (by omega) (by omega), e.1 _ _ (by omega) (by omega)]; exact h.2 i hi⟩
theorem glead {F : Nat} (hF : 20000 ≤ F) {s : List Sh} (hp : ∃ t, s = sB ++ t) {m : Mem} {al : Nat → Int32} (hw : WA al) (h : RD m al) {x : FR} (hx : FLR (A al 1) x.1 x.2) {b : Int} (hb : B31 b) : ∃ m', n_X10_leadsFrom F s m 23 (q32 b) (q64 x.1) (q64 x.2) = some (q32 (LE al b x).1, m') ∧ KG m m' ∧ RD m' al ∧ ((∀ L C D, MG m L C D → MG m' L C D)) ∧ ((LE al b x).1 = 0 → m'.2.1 23 15 = q64 (LE al b x).2.1 ∧ m'.2.1 23 16 = q64 (LE al b x).2.2 ∧ FLR (A al 1) (LE al b x).2.1 (LE al b x).2.2) := by
  obtain ⟨m', e1, e2, e3⟩ := lead10 (F := F) (by omega) hp h.1 hw h.2 (x := x) hx.ok hb
  exact ⟨m', e1, e2.kg, h.k e2.kg.kn, fun L C D hM => hM.k (fun a k hk => e2.1 a k (by omega)), fun c => ⟨(e3 c).1, (e3 c).2, LE_flr hw hx.ok c⟩⟩
theorem gmet {F : Nat} (hF : 20000 ≤ F) {s : List Sh} {m : Mem} (hp : ∃ t, s = sB ++ t) (hr : RF m) {tp : Int} {L : List FR} {C D : Nat → Int} (hM : MG m L C D) (hn : L.length < 8192) (hf : FLS tp L) {x : FR} (hx : FLR tp x.1 x.2) : (x ∈ L → ∃ r : Int, 0 ≤ r ∧ r ≤ 8192 ∧ n_X10_metAt F s m 23 (q64 x.1) (q64 x.2) = some (q32 r)) ∧ (¬ x ∈ L → n_X10_metAt F s m 23 (q64 x.1) (q64 x.2) = some (q32 (-1))) := by
  obtain ⟨r, i1, i2⟩ := met10 hF hp hr hM hn hf hx
  refine ⟨fun hm => ?_, fun hm => ?_⟩
  · rcases i2 with ⟨-, i3⟩ | ⟨j, rfl, p1, p2⟩
    · exact absurd hm i3
    · exact ⟨j, by omega, by omega, i1⟩
  · rcases i2 with ⟨rfl, -⟩ | ⟨j, rfl, p1, p2⟩
    · exact i1
    · exact absurd (by rw [← p2]; exact gt_mem p1) hm
theorem gput {F : Nat} (hF : 20000 ≤ F) {s : List Sh} {m : Mem} (hp : ∃ t, s = sB ++ t) {al : Nat → Int32} (hr : RD m al) {tp : Int} {L : List FR} {C D : Nat → Int} (hM : MG m L C D) (hn : L.length < 8192) {x : FR} (hx : FLR tp x.1 x.2) (c f : Int) : ∃ m', n_X10_meets F s m 23 (q64 x.1) (q64 x.2) (q32 c) (q32 f) = some ((), m') ∧ KG m m' ∧ RD m' al ∧ m'.2 = m.2 ∧ MG m' (L ++ [x]) (fun i => if i = L.length then c else C i) (fun i => if i = L.length then f else D i) := by
  obtain ⟨m', e1, e2, e3, e4⟩ := meet10 hF hp hr.1 hM hn hx c f
  have k : KG m m' := ⟨fun a k p1 p2 => e4 a k (by omega) (by omega), fun a k _ _ _ => by rw [e3], by rw [e3]⟩
  exact ⟨m', e1, k, hr.k k.kn, e3, e2⟩
theorem goI10 {F : Nat} (hF : 20000 ≤ F) {s : List Sh} (hp : ∃ t, s = sB ++ t) {al : Nat → Int32} (hw : WA al) {bc : Nat} (h2 : al 2 = q32 bc) (hbc : bc ≤ 6) {P : List FR} (hP : FLS (A al 1) P) (hPl : P.length ≤ 8192) {i : Nat} (hi : i < P.length) (w : Int32) (ns : Mem → Nat → Int32 → Int32 → Option (Unit × Mem)) : ∀ n fuel b, b + n = bc → n < fuel → ∀ (m : Mem) (R : List FR) (C D : Nat → Int), RD m al → PG m P → MG m R C D → FLS (A al 1) R → R.length + n ≤ 8191 → ∃ m' C' D', nl_X10_goes_62 F s ns fuel m 23 w (q32 i) (q32 (b : Nat)) = ns m' 23 w (q32 (i + 1)) ∧ KG m m' ∧ MG m' (SPB al (gt P i) n b R) C' D' ∧ FLS (A al 1) (SPB al (gt P i) n b R) := by
  have l24 := ln24 hp
  have l37 := ln37 hp
  have l38 := ln38 hp
  have hx := hP.at hi
  have xb := hx.b
  intro n
  induction n with
  | zero =>
    intro fuel b hb hfu m R C D hr hg hM hf hlen
    obtain ⟨fuel, rfl⟩ : ∃ f, fuel = f + 1 := ⟨fuel - 1, by omega⟩
    refine ⟨m, C, D, ?_, KG.rf m, hM, hf⟩
    have r1 := rf23_1 hr.1
    have hb2 : m.1 24 2 = q32 bc := by rw [hr.2 2 (by omega)]; exact h2
    show nb_X10_goes_62 F s ns (nl_X10_goes_62 F s ns fuel) m 23 _ _ _ = _
    unfold nb_X10_goes_62
    simp (disch := omega) only [Option.bind_some, bindv, bindv0, bind2_s, bind3_s, ↓reduceIte, Bool.false_eq_true, rZM_0, rZM_1, rZP_0, rZP_1, ptZ_0, ptZ_1, c32i, c64i, ncI, Int.natCast_add, Int.natCast_mul, q32_neg, q64_neg, q32_add, q32_sub, q32_mul, q64_add, q64_sub, q64_mul, q32_64i, q64_32, q32_lt_t, q32_lt_f, q32_le_t, q32_le_f, q32_eq_t, q32_eq_f, q64_lt_t, q64_lt_f, q64_le_t, q64_le_f, q64_eq_t, q64_eq_f, rdI_i, rdL_i, rdR_i, rdN_i, stI_i, stL_i, stR_i, wI_s, wI_n, wL_s, wL_n, wI_2, wI_3, wL_1, wL_3, wR_1, wR_2, Int.toNat_natCast, tnO, tn_add, tn_sub, tn_mul, Nat.add_sub_cancel, Nat.add_zero, Nat.zero_add, lnO, win_t, win_f, r1, hb2]
  | succ n ih =>
    intro fuel b hb hfu m R C D hr hg hM hf hlen
    obtain ⟨fuel, rfl⟩ : ∃ f, fuel = f + 1 := ⟨fuel - 1, by omega⟩
    have r1 := rf23_1 hr.1
    have r31 := rf23_31 hr.1
    have r32 := rf23_32 hr.1
    have hb2 : m.1 24 2 = q32 bc := by rw [hr.2 2 (by omega)]; exact h2
    obtain ⟨u1, u2⟩ := hg.2 i hi
    obtain ⟨m1, e1, e2, e3, e4, e5⟩ := glead hF hp hw hr hx (b := (b : Int)) (by omega)
    have le := LE_b al b (gt P i)
    show ∃ m' C' D', nb_X10_goes_62 F s ns (nl_X10_goes_62 F s ns fuel) m 23 _ _ _ = _ ∧ _
    unfold nb_X10_goes_62 nb_X10_goes_124 SPB SP1
    by_cases c0 : (LE al b (gt P i)).1 = 0
    · rw [if_pos c0]
      rw [c0] at e1
      obtain ⟨a0, a1, ay⟩ := e5 c0
      have yb := ay.b
      obtain ⟨f1, f2⟩ := gmet hF hp e3.1 (e4 _ _ _ hM) (by omega) hf ay
      unfold AD
      by_cases cm : (LE al b (gt P i)).2 ∈ R
      · rw [if_pos cm]
        obtain ⟨r, r1', r2', r3⟩ := f1 cm
        obtain ⟨m2, C2, D2, i1, i2, i3, i4⟩ := ih fuel (b + 1) (by omega) (by omega) m1 R C D e3 (hg.k e2) (e4 _ _ _ hM) hf (by omega)
        rw [Int.natCast_add] at i1
        refine ⟨m2, C2, D2, ?_, e2.tr i2, i3, i4⟩
        rw [← i1]
        simp (disch := omega) only [Option.bind_some, bindv, bindv0, bind2_s, bind3_s, ↓reduceIte, Bool.false_eq_true, rZM_0, rZM_1, rZP_0, rZP_1, ptZ_0, ptZ_1, c32i, c64i, ncI, Int.natCast_add, Int.natCast_mul, q32_neg, q64_neg, q32_add, q32_sub, q32_mul, q64_add, q64_sub, q64_mul, q32_64i, q64_32, q32_lt_t, q32_lt_f, q32_le_t, q32_le_f, q32_eq_t, q32_eq_f, q64_lt_t, q64_lt_f, q64_le_t, q64_le_f, q64_eq_t, q64_eq_f, rdI_i, rdL_i, rdR_i, rdN_i, stI_i, stL_i, stR_i, wI_s, wI_n, wL_s, wL_n, wI_2, wI_3, wL_1, wL_3, wR_1, wR_2, Int.toNat_natCast, tnO, tn_add, tn_sub, tn_mul, Nat.add_sub_cancel, Nat.add_zero, Nat.zero_add, lnO, win_t, win_f, r1, hb2, r31, r32, u1, u2, e1, a0, a1, r3]
        first | done | rfl
      · rw [if_neg cm]
        have r3 := f2 cm
        obtain ⟨m2, p1, p2, p3, -, p4⟩ := gput hF hp e3 (e4 _ _ _ hM) (by omega) ay (-1) (-1)
        obtain ⟨m3, C3, D3, i1, i2, i3, i4⟩ := ih fuel (b + 1) (by omega) (by omega) m2 (R ++ [(LE al b (gt P i)).2]) _ _ p3 ((hg.k e2).k p2) p4 (hf.ap (FLS.one ay)) (by rw [List.length_append, List.length_singleton]; omega)
        rw [Int.natCast_add] at i1
        refine ⟨m3, C3, D3, ?_, (e2.tr p2).tr i2, i3, i4⟩
        rw [← i1]
        simp (disch := omega) only [Option.bind_some, bindv, bindv0, bind2_s, bind3_s, ↓reduceIte, Bool.false_eq_true, rZM_0, rZM_1, rZP_0, rZP_1, ptZ_0, ptZ_1, c32i, c64i, ncI, Int.natCast_add, Int.natCast_mul, q32_neg, q64_neg, q32_add, q32_sub, q32_mul, q64_add, q64_sub, q64_mul, q32_64i, q64_32, q32_lt_t, q32_lt_f, q32_le_t, q32_le_f, q32_eq_t, q32_eq_f, q64_lt_t, q64_lt_f, q64_le_t, q64_le_f, q64_eq_t, q64_eq_f, rdI_i, rdL_i, rdR_i, rdN_i, stI_i, stL_i, stR_i, wI_s, wI_n, wL_s, wL_n, wI_2, wI_3, wL_1, wL_3, wR_1, wR_2, Int.toNat_natCast, tnO, tn_add, tn_sub, tn_mul, Nat.add_sub_cancel, Nat.add_zero, Nat.zero_add, lnO, win_t, win_f, r1, hb2, r31, r32, u1, u2, e1, a0, a1, r3, p1]
        first | done | rfl
    · rw [if_neg c0]
      obtain ⟨m2, C2, D2, i1, i2, i3, i4⟩ := ih fuel (b + 1) (by omega) (by omega) m1 R C D e3 (hg.k e2) (e4 _ _ _ hM) hf (by omega)
      rw [Int.natCast_add] at i1
      refine ⟨m2, C2, D2, ?_, e2.tr i2, i3, i4⟩
      rw [← i1]
      simp (disch := omega) only [Option.bind_some, bindv, bindv0, bind2_s, bind3_s, ↓reduceIte, Bool.false_eq_true, rZM_0, rZM_1, rZP_0, rZP_1, ptZ_0, ptZ_1, c32i, c64i, ncI, Int.natCast_add, Int.natCast_mul, q32_neg, q64_neg, q32_add, q32_sub, q32_mul, q64_add, q64_sub, q64_mul, q32_64i, q64_32, q32_lt_t, q32_lt_f, q32_le_t, q32_le_f, q32_eq_t, q32_eq_f, q64_lt_t, q64_lt_f, q64_le_t, q64_le_f, q64_eq_t, q64_eq_f, rdI_i, rdL_i, rdR_i, rdN_i, stI_i, stL_i, stR_i, wI_s, wI_n, wL_s, wL_n, wI_2, wI_3, wL_1, wL_3, wR_1, wR_2, Int.toNat_natCast, tnO, tn_add, tn_sub, tn_mul, Nat.add_sub_cancel, Nat.add_zero, Nat.zero_add, lnO, win_t, win_f, r1, hb2, r31, r32, u1, u2, e1]
      first | done | rfl
def SPW (al : Nat → Int32) (bc w : Nat) : List FR → List FR → List FR
  | [], R => R
  | x :: P, R => SPW al bc w P (SPB al x bc 0 (if w = 0 then R else AD R x))
theorem SPW_0 (al : Nat → Int32) (bc : Nat) : ∀ P R, SPW al bc 0 P R = SPR al bc P R := by
  intro P
  induction P with
  | nil => intro R; rfl
  | cons x P ih => intro R; exact ih _
theorem SPW_len (al : Nat → Int32) {bc : Nat} (hbc : bc ≤ 6) {w : Nat} (hw : w ≤ 1) : ∀ P R, (SPW al bc w P R).length ≤ R.length + (6 + w) * P.length := by
  intro P
  induction P with
  | nil => intro R; exact Nat.le_refl _
  | cons x P ih =>
    intro R
    have h0 := AD_len R x
    have h1 := SPB_len al x bc 0 (if w = 0 then R else AD R x)
    have h2 := ih (SPB al x bc 0 (if w = 0 then R else AD R x))
    unfold SPW
    rw [List.length_cons, Nat.mul_add, Nat.mul_one]
    by_cases c : w = 0
    · rw [if_pos c] at h1 h2 ⊢
      omega
    · rw [if_neg c] at h1 h2 ⊢
      omega
theorem FLS.spw {al : Nat → Int32} (hw : WA al) (bc w : Nat) : ∀ P R, FLS (A al 1) P → FLS (A al 1) R → FLS (A al 1) (SPW al bc w P R) := by
  intro P
  induction P with
  | nil => intro R _ h; exact h
  | cons x P ih =>
    intro R hP h
    refine ih _ (fun y hy => hP y (List.mem_cons_of_mem _ hy)) (FLS.spb hw (hP x List.mem_cons_self) bc 0 _ ?_)
    split
    · exact h
    · exact h.ad (hP x List.mem_cons_self)
theorem goO10 {F : Nat} (hF : 20000 ≤ F) {s : List Sh} (hp : ∃ t, s = sB ++ t) {al : Nat → Int32} (hw : WA al) {bc : Nat} (h2 : al 2 = q32 bc) (hbc : bc ≤ 6) {P : List FR} (hP : FLS (A al 1) P) (hPl : P.length ≤ 8192) {w : Nat} (hw1 : w ≤ 1) : ∀ (Q : List FR) fuel i, i + Q.length = P.length → Q.length < fuel → (∀ j, j < Q.length → gt P (i + j) = gt Q j) → ∀ (m : Mem) (R : List FR) (C D : Nat → Int), RD m al → PG m P → MG m R C D → FLS (A al 1) R → R.length + (6 + w) * Q.length ≤ 8191 → ∃ m' C' D', nl_X10_goes_6 F s fuel m 23 (q32 w) (q32 (i : Nat)) = some ((), m') ∧ KG m m' ∧ MG m' (SPW al bc w Q R) C' D' ∧ FLS (A al 1) (SPW al bc w Q R) := by
  have l37 := ln37 hp
  have l38 := ln38 hp
  intro Q
  induction Q with
  | nil =>
    intro fuel i hi hfu hQ m R C D hr hg hM hf hlen
    obtain ⟨fuel, rfl⟩ : ∃ f, fuel = f + 1 := ⟨fuel - 1, by omega⟩
    have hi' : i = P.length := hi
    have g1 := hg.1
    refine ⟨m, C, D, ?_, KG.rf m, hM, hf⟩
    show nb_X10_goes_6 F s (nl_X10_goes_6 F s fuel) m 23 _ _ = _
    unfold nb_X10_goes_6
    simp (disch := omega) only [Option.bind_some, bindv, bindv0, bind2_s, bind3_s, ↓reduceIte, Bool.false_eq_true, rZM_0, rZM_1, rZP_0, rZP_1, ptZ_0, ptZ_1, c32i, c64i, ncI, Int.natCast_add, Int.natCast_mul, q32_neg, q64_neg, q32_add, q32_sub, q32_mul, q64_add, q64_sub, q64_mul, q32_64i, q64_32, q32_lt_t, q32_lt_f, q32_le_t, q32_le_f, q32_eq_t, q32_eq_f, q64_lt_t, q64_lt_f, q64_le_t, q64_le_f, q64_eq_t, q64_eq_f, rdI_i, rdL_i, rdR_i, rdN_i, stI_i, stL_i, stR_i, wI_s, wI_n, wL_s, wL_n, wI_2, wI_3, wL_1, wL_3, wR_1, wR_2, Int.toNat_natCast, tnO, tn_add, tn_sub, tn_mul, Nat.add_sub_cancel, Nat.add_zero, Nat.zero_add, lnO, win_t, win_f, g1]
  | cons x Q ih =>
    intro fuel i hi hfu hQ m R C D hr hg hM hf hlen
    rw [List.length_cons, Nat.mul_add, Nat.mul_one] at hlen
    rw [List.length_cons] at hi hfu
    obtain ⟨fuel, rfl⟩ : ∃ f, fuel = f + 1 := ⟨fuel - 1, by omega⟩
    have g1 := hg.1
    obtain ⟨u1, u2⟩ := hg.2 i (by omega)
    have r31 := rf23_31 hr.1
    have r32 := rf23_32 hr.1
    have hx : gt P i = x := by
      have := hQ 0 (by rw [List.length_cons]; omega)
      rw [Nat.add_zero] at this
      exact this
    have hxf := hP.at (i := i) (by omega)
    have xb := hxf.b
    -- what is met before the buttons
    have pre : ∃ m1 C1 D1, nb_X10_goes_6 F s (nl_X10_goes_6 F s fuel) m 23 (q32 w) (q32 i) = nb_X10_goes_60 F s (nl_X10_goes_6 F s fuel) m1 23 (q32 w) (q32 i) ∧ KG m m1 ∧ MG m1 (if w = 0 then R else AD R x) C1 D1 ∧ FLS (A al 1) (if w = 0 then R else AD R x) := by
      by_cases c : w = 0
      · subst c
        refine ⟨m, C, D, ?_, KG.rf m, hM, hf⟩
        unfold nb_X10_goes_6
        simp (disch := omega) only [Option.bind_some, bindv, bindv0, bind2_s, bind3_s, ↓reduceIte, Bool.false_eq_true, rZM_0, rZM_1, rZP_0, rZP_1, ptZ_0, ptZ_1, c32i, c64i, ncI, Int.natCast_add, Int.natCast_mul, q32_neg, q64_neg, q32_add, q32_sub, q32_mul, q64_add, q64_sub, q64_mul, q32_64i, q64_32, q32_lt_t, q32_lt_f, q32_le_t, q32_le_f, q32_eq_t, q32_eq_f, q64_lt_t, q64_lt_f, q64_le_t, q64_le_f, q64_eq_t, q64_eq_f, rdI_i, rdL_i, rdR_i, rdN_i, stI_i, stL_i, stR_i, wI_s, wI_n, wL_s, wL_n, wI_2, wI_3, wL_1, wL_3, wR_1, wR_2, Int.toNat_natCast, tnO, tn_add, tn_sub, tn_mul, Nat.add_sub_cancel, Nat.add_zero, Nat.zero_add, lnO, win_t, win_f, g1]
      · have c1 : w = 1 := by omega
        subst c1
        rw [if_neg c, ← hx]
        obtain ⟨f1, f2⟩ := gmet hF hp hr.1 hM (by omega) hf hxf
        unfold AD
        by_cases cm : gt P i ∈ R
        · rw [if_pos cm]
          obtain ⟨r, p1, p2, p3⟩ := f1 cm
          refine ⟨m, C, D, ?_, KG.rf m, hM, hf⟩
          unfold nb_X10_goes_6
          simp (disch := omega) only [Option.bind_some, bindv, bindv0, bind2_s, bind3_s, ↓reduceIte, Bool.false_eq_true, rZM_0, rZM_1, rZP_0, rZP_1, ptZ_0, ptZ_1, c32i, c64i, ncI, Int.natCast_add, Int.natCast_mul, q32_neg, q64_neg, q32_add, q32_sub, q32_mul, q64_add, q64_sub, q64_mul, q32_64i, q64_32, q32_lt_t, q32_lt_f, q32_le_t, q32_le_f, q32_eq_t, q32_eq_f, q64_lt_t, q64_lt_f, q64_le_t, q64_le_f, q64_eq_t, q64_eq_f, rdI_i, rdL_i, rdR_i, rdN_i, stI_i, stL_i, stR_i, wI_s, wI_n, wL_s, wL_n, wI_2, wI_3, wL_1, wL_3, wR_1, wR_2, Int.toNat_natCast, tnO, tn_add, tn_sub, tn_mul, Nat.add_sub_cancel, Nat.add_zero, Nat.zero_add, lnO, win_t, win_f, g1, r31, r32, u1, u2, p3]
        · rw [if_neg cm]
          have p3 := f2 cm
          obtain ⟨m1, q1, q2, q3, -, q4⟩ := gput hF hp hr hM (by omega) hxf (-1) (-1)
          refine ⟨m1, _, _, ?_, q2, q4, hf.ap (FLS.one hxf)⟩
          unfold nb_X10_goes_6
          simp (disch := omega) only [Option.bind_some, bindv, bindv0, bind2_s, bind3_s, ↓reduceIte, Bool.false_eq_true, rZM_0, rZM_1, rZP_0, rZP_1, ptZ_0, ptZ_1, c32i, c64i, ncI, Int.natCast_add, Int.natCast_mul, q32_neg, q64_neg, q32_add, q32_sub, q32_mul, q64_add, q64_sub, q64_mul, q32_64i, q64_32, q32_lt_t, q32_lt_f, q32_le_t, q32_le_f, q32_eq_t, q32_eq_f, q64_lt_t, q64_lt_f, q64_le_t, q64_le_f, q64_eq_t, q64_eq_f, rdI_i, rdL_i, rdR_i, rdN_i, stI_i, stL_i, stR_i, wI_s, wI_n, wL_s, wL_n, wI_2, wI_3, wL_1, wL_3, wR_1, wR_2, Int.toNat_natCast, tnO, tn_add, tn_sub, tn_mul, Nat.add_sub_cancel, Nat.add_zero, Nat.zero_add, lnO, win_t, win_f, g1, r31, r32, u1, u2, p3, q1]
    obtain ⟨m1, C1, D1, a1, a2, a3, a4⟩ := pre
    have ad := AD_len R x
    have wl : (if w = 0 then R else AD R x).length ≤ R.length + w := by
      by_cases c : w = 0
      · rw [if_pos c]; omega
      · rw [if_neg c]; omega
    obtain ⟨m2, C2, D2, i1, i2, i3, i4⟩ := goI10 hF hp hw h2 hbc hP hPl (i := i) (by omega) (q32 w) (nl_X10_goes_6 F s fuel) bc F 0 (by omega) (by omega) m1 _ C1 D1 (hr.k a2.kn) (hg.k a2) a3 a4 (by omega)
    rw [hx] at i3 i4
    have sl := SPB_len al x bc 0 (if w = 0 then R else AD R x)
    obtain ⟨m3, C3, D3, j1, j2, j3, j4⟩ := ih fuel (i + 1) (by omega) (by omega) (fun j hj => by
      have := hQ (j + 1) (by rw [List.length_cons]; omega)
      rw [show i + 1 + j = i + (j + 1) by omega]
      exact this) m2 _ C2 D2 ((hr.k a2.kn).k i2.kn) ((hg.k a2).k i2) i3 i4 (by omega)
    rw [Int.natCast_add] at j1
    refine ⟨m3, C3, D3, ?_, (a2.tr i2).tr j2, j3, j4⟩
    rw [← j1]
    show nb_X10_goes_6 F s (nl_X10_goes_6 F s fuel) m 23 _ _ = _
    rw [a1]
    exact i1
theorem goes10 {F : Nat} (hF : 20000 ≤ F) {s : List Sh} (hp : ∃ t, s = sB ++ t) {al : Nat → Int32} (hw : WA al) {bc : Nat} (h2 : al 2 = q32 bc) (hbc : bc ≤ 6) {P : List FR} (hP : FLS (A al 1) P) {w : Nat} (hw1 : w ≤ 1) (hlen : (6 + w) * P.length ≤ 8191) {m : Mem} (hr : RD m al) (hg : PG m P) : ∃ m' C' D', n_X10_goes F s m 23 (q32 w) = some ((), m') ∧ KG m m' ∧ MG m' (SPW al bc w P []) C' D' ∧ FLS (A al 1) (SPW al bc w P []) := by
  have hpl : P.length ≤ 8192 := by
    have : 1 * P.length ≤ (6 + w) * P.length := Nat.mul_le_mul_right _ (by omega)
    omega
  obtain ⟨m1, a1, a2, a3, a4⟩ := forg10 hF hp hr.1 (fun _ => 0) (fun _ => 0)
  have k : KG m m1 := ⟨fun a k p1 p2 => a4 a k (by omega) (by omega), fun a k _ _ _ => by rw [a3], by rw [a3]⟩
  obtain ⟨m2, C2, D2, i1, i2, i3, i4⟩ := goO10 hF hp hw h2 hbc hP hpl hw1 P F 0 (by omega) (by omega) (fun j _ => by rw [Nat.zero_add]) m1 [] _ _ (hr.k k.kn) (hg.k k) a2 (fun x hx => (List.not_mem_nil hx).elim) (by show 0 + _ ≤ _; omega)
  refine ⟨m2, C2, D2, ?_, k.tr i2, i3, i4⟩
  unfold n_X10_goes nb_X10_goes_0
  rw [a1, bind2_s]
  exact i1
theorem becL {F : Nat} {s : List Sh} (hp : ∃ t, s = sB ++ t) {R : List FR} {C D : Nat → Int} (hR : R.length ≤ 8191) : ∀ n i fuel, i + n = R.length → n < fuel → ∀ m : Mem, RF m → MG m R C D → (∀ j, j < i → m.1 37 j = q32 (gt R j).1 ∧ m.1 38 j = q32 (gt R j).2) → ∃ m', nl_X10_becomesMet_2 F s fuel m 23 (q32 (i : Nat)) = some ((), m') ∧ KN m m' ∧ PG m' R := by
  have l31 := ln31 hp
  have l32 := ln32 hp
  have l37 := ln37 hp
  have l38 := ln38 hp
  intro n
  induction n with
  | zero =>
    intro i fuel hi hfu m hr hM h
    obtain ⟨fuel, rfl⟩ : ∃ f, fuel = f + 1 := ⟨fuel - 1, by omega⟩
    have hi' : i = R.length := by omega
    have g1 := hM.1
    refine ⟨wI m 23 33 (q32 R.length), ?_, ⟨fun a k p1 p2 => by rw [wI_n (by omega)], fun _ _ _ _ _ => rfl, rfl⟩, wI_s .., fun j hj => ?_⟩
    · show nb_X10_becomesMet_2 F s (nl_X10_becomesMet_2 F s fuel) m 23 _ = _
      unfold nb_X10_becomesMet_2
      simp (disch := omega) only [Option.bind_some, bindv, bindv0, bind2_s, bind3_s, ↓reduceIte, Bool.false_eq_true, rZM_0, rZM_1, rZP_0, rZP_1, ptZ_0, ptZ_1, c32i, c64i, ncI, Int.natCast_add, Int.natCast_mul, q32_neg, q64_neg, q32_add, q32_sub, q32_mul, q64_add, q64_sub, q64_mul, q32_64i, q64_32, q32_lt_t, q32_lt_f, q32_le_t, q32_le_f, q32_eq_t, q32_eq_f, q64_lt_t, q64_lt_f, q64_le_t, q64_le_f, q64_eq_t, q64_eq_f, rdI_i, rdL_i, rdR_i, rdN_i, stI_i, stL_i, stR_i, wI_s, wI_n, wL_s, wL_n, wI_2, wI_3, wL_1, wL_3, wR_1, wR_2, Int.toNat_natCast, tnO, tn_add, tn_sub, tn_mul, Nat.add_sub_cancel, Nat.add_zero, Nat.zero_add, lnO, win_t, win_f, g1]
    · rw [wI_n (by omega), wI_n (by omega)]
      exact h j (by omega)
  | succ n ih =>
    intro i fuel hi hfu m hr hM h
    obtain ⟨fuel, rfl⟩ : ∃ f, fuel = f + 1 := ⟨fuel - 1, by omega⟩
    have g1 := hM.1
    have r24 := rf23_24 hr
    have r25 := rf23_25 hr
    have r31 := rf23_31 hr
    have r32 := rf23_32 hr
    obtain ⟨u1, u2, -⟩ := hM.2.1 i (by omega)
    obtain ⟨m', i1, i2, i3⟩ := ih (i + 1) fuel (by omega) (by omega) (wI (wI m 37 i (q32 (gt R i).1)) 38 i (q32 (gt R i).2)) (hr.same rfl) (hM.k (fun a k hk => by rw [wI_n (by omega), wI_n (by omega)])) (fun j hj => by
      by_cases c : j = i
      · rw [c, wI_s, wI_n (by omega), wI_s]
        exact ⟨rfl, rfl⟩
      · rw [wI_n (by omega), wI_n (by omega), wI_n (by omega), wI_n (by omega)]
        exact h j (by omega))
    refine ⟨m', ?_, ⟨fun a k p1 p2 => by rw [i2.1 a k p1 p2, wI_n (by omega), wI_n (by omega)], i2.2.1, i2.2.2⟩, i3⟩
    rw [← i1, Int.natCast_add]
    show nb_X10_becomesMet_2 F s (nl_X10_becomesMet_2 F s fuel) m 23 _ = _
    unfold nb_X10_becomesMet_2
    simp (disch := omega) only [Option.bind_some, bindv, bindv0, bind2_s, bind3_s, ↓reduceIte, Bool.false_eq_true, rZM_0, rZM_1, rZP_0, rZP_1, ptZ_0, ptZ_1, c32i, c64i, ncI, Int.natCast_add, Int.natCast_mul, q32_neg, q64_neg, q32_add, q32_sub, q32_mul, q64_add, q64_sub, q64_mul, q32_64i, q64_32, q32_lt_t, q32_lt_f, q32_le_t, q32_le_f, q32_eq_t, q32_eq_f, q64_lt_t, q64_lt_f, q64_le_t, q64_le_f, q64_eq_t, q64_eq_f, rdI_i, rdL_i, rdR_i, rdN_i, stI_i, stL_i, stR_i, wI_s, wI_n, wL_s, wL_n, wI_2, wI_3, wL_1, wL_3, wR_1, wR_2, Int.toNat_natCast, tnO, tn_add, tn_sub, tn_mul, Nat.add_sub_cancel, Nat.add_zero, Nat.zero_add, lnO, win_t, win_f, g1, r24, r25, r31, r32, u1, u2]
    first | done | rfl
theorem goBe10 {F : Nat} (hF : 20000 ≤ F) {s : List Sh} (hp : ∃ t, s = sB ++ t) {al : Nat → Int32} (hw : WA al) {bc : Nat} (h2 : al 2 = q32 bc) (hbc : bc ≤ 6) {P : List FR} (hP : FLS (A al 1) P) {w : Nat} (hw1 : w ≤ 1) (hlen : (6 + w) * P.length ≤ 8191) {m : Mem} (hr : RD m al) (hg : PG m P) : ∃ m1 m', n_X10_goes F s m 23 (q32 w) = some ((), m1) ∧ n_X10_becomesMet F s m1 23 = some ((), m') ∧ KN m m' ∧ PG m' (SPW al bc w P []) ∧ FLS (A al 1) (SPW al bc w P []) := by
  obtain ⟨m1, C1, D1, a1, a2, a3, a4⟩ := goes10 hF hp hw h2 hbc hP hw1 hlen hr hg
  have sl := SPW_len al hbc hw1 P []
  have e : ([] : List FR).length = 0 := rfl
  obtain ⟨m2, b1, b2, b3⟩ := becL (F := F) hp (R := SPW al bc w P []) (C := C1) (D := D1) (by omega) (SPW al bc w P []).length 0 F (by omega) (by omega) m1 (hr.k a2.kn).1 a3 (fun j hj => by omega)
  exact ⟨m1, m2, a1, b1, a2.kn.tr b2, b3, a4⟩
theorem reaL10 {F : Nat} (hF : 20000 ≤ F) {s : List Sh} (hp : ∃ t, s = sB ++ t) {al : Nat → Int32} (hw : WA al) {bc : Nat} (h2 : al 2 = q32 bc) (hbc : bc ≤ 6) {x : FR} {n : Nat} (hn : n ≤ 5) : ∀ j k fuel, k + j = n → j < fuel → ∀ m : Mem, RD m al → PG m (LY al bc x k) → FLS (A al 1) (LY al bc x k) → ∃ m', nl_X10_laysReach_20 F s fuel m 23 (q32 n) (q32 (k : Nat)) = some ((), m') ∧ KN m m' ∧ PG m' (LY al bc x n) ∧ FLS (A al 1) (LY al bc x n) := by
  intro j
  induction j with
  | zero =>
    intro k fuel hk hfu m hr hg hf
    obtain ⟨fuel, rfl⟩ : ∃ f, fuel = f + 1 := ⟨fuel - 1, by omega⟩
    have hk' : k = n := by omega
    subst hk'
    refine ⟨m, ?_, KN.rf m, hg, hf⟩
    show nb_X10_laysReach_20 F s (nl_X10_laysReach_20 F s fuel) m 23 _ _ = _
    unfold nb_X10_laysReach_20
    simp (disch := omega) only [Option.bind_some, bindv, bindv0, bind2_s, bind3_s, ↓reduceIte, Bool.false_eq_true, rZM_0, rZM_1, rZP_0, rZP_1, ptZ_0, ptZ_1, c32i, c64i, ncI, Int.natCast_add, Int.natCast_mul, q32_neg, q64_neg, q32_add, q32_sub, q32_mul, q64_add, q64_sub, q64_mul, q32_64i, q64_32, q32_lt_t, q32_lt_f, q32_le_t, q32_le_f, q32_eq_t, q32_eq_f, q64_lt_t, q64_lt_f, q64_le_t, q64_le_f, q64_eq_t, q64_eq_f, rdI_i, rdL_i, rdR_i, rdN_i, stI_i, stL_i, stR_i, wI_s, wI_n, wL_s, wL_n, wI_2, wI_3, wL_1, wL_3, wR_1, wR_2, Int.toNat_natCast, tnO, tn_add, tn_sub, tn_mul, Nat.add_sub_cancel, Nat.add_zero, Nat.zero_add, lnO, win_t, win_f]
  | succ j ih =>
    intro k fuel hk hfu m hr hg hf
    obtain ⟨fuel, rfl⟩ : ∃ f, fuel = f + 1 := ⟨fuel - 1, by omega⟩
    have lk := LY_len al hbc x k
    have l4 : 6 ^ k ≤ 6 ^ 4 := Nat.pow_le_pow_right (by omega) (by omega)
    have l4' : 6 ^ 4 = 1296 := by decide
    obtain ⟨m1, m2, a1, a2, a3, a4, a5⟩ := goBe10 hF hp hw h2 hbc hf (w := 0) (by omega) (by omega) hr hg
    rw [SPW_0] at a4 a5
    obtain ⟨m3, b1, b2, b3, b4⟩ := ih (k + 1) fuel (by omega) (by omega) m2 (hr.k a3) a4 a5
    refine ⟨m3, ?_, a3.tr b2, b3, b4⟩
    rw [← b1, Int.natCast_add]
    have a1' : n_X10_goes F s m 23 (q32 0) = some ((), m1) := a1
    show nb_X10_laysReach_20 F s (nl_X10_laysReach_20 F s fuel) m 23 _ _ = _
    unfold nb_X10_laysReach_20
    simp (disch := omega) only [Option.bind_some, bindv, bindv0, bind2_s, bind3_s, ↓reduceIte, Bool.false_eq_true, rZM_0, rZM_1, rZP_0, rZP_1, ptZ_0, ptZ_1, c32i, c64i, ncI, Int.natCast_add, Int.natCast_mul, q32_neg, q64_neg, q32_add, q32_sub, q32_mul, q64_add, q64_sub, q64_mul, q32_64i, q64_32, q32_lt_t, q32_lt_f, q32_le_t, q32_le_f, q32_eq_t, q32_eq_f, q64_lt_t, q64_lt_f, q64_le_t, q64_le_f, q64_eq_t, q64_eq_f, rdI_i, rdL_i, rdR_i, rdN_i, stI_i, stL_i, stR_i, wI_s, wI_n, wL_s, wL_n, wI_2, wI_3, wL_1, wL_3, wR_1, wR_2, Int.toNat_natCast, tnO, tn_add, tn_sub, tn_mul, Nat.add_sub_cancel, Nat.add_zero, Nat.zero_add, lnO, win_t, win_f, a1', a2]
    first | done | rfl
theorem beg10 {s : List Sh} (hp : ∃ t, s = sB ++ t) {m : Mem} (hr : RF m) {x : FR} : ∃ m', n_X10_begins s m 23 (q32 x.1) (q32 x.2) = some ((), m') ∧ KN m m' ∧ PG m' [x] := by
  have l37 := ln37 hp
  have l38 := ln38 hp
  have r31 := rf23_31 hr
  have r32 := rf23_32 hr
  refine ⟨wI (wI (wI m 37 0 (q32 x.1)) 38 0 (q32 x.2)) 23 33 (q32 1), ?_, ⟨fun a k p1 p2 => by rw [wI_n (by omega), wI_n (by omega), wI_n (by omega)], fun _ _ _ _ _ => rfl, rfl⟩, wI_s .., fun i hi => ?_⟩
  · unfold n_X10_begins nb_X10_begins_0
    simp (disch := omega) only [Option.bind_some, bindv, bindv0, bind2_s, bind3_s, ↓reduceIte, Bool.false_eq_true, rZM_0, rZM_1, rZP_0, rZP_1, ptZ_0, ptZ_1, c32i, c64i, ncI, Int.natCast_add, Int.natCast_mul, q32_neg, q64_neg, q32_add, q32_sub, q32_mul, q64_add, q64_sub, q64_mul, q32_64i, q64_32, q32_lt_t, q32_lt_f, q32_le_t, q32_le_f, q32_eq_t, q32_eq_f, q64_lt_t, q64_lt_f, q64_le_t, q64_le_f, q64_eq_t, q64_eq_f, rdI_i, rdL_i, rdR_i, rdN_i, stI_i, stL_i, stR_i, wI_s, wI_n, wL_s, wL_n, wI_2, wI_3, wL_1, wL_3, wR_1, wR_2, Int.toNat_natCast, tnO, tn_add, tn_sub, tn_mul, Nat.add_sub_cancel, Nat.add_zero, Nat.zero_add, lnO, win_t, win_f, r31, r32]
    first | done | rfl
  · have hi' : i = 0 := by have : [x].length = 1 := rfl; omega
    subst hi'
    rw [wI_n (by omega), wI_n (by omega), wI_s, wI_n (by omega), wI_s]
    exact ⟨rfl, rfl⟩
theorem reach10 {F : Nat} (hF : 20000 ≤ F) {s : List Sh} (hp : ∃ t, s = sB ++ t) {al : Nat → Int32} (hw : WA al) {bc : Nat} (h2 : al 2 = q32 bc) (hbc : bc ≤ 6) {n : Nat} (hn : n ≤ 5) {m : Mem} (hr : RD m al) : ∃ m', n_X10_laysReach F s m 23 (q32 n) = some ((), m') ∧ KN m m' ∧ PG m' (LY al bc (A al 7, A al 8) n) ∧ FLS (A al 1) (LY al bc (A al 7, A al 8) n) := by
  obtain ⟨tp, t1, t2, t3, t4, t5, t6, t7, -⟩ := hw.at
  have l24 := ln24 hp
  have r1 := rf23_1 hr.1
  have h7 : m.1 24 7 = q32 (A al 7) := by rw [hr.2 7 (by omega)]; exact t6
  have h8 : m.1 24 8 = q32 (A al 8) := by rw [hr.2 8 (by omega)]; exact t7
  obtain ⟨m1, a1, a2, a3⟩ := beg10 hp hr.1 (x := (A al 7, A al 8))
  obtain ⟨m2, b1, b2, b3, b4⟩ := reaL10 hF hp hw h2 hbc hn n 0 F (by omega) (by omega) m1 (hr.k a2) a3 (FLS.one (by rw [t4]; exact t5))
  refine ⟨m2, ?_, a2.tr b2, b3, b4⟩
  have a1' : n_X10_begins s m 23 (q32 (A al 7)) (q32 (A al 8)) = some ((), m1) := a1
  have b1' : nl_X10_laysReach_20 F s F m1 23 (q32 n) (q32 0) = some ((), m2) := b1
  unfold n_X10_laysReach nb_X10_laysReach_0
  simp (disch := omega) only [Option.bind_some, bindv, bindv0, bind2_s, bind3_s, ↓reduceIte, Bool.false_eq_true, rZM_0, rZM_1, rZP_0, rZP_1, ptZ_0, ptZ_1, c32i, c64i, ncI, Int.natCast_add, Int.natCast_mul, q32_neg, q64_neg, q32_add, q32_sub, q32_mul, q64_add, q64_sub, q64_mul, q32_64i, q64_32, q32_lt_t, q32_lt_f, q32_le_t, q32_le_f, q32_eq_t, q32_eq_f, q64_lt_t, q64_lt_f, q64_le_t, q64_le_f, q64_eq_t, q64_eq_f, rdI_i, rdL_i, rdR_i, rdN_i, stI_i, stL_i, stR_i, wI_s, wI_n, wL_s, wL_n, wI_2, wI_3, wL_1, wL_3, wR_1, wR_2, Int.toNat_natCast, tnO, tn_add, tn_sub, tn_mul, Nat.add_sub_cancel, Nat.add_zero, Nat.zero_add, lnO, win_t, win_f, r1, h7, h8, a1', b1']
