/-! the reference's house that is told -/
def H10 (m : Mem) (h : HSS) : Prop := (m.1 27 0 = q32 (h.1.2.2 : Nat) ∧ m.1 27 1 = q32 (h.1.1 : Nat) ∧ m.1 27 2 = q32 (hBc h : Nat) ∧ m.1 27 3 = q32 (hFc h : Nat) ∧ m.1 27 4 = q32 (hTc h : Nat) ∧ m.1 27 5 = q32 (h.1.2.1 : Nat) ∧ m.1 27 6 = q32 0 ∧ m.1 27 7 = q32 h.2.1.1 ∧ m.1 27 8 = q32 h.2.1.2) ∧ (∀ k, k < hFc h → m.1 27 (9 + k) = q32 (h.2.2.2.1.2.1 k) ∧ m.1 27 (17 + k) = q32 (h.2.2.2.1.2.2.1 k) ∧ ∀ z, z < 3 → m.1 27 (25 + 8 * z + k) = q32 (h.2.2.2.1.2.2.2.1 k z : Nat)) ∧ (∀ t, t < hTc h → m.1 27 (49 + t) = q32 (h.2.2.2.2.1.2.1 t) ∧ m.1 27 (55 + t) = q32 (h.2.2.2.2.1.2.2 t)) ∧ (∀ b, b < hBc h → m.1 27 (61 + b) = q32 (h.2.2.2.2.2.2.1 b : Nat) ∧ m.1 27 (67 + b) = q32 ((h.2.2.2.2.2.2.1 (b + 1) - h.2.2.2.2.2.2.1 b : Nat) : Int)) ∧ CDE10 m (hCd h) ∧ m.1 23 18 = q32 (if h.2.2.1 = true ∨ 0 < hFc h ∨ 0 < hTc h then 1 else 0) ∧ m.1 27 73 = q32 0
/-- all that reading a line may write -/
def KL10 (m m' : Mem) : Prop := (∀ a k, (a ≠ 23 ∨ (k ≠ 6 ∧ k ≠ 7 ∧ k ≠ 9 ∧ k ≠ 10 ∧ k ≠ 11 ∧ k ≠ 12 ∧ k ≠ 17 ∧ k ≠ 18)) → a ≠ 27 → m'.1 a k = m.1 a k) ∧ (∀ a k, (a ≠ 23 ∨ (k ≠ 15 ∧ k ≠ 16)) → m'.2.1 a k = m.2.1 a k) ∧ m'.2.2 = m.2.2
theorem KL10.rf (m : Mem) : KL10 m m := ⟨fun _ _ _ _ => rfl, fun _ _ _ => rfl, rfl⟩
theorem KL10.tr {m m1 m2 : Mem} (h : KL10 m m1) (h2 : KL10 m1 m2) : KL10 m m2 := ⟨fun a k p q => (h2.1 a k p q).trans (h.1 a k p q), fun a k p => (h2.2.1 a k p).trans (h.2.1 a k p), h2.2.2.trans h.2.2⟩
theorem KA10.kl {m m' : Mem} (h : KA10 m m') : KL10 m m' := ⟨fun a k p _ => h.1 a k (by omega), h.2⟩
theorem KS10.kl {m m' : Mem} (h : KS10 m m') : KL10 m m' := ⟨fun a k p q => h.1 a k (by omega) (by omega), fun _ _ _ => by rw [h.2], by rw [h.2]⟩
theorem KX.kl {m m' : Mem} (h : KX m m') : KL10 m m' := h.ka.kl
theorem KL10.I {m : Mem} {k : Nat} {x : Int32} : KL10 m (wI m 27 k x) := ⟨fun a j p q => by rw [wI_n (by omega)], fun _ _ _ => rfl, rfl⟩
theorem KL10.Z {m : Mem} {x : Int32} : KL10 m (wI m 23 18 x) := ⟨fun a j p q => by rw [wI_n (by omega)], fun _ _ _ => rfl, rfl⟩
theorem TXR.kl {s : List Sh} {m m' : Mem} {N : Nat} {T : Nat → Int} (h : TXR s m N T) (e : KL10 m m') : TXR s m' N T := h.k (by rw [e.2.2]) (e.1 _ _ (by omega) (by omega)) (fun k => e.1 _ _ (by omega) (by omega))
theorem H10.a {m m' : Mem} {h : HSS} (hh : H10 m h) (e : ∀ k, m'.1 27 k = m.1 27 k) (e18 : m'.1 23 18 = m.1 23 18) : H10 m' h := by
  have e27 : m'.1 27 = m.1 27 := funext e
  unfold H10 CDE10 at hh ⊢
  rw [e27, e18]
  exact hh
theorem H10.ka {m m' : Mem} {h : HSS} (hh : H10 m h) (e : KA10 m m') : H10 m' h := hh.a (fun k => e.1 _ _ (by omega)) (e.1 _ _ (by omega))
theorem CN10.I {s : List Sh} {m : Mem} {T : Nat → Int} {N K i a k : Nat} {x : Int32} (h : CN10 s m T N K i) (ha : a = 27 ∨ (a = 23 ∧ k = 18)) : CN10 s (wI m a k x) T N K i := by
  obtain ⟨h1, h2, h3, h4⟩ := h
  refine ⟨h1.k rfl (by rw [wI_n (by omega)]) (fun j => by rw [wI_n (by omega)]), by rw [wI_n (by omega)]; exact h2, ?_, h4⟩
  unfold RST at h3 ⊢
  rw [wI_n (by omega), wI_n (by omega), wI_n (by omega), wI_n (by omega)]
  exact h3
theorem FLT10.I {m : Mem} {k p a j : Nat} {x : Int32} (h : FLT10 m k p) (ha : a = 27 ∨ (a = 23 ∧ j = 18)) : FLT10 (wI m a j x) k p := ⟨by rw [wI_n (by omega)]; exact h.1, h.2.1, h.2.2.1, by rw [wI_n (by omega)]; exact h.2.2.2⟩
/-- a line's reading by the reference; a fault may be found only at the line's end -/
def LN10 (s : List Sh) (T : Nat → Int) (N K : Nat) (m : Mem) (i : Nat) (res : LRZ) (o : Option (Unit × Mem)) : Prop := match res with
  | .inl (k, j) => j < K ∧ ∃ m', o = some ((), m') ∧ KL10 m m' ∧ (FLT10 m' k (tpos T N j) ∨ (CN10 s m' T N K j ∧ kdF T N j ≠ 59 ∧ k = csF (kdF T N) j))
  | .inr (j, h') => i < j ∧ j < K ∧ ∃ m', o = some ((), m') ∧ KL10 m m' ∧ CN10 s m' T N K j ∧ H10 m' h'
theorem csF2 {T : Nat → Int} {N i : Nat} : (if kdT T N (tpos T N i) = 0 then 1 else 2) = csF (kdF T N) i := rfl
theorem top10 {F : Nat} (hF : 20000 ≤ F) {s : List Sh} (hp : ∃ t, s = sB ++ t) {m : Mem} (hr : RF m) {T : Nat → Int} {N K i : Nat} (hK : TKE T N K) {h : HSS} (hh : H10 m h) (hc : CN10 s m T N K (i + 1)) (hb : ¬ (h.2.2.1 = true ∨ 0 < hFc h ∨ 0 < hTc h)) : LN10 s T N K m i (match numW (kdF T N) (amF T N) (i + 1) 1 9 with
    | .inl e => .inl e
    | .inr (j, v) => .inr (j, sTop h v.toNat)) (bind2 (n_X10_takes F s m 23 (1 : Int32) (9 : Int32)) fun x5 m6 => ((stI s m6 27 (1 : Int32) x5).bind fun m7 => (some ((), m7)))) := by
  have l27 := ln27 hp
  have t1 := tak10 hF hK hc (lo := 1) (hh := 9) (by omega) (by omega)
  cases e1 : numW (kdF T N) (amF T N) (i + 1) 1 9 with
  | inl p =>
    obtain ⟨k, j⟩ := p
    rw [e1] at t1
    obtain ⟨a0, x, m1, a1, a2, a3⟩ := t1
    have a1' : n_X10_takes F s m 23 (1 : Int32) (9 : Int32) = some (x, m1) := a1
    exact ⟨a0, wI m1 27 1 x, by rw [a1', bind2_s, stI_c 1 (by omega) (by omega), Option.bind_some], a2.kl.tr KL10.I, Or.inl (a3.I (Or.inl rfl))⟩
  | inr p =>
    obtain ⟨j, v⟩ := p
    rw [e1] at t1
    obtain ⟨a0, a00, v0, v1, m1, a1, a2, a3⟩ := t1
    have a1' : n_X10_takes F s m 23 (1 : Int32) (9 : Int32) = some (q32 v, m1) := a1
    refine ⟨by omega, a00, wI m1 27 1 (q32 v), by rw [a1', bind2_s, stI_c 1 (by omega) (by omega), Option.bind_some], a2.kl.tr KL10.I, a3.I (Or.inl rfl), ?_⟩
    obtain ⟨⟨q0, q1, q2, q3, q4, q5, q6, q7, q8⟩, f, t, b, c, g, g73⟩ := hh.ka a2.ka
    have W : ∀ k, k ≠ 1 → (wI m1 27 1 (q32 v)).1 27 k = m1.1 27 k := fun k hk => wI_n (by omega)
    refine ⟨⟨by rw [W 0 (by omega)]; exact q0, ?_, by rw [W 2 (by omega)]; exact q2, by rw [W 3 (by omega)]; exact q3, by rw [W 4 (by omega)]; exact q4, by rw [W 5 (by omega)]; exact q5, by rw [W 6 (by omega)]; exact q6, by rw [W 7 (by omega)]; exact q7, by rw [W 8 (by omega)]; exact q8⟩, fun k hk => ?_, fun k hk => ?_, fun k hk => ?_, ⟨by rw [W 98 (by omega)]; exact c.1, fun k hk => by rw [W _ (by omega)]; exact c.2 k hk⟩, by rw [wI_n (by omega)]; exact g, by rw [W 73 (by omega)]; exact g73⟩
    · rw [wI_s]
      show q32 v = q32 ((v.toNat : Nat) : Int)
      rw [Int.toNat_of_nonneg v0]
    · have := f k hk
      rw [W _ (by omega), W _ (by omega)]
      exact ⟨this.1, this.2.1, fun z hz => by rw [W _ (by omega)]; exact this.2.2 z hz⟩
    · rw [W _ (by omega), W _ (by omega)]; exact t k hk
    · rw [W _ (by omega), W _ (by omega)]; exact b k hk
theorem stk10 {F : Nat} (hF : 20000 ≤ F) {s : List Sh} (hp : ∃ t, s = sB ++ t) {m : Mem} (hr : RF m) {T : Nat → Int} {N K i : Nat} (hK : TKE T N K) {h : HSS} (hh : H10 m h) (hc : CN10 s m T N K (i + 1)) : LN10 s T N K m i (match numW (kdF T N) (amF T N) (i + 1) 0 9 with
    | .inl e => .inl e
    | .inr (j, v) => .inr (j, sStick h v.toNat)) (bind2 (n_X10_takes F s m 23 (0 : Int32) (9 : Int32)) fun x5 m6 => ((stI s m6 27 (5 : Int32) x5).bind fun m7 => (some ((), m7)))) := by
  have l27 := ln27 hp
  have t1 := tak10 hF hK hc (lo := 0) (hh := 9) (by omega) (by omega)
  cases e1 : numW (kdF T N) (amF T N) (i + 1) 0 9 with
  | inl p =>
    obtain ⟨k, j⟩ := p
    rw [e1] at t1
    obtain ⟨a0, x, m1, a1, a2, a3⟩ := t1
    have a1' : n_X10_takes F s m 23 (0 : Int32) (9 : Int32) = some (x, m1) := a1
    exact ⟨a0, wI m1 27 5 x, by rw [a1', bind2_s, stI_c 5 (by omega) (by omega), Option.bind_some], a2.kl.tr KL10.I, Or.inl (a3.I (Or.inl rfl))⟩
  | inr p =>
    obtain ⟨j, v⟩ := p
    rw [e1] at t1
    obtain ⟨a0, a00, v0, v1, m1, a1, a2, a3⟩ := t1
    have a1' : n_X10_takes F s m 23 (0 : Int32) (9 : Int32) = some (q32 v, m1) := a1
    refine ⟨by omega, a00, wI m1 27 5 (q32 v), by rw [a1', bind2_s, stI_c 5 (by omega) (by omega), Option.bind_some], a2.kl.tr KL10.I, a3.I (Or.inl rfl), ?_⟩
    obtain ⟨⟨q0, q1, q2, q3, q4, q5, q6, q7, q8⟩, f, t, b, c, g, g73⟩ := hh.ka a2.ka
    have W : ∀ k, k ≠ 5 → (wI m1 27 5 (q32 v)).1 27 k = m1.1 27 k := fun k hk => wI_n (by omega)
    refine ⟨⟨by rw [W 0 (by omega)]; exact q0, by rw [W 1 (by omega)]; exact q1, by rw [W 2 (by omega)]; exact q2, by rw [W 3 (by omega)]; exact q3, by rw [W 4 (by omega)]; exact q4, ?_, by rw [W 6 (by omega)]; exact q6, by rw [W 7 (by omega)]; exact q7, by rw [W 8 (by omega)]; exact q8⟩, fun k hk => ?_, fun k hk => ?_, fun k hk => ?_, ⟨by rw [W 98 (by omega)]; exact c.1, fun k hk => by rw [W _ (by omega)]; exact c.2 k hk⟩, by rw [wI_n (by omega)]; exact g, by rw [W 73 (by omega)]; exact g73⟩
    · rw [wI_s]
      show q32 v = q32 ((v.toNat : Nat) : Int)
      rw [Int.toNat_of_nonneg v0]
    · have := f k hk
      rw [W _ (by omega), W _ (by omega)]
      exact ⟨this.1, this.2.1, fun z hz => by rw [W _ (by omega)]; exact this.2.2 z hz⟩
    · rw [W _ (by omega), W _ (by omega)]; exact t k hk
    · rw [W _ (by omega), W _ (by omega)]; exact b k hk
/-- a place is read and laid into two numbers of 27 -/
theorem rat10 {F : Nat} (hF : 20000 ≤ F) {s : List Sh} (hp : ∃ t, s = sB ++ t) {m : Mem} (hr : RF m) {T : Nat → Int} {N K i tp : Nat} (hK : TKE T N K) (htp : 1 ≤ tp ∧ tp ≤ 9) (h1 : m.1 27 1 = q32 (tp : Nat)) (hc : CN10 s m T N K i) {a b : Nat} (ha : a < 98) (hb : b < 98) : match frcT (kdF T N) (amF T N) i 59 tp with
  | .inl (k, j) => j < K ∧ ∃ m', n_X10_readAt F s m 23 (q32 (a : Nat)) (q32 (b : Nat)) = some ((), m') ∧ KL10 m m' ∧ (∀ k, k ≠ a → k ≠ b → m'.1 27 k = m.1 27 k) ∧ (FLT10 m' k (tpos T N j) ∨ (CN10 s m' T N K j ∧ kdF T N j ≠ 59 ∧ k = csF (kdF T N) j))
  | .inr (j, f) => i < j ∧ j < K ∧ ∃ m1, KA10 m m1 ∧ CN10 s m1 T N K j ∧ n_X10_readAt F s m 23 (q32 (a : Nat)) (q32 (b : Nat)) = some ((), wI (wI m1 27 a (q32 f.1)) 27 b (q32 f.2)) := by
  have l27 := ln27 hp
  have tf := tfr10 hF hp hr hK htp h1 hc
  rw [frcT_U]
  unfold n_X10_readAt nb_X10_readAt_0
  cases e1 : frcU (kdF T N) (amF T N) i with
  | inl p =>
    obtain ⟨k, j⟩ := p
    rw [e1] at tf
    obtain ⟨a0, m1, a1, a2, a3⟩ := tf
    refine ⟨a0, m1, ?_, a2.kl, fun k _ _ => a2.1 _ _ (by omega), Or.inl a3⟩
    rw [a1, bind2_s, is10f a3, Option.bind_some, if_pos rfl]
    unfold nb_X10_readAt_25
    rw [if_neg (flt_ne a3)]
  | inr p =>
    obtain ⟨j, f⟩ := p
    rw [e1] at tf
    obtain ⟨a0, a00, fv, m1, a1, a2, a3, a4, a5, a6⟩ := tf
    have r4 : m1.2.2 23 4 = some 27 := by rw [a2.2.2]; exact rf23_4 hr
    have i20 : n_X10_is s m1 23 (20 : Int32) = some (if kdT T N (tpos T N j) = 59 then q32 1 else q32 0) := is10 (s := s) a3.2.1 a3.2.2.1 (c := 59) (by decide) (by decide)
    have st : nb_X10_readAt_25 F s m1 23 (q32 (a : Nat)) (q32 (b : Nat)) = some ((), wI (wI m1 27 a (q32 f.1)) 27 b (q32 f.2)) := by
      unfold nb_X10_readAt_25
      rw [a3.2.1, if_pos (show q32 0 = (0 : Int32) from rfl), r4, Option.bind_some, a4, q64_32, stI_q (by omega) (by omega), Option.bind_some, wI_3, r4, Option.bind_some, wI_2, a5, q64_32, stI_q (by omega) (by omega), Option.bind_some]
    dsimp only
    by_cases c59 : kdF T N j = 59
    · have c59' : kdT T N (tpos T N j) = 59 := c59
      rw [if_pos c59] 
      by_cases ct : f.1 ≤ tp * f.2
      · rw [if_pos ct]
        rw [if_pos ct] at a6
        refine ⟨a0, a00, m1, a2, a3, ?_⟩
        rw [a1, bind2_s, i20, if_pos c59', Option.bind_some, if_neg (show ¬ q32 1 = (0 : Int32) by decide), a6, if_pos (show q32 0 = (0 : Int32) from rfl)]
        exact st
      · rw [if_neg ct]
        rw [if_neg ct] at a6
        obtain ⟨m2, b1, b2, b3⟩ := fai10a (s := s) a3.2.1 a3.2.2.1 (k := 3) (by omega)
        rw [if_neg (by omega)] at b3
        have b1' : n_X10_fails s m1 23 (3 : Int32) = some ((), m2) := b1
        refine ⟨a00, m2, ?_, (a2.tr b2).kl, fun k _ _ => (a2.tr b2).1 _ _ (by omega), Or.inl b3⟩
        rw [a1, bind2_s, i20, if_pos c59', Option.bind_some, if_neg (show ¬ q32 1 = (0 : Int32) by decide), a6, if_neg (show ¬ q32 1 = (0 : Int32) by decide), b1', bind2_s]
        unfold nb_X10_readAt_25
        rw [if_neg (flt_ne b3)]
    · have c59' : ¬ kdT T N (tpos T N j) = 59 := c59
      rw [if_neg c59]
      refine ⟨a00, wI (wI m1 27 a (q32 f.1)) 27 b (q32 f.2), ?_, (a2.kl.tr KL10.I).tr KL10.I, fun k h1 h2 => ?_, Or.inr ⟨(a3.I (Or.inl rfl)).I (Or.inl rfl), c59, rfl⟩⟩
      · rw [a1, bind2_s, i20, if_neg c59', Option.bind_some, if_pos (show q32 0 = (0 : Int32) from rfl)]
        exact st
      · rw [wI_n (by omega), wI_n (by omega)]
        exact a2.1 _ _ (by omega)
