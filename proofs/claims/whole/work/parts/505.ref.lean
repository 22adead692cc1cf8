theorem atl10 {F : Nat} (hF : 20000 ≤ F) {s : List Sh} (hp : ∃ t, s = sB ++ t) {m : Mem} (hr : RF m) {T : Nat → Int} {N K i : Nat} (hK : TKE T N K) {h : HSS} (hpp : HPP h) (hh : H10 m h) (hc : CN10 s m T N K (i + 1)) : LN10 s T N K m i (match frcT (kdF T N) (amF T N) (i + 1) 59 (hTop h) with
    | .inl e => .inl e
    | .inr (j, f) => .inr (j, sAt h f)) (bind2 (n_X10_readAt F s m 23 (7 : Int32) (8 : Int32)) fun _ m15 => ((ptZ m15 23 18 (1 : Int32)).bind fun m16 => (some ((), m16)))) := by
  have ra := rat10 hF hp hr hK hpp.1 hh.1.2.1 hc (a := 7) (b := 8) (by omega) (by omega)
  have pz : ∀ m1 : Mem, (ptZ m1 23 18 (1 : Int32)).bind (fun m16 => (some ((), m16) : Option (Unit × Mem))) = some ((), wI m1 23 18 (q32 1)) := fun m1 => rfl
  cases e1 : frcT (kdF T N) (amF T N) (i + 1) 59 (hTop h) with
  | inl p =>
    obtain ⟨k, j⟩ := p
    rw [e1] at ra
    obtain ⟨a0, m1, a1, a2, a3, a4⟩ := ra
    have a1' : n_X10_readAt F s m 23 (7 : Int32) (8 : Int32) = some ((), m1) := a1
    refine ⟨a0, wI m1 23 18 (q32 1), by rw [a1', bind2_s, pz], a2.tr KL10.Z, ?_⟩
    rcases a4 with a4 | ⟨a4, a5, a6⟩
    · exact Or.inl (a4.I (Or.inr ⟨rfl, rfl⟩))
    · exact Or.inr ⟨a4.I (Or.inr ⟨rfl, rfl⟩), a5, a6⟩
  | inr p =>
    obtain ⟨j, f⟩ := p
    rw [e1] at ra
    obtain ⟨a0, a00, m1, a1, a2, a3⟩ := ra
    have a3' : n_X10_readAt F s m 23 (7 : Int32) (8 : Int32) = some ((), wI (wI m1 27 7 (q32 f.1)) 27 8 (q32 f.2)) := a3
    refine ⟨by omega, a00, wI (wI (wI m1 27 7 (q32 f.1)) 27 8 (q32 f.2)) 23 18 (q32 1), by rw [a3', bind2_s, pz], ((a1.kl.tr KL10.I).tr KL10.I).tr KL10.Z, ((a2.I (Or.inl rfl)).I (Or.inl rfl)).I (Or.inr ⟨rfl, rfl⟩), ?_⟩
    obtain ⟨⟨q0, q1, q2, q3, q4, q5, q6, q7, q8⟩, fl, t, b, c, g, g73⟩ := hh.ka a1
    have W : ∀ k, k ≠ 7 → k ≠ 8 → (wI (wI (wI m1 27 7 (q32 f.1)) 27 8 (q32 f.2)) 23 18 (q32 1)).1 27 k = m1.1 27 k := fun k h1 h2 => by rw [wI_n (by omega), wI_n (by omega), wI_n (by omega)]
    refine ⟨⟨by rw [W 0 (by omega) (by omega)]; exact q0, by rw [W 1 (by omega) (by omega)]; exact q1, by rw [W 2 (by omega) (by omega)]; exact q2, by rw [W 3 (by omega) (by omega)]; exact q3, by rw [W 4 (by omega) (by omega)]; exact q4, by rw [W 5 (by omega) (by omega)]; exact q5, by rw [W 6 (by omega) (by omega)]; exact q6, ?_, ?_⟩, fun k hk => ?_, fun k hk => ?_, fun k hk => ?_, ⟨by rw [W 98 (by omega) (by omega)]; exact c.1, fun k hk => by rw [W _ (by omega) (by omega)]; exact c.2 k hk⟩, ?_, by rw [W 73 (by omega) (by omega)]; exact g73⟩
    · rw [wI_n (by omega), wI_n (by omega), wI_s]; rfl
    · rw [wI_n (by omega), wI_s]; rfl
    · have := fl k hk
      rw [W _ (by omega) (by omega), W _ (by omega) (by omega)]
      exact ⟨this.1, this.2.1, fun z hz => by rw [W _ (by omega) (by omega)]; exact this.2.2 z hz⟩
    · rw [W _ (by omega) (by omega), W _ (by omega) (by omega)]; exact t k hk
    · rw [W _ (by omega) (by omega), W _ (by omega) (by omega)]; exact b k hk
    · rw [wI_s, if_pos (show (sAt h f).2.2.1 = true ∨ _ from Or.inl rfl)]
theorem ten10 {F : Nat} (hF : 20000 ≤ F) {s : List Sh} (hp : ∃ t, s = sB ++ t) {m : Mem} (hr : RF m) {T : Nat → Int} {N K i : Nat} (hK : TKE T N K) {h : HSS} (hpp : HPP h) (hh : H10 m h) (hc : CN10 s m T N K i) (hk7 : kdF T N i = 7) : LN10 s T N K m i (if 6 ≤ hTc h then .inl (4, i) else match frcT (kdF T N) (amF T N) (i + 1) 59 (hTop h) with
    | .inl e => .inl e
    | .inr (j, f) => .inr (j, sTen h f)) (bind2 (n_X10_readTenant F s m 23) fun _ m18 => (some ((), m18))) := by
  have l27 := ln27 hp
  have r4 := rf23_4 hr
  obtain ⟨hx, h0, hs, hi⟩ := id hc
  have k7' : kdT T N (tpos T N i) = 7 := hk7
  have t6 := hpp.2.2.2.2.1.1
  have q4 := hh.1.2.2.2.2.1
  unfold n_X10_readTenant nb_X10_readTenant_0
  rw [r4, Option.bind_some, rdI_c 4 (by omega) (by omega), Option.bind_some, q4]
  by_cases c6 : 6 ≤ hTc h
  · have e6 : hTc h = 6 := by omega
    rw [if_pos c6, e6, if_pos (show q32 ((6 : Nat) : Int) = (6 : Int32) by decide)]
    obtain ⟨m1, a1, a2, a3⟩ := fai10a (s := s) h0 hs (k := 4) (by omega)
    rw [if_neg (by omega)] at a3
    have a1' : n_X10_fails s m 23 (4 : Int32) = some ((), m1) := a1
    refine ⟨hi, m1, ?_, a2.kl, Or.inl a3⟩
    rw [a1', bind2_s]
    unfold nb_X10_readTenant_18
    rw [if_neg (flt_ne a3), bind2_s]
  rw [if_neg c6, if_neg (by rw [show (6 : Int32) = q32 6 from rfl, q32_eq_f (by omega)]; exact fun h => h)]
  have hi1 := hK.nx hi (by omega) (by omega)
  obtain ⟨m1, a1, a2, a3⟩ := step10 hF hx hs (hK.2.2.2 i hi1)
  have hc1 : CN10 s m1 T N K (i + 1) := ⟨hx.x a2, a2.n11 h0, a3, hi1⟩
  have hh1 := hh.ka a2.ka
  have hr1 : RF m1 := hr.same (by rw [a2.2])
  have ra := rat10 hF hp hr1 hK hpp.1 hh1.1.2.1 hc1 (a := 49 + hTc h) (b := 55 + hTc h) (by omega) (by omega)
  have e49 : (49 : Int32) + q32 (hTc h : Nat) = q32 ((49 + hTc h : Nat) : Int) := by rw [show (49 : Int32) = q32 49 from rfl, q32_add, Int.natCast_add]; rfl
  have e55 : (55 : Int32) + q32 (hTc h : Nat) = q32 ((55 + hTc h : Nat) : Int) := by rw [show (55 : Int32) = q32 55 from rfl, q32_add, Int.natCast_add]; rfl
  have fin : ∀ m2 : Mem, n_X10_readAt F s m1 23 (q32 ((49 + hTc h : Nat) : Int)) (q32 ((55 + hTc h : Nat) : Int)) = some ((), m2) → m2.2.2 23 4 = some 27 → m2.1 27 4 = q32 (hTc h : Nat) → (bind2 (nb_X10_readTenant_18 F s m 23 (q32 (hTc h : Nat))) fun _ m18 => (some ((), m18) : Option (Unit × Mem))) = some ((), wI (wI m2 27 4 (q32 ((hTc h + 1 : Nat) : Int))) 23 18 (q32 1)) := by
    intro m2 b1 b2 b3
    unfold nb_X10_readTenant_18
    rw [h0, if_pos (show q32 0 = (0 : Int32) from rfl), a1, bind2_s, e49, e55, b1, bind2_s, b2, Option.bind_some, rdI_c 4 (by omega) (by omega), Option.bind_some, b3, stI_c 4 (by omega) (by omega), Option.bind_some, show q32 (hTc h : Int) + 1 = q32 ((hTc h + 1 : Nat) : Int) by rw [show (1 : Int32) = q32 1 from rfl, q32_add, Int.natCast_add]; rfl]
    rfl
  cases e1 : frcT (kdF T N) (amF T N) (i + 1) 59 (hTop h) with
  | inl p =>
    obtain ⟨k, j⟩ := p
    rw [e1] at ra
    obtain ⟨b0, m2, b1, b2, b3, b4⟩ := ra
    refine ⟨b0, _, fin m2 b1 (by rw [b2.2.2, a2.2]; exact r4) (by rw [b3 _ (by omega) (by omega)]; exact hh1.1.2.2.2.2.1), ((a2.kl.tr b2).tr KL10.I).tr KL10.Z, ?_⟩
    rcases b4 with b4 | ⟨b4, b5, b6⟩
    · exact Or.inl ((b4.I (Or.inl rfl)).I (Or.inr ⟨rfl, rfl⟩))
    · exact Or.inr ⟨(b4.I (Or.inl rfl)).I (Or.inr ⟨rfl, rfl⟩), b5, b6⟩
  | inr p =>
    obtain ⟨j, f⟩ := p
    rw [e1] at ra
    obtain ⟨b0, b00, m2, b1, b2, b3⟩ := ra
    have hh2 := hh1.ka b1
    refine ⟨by omega, b00, _, fin _ b3 (by rw [wI_3, wI_3, b1.2.2, a2.2]; exact r4) (by rw [wI_n (by omega), wI_n (by omega)]; exact hh2.1.2.2.2.2.1), ((((a2.kl.tr b1.kl).tr KL10.I).tr KL10.I).tr KL10.I).tr KL10.Z, (((b2.I (Or.inl rfl)).I (Or.inl rfl)).I (Or.inl rfl)).I (Or.inr ⟨rfl, rfl⟩), ?_⟩
    obtain ⟨⟨q0, q1, q2, q3, q4, q5, q6, q7, q8⟩, fl, t, b, c, g, g73⟩ := hh2
    have W : ∀ k, k ≠ 4 → k ≠ 49 + hTc h → k ≠ 55 + hTc h → (wI (wI (wI (wI m2 27 (49 + hTc h) (q32 f.1)) 27 (55 + hTc h) (q32 f.2)) 27 4 (q32 ((hTc h + 1 : Nat) : Int))) 23 18 (q32 1)).1 27 k = m2.1 27 k := fun k h1 h2 h3 => by rw [wI_n (by omega), wI_n (by omega), wI_n (by omega), wI_n (by omega)]
    refine ⟨⟨by rw [W 0 (by omega) (by omega) (by omega)]; exact q0, by rw [W 1 (by omega) (by omega) (by omega)]; exact q1, by rw [W 2 (by omega) (by omega) (by omega)]; exact q2, by rw [W 3 (by omega) (by omega) (by omega)]; exact q3, ?_, by rw [W 5 (by omega) (by omega) (by omega)]; exact q5, by rw [W 6 (by omega) (by omega) (by omega)]; exact q6, by rw [W 7 (by omega) (by omega) (by omega)]; exact q7, by rw [W 8 (by omega) (by omega) (by omega)]; exact q8⟩, fun k hk => ?_, fun k hk => ?_, fun k hk => ?_, ⟨by rw [W 98 (by omega) (by omega) (by omega)]; exact c.1, fun k hk => by rw [W _ (by omega) (by omega) (by omega)]; exact c.2 k hk⟩, ?_, by rw [W 73 (by omega) (by omega) (by omega)]; exact g73⟩
    · rw [wI_n (by omega), wI_s]; rfl
    · have k8 : k < 8 := by have : k < hFc h := hk; have := hpp.2.2.2.1.1; omega
      have := fl k hk
      rw [W _ (by omega) (by omega) (by omega), W _ (by omega) (by omega) (by omega)]
      exact ⟨this.1, this.2.1, fun z hz => by rw [W _ (by omega) (by omega) (by omega)]; exact this.2.2 z hz⟩
    · have hk' : k < hTc h + 1 := hk
      show _ = q32 (insI h.2.2.2.2.1.2.1 (hTc h) f.1 k) ∧ _ = q32 (insI h.2.2.2.2.1.2.2 (hTc h) f.2 k)
      unfold insI
      by_cases ck : k = hTc h
      · rw [if_pos ck, if_pos ck, ck, wI_n (by omega), wI_n (by omega), wI_n (by omega), wI_s, wI_n (by omega), wI_n (by omega), wI_s]
        exact ⟨rfl, rfl⟩
      · rw [if_neg ck, if_neg ck, W _ (by omega) (by omega) (by omega), W _ (by omega) (by omega) (by omega)]
        exact t k (by omega)
    · have : k < hBc h := hk
      have := hpp.2.2.2.2.2.1
      rw [W _ (by omega) (by omega) (by omega), W _ (by omega) (by omega) (by omega)]; exact b k hk
    · have : 0 < hTc (sTen h f) := Nat.succ_pos _
      rw [wI_s, if_pos (Or.inr (Or.inr this))]
