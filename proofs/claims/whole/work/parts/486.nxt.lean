/-- the reference looks at the token at p -/
def RST (m : Mem) (T : Nat → Int) (N p : Nat) : Prop := m.1 23 6 = q32 (p : Nat) ∧ p ≤ N ∧ (∃ e : Nat, m.1 23 7 = q32 (e : Nat) ∧ e ≤ N ∧ (p < N → e = endT T N p)) ∧ m.1 23 9 = q32 (rk (kdT T N p)) ∧ (kdT T N p = 2 → m.1 23 10 = q32 (amT T N p))
theorem tok10 {F : Nat} (hF : 20000 ≤ F) {s : List Sh} {N p : Nat} {T : Nat → Int} {m : Mem} (h : TXR s m N T) (h6 : m.1 23 6 = q32 (p : Nat)) (hp : p ≤ N) (hb : p = N ∨ ¬ isBk (T p)) (g : Mem → Nat → Option (Unit × Mem)) : ∃ m', nb_X10_next_8 F s g m 23 = some ((), m') ∧ KX m m' ∧ RST m' T N p := by
  have hN := h.2.2.1
  have h8 := h.2.1
  have sp := see10 h (p := p) (by omega)
  by_cases c : p < N
  · have cb : ¬ isBk (T p) := hb.resolve_left (by omega)
    have cb1 : T p ≠ 32 := fun e => cb (Or.inl e)
    have cb2 : T p ≠ 10 := fun e => cb (Or.inr e)
    rw [if_pos c] at sp
    obtain ⟨u1, u2⟩ := h.2.2.2.2 p c
    have k0 : KX m (wI m 23 7 (q32 (p : Nat))) := KX.I (by omega)
    have h0 := h.x k0
    have sp0 := see10 h0 (p := p) (by omega)
    rw [if_pos c] at sp0
    have h80 := h0.2.1
    have h60 : (wI m 23 7 (q32 (p : Nat))).1 23 6 = q32 (p : Nat) := by rw [wI_n (by omega)]; exact h6
    have sm := sm10 (c := T p) (by omega)
    have dg := dg10 (c := T p) (by omega)
    have ekd : kdT T N p = if isDg (T p) then (if 3 < endT T N p - p then 0 else 2) else if isLt (T p) then wkT T p (endT T N p - p) else if isSg (T p) then T p else 0 := by
      unfold kdT; rw [if_neg (by omega)]
    have eb := endT_b (T := T) c
    by_cases cl : isLt (T p)
    · have nd : ¬ isDg (T p) := by unfold isDg; unfold isLt at cl; omega
      have ee : endT T N p = RUN ltB T (N - p) p := by unfold endT; rw [if_neg nd, if_pos cl]
      rw [show (if isLt (T p) then q32 1 else q32 0) = q32 1 from if_pos cl] at sm
      obtain ⟨m', i1, i2, i3, i4, i5⟩ := ltL10 hF (p := p) (N - p) p F (by omega) (by omega) (Nat.le_refl _) (wI m 23 7 (q32 (p : Nat))) h0 h60 (wI_s ..)
      rw [← ee] at i4 i5
      refine ⟨m', ?_, k0.tr i2, i3, hp, ⟨endT T N p, i4, eb.2, fun _ => rfl⟩, ?_, fun hk => ?_⟩
      · unfold nb_X10_next_8
        simp (disch := omega) only [Option.bind_some, bindv, bindv0, bind2_s, bind3_s, ↓reduceIte, Bool.false_eq_true, rZM_0, rZM_1, rZP_0, rZP_1, ptZ_0, ptZ_1, c32i, c64i, ncI, Int.natCast_add, Int.natCast_mul, q32_neg, q64_neg, q32_add, q32_sub, q32_mul, q64_add, q64_sub, q64_mul, q32_64i, q64_32, q32_lt_t, q32_lt_f, q32_le_t, q32_le_f, q32_eq_t, q32_eq_f, q64_lt_t, q64_lt_f, q64_le_t, q64_le_f, q64_eq_t, q64_eq_f, rdI_i, rdL_i, rdR_i, rdN_i, stI_i, stL_i, stR_i, wI_s, wI_n, wL_s, wL_n, wI_2, wI_3, wL_1, wL_3, wR_1, wR_2, Int.toNat_natCast, tnO, tn_add, tn_sub, tn_mul, Nat.add_sub_cancel, Nat.add_zero, Nat.zero_add, lnO, win_t, win_f, h6, h8, sp, h60, h80, sp0, sm, i1]
      · rw [ekd, if_neg nd, if_pos cl]; exact i5
      · exfalso
        rw [ekd, if_neg nd, if_pos cl] at hk
        have := wkT_b T p (endT T N p - p)
        omega
    · rw [show (if isLt (T p) then q32 1 else q32 0) = q32 0 from if_neg cl] at sm
      by_cases cd : isDg (T p)
      · have ee : endT T N p = RUN dgB T (N - p) p := by unfold endT; rw [if_pos cd]
        rw [show (if isDg (T p) then q32 1 else q32 0) = q32 1 from if_pos cd] at dg
        have k1 : KX m (wI (wI m 23 7 (q32 (p : Nat))) 23 10 (q32 0)) := k0.tr (KX.I (by omega))
        obtain ⟨m', i1, i2, i3, i4, i5, i6⟩ := dgL10 hF (p := p) (N - p) p F (by omega) (by omega) (Nat.le_refl _) (wI (wI m 23 7 (q32 (p : Nat))) 23 10 (q32 0)) (h.x k1) (by rw [wI_n (by omega)]; exact h60) (by rw [wI_n (by omega), wI_s]) (fun _ => by rw [Nat.sub_self, wI_s]; rfl)
        rw [← ee] at i4 i5 i6
        refine ⟨m', ?_, k1.tr i2, i3, hp, ⟨endT T N p, i4, eb.2, fun _ => rfl⟩, ?_, fun hk => ?_⟩
        · unfold nb_X10_next_8
          simp (disch := omega) only [Option.bind_some, bindv, bindv0, bind2_s, bind3_s, ↓reduceIte, Bool.false_eq_true, rZM_0, rZM_1, rZP_0, rZP_1, ptZ_0, ptZ_1, c32i, c64i, ncI, Int.natCast_add, Int.natCast_mul, q32_neg, q64_neg, q32_add, q32_sub, q32_mul, q64_add, q64_sub, q64_mul, q32_64i, q64_32, q32_lt_t, q32_lt_f, q32_le_t, q32_le_f, q32_eq_t, q32_eq_f, q64_lt_t, q64_lt_f, q64_le_t, q64_le_f, q64_eq_t, q64_eq_f, rdI_i, rdL_i, rdR_i, rdN_i, stI_i, stL_i, stR_i, wI_s, wI_n, wL_s, wL_n, wI_2, wI_3, wL_1, wL_3, wR_1, wR_2, Int.toNat_natCast, tnO, tn_add, tn_sub, tn_mul, Nat.add_sub_cancel, Nat.add_zero, Nat.zero_add, lnO, win_t, win_f, h6, h8, sp, h60, h80, sp0, sm, dg, i1]
        · rw [ekd, if_pos cd, i5]
          by_cases c3 : endT T N p - p ≤ 3
          · rw [if_pos c3, if_neg (by omega)]; rfl
          · rw [if_neg c3, if_pos (by omega)]; rfl
        · have c3 : endT T N p - p ≤ 3 := by
            rw [ekd, if_pos cd] at hk
            by_cases c3 : endT T N p - p ≤ 3
            · exact c3
            · rw [if_pos (by omega)] at hk; omega
          unfold amT
          rw [if_pos hk]
          exact i6 c3
      · rw [show (if isDg (T p) then q32 1 else q32 0) = q32 0 from if_neg cd] at dg
        have ee : endT T N p = p + 1 := by unfold endT; rw [if_neg cd, if_neg cl]
        have k1 : KX m (wI (wI (wI m 23 7 (q32 (p : Nat))) 23 7 (q32 ((p : Int) + 1))) 23 9 (q32 18)) := (k0.tr (KX.I (by omega))).tr (KX.I (by omega))
        obtain ⟨m', i1, i2, i3, i4, i5⟩ := sgL10 (F := F) (T := T) c 8 0 F 18 (by omega) (by omega) _ (h.x k1) (by rw [wI_n (by omega), wI_n (by omega)]; exact h60) (wI_s ..)
        rw [SGF_e u2] at i5
        have i1' : nl_X10_next_254 F s F (wI (wI (wI m 23 7 (q32 (p : Nat))) 23 7 (q32 ((p : Int) + 1))) 23 9 (q32 18)) 23 (q32 0) = some ((), m') := i1
        refine ⟨m', ?_, k1.tr i2, ?_, hp, ⟨p + 1, ?_, by omega, fun _ => ee.symm⟩, ?_, fun hk => ?_⟩
        · have h70 : (wI m 23 7 (q32 (p : Nat))).1 23 7 = q32 (p : Nat) := wI_s ..
          unfold nb_X10_next_8
          simp (disch := omega) only [Option.bind_some, bindv, bindv0, bind2_s, bind3_s, ↓reduceIte, Bool.false_eq_true, rZM_0, rZM_1, rZP_0, rZP_1, ptZ_0, ptZ_1, c32i, c64i, ncI, Int.natCast_add, Int.natCast_mul, q32_neg, q64_neg, q32_add, q32_sub, q32_mul, q64_add, q64_sub, q64_mul, q32_64i, q64_32, q32_lt_t, q32_lt_f, q32_le_t, q32_le_f, q32_eq_t, q32_eq_f, q64_lt_t, q64_lt_f, q64_le_t, q64_le_f, q64_eq_t, q64_eq_f, rdI_i, rdL_i, rdR_i, rdN_i, stI_i, stL_i, stR_i, wI_s, wI_n, wL_s, wL_n, wI_2, wI_3, wL_1, wL_3, wR_1, wR_2, Int.toNat_natCast, tnO, tn_add, tn_sub, tn_mul, Nat.add_sub_cancel, Nat.add_zero, Nat.zero_add, lnO, win_t, win_f, h6, h8, sp, h60, h80, sp0, sm, dg, i1']
        · rw [i3, wI_n (by omega), wI_n (by omega)]; exact h60
        · rw [i4, wI_n (by omega), wI_s, Int.natCast_add]; rfl
        · rw [ekd, if_neg cd, if_neg cl, i5]
          by_cases cs : isSg (T p)
          · rw [show (if isSg (T p) then rk (T p) else 18) = rk (T p) from if_pos cs, show (if isSg (T p) then T p else 0) = T p from if_pos cs]
          · rw [show (if isSg (T p) then rk (T p) else 18) = 18 from if_neg cs, show (if isSg (T p) then T p else 0) = 0 from if_neg cs]; rfl
        · exfalso
          rw [ekd, if_neg cd, if_neg cl] at hk
          by_cases cs : isSg (T p)
          · rw [if_pos cs] at hk
            unfold isSg at cs
            omega
          · rw [if_neg cs] at hk; omega
  · rw [if_neg c] at sp
    have ep : p = N := by omega
    have k1 : KX m (wI (wI m 23 7 (q32 (p : Nat))) 23 9 (q32 17)) := (KX.I (by omega)).tr (KX.I (by omega))
    refine ⟨wI (wI m 23 7 (q32 (p : Nat))) 23 9 (q32 17), ?_, k1, ?_, hp, ⟨p, by rw [wI_n (by omega), wI_s], hp, fun h => absurd h c⟩, ?_, fun hk => ?_⟩
    · unfold nb_X10_next_8
      simp (disch := omega) only [Option.bind_some, bindv, bindv0, bind2_s, bind3_s, ↓reduceIte, Bool.false_eq_true, rZM_0, rZM_1, rZP_0, rZP_1, ptZ_0, ptZ_1, c32i, c64i, ncI, Int.natCast_add, Int.natCast_mul, q32_neg, q64_neg, q32_add, q32_sub, q32_mul, q64_add, q64_sub, q64_mul, q32_64i, q64_32, q32_lt_t, q32_lt_f, q32_le_t, q32_le_f, q32_eq_t, q32_eq_f, q64_lt_t, q64_lt_f, q64_le_t, q64_le_f, q64_eq_t, q64_eq_f, rdI_i, rdL_i, rdR_i, rdN_i, stI_i, stL_i, stR_i, wI_s, wI_n, wL_s, wL_n, wI_2, wI_3, wL_1, wL_3, wR_1, wR_2, Int.toNat_natCast, tnO, tn_add, tn_sub, tn_mul, Nat.add_sub_cancel, Nat.add_zero, Nat.zero_add, lnO, win_t, win_f, h6, sp, h8]
    · rw [wI_n (by omega), wI_n (by omega)]; exact h6
    · rw [kdT_end (by omega), wI_s]; rfl
    · rw [kdT_end (by omega)] at hk; omega
theorem next10 {F : Nat} (hF : 20000 ≤ F) {s : List Sh} {N e : Nat} {T : Nat → Int} {m : Mem} (h : TXR s m N T) (h7 : m.1 23 7 = q32 (e : Nat)) (he : e ≤ N) : ∃ m', n_X10_next F s m 23 = some ((), m') ∧ KX m m' ∧ RST m' T N (skp T N e) := by
  have hN := h.2.2.1
  have k0 : KX m (wI m 23 6 (q32 (e : Nat))) := KX.I (by omega)
  obtain ⟨m1, g, a1, a2, a3⟩ := skL10 (F := F) (N - e) e F (by omega) (by omega) (wI m 23 6 (q32 (e : Nat))) (h.x k0) (wI_s ..)
  have sb := skp_b (T := T) he
  obtain ⟨m2, b1, b2, b3⟩ := tok10 hF ((h.x k0).x a3) a2 (by have := sb.2; exact this) (by
    rcases RUN_st (P := bkB) (T := T) (N - e) e with hh | hh
    · exact Or.inl (by omega)
    · exact Or.inr (fun hb => hh (bkB_t hb))) g
  refine ⟨m2, ?_, (k0.tr a3).tr b2, b3⟩
  unfold n_X10_next nb_X10_next_0
  rw [bindv, bindv0, h7, a1]
  exact b1
/-- from a token on to the next one -/
theorem step10 {F : Nat} (hF : 20000 ≤ F) {s : List Sh} {N i : Nat} {T : Nat → Int} {m : Mem} (h : TXR s m N T) (hs : RST m T N (tpos T N i)) (hi : tpos T N i < N) : ∃ m', n_X10_next F s m 23 = some ((), m') ∧ KX m m' ∧ RST m' T N (tpos T N (i + 1)) := by
  obtain ⟨-, -, ⟨e, e1, e2, e3⟩, -⟩ := hs
  obtain ⟨m', a1, a2, a3⟩ := next10 hF h e1 e2
  rw [e3 hi] at a3
  exact ⟨m', a1, a2, a3⟩
