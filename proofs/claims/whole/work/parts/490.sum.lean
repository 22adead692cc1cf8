theorem sumL9 {F : Nat} (hF : 20000 ≤ F) {s : List Sh} {r z K N : Nat} {T : Nat → Int} (hT : ∀ k, k < N → 0 ≤ T k ∧ T k < 256) {i0 : Nat} : ∀ n i fuel nest (want : Bool) (S out : List Int), K - i ≤ n → n < fuel → i < K → i0 ≤ i → nest ≤ 6 → SIV nest S → out.length + S.length ≤ i → ∀ m : Mem, RCX s m r z K T N → CUR m r T N i → STK9 m r S → CDE9 m r z out → match SYS (kdF T N) (amF T N) K i nest want S out with
  | .inl (k, j) => j < K ∧ ∃ m', nl_X3_sumToEnd_11 F s fuel m r (q32 (nest : Nat)) (q32 (if want then 1 else 0)) (q32 (i - i0 : Nat)) = some (q32 0, m') ∧ KPR r z m m' ∧ FLT m' r k (tpos T N j)
  | .inr (j, out') => i ≤ j ∧ j < K ∧ kdF T N j = 59 ∧ out'.length ≤ j ∧ ∃ m', nl_X3_sumToEnd_11 F s fuel m r (q32 (nest : Nat)) (q32 (if want then 1 else 0)) (q32 (i - i0 : Nat)) = some (q32 1, m') ∧ KSM r z m m' ∧ CUR m' r T N j ∧ CDE9 m' r z out' := by
  intro n
  induction n with
  | zero => intro i fuel nest want S out h1 h2 h3; omega
  | succ n ih =>
    intro i fuel nest want S out hf hfu hi hi0 hn hsv hlen m h hc hs hcd
    obtain ⟨fuel, rfl⟩ : ∃ f, fuel = f + 1 := ⟨fuel - 1, by omega⟩
    have h5 := hc.2.1
    have h7 := hc.2.2.2
    have kb := kdT_b (T := T) (N := N) (p := tpos T N i)
    obtain ⟨sl, sx⟩ := hsv.l
    have K9 := h.2.2.2.2.2.2.2.1
    have r3 := h.2.1.2.1
    have szK := h.2.2.2.2.2.1.1
    -- one token on
    have go : ∀ (m1 : Mem) (nest' : Nat) (want' : Bool) (S' out' : List Int), i + 1 < K → nest' ≤ 6 → SIV nest' S' → out'.length + S'.length ≤ i + 1 → KSM r z m m1 → CUR m1 r T N i → STK9 m1 r S' → CDE9 m1 r z out' → match SYS (kdF T N) (amF T N) K (i + 1) nest' want' S' out' with
      | .inl (k, j) => j < K ∧ ∃ m', nb_X3_sumToEnd_164 F s (nl_X3_sumToEnd_11 F s fuel) m1 r (q32 (nest' : Nat)) (q32 (if want' then 1 else 0)) (q32 (i - i0 : Nat)) = some (q32 0, m') ∧ KPR r z m m' ∧ FLT m' r k (tpos T N j)
      | .inr (j, out'') => i ≤ j ∧ j < K ∧ kdF T N j = 59 ∧ out''.length ≤ j ∧ ∃ m', nb_X3_sumToEnd_164 F s (nl_X3_sumToEnd_11 F s fuel) m1 r (q32 (nest' : Nat)) (q32 (if want' then 1 else 0)) (q32 (i - i0 : Nat)) = some (q32 1, m') ∧ KSM r z m m' ∧ CUR m' r T N j ∧ CDE9 m' r z out'' := fun m1 nest' want' S' out' hi1 hn' hsv' hlen' k1 c1 st1 cd1 => by
      have h1 := h.k k1.pr
      have zr := (h.2.2.2.2.1 2 (by omega)).1
      obtain ⟨m2, a1, a2, a3, a4, a5, a6⟩ := nxt9 h1 c1 hi1
      have k2 : KSM r z m1 m2 := ⟨fun a k p1 p2 p3 => by
        by_cases e : a = r
        · subst e; exact a4 k (by omega)
        · exact a5 a k e, a6⟩
      have := ih (i + 1) fuel nest' want' S' out' (by omega) (by omega) hi1 (by omega) hn' hsv' hlen' m2 (h1.k k2.pr) a3 ⟨by rw [a4 12 (by omega)]; exact st1.1, fun k hk => by rw [a5 _ _ (by omega)]; exact st1.2 k hk⟩ ⟨by rw [a4 10 (by omega)]; exact cd1.1, fun k hk => by rw [a5 _ _ (by omega)]; exact cd1.2 k hk⟩
      have eq : nb_X3_sumToEnd_164 F s (nl_X3_sumToEnd_11 F s fuel) m1 r (q32 (nest' : Nat)) (q32 (if want' then 1 else 0)) (q32 (i - i0 : Nat)) = nl_X3_sumToEnd_11 F s fuel m2 r (q32 (nest' : Nat)) (q32 (if want' then 1 else 0)) (q32 (i + 1 - i0 : Nat)) := by
        rw [show i + 1 - i0 = (i - i0) + 1 by omega, Int.natCast_add]
        unfold nb_X3_sumToEnd_164
        rw [a1, bind2_s]
        generalize (q32 (if want' then 1 else 0) : Int32) = w
        simp (disch := omega) only [Option.bind_some, bindv, bindv0, bind2_s, bind3_s, ↓reduceIte, Bool.false_eq_true, rZM_0, rZM_1, rZP_0, rZP_1, ptZ_0, ptZ_1, c32i, c64i, ncI, Int.natCast_add, Int.natCast_mul, q32_neg, q64_neg, q32_add, q32_sub, q32_mul, q64_add, q64_sub, q64_mul, q32_64i, q64_32, q32_lt_t, q32_lt_f, q32_le_t, q32_le_f, q32_eq_t, q32_eq_f, q64_lt_t, q64_lt_f, q64_le_t, q64_le_f, q64_eq_t, q64_eq_f, rdI_i, rdL_i, rdR_i, rdN_i, stI_i, stL_i, stR_i, wI_s, wI_n, wL_s, wL_n, wI_2, wI_3, wL_1, wL_3, wR_1, wR_2, Int.toNat_natCast, tnO, tn_add, tn_sub, tn_mul, Nat.add_sub_cancel, Nat.add_zero, Nat.zero_add, lnO, win_t, win_f]
        first | done | rfl
      rw [eq]
      cases hS : SYS (kdF T N) (amF T N) K (i + 1) nest' want' S' out' with
      | inl p =>
        obtain ⟨k, j⟩ := p
        rw [hS] at this
        obtain ⟨b1, m', b2, b3, b4⟩ := this
        exact ⟨b1, m', b2, (k1.tr k2).pr.tr b3, b4⟩
      | inr p =>
        obtain ⟨j, o⟩ := p
        rw [hS] at this
        obtain ⟨b0, b1, b2, b3, m', b4, b5, b6⟩ := this
        exact ⟨by omega, b1, b2, b3, m', b4, (k1.tr k2).tr b5, b6⟩
    -- it can't stand
    have bad : i < K ∧ ∃ m', (bind2 (n_X3_cantStand s m r) fun x2 m3 => (rZM x2 m3)) = some (q32 0, m') ∧ KPR r z m m' ∧ FLT m' r (csF (kdF T N) i) (tpos T N i) := by
      obtain ⟨m', a1, a2, a3⟩ := cant9 (s := s) (z := z) hc
      exact ⟨hi, m', by rw [a1, bind2_s]; rfl, a2, a3⟩
    have szi : q32 ((K : Nat) : Int) ≤ q32 ((i - i0 : Nat) : Int) ↔ False := by
      rw [q32_le_f (by omega)]
    rw [SYS_s hi]
    cases want with
    | true =>
      rw [if_pos rfl]
      have pre : nl_X3_sumToEnd_11 F s (fuel + 1) m r (q32 (nest : Nat)) (q32 (if true then 1 else 0)) (q32 (i - i0 : Nat)) = if q32 (kdT T N (tpos T N i)) = (40 : Int32) then (if q32 (nest : Int) < (6 : Int32) then (bindv (q32 (nest : Int) + (1)) fun x4 => (bind2 (n_X3_pushSign s m r (-7 : Int32)) fun _ m6 => (nb_X3_sumToEnd_164 F s (nl_X3_sumToEnd_11 F s fuel) m6 r x4 (q32 1) (q32 (i - i0 : Nat))))) else (bind2 (n_X3_failed s m r (4 : Int32)) fun x7 m8 => (rZM x7 m8))) else (bind2 (n_X3_atom s m r) fun x6 m7 => (if x6 = 0 then (bind2 (n_X3_cantStand s m7 r) fun x8 m9 => (rZM x8 m9)) else (nb_X3_sumToEnd_164 F s (nl_X3_sumToEnd_11 F s fuel) m7 r (q32 (nest : Int)) (0 : Int32) (q32 (i - i0 : Nat))))) := by
        show nb_X3_sumToEnd_11 F s (nl_X3_sumToEnd_11 F s fuel) m r (q32 (nest : Nat)) (q32 1) (q32 (i - i0 : Nat)) = _
        unfold nb_X3_sumToEnd_11 nb_X3_sumToEnd_59
        rw [r3, Option.bind_some, szK, if_neg szi.mp, if_neg (show ¬ q32 1 = (0 : Int32) by decide), if_neg (show ¬ q32 1 = (0 : Int32) by decide), h5]
      rw [pre]
      by_cases c40 : kdF T N i = 40
      · rw [if_pos c40, if_pos (show q32 (kdT T N (tpos T N i)) = (40 : Int32) by rw [show kdT T N (tpos T N i) = 40 from c40]; rfl)]
        by_cases cn : 6 ≤ nest
        · rw [if_pos cn]
          obtain ⟨m', a1, a2, a3⟩ := fail9 (s := s) (z := z) hc 4
          have a1' : n_X3_failed s m r (4 : Int32) = some (q32 0, m') := a1
          refine ⟨hi, m', ?_, a2, a3⟩
          rw [if_neg (by rw [show (6 : Int32) = q32 6 from rfl, q32_lt_f (by omega)]; exact fun h => h), a1', bind2_s]
          rfl
        · rw [if_neg cn]
          have hi1 := h.nx hi (by omega) (by omega)
          obtain ⟨m1, a1, a2, a3, a4, a5⟩ := push9 (z := z) (by omega) h hs (-7)
          have a1' : n_X3_pushSign s m r (-7 : Int32) = some ((), m1) := by
            rw [show (-7 : Int32) = q32 (-7) by simp only [c32i, q32_neg]]; exact a1
          have g := go m1 (nest + 1) true (-7 :: S) out hi1 (by omega) ⟨[], [], S, Or.inl rfl, Or.inl rfl, rfl, hsv⟩ (by rw [List.length_cons]; omega) a4 (hc.k (fun k p1 p2 => a5 k (by omega))) a2 (a3 _ hcd)
          rw [if_pos (show q32 (nest : Int) < (6 : Int32) by rw [show (6 : Int32) = q32 6 from rfl, q32_lt_t (by omega)]; trivial), bindv, bindv0, a1', bind2_s, show q32 (nest : Int) + 1 = q32 ((nest + 1 : Nat) : Int) by rw [show (1 : Int32) = q32 1 from rfl, q32_add, Int.natCast_add]; rfl]
          exact g
      · rw [if_neg c40, if_neg (show ¬ q32 (kdT T N (tpos T N i)) = (40 : Int32) by rw [show (40 : Int32) = q32 40 from rfl, q32_eq_f (by have : kdT T N (tpos T N i) ≠ 40 := c40; omega)]; exact fun h => h)]
        have emitgo : ∀ x : Int, i + 1 < K → n_X3_atom s m r = (bind2 (n_X3_emit s m r (q32 x)) fun _ m2 => (rZM (1 : Int32) m2)) → match SYS (kdF T N) (amF T N) K (i + 1) nest false S (out ++ [x]) with
            | .inl (k, j) => j < K ∧ ∃ m', (bind2 (n_X3_atom s m r) fun x6 m7 => (if x6 = 0 then (bind2 (n_X3_cantStand s m7 r) fun x8 m9 => (rZM x8 m9)) else (nb_X3_sumToEnd_164 F s (nl_X3_sumToEnd_11 F s fuel) m7 r (q32 (nest : Int)) (0 : Int32) (q32 (i - i0 : Nat))))) = some (q32 0, m') ∧ KPR r z m m' ∧ FLT m' r k (tpos T N j)
            | .inr (j, out') => i ≤ j ∧ j < K ∧ kdF T N j = 59 ∧ out'.length ≤ j ∧ ∃ m', (bind2 (n_X3_atom s m r) fun x6 m7 => (if x6 = 0 then (bind2 (n_X3_cantStand s m7 r) fun x8 m9 => (rZM x8 m9)) else (nb_X3_sumToEnd_164 F s (nl_X3_sumToEnd_11 F s fuel) m7 r (q32 (nest : Int)) (0 : Int32) (q32 (i - i0 : Nat))))) = some (q32 1, m') ∧ KSM r z m m' ∧ CUR m' r T N j ∧ CDE9 m' r z out' := fun x hi1 ha => by
          have zr := (h.2.2.2.2.1 2 (by omega)).1
          have zr15 := (h.2.2.2.2.1 2 (by omega)).2 15 (by omega) (by omega)
          obtain ⟨m1, a1, a2, a3, a4⟩ := emit9 h hcd (by omega) x
          have k1 : KSM r z m m1 := ⟨fun a k p1 p2 p3 => a4 a k (by omega) p3, a3⟩
          have g := go m1 nest false S (out ++ [x]) hi1 hn hsv (by rw [List.length_append, List.length_singleton]; omega) k1 (hc.k (fun k p1 p2 => a4 r k (by omega) (by omega))) ⟨by rw [a4 r 12 (by omega) (by omega)]; exact hs.1, fun k hk => by rw [a4 _ _ (by omega) (by omega)]; exact hs.2 k hk⟩ a2
          have e : (bind2 (n_X3_atom s m r) fun x6 m7 => (if x6 = 0 then (bind2 (n_X3_cantStand s m7 r) fun x8 m9 => (rZM x8 m9)) else (nb_X3_sumToEnd_164 F s (nl_X3_sumToEnd_11 F s fuel) m7 r (q32 (nest : Int)) (0 : Int32) (q32 (i - i0 : Nat))))) = nb_X3_sumToEnd_164 F s (nl_X3_sumToEnd_11 F s fuel) m1 r (q32 (nest : Int)) (q32 (if false then 1 else 0)) (q32 (i - i0 : Nat)) := by
            rw [ha, a1, bind2_s]
            rfl
          rw [e]
          exact g
        by_cases c2 : kdF T N i = 2
        · rw [if_pos c2]
          refine emitgo (amF T N i) (h.nx hi (by omega) (by omega)) ?_
          unfold n_X3_atom nb_X3_atom_0
          rw [h5, show kdT T N (tpos T N i) = 2 from c2, h7]
          rfl
        · rw [if_neg c2]
          by_cases c11 : kdF T N i = 11
          · rw [if_pos c11]
            refine emitgo (-1) (h.nx hi (by omega) (by omega)) ?_
            unfold n_X3_atom nb_X3_atom_0
            rw [h5, show kdT T N (tpos T N i) = 11 from c11]
            rfl
          · rw [if_neg c11]
            by_cases c4 : kdF T N i = 4
            · rw [if_pos c4]
              refine emitgo (-2) (h.nx hi (by omega) (by omega)) ?_
              unfold n_X3_atom nb_X3_atom_0
              rw [h5, show kdT T N (tpos T N i) = 4 from c4]
              rfl
            · rw [if_neg c4]
              obtain ⟨b0, m', b1, b2, b3⟩ := bad
              refine ⟨b0, m', ?_, b2, b3⟩
              have ha : n_X3_atom s m r = some (q32 0, m) := by
                unfold n_X3_atom nb_X3_atom_0
                dsimp only [kdF] at c2 c11 c4
                generalize kdT T N (tpos T N i) = k at *
                simp (disch := omega) only [Option.bind_some, bindv, bindv0, bind2_s, bind3_s, ↓reduceIte, Bool.false_eq_true, rZM_0, rZM_1, rZP_0, rZP_1, ptZ_0, ptZ_1, c32i, c64i, ncI, Int.natCast_add, Int.natCast_mul, q32_neg, q64_neg, q32_add, q32_sub, q32_mul, q64_add, q64_sub, q64_mul, q32_64i, q64_32, q32_lt_t, q32_lt_f, q32_le_t, q32_le_f, q32_eq_t, q32_eq_f, q64_lt_t, q64_lt_f, q64_le_t, q64_le_f, q64_eq_t, q64_eq_f, rdI_i, rdL_i, rdR_i, rdN_i, stI_i, stL_i, stR_i, wI_s, wI_n, wL_s, wL_n, wI_2, wI_3, wL_1, wL_3, wR_1, wR_2, Int.toNat_natCast, tnO, tn_add, tn_sub, tn_mul, Nat.add_sub_cancel, Nat.add_zero, Nat.zero_add, lnO, win_t, win_f, h5]
              rw [ha, bind2_s, if_pos (show q32 0 = (0 : Int32) from rfl)]
              exact b1
    | false =>
      rw [if_neg (by decide)]
      obtain ⟨M, Q, B, hm, hq, hb, eS, hre, hpos⟩ := hsv.f
      have zr := (h.2.2.2.2.1 2 (by omega)).1
      have pre : nl_X3_sumToEnd_11 F s (fuel + 1) m r (q32 (nest : Nat)) (q32 (if false then 1 else 0)) (q32 (i - i0 : Nat)) = if q32 (kdT T N (tpos T N i)) = (41 : Int32) then (if q32 (nest : Int) ≤ 0 then (nb_X3_sumToEnd_108 F s (nl_X3_sumToEnd_11 F s fuel) m r (q32 (nest : Int)) (q32 (i - i0 : Nat))) else (bindv (q32 (nest : Int) + (-1)) fun x1 => (bind2 (n_X3_popSigns F s m r (0 : Int32)) fun _ m3 => (bind2 (n_X3_dropSign s m3 r) fun _ m5 => (nb_X3_sumToEnd_164 F s (nl_X3_sumToEnd_11 F s fuel) m5 r x1 (q32 0) (q32 (i - i0 : Nat))))))) else (nb_X3_sumToEnd_108 F s (nl_X3_sumToEnd_11 F s fuel) m r (q32 (nest : Int)) (q32 (i - i0 : Nat))) := by
        show nb_X3_sumToEnd_11 F s (nl_X3_sumToEnd_11 F s fuel) m r (q32 (nest : Nat)) (q32 0) (q32 (i - i0 : Nat)) = _
        unfold nb_X3_sumToEnd_11 nb_X3_sumToEnd_59
        rw [r3, Option.bind_some, szK, if_neg szi.mp, if_pos (show q32 0 = (0 : Int32) from rfl), if_pos (show q32 0 = (0 : Int32) from rfl), h5]
      have len0 : out.length + (M ++ Q).length + B.length ≤ i := by
        rw [eS, List.length_append, List.length_append] at hlen
        rw [List.length_append]
        omega
      by_cases c41 : kdF T N i = 41 ∧ 0 < nest
      · rw [if_pos c41]
        have hi1 := h.nx hi (by omega) (by omega)
        obtain ⟨S', eB, hS'⟩ := hpos c41.2
        obtain ⟨m1, a1, a2, a3, a4, a5⟩ := popS9 hF (l := 0) (Or.inl rfl) (by omega) sx h hs hcd (by omega)
        have p0 : popF 0 S = (M ++ Q, B) := by rw [eS]; exact pop0 hm hq hb
        rw [p0] at a2 a3 ⊢
        rw [eB] at a2
        have s1 := a2.1
        rw [List.length_cons] at s1
        rw [eB, List.length_cons] at len0
        have a1' : n_X3_popSigns F s m r (0 : Int32) = some ((), m1) := a1
        have dr : n_X3_dropSign s m1 r = some ((), wI m1 r 12 (q32 (S'.length : Int))) := by
          unfold n_X3_dropSign nb_X3_dropSign_0
          rw [s1, Int.natCast_add]
          simp (disch := omega) only [Option.bind_some, bindv, bindv0, bind2_s, bind3_s, ↓reduceIte, Bool.false_eq_true, rZM_0, rZM_1, rZP_0, rZP_1, ptZ_0, ptZ_1, c32i, c64i, ncI, Int.natCast_add, Int.natCast_mul, q32_neg, q64_neg, q32_add, q32_sub, q32_mul, q64_add, q64_sub, q64_mul, q32_64i, q64_32, q32_lt_t, q32_lt_f, q32_le_t, q32_le_f, q32_eq_t, q32_eq_f, q64_lt_t, q64_lt_f, q64_le_t, q64_le_f, q64_eq_t, q64_eq_f, rdI_i, rdL_i, rdR_i, rdN_i, stI_i, stL_i, stR_i, wI_s, wI_n, wL_s, wL_n, wI_2, wI_3, wL_1, wL_3, wR_1, wR_2, Int.toNat_natCast, tnO, tn_add, tn_sub, tn_mul, Nat.add_sub_cancel, Nat.add_zero, Nat.zero_add, lnO, win_t, win_f]
          rw [show (S'.length : Int) + 1 - 1 = S'.length by omega]
        have k2 : KSM r z m (wI m1 r 12 (q32 (S'.length : Int))) := a4.tr ⟨fun a k p1 p2 p3 => by rw [wI_n (by omega)], rfl⟩
        have g := go (wI m1 r 12 (q32 (S'.length : Int))) (nest - 1) false S' (out ++ (M ++ Q)) hi1 (by omega) hS' (by rw [List.length_append]; omega) k2 (hc.k (fun k p1 p2 => by rw [wI_n (by omega), a5 k (by omega) (by omega)])) ⟨wI_s .., fun k hk => by
          rw [wI_n (by omega)]
          have := a2.2 (k + 1) (by rw [List.length_cons]; omega)
          rw [List.length_cons, show S'.length + 1 - 1 - (k + 1) = S'.length - 1 - k by omega] at this
          exact this⟩ ⟨by rw [wI_n (by omega)]; exact a3.1, fun k hk => by rw [wI_n (by omega)]; exact a3.2 k hk⟩
        have eq : nl_X3_sumToEnd_11 F s (fuel + 1) m r (q32 (nest : Nat)) (q32 (if false then 1 else 0)) (q32 (i - i0 : Nat)) = nb_X3_sumToEnd_164 F s (nl_X3_sumToEnd_11 F s fuel) (wI m1 r 12 (q32 (S'.length : Int))) r (q32 (nest - 1 : Nat)) (q32 (if false then 1 else 0)) (q32 (i - i0 : Nat)) := by
          rw [pre, if_pos (show q32 (kdT T N (tpos T N i)) = (41 : Int32) by rw [show kdT T N (tpos T N i) = 41 from c41.1]; rfl), if_neg (by rw [show (0 : Int32) = q32 0 from rfl, q32_le_f (by omega)]; exact fun h => h), bindv, bindv0, a1', bind2_s, dr, bind2_s, show q32 (nest : Int) + -1 = q32 ((nest - 1 : Nat) : Int) by rw [show (-1 : Int32) = q32 (-1) by simp only [c32i, q32_neg], q32_add]; congr 1; omega]
          rfl
        rw [eq, show (B.tail) = S' by rw [eB]; rfl]
        exact g
      · rw [if_neg c41]
        have p108 : nl_X3_sumToEnd_11 F s (fuel + 1) m r (q32 (nest : Nat)) (q32 (if false then 1 else 0)) (q32 (i - i0 : Nat)) = nb_X3_sumToEnd_108 F s (nl_X3_sumToEnd_11 F s fuel) m r (q32 (nest : Int)) (q32 (i - i0 : Nat)) := by
          rw [pre]
          by_cases e : kdT T N (tpos T N i) = 41
          · have n0 : nest = 0 := by
              rcases Nat.eq_zero_or_pos nest with h' | h'
              · exact h'
              · exact absurd ⟨e, h'⟩ c41
            rw [if_pos (show q32 (kdT T N (tpos T N i)) = (41 : Int32) by rw [e]; rfl), n0, if_pos (by decide)]
          · rw [if_neg (show ¬ q32 (kdT T N (tpos T N i)) = (41 : Int32) by rw [show (41 : Int32) = q32 41 from rfl, q32_eq_f (by omega)]; exact fun h => h)]
        rw [p108]
        by_cases c59 : kdF T N i = 59 ∧ nest = 0
        · rw [if_pos c59]
          obtain ⟨m1, a1, a2, a3, a4, a5⟩ := popS9 hF (l := 0) (Or.inl rfl) (by omega) sx h hs hcd (by omega)
          have p0 : popF 0 S = (M ++ Q, B) := by rw [eS]; exact pop0 hm hq hb
          rw [p0] at a2 a3 ⊢
          have a1' : n_X3_popSigns F s m r (0 : Int32) = some ((), m1) := a1
          refine ⟨Nat.le_refl _, hi, c59.1, by show (out ++ (M ++ Q)).length ≤ i; rw [List.length_append]; omega, m1, ?_, a4, hc.k (fun k p1 p2 => a5 k (by omega) (by omega)), a3⟩
          unfold nb_X3_sumToEnd_108
          rw [h5, show kdT T N (tpos T N i) = 59 from c59.1, c59.2, if_pos (by decide), if_pos (by decide), a1', bind2_s]
          rfl
        · rw [if_neg c59]
          have p128 : nb_X3_sumToEnd_108 F s (nl_X3_sumToEnd_11 F s fuel) m r (q32 (nest : Int)) (q32 (i - i0 : Nat)) = nb_X3_sumToEnd_128 F s (nl_X3_sumToEnd_11 F s fuel) m r (q32 (nest : Int)) (q32 (i - i0 : Nat)) := by
            unfold nb_X3_sumToEnd_108
            rw [h5]
            by_cases e : kdT T N (tpos T N i) = 59
            · rw [if_pos (show q32 (kdT T N (tpos T N i)) = (59 : Int32) by rw [e]; rfl), if_neg (by rw [show (0 : Int32) = q32 0 from rfl, q32_eq_f (by have : nest ≠ 0 := fun h' => c59 ⟨e, h'⟩; omega)]; exact fun h => h)]
            · rw [if_neg (show ¬ q32 (kdT T N (tpos T N i)) = (59 : Int32) by rw [show (59 : Int32) = q32 59 from rfl, q32_eq_f (by omega)]; exact fun h => h)]
          rw [p128]
          have sg := sign9 (s := s) (m := m) (r := r) kb h5
          by_cases co : opF (kdF T N i) ≠ 0
          · rw [if_pos co]
            have ok : kdF T N i = 43 ∨ kdF T N i = 45 ∨ kdF T N i = 42 ∨ kdF T N i = 47 := by
              by_cases e1 : kdF T N i = 42 ∨ kdF T N i = 47
              · omega
              · by_cases e2 : kdF T N i = 43 ∨ kdF T N i = 45
                · omega
                · exact absurd (op_0 e1 e2) co
            have hi1 := h.nx hi (by omega) (by omega)
            have opb : -6 ≤ opF (kdF T N i) ∧ opF (kdF T N i) ≤ -3 := by rcases ok with e | e | e | e <;> rw [e] <;> decide
            have l01 : stF (opF (kdF T N i)) = 0 ∨ stF (opF (kdF T N i)) = 1 := by rcases ok with e | e | e | e <;> rw [e] <;> decide
            obtain ⟨m1, a1, a2, a3, a4, a5⟩ := popS9 hF (l := stF (opF (kdF T N i))) l01 (by omega) sx h hs hcd (by omega)
            have h1 := h.k a4.pr
            have st := str9 (x := opF (kdF T N i)) (by omega)
            -- what is left of the stack
            have lft : (popF (stF (opF (kdF T N i))) S).1.length + (popF (stF (opF (kdF T N i))) S).2.length = S.length ∧ SIV nest (opF (kdF T N i) :: (popF (stF (opF (kdF T N i))) S).2) := by
              by_cases e1 : kdF T N i = 42 ∨ kdF T N i = 47
              · obtain ⟨o1, o2, o3, -⟩ := op_ne e1
                rw [o2, eS, pop1 hm hq hb]
                refine ⟨by show M.length + (Q ++ B).length = (M ++ (Q ++ B)).length; rw [List.length_append (as := M)], ?_⟩
                exact hre [opF (kdF T N i)] Q (Or.inr ⟨_, rfl, o3⟩) hq
              · have e2 : kdF T N i = 43 ∨ kdF T N i = 45 := by omega
                obtain ⟨o1, o2, o3, -⟩ := op_ns e2
                rw [o2, eS, pop0 hm hq hb]
                refine ⟨by show (M ++ Q).length + B.length = (M ++ (Q ++ B)).length; simp only [List.length_append]; omega, ?_⟩
                exact hre [] [opF (kdF T N i)] (Or.inl rfl) (Or.inr ⟨_, rfl, o3⟩)
            have lp := lft.2.l.1
            rw [List.length_cons] at lp
            obtain ⟨m2, b1, b2, b3, b4, b5⟩ := push9 (z := z) (by omega) h1 a2 (opF (kdF T N i))
            have g := go m2 nest true (opF (kdF T N i) :: (popF (stF (opF (kdF T N i))) S).2) (out ++ (popF (stF (opF (kdF T N i))) S).1) hi1 hn lft.2 (by rw [List.length_cons, List.length_append]; omega) (a4.tr b4) (hc.k (fun k p1 p2 => by rw [b5 k (by omega), a5 k (by omega) (by omega)])) b2 (b3 _ a3)
            have h5' : m1.1 r 5 = q32 (kdT T N (tpos T N i)) := by rw [a5 5 (by omega) (by omega)]; exact h5
            have sg' := sign9 (s := s) (m := m1) (r := r) kb h5'
            have eq : nb_X3_sumToEnd_128 F s (nl_X3_sumToEnd_11 F s fuel) m r (q32 (nest : Int)) (q32 (i - i0 : Nat)) = nb_X3_sumToEnd_164 F s (nl_X3_sumToEnd_11 F s fuel) m2 r (q32 (nest : Int)) (q32 (if true then 1 else 0)) (q32 (i - i0 : Nat)) := by
              unfold nb_X3_sumToEnd_128
              rw [sg, Option.bind_some, if_neg (by rw [show (0 : Int32) = q32 0 from rfl, q32_eq_f (by dsimp only [kdF] at opb; omega)]; exact fun h => h), Option.bind_some]
              have st' : m_X3_strength (q32 (opF (kdT T N (tpos T N i)))) = some (q32 (stF (opF (kdT T N (tpos T N i))))) := st
              have a1' : n_X3_popSigns F s m r (q32 (stF (opF (kdT T N (tpos T N i))))) = some ((), m1) := a1
              have b1' : n_X3_pushSign s m1 r (q32 (opF (kdT T N (tpos T N i)))) = some ((), m2) := b1
              rw [st', Option.bind_some, a1', bind2_s, sg', Option.bind_some, b1', bind2_s]
              rfl
            rw [eq]
            exact g
          · rw [if_neg co]
            obtain ⟨b0, m', b1, b2, b3⟩ := bad
            refine ⟨b0, m', ?_, b2, b3⟩
            have co' : opF (kdT T N (tpos T N i)) = 0 := by
              by_cases e : opF (kdF T N i) = 0
              · exact e
              · exact absurd e co
            unfold nb_X3_sumToEnd_128
            rw [sg, co', Option.bind_some, if_pos (show q32 0 = (0 : Int32) from rfl)]
            exact b1
