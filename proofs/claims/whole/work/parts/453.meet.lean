theorem meL9 {F : Nat} (hF : 20000 ≤ F) {s : List Sh} {ow : Nat → Nat} {nw q : Nat} {al : Nat → Int32} {bc w : Nat} (hw1 : w ≤ 1) {x y : FR} : ∀ n k fuel, k + n = 5 → n < fuel → ∀ (m : Mem) (Z : List FR) (C : Nat → Int), RC s m ow nw q al bc → (0 < n → LG m q (Z ++ LY al bc x k ++ QY al bc w y k) C ∧ FLS (A al 1) (Z ++ LY al bc x k ++ QY al bc w y k) ∧ Z.length + (LY al bc x k).length + (QY al bc w y k).length ≤ MZ k) → ∃ m' L' C', nl_X5_seekMeeting_73 F s fuel m q (q32 w) (q32 Z.length) (q32 (Z ++ LY al bc x k).length) (q32 (k : Nat)) = some (q32 (mtv (MTF al bc w x y n k)), m') ∧ KCQ q m m' ∧ ∀ j f, MTF al bc w x y n k = some (j, f) → LG m' q L' C' ∧ ∃ i, i < L'.length ∧ gt L' i = f ∧ m'.1 q 3 = q32 (i : Nat) := by
  intro n
  induction n with
  | zero =>
    intro k fuel hk hfu m Z C hc h
    obtain ⟨fuel, rfl⟩ : ∃ f, fuel = f + 1 := ⟨fuel - 1, by omega⟩
    refine ⟨m, [], C, ?_, KCQ.rf m, fun j f h => by (cases h)⟩
    show nb_X5_seekMeeting_73 F s (nl_X5_seekMeeting_73 F s fuel) m q _ _ _ _ = some (q32 (-1), m)
    unfold nb_X5_seekMeeting_73
    simp (disch := omega) only [Option.bind_some, bindv, bindv0, bind2_s, bind3_s, ↓reduceIte, Bool.false_eq_true, rZM_0, rZM_1, rZP_0, rZP_1, ptZ_0, ptZ_1, c32i, c64i, ncI, Int.natCast_add, Int.natCast_mul, q32_neg, q64_neg, q32_add, q32_sub, q32_mul, q64_add, q64_sub, q64_mul, q32_64i, q64_32, q32_lt_t, q32_lt_f, q32_le_t, q32_le_f, q32_eq_t, q32_eq_f, q64_lt_t, q64_lt_f, q64_le_t, q64_le_f, q64_eq_t, q64_eq_f, rdI_i, rdL_i, rdR_i, rdN_i, stI_i, stL_i, stR_i, wI_s, wI_n, wL_s, wL_n, wI_2, wI_3, wL_1, wL_3, wR_1, wR_2, Int.toNat_natCast, tnO, tn_add, tn_sub, tn_mul, Nat.add_sub_cancel, Nat.add_zero, Nat.zero_add, lnO, win_t, win_f]
  | succ n ih =>
    intro k fuel hk hfu m Z C hc h
    obtain ⟨fuel, rfl⟩ : ∃ f, fuel = f + 1 := ⟨fuel - 1, by omega⟩
    obtain ⟨hL, hf, hlen⟩ := h (by omega)
    have h7 := hc.2.2.2.2.2
    have mz := MZ_le k (by omega)
    have lx := LY_len al h7 x k
    have ly := QY_len al h7 w y k
    have hl1 : (Z ++ LY al bc x k).length = Z.length + (LY al bc x k).length := List.length_append
    have hl2 : (Z ++ LY al bc x k ++ QY al bc w y k).length = (Z ++ LY al bc x k).length + (QY al bc w y k).length := List.length_append
    have q4 := hc.qb.2.2.2.1
    have sz := hL.2.1
    have lc := lc9 hF hc.qb hL hf
    have lb := LCX_b (LY al bc x k) (QY al bc w y k) (QY al bc w y k).length 0 (-1) (by omega) (by omega)
    have k3 : ∀ v, KCQ q m (wI m q 3 v) := fun v => ⟨fun a j _ hk => by rw [wI_n (by omega)], fun _ _ _ _ _ => rfl, rfl⟩
    have lg3 : ∀ v, LG (wI m q 3 v) q (Z ++ LY al bc x k ++ QY al bc w y k) C := fun v => hL.k (fun a j h1 h2 => by rw [wI_n (by omega)])
    show ∃ m' L' C', nb_X5_seekMeeting_73 F s (nl_X5_seekMeeting_73 F s fuel) m q _ _ _ _ = _ ∧ _
    by_cases cn : LCX (LY al bc x k) (QY al bc w y k) (QY al bc w y k).length 0 (-1) = -1
    · have eF : LCO (LY al bc x k) (QY al bc w y k) = none := if_pos cn
      have eM : MTF al bc w x y (n + 1) k = MTF al bc w x y n (k + 1) := by
        show (match LCO (LY al bc x k) (QY al bc w y k) with | some f => _ | none => _) = _
        rw [eF]
      rw [eM]
      rw [cn, show shf (Z ++ LY al bc x k).length (-1) = -1 from if_pos rfl] at lc
      have s3 : (wI m q 3 (q32 (-1))).1 q 3 = q32 (-1) := wI_s ..
      by_cases c4 : k = 4
      · have hn0 : n = 0 := by omega
        subst hn0 c4
        obtain ⟨m', L', C', i1, i2, i3⟩ := ih 5 fuel (by omega) (by omega) (wI m q 3 (q32 (-1))) [] C (hc.k (k3 _)) (fun h => absurd h (by omega))
        refine ⟨wI m q 3 (q32 (-1)), [], C, ?_, k3 _, fun j f h => by (cases h)⟩
        show _ = some (q32 (-1), wI m q 3 (q32 (-1)))
        have nx : ∀ a b, nl_X5_seekMeeting_73 F s fuel (wI m q 3 (q32 (-1))) q (q32 w) a b (q32 5) = some (q32 (-1), wI m q 3 (q32 (-1))) := fun a b => by
          obtain ⟨fuel, rfl⟩ : ∃ f, fuel = f + 1 := ⟨fuel - 1, by omega⟩
          show nb_X5_seekMeeting_73 F s (nl_X5_seekMeeting_73 F s fuel) _ q _ _ _ _ = _
          unfold nb_X5_seekMeeting_73
          simp (disch := omega) only [Option.bind_some, bindv, bindv0, bind2_s, bind3_s, ↓reduceIte, Bool.false_eq_true, rZM_0, rZM_1, rZP_0, rZP_1, ptZ_0, ptZ_1, c32i, c64i, ncI, Int.natCast_add, Int.natCast_mul, q32_neg, q64_neg, q32_add, q32_sub, q32_mul, q64_add, q64_sub, q64_mul, q32_64i, q64_32, q32_lt_t, q32_lt_f, q32_le_t, q32_le_f, q32_eq_t, q32_eq_f, q64_lt_t, q64_lt_f, q64_le_t, q64_le_f, q64_eq_t, q64_eq_f, rdI_i, rdL_i, rdR_i, rdN_i, stI_i, stL_i, stR_i, wI_s, wI_n, wL_s, wL_n, wI_2, wI_3, wL_1, wL_3, wR_1, wR_2, Int.toNat_natCast, tnO, tn_add, tn_sub, tn_mul, Nat.add_sub_cancel, Nat.add_zero, Nat.zero_add, lnO, win_t, win_f]
        unfold nb_X5_seekMeeting_73 nb_X5_seekMeeting_168
        simp (disch := omega) only [Option.bind_some, bindv, bindv0, bind2_s, bind3_s, ↓reduceIte, Bool.false_eq_true, rZM_0, rZM_1, rZP_0, rZP_1, ptZ_0, ptZ_1, c32i, c64i, ncI, Int.natCast_add, Int.natCast_mul, q32_neg, q64_neg, q32_add, q32_sub, q32_mul, q64_add, q64_sub, q64_mul, q32_64i, q64_32, q32_lt_t, q32_lt_f, q32_le_t, q32_le_f, q32_eq_t, q32_eq_f, q64_lt_t, q64_lt_f, q64_le_t, q64_le_f, q64_eq_t, q64_eq_f, rdI_i, rdL_i, rdR_i, rdN_i, stI_i, stL_i, stR_i, wI_s, wI_n, wL_s, wL_n, wI_2, wI_3, wL_1, wL_3, wR_1, wR_2, Int.toNat_natCast, tnO, tn_add, tn_sub, tn_mul, Nat.add_sub_cancel, Nat.add_zero, Nat.zero_add, lnO, win_t, win_f, q4, sz, lc, nx]
        first | done | exact nx _ _
      · have hc3 := hc.k (k3 (q32 (-1)))
        have q43 := hc3.qb.2.2.2.1
        have e6 : 6 ^ (k + 1) = 6 ^ k * 6 := Nat.pow_succ ..
        have e7 : 7 ^ (k + 1) = 7 ^ k * 7 := Nat.pow_succ ..
        have mz' := MZ_le (k + 1) (by omega)
        have eZ : MZ (k + 1) = MZ k + 6 ^ (k + 1) + 7 ^ (k + 1) := rfl
        obtain ⟨m5, C5, a1, a2, a3, a4⟩ := spread9 hF (B := Z ++ LY al bc x k ++ QY al bc w y k) (P := LY al bc x k) (R := []) (bg := Z.length) (en := (Z ++ LY al bc x k).length) (by omega) hl1.symm (fun j hj => by rw [gt_l (by omega), gt_r]) hc3 (C := C) (by rw [List.append_nil]; exact lg3 _) (by rw [List.append_nil]; exact hf) (by show _ + 0 + _ ≤ _; omega)
        have hc5 := hc3.k a2
        have q45 := hc5.qb.2.2.2.1
        have sz5 := a3.2.1
        have lx1 := LY_len al h7 x (k + 1)
        have lq1 := QY_len al h7 w y (k + 1)
        have eL : LY al bc x (k + 1) = SPR al bc (LY al bc x k) [] := rfl
        rw [← eL] at a3 a4 sz5
        have hl5 : (Z ++ LY al bc x k ++ QY al bc w y k ++ LY al bc x (k + 1)).length = (Z ++ LY al bc x k ++ QY al bc w y k).length + (LY al bc x (k + 1)).length := List.length_append
        have gq : ∀ j, j < (QY al bc w y k).length → gt (Z ++ LY al bc x k ++ QY al bc w y k ++ LY al bc x (k + 1)) ((Z ++ LY al bc x k).length + j) = gt (QY al bc w y k) j := fun j hj => by rw [gt_l (by omega), gt_r]
        have st : ∃ m8 C8, (if q32 w = 0 then nb_X5_seekMeeting_150 F s (nl_X5_seekMeeting_73 F s fuel) m5 q (q32 w) (q32 (Z ++ LY al bc x k).length) (q32 k) (q32 (Z ++ LY al bc x k ++ QY al bc w y k).length) (q32 (Z ++ LY al bc x k ++ QY al bc w y k ++ LY al bc x (k + 1)).length) else bind2 (n_X5_stay F s m5 q (q32 (Z ++ LY al bc x k).length) (q32 (Z ++ LY al bc x k ++ QY al bc w y k).length)) fun _ m8 => nb_X5_seekMeeting_150 F s (nl_X5_seekMeeting_73 F s fuel) m8 q (q32 w) (q32 (Z ++ LY al bc x k).length) (q32 k) (q32 (Z ++ LY al bc x k ++ QY al bc w y k).length) (q32 (Z ++ LY al bc x k ++ QY al bc w y k ++ LY al bc x (k + 1)).length)) = nb_X5_seekMeeting_150 F s (nl_X5_seekMeeting_73 F s fuel) m8 q (q32 w) (q32 (Z ++ LY al bc x k).length) (q32 k) (q32 (Z ++ LY al bc x k ++ QY al bc w y k).length) (q32 (Z ++ LY al bc x k ++ QY al bc w y k ++ LY al bc x (k + 1)).length) ∧ KCQ q m5 m8 ∧ LG m8 q (Z ++ LY al bc x k ++ QY al bc w y k ++ LY al bc x (k + 1) ++ (if w = 0 then [] else QY al bc w y k)) C8 := by
          by_cases c0 : w = 0
          · subst c0
            refine ⟨m5, C5, if_pos rfl, KCQ.rf m5, ?_⟩
            rw [if_pos rfl, List.append_nil]
            exact a3
          · have c1 : w = 1 := by omega
            subst c1
            obtain ⟨m8, C8, b1, b2, b3⟩ := stay9 (F := F) (Y := Z ++ LY al bc x k ++ QY al bc 1 y k ++ LY al bc x (k + 1)) (en := (Z ++ LY al bc x k ++ QY al bc 1 y k).length) (by omega) (QY al bc 1 y k) F (Z ++ LY al bc x k).length (by omega) (by omega) gq m5 [] C5 hc5 (by rw [List.append_nil]; exact a3) (by show _ + 0 + _ ≤ _; omega)
            refine ⟨m8, C8, ?_, b2, by rw [if_neg c0]; exact b3⟩
            have b1' : n_X5_stay F s m5 q (q32 (Z ++ LY al bc x k).length) (q32 (Z ++ LY al bc x k ++ QY al bc 1 y k).length) = some ((), m8) := b1
            rw [if_neg (by decide), b1', bind2_s]
        obtain ⟨m8, C8, b1, b2, b3⟩ := st
        have hc8 := hc5.k b2
        have fq : FLS (A al 1) (if w = 0 then [] else QY al bc w y k) := by
          split
          · exact fun z hz => (List.not_mem_nil hz).elim
          · exact fun z hz => hf z (List.mem_append_right _ hz)
        have hR : (if w = 0 then [] else QY al bc w y k).length ≤ (QY al bc w y k).length := by
          split
          · exact Nat.zero_le _
          · exact Nat.le_refl _
        obtain ⟨m9, C9, d1, d2, d3, d4⟩ := spread9 hF (B := Z ++ LY al bc x k ++ QY al bc w y k ++ LY al bc x (k + 1)) (P := QY al bc w y k) (R := if w = 0 then [] else QY al bc w y k) (bg := (Z ++ LY al bc x k).length) (en := (Z ++ LY al bc x k ++ QY al bc w y k).length) (by omega) hl2.symm gq hc8 b3 (a4.ap fq) (by omega)
        have eQ : QY al bc w y (k + 1) = SPR al bc (QY al bc w y k) (if w = 0 then [] else QY al bc w y k) := rfl
        rw [← eQ] at d3 d4
        have kk := (((k3 (q32 (-1))).tr a2).tr b2).tr d2
        obtain ⟨m', L', C', i1, i2, i3⟩ := ih (k + 1) fuel (by omega) (by omega) m9 (Z ++ LY al bc x k ++ QY al bc w y k) C9 (hc.k kk) (fun _ => ⟨d3, d4, by omega⟩)
        refine ⟨m', L', C', ?_, kk.tr i2, i3⟩
        rw [← i1, Int.natCast_add]
        rw [show nb_X5_seekMeeting_73 F s (nl_X5_seekMeeting_73 F s fuel) m q (q32 w) (q32 Z.length) (q32 (Z ++ LY al bc x k).length) (q32 (k : Nat)) = (if q32 w = 0 then nb_X5_seekMeeting_150 F s (nl_X5_seekMeeting_73 F s fuel) m5 q (q32 w) (q32 (Z ++ LY al bc x k).length) (q32 k) (q32 (Z ++ LY al bc x k ++ QY al bc w y k).length) (q32 (Z ++ LY al bc x k ++ QY al bc w y k ++ LY al bc x (k + 1)).length) else bind2 (n_X5_stay F s m5 q (q32 (Z ++ LY al bc x k).length) (q32 (Z ++ LY al bc x k ++ QY al bc w y k).length)) fun _ m8 => nb_X5_seekMeeting_150 F s (nl_X5_seekMeeting_73 F s fuel) m8 q (q32 w) (q32 (Z ++ LY al bc x k).length) (q32 k) (q32 (Z ++ LY al bc x k ++ QY al bc w y k).length) (q32 (Z ++ LY al bc x k ++ QY al bc w y k ++ LY al bc x (k + 1)).length)) by
          unfold nb_X5_seekMeeting_73
          simp (disch := omega) only [Option.bind_some, bindv, bindv0, bind2_s, bind3_s, ↓reduceIte, Bool.false_eq_true, rZM_0, rZM_1, rZP_0, rZP_1, ptZ_0, ptZ_1, c32i, c64i, ncI, Int.natCast_add, Int.natCast_mul, q32_neg, q64_neg, q32_add, q32_sub, q32_mul, q64_add, q64_sub, q64_mul, q32_64i, q64_32, q32_lt_t, q32_lt_f, q32_le_t, q32_le_f, q32_eq_t, q32_eq_f, q64_lt_t, q64_lt_f, q64_le_t, q64_le_f, q64_eq_t, q64_eq_f, rdI_i, rdL_i, rdR_i, rdN_i, stI_i, stL_i, stR_i, wI_s, wI_n, wL_s, wL_n, wI_2, wI_3, wL_1, wL_3, wR_1, wR_2, Int.toNat_natCast, tnO, tn_add, tn_sub, tn_mul, Nat.add_sub_cancel, Nat.add_zero, Nat.zero_add, lnO, win_t, win_f, q4, sz, lc, a1, q45, sz5]
          first | done | rfl, b1]
        unfold nb_X5_seekMeeting_150 nb_X5_seekMeeting_168
        rw [d1, bind2_s]
        simp (disch := omega) only [Option.bind_some, bindv, bindv0, bind2_s, bind3_s, ↓reduceIte, Bool.false_eq_true, rZM_0, rZM_1, rZP_0, rZP_1, ptZ_0, ptZ_1, c32i, c64i, ncI, Int.natCast_add, Int.natCast_mul, q32_neg, q64_neg, q32_add, q32_sub, q32_mul, q64_add, q64_sub, q64_mul, q32_64i, q64_32, q32_lt_t, q32_lt_f, q32_le_t, q32_le_f, q32_eq_t, q32_eq_f, q64_lt_t, q64_lt_f, q64_le_t, q64_le_f, q64_eq_t, q64_eq_f, rdI_i, rdL_i, rdR_i, rdN_i, stI_i, stL_i, stR_i, wI_s, wI_n, wL_s, wL_n, wI_2, wI_3, wL_1, wL_3, wR_1, wR_2, Int.toNat_natCast, tnO, tn_add, tn_sub, tn_mul, Nat.add_sub_cancel, Nat.add_zero, Nat.zero_add, lnO, win_t, win_f]
        first | done | rfl
    · obtain ⟨i, hi⟩ := Int.eq_ofNat_of_zero_le (show 0 ≤ LCX (LY al bc x k) (QY al bc w y k) (QY al bc w y k).length 0 (-1) by omega)
      have eF : LCO (LY al bc x k) (QY al bc w y k) = some (gt (QY al bc w y k) i) := by
        unfold LCO
        rw [if_neg cn, hi, Int.toNat_natCast]
      have eM : MTF al bc w x y (n + 1) k = some (k, gt (QY al bc w y k) i) := by
        show (match LCO (LY al bc x k) (QY al bc w y k) with | some f => _ | none => _) = _
        rw [eF]
      rw [eM]
      rw [hi, show shf (Z ++ LY al bc x k).length (i : Int) = (((Z ++ LY al bc x k).length + i : Nat) : Int) by unfold shf; rw [if_neg (by omega)]; omega] at lc
      refine ⟨wI m q 3 (q32 (((Z ++ LY al bc x k).length + i : Nat) : Int)), Z ++ LY al bc x k ++ QY al bc w y k, C, ?_, k3 _, fun j f h => ?_⟩
      · show _ = some (q32 (k : Int), _)
        have s3 : ∀ v, (wI m q 3 v).1 q 3 = v := fun v => wI_s ..
        generalize hg : ((Z ++ LY al bc x k).length + i : Nat) = g at *
        unfold nb_X5_seekMeeting_73
        simp (disch := omega) only [Option.bind_some, bindv, bindv0, bind2_s, bind3_s, ↓reduceIte, Bool.false_eq_true, rZM_0, rZM_1, rZP_0, rZP_1, ptZ_0, ptZ_1, c32i, c64i, ncI, Int.natCast_add, Int.natCast_mul, q32_neg, q64_neg, q32_add, q32_sub, q32_mul, q64_add, q64_sub, q64_mul, q32_64i, q64_32, q32_lt_t, q32_lt_f, q32_le_t, q32_le_f, q32_eq_t, q32_eq_f, q64_lt_t, q64_lt_f, q64_le_t, q64_le_f, q64_eq_t, q64_eq_f, rdI_i, rdL_i, rdR_i, rdN_i, stI_i, stL_i, stR_i, wI_s, wI_n, wL_s, wL_n, wI_2, wI_3, wL_1, wL_3, wR_1, wR_2, Int.toNat_natCast, tnO, tn_add, tn_sub, tn_mul, Nat.add_sub_cancel, Nat.add_zero, Nat.zero_add, lnO, win_t, win_f, q4, sz, lc]
      · cases h
        exact ⟨lg3 _, (Z ++ LY al bc x k).length + i, by omega, gt_r, wI_s ..⟩
