theorem opg_fits {F : Nat} (hF : 1000 ≤ F) {s : List Sh} {m : Mem} (h : INV s m) (w1 w2 : Int32) : OPG s m (n_X9_fits F s m 0 w1 w2) (fun s1 m1 => n_X10_fits F s1 m1 23 w1 w2) := by
  have h0 := h
  obtain ⟨hg, ow, nw, hst⟩ := h
  have hl := hst.1
  have hp := hl.hp
  have hr := hl.rf
  have hn := hl.hn
  have rn := hl.nw
  have r1 := rf23_1 hr
  have l24 := ln24 hp
  obtain ⟨i, hi, rfl⟩ := q32_of w1
  obtain ⟨v, hv, rfl⟩ := q32_of w2
  have r7 := rf0_7 hr
  have l13 := ln13 hp
  obtain ⟨tp', y1, y2, y3, y4, y5, y6, y7, bc, y8, y9, y10⟩ := hst.2.1.wa.at
  have g6 : m.1 nw 6 = q32 bc := by obtain ⟨tp, sk, nl, bc, fc, tc, au, aw, S, U, L, V, W, X, O, h1, ⟨a0, a1, a2, a4, a5, a6, a9, a15⟩, ⟨b0, b1, b2, b3, b4, b5, b6, b7, b8⟩, h4, ⟨s1, s2, s3, s4, s5, s6, s7⟩, h6, ⟨h7, h7b⟩, h8⟩ := hst.2.1; rw [a6, ← b2]; exact y9
  obtain ⟨fc, tp, U, L, X, O, hd, f9, f10, -, htp⟩ := hst.fd
  have bad : ∀ r : Int, n_X9_fits F s m 0 (q32 i) (q32 v) = some (q32 r, s, m) → n_X10_fits F s m 23 (q32 i) (q32 v) = some (q32 r, wI m 23 0 (q32 0)) → OPG s m (n_X9_fits F s m 0 (q32 i) (q32 v)) (fun s1 m1 => n_X10_fits F s1 m1 23 (q32 i) (q32 v)) := fun r e1 e2 =>
    opg_fin h0 e1 e2 (un_X10_fits (un_X9_fits hg (okB hp).1 e1).2.1 (okB hp).2 e2).2 (SC.k0 m)
  rcases seen_cases hF hst hd.1 f9.1 f10.2.1 y9 y8 hi with ⟨r, c1, c2, c3, k1, k2⟩ | ⟨j, t, sz, rfl, ht, c1, c2, c3, k1, k2, k3⟩
  · refine bad r ?_ ?_
    · unfold n_X9_fits nb_X9_fits_0
      simp (disch := omega) only [Option.bind_some, bindv, bindv0, bind2_s, bind3_s, ↓reduceIte, Bool.false_eq_true, rZM_0, rZM_1, rZP_0, rZP_1, ptZ_0, ptZ_1, c32i, c64i, ncI, Int.natCast_add, Int.natCast_mul, q32_neg, q64_neg, q32_add, q32_sub, q32_mul, q64_add, q64_sub, q64_mul, q32_64i, q64_32, q32_lt_t, q32_lt_f, q32_le_t, q32_le_f, q32_eq_t, q32_eq_f, q64_lt_t, q64_lt_f, q64_le_t, q64_le_f, q64_eq_t, q64_eq_f, rdI_i, rdL_i, rdR_i, rdN_i, stI_i, stL_i, stR_i, wI_s, wI_n, wL_s, wL_n, wI_2, wI_3, wL_1, wL_3, wR_1, wR_2, Int.toNat_natCast, tnO, tn_add, tn_sub, tn_mul, Nat.add_sub_cancel, Nat.add_zero, Nat.zero_add, lnO, win_t, win_f, k1]
    · have k2 := k2 (q32 v) (q32 1)
      unfold n_X10_fits nb_X10_fits_0
      simp (disch := omega) only [Option.bind_some, bindv, bindv0, bind2_s, bind3_s, ↓reduceIte, Bool.false_eq_true, rZM_0, rZM_1, rZP_0, rZP_1, ptZ_0, ptZ_1, c32i, c64i, ncI, Int.natCast_add, Int.natCast_mul, q32_neg, q64_neg, q32_add, q32_sub, q32_mul, q64_add, q64_sub, q64_mul, q32_64i, q64_32, q32_lt_t, q32_lt_f, q32_le_t, q32_le_f, q32_eq_t, q32_eq_f, q64_lt_t, q64_lt_f, q64_le_t, q64_le_f, q64_eq_t, q64_eq_f, rdI_i, rdL_i, rdR_i, rdN_i, stI_i, stL_i, stR_i, wI_s, wI_n, wL_s, wL_n, wI_2, wI_3, wL_1, wL_3, wR_1, wR_2, Int.toNat_natCast, tnO, tn_add, tn_sub, tn_mul, Nat.add_sub_cancel, Nat.add_zero, Nat.zero_add, lnO, win_t, win_f, k2]
  · have hj := ht.1
    have rR : rdR s m 13 (q32 j) = some t := by rw [rdR_q (by omega) (by omega)]; exact ht.2.1
    have s1 := ht.2.2.2.2.2.2.2.1
    have fw := fewL9 (F := F) (s := s) rn g6 y8 c2 sz F (by omega) 0 1 (by omega) (by decide)
    have fw' : n_X9_fewRows F s m 0 (q32 sz) = some (if 200000 < 1 * bc ^ sz then q32 0 else q32 1) := fw
    rw [Nat.one_mul] at fw'
    by_cases hpow : 200000 < bc ^ sz
    · rw [if_pos hpow] at fw'
      refine bad (-1000) ?_ ?_
      · unfold n_X9_fits nb_X9_fits_0
        simp (disch := omega) only [Option.bind_some, bindv, bindv0, bind2_s, bind3_s, ↓reduceIte, Bool.false_eq_true, rZM_0, rZM_1, rZP_0, rZP_1, ptZ_0, ptZ_1, c32i, c64i, ncI, Int.natCast_add, Int.natCast_mul, q32_neg, q64_neg, q32_add, q32_sub, q32_mul, q64_add, q64_sub, q64_mul, q32_64i, q64_32, q32_lt_t, q32_lt_f, q32_le_t, q32_le_f, q32_eq_t, q32_eq_f, q64_lt_t, q64_lt_f, q64_le_t, q64_le_f, q64_eq_t, q64_eq_f, rdI_i, rdL_i, rdR_i, rdN_i, stI_i, stL_i, stR_i, wI_s, wI_n, wL_s, wL_n, wI_2, wI_3, wL_1, wL_3, wR_1, wR_2, Int.toNat_natCast, tnO, tn_add, tn_sub, tn_mul, Nat.add_sub_cancel, Nat.add_zero, Nat.zero_add, lnO, win_t, win_f, k1, r7, rR, s1, fw']
      · have k3 := k3 hpow (q32 v) (q32 1) (by decide)
        unfold n_X10_fits nb_X10_fits_0
        simp (disch := omega) only [Option.bind_some, bindv, bindv0, bind2_s, bind3_s, ↓reduceIte, Bool.false_eq_true, rZM_0, rZM_1, rZP_0, rZP_1, ptZ_0, ptZ_1, c32i, c64i, ncI, Int.natCast_add, Int.natCast_mul, q32_neg, q64_neg, q32_add, q32_sub, q32_mul, q64_add, q64_sub, q64_mul, q32_64i, q64_32, q32_lt_t, q32_lt_f, q32_le_t, q32_le_f, q32_eq_t, q32_eq_f, q64_lt_t, q64_lt_f, q64_le_t, q64_le_f, q64_eq_t, q64_eq_f, rdI_i, rdL_i, rdR_i, rdN_i, stI_i, stL_i, stR_i, wI_s, wI_n, wL_s, wL_n, wI_2, wI_3, wL_1, wL_3, wR_1, wR_2, Int.toNat_natCast, tnO, tn_add, tn_sub, tn_mul, Nat.add_sub_cancel, Nat.add_zero, Nat.zero_add, lnO, win_t, win_f, k3]
    · rw [if_neg hpow] at fw'
      obtain ⟨s', m', w, m1, ow', R, M2, x1, x2, x3, x4, x5, x6, x7, x8, x9, x10, x11, x12, x13, x14, x15, x16, x17⟩ := watch_both hF hst ht ⟨c1, c2⟩ hd f9 f10 htp g6 y9 y8 (T := fun k => (m.2.1 52 (40 * j + k)).toInt) (fun k _ => ⟨v64 _, v64b _⟩) c3 (by omega) hv
      have lf := x13 (q32 1) (by decide)
      have e1 : ∃ r, n_X9_fits F s m 0 (q32 j) (q32 v) = some (r, s', m1) ∧ r = (if v = -1 then q32 R.length else q32 (KPT R v sz)) := by
        refine ⟨_, ?_, rfl⟩
        unfold n_X9_fits nb_X9_fits_0
        by_cases cv : v = -1
        · rw [if_pos cv]
          simp (disch := omega) only [Option.bind_some, bindv, bindv0, bind2_s, bind3_s, ↓reduceIte, Bool.false_eq_true, rZM_0, rZM_1, rZP_0, rZP_1, ptZ_0, ptZ_1, c32i, c64i, ncI, Int.natCast_add, Int.natCast_mul, q32_neg, q64_neg, q32_add, q32_sub, q32_mul, q64_add, q64_sub, q64_mul, q32_64i, q64_32, q32_lt_t, q32_lt_f, q32_le_t, q32_le_f, q32_eq_t, q32_eq_f, q64_lt_t, q64_lt_f, q64_le_t, q64_le_f, q64_eq_t, q64_eq_f, rdI_i, rdL_i, rdR_i, rdN_i, stI_i, stL_i, stR_i, wI_s, wI_n, wL_s, wL_n, wI_2, wI_3, wL_1, wL_3, wR_1, wR_2, Int.toNat_natCast, tnO, tn_add, tn_sub, tn_mul, Nat.add_sub_cancel, Nat.add_zero, Nat.zero_add, lnO, win_t, win_f, k1, r7, rR, s1, fw', x1, x2, x3, x4, x5, x8.1]
        · rw [if_neg cv]
          simp (disch := omega) only [Option.bind_some, bindv, bindv0, bind2_s, bind3_s, ↓reduceIte, Bool.false_eq_true, rZM_0, rZM_1, rZP_0, rZP_1, ptZ_0, ptZ_1, c32i, c64i, ncI, Int.natCast_add, Int.natCast_mul, q32_neg, q64_neg, q32_add, q32_sub, q32_mul, q64_add, q64_sub, q64_mul, q32_64i, q64_32, q32_lt_t, q32_lt_f, q32_le_t, q32_le_f, q32_eq_t, q32_eq_f, q64_lt_t, q64_lt_f, q64_le_t, q64_le_f, q64_eq_t, q64_eq_f, rdI_i, rdL_i, rdR_i, rdN_i, stI_i, stL_i, stR_i, wI_s, wI_n, wL_s, wL_n, wI_2, wI_3, wL_1, wL_3, wR_1, wR_2, Int.toNat_natCast, tnO, tn_add, tn_sub, tn_mul, Nat.add_sub_cancel, Nat.add_zero, Nat.zero_add, lnO, win_t, win_f, k1, r7, rR, s1, fw', x1, x2, x3, x4, x5, x8.2.2.1]
      obtain ⟨r, e1, er⟩ := e1
      have hp' := x6.1.hp
      have hrM : RF M2 := x6.1.rf.same x15.r
      have e2 : n_X10_fits F s' m1 23 (q32 j) (q32 v) = some (r, M2) := by
        rw [er]
        unfold n_X10_fits nb_X10_fits_0
        have m46 := x14.1
        by_cases cv : v = -1
        · rw [if_pos cv]
          simp (disch := omega) only [Option.bind_some, bindv, bindv0, bind2_s, bind3_s, ↓reduceIte, Bool.false_eq_true, rZM_0, rZM_1, rZP_0, rZP_1, ptZ_0, ptZ_1, c32i, c64i, ncI, Int.natCast_add, Int.natCast_mul, q32_neg, q64_neg, q32_add, q32_sub, q32_mul, q64_add, q64_sub, q64_mul, q32_64i, q64_32, q32_lt_t, q32_lt_f, q32_le_t, q32_le_f, q32_eq_t, q32_eq_f, q64_lt_t, q64_lt_f, q64_le_t, q64_le_f, q64_eq_t, q64_eq_f, rdI_i, rdL_i, rdR_i, rdN_i, stI_i, stL_i, stR_i, wI_s, wI_n, wL_s, wL_n, wI_2, wI_3, wL_1, wL_3, wR_1, wR_2, Int.toNat_natCast, tnO, tn_add, tn_sub, tn_mul, Nat.add_sub_cancel, Nat.add_zero, Nat.zero_add, lnO, win_t, win_f, lf, m46]
        · rw [if_neg cv]
          by_cases cr : 0 ≤ v ∧ v < R.length
          · have hg : R[v.toNat]? = some (R[v.toNat]'(by omega)) := List.getElem?_eq_getElem (by omega)
            have hc := codeL10 (F := F) hp' hrM hj c2 x16 (P := R[v.toNat]'(by omega)) (x14.2.2.2 cr.1 _ hg) sz F (by omega) 0 0 (by omega)
            have hk : KPT R v sz = (CDE (R[v.toNat]'(by omega)) sz 0 0 : Nat) := by
              unfold KPT
              rw [if_pos cr.1, hg]
            rw [hk]
            simp (disch := omega) only [Option.bind_some, bindv, bindv0, bind2_s, bind3_s, ↓reduceIte, Bool.false_eq_true, rZM_0, rZM_1, rZP_0, rZP_1, ptZ_0, ptZ_1, c32i, c64i, ncI, Int.natCast_add, Int.natCast_mul, q32_neg, q64_neg, q32_add, q32_sub, q32_mul, q64_add, q64_sub, q64_mul, q32_64i, q64_32, q32_lt_t, q32_lt_f, q32_le_t, q32_le_f, q32_eq_t, q32_eq_f, q64_lt_t, q64_lt_f, q64_le_t, q64_le_f, q64_eq_t, q64_eq_f, rdI_i, rdL_i, rdR_i, rdN_i, stI_i, stL_i, stR_i, wI_s, wI_n, wL_s, wL_n, wI_2, wI_3, wL_1, wL_3, wR_1, wR_2, Int.toNat_natCast, tnO, tn_add, tn_sub, tn_mul, Nat.add_sub_cancel, Nat.add_zero, Nat.zero_add, lnO, win_t, win_f, lf, m46]
            exact hc
          · have hk : KPT R v sz = -1 := by
              unfold KPT
              by_cases c0 : 0 ≤ v
              · rw [if_pos c0, List.getElem?_eq_none (by omega)]
              · rw [if_neg c0]
            rw [hk]
            simp (disch := omega) only [Option.bind_some, bindv, bindv0, bind2_s, bind3_s, ↓reduceIte, Bool.false_eq_true, rZM_0, rZM_1, rZP_0, rZP_1, ptZ_0, ptZ_1, c32i, c64i, ncI, Int.natCast_add, Int.natCast_mul, q32_neg, q64_neg, q32_add, q32_sub, q32_mul, q64_add, q64_sub, q64_mul, q32_64i, q64_32, q32_lt_t, q32_lt_f, q32_le_t, q32_le_f, q32_eq_t, q32_eq_f, q64_lt_t, q64_lt_f, q64_le_t, q64_le_f, q64_eq_t, q64_eq_f, rdI_i, rdL_i, rdR_i, rdN_i, stI_i, stL_i, stR_i, wI_s, wI_n, wL_s, wL_n, wI_2, wI_3, wL_1, wL_3, wR_1, wR_2, Int.toNat_natCast, tnO, tn_add, tn_sub, tn_mul, Nat.add_sub_cancel, Nat.add_zero, Nat.zero_add, lnO, win_t, win_f, lf, m46]
      obtain ⟨-, g1, g2⟩ := un_X9_fits hg (okB hp).1 e1
      exact ⟨r, s', m1, M2, e1, e2, ⟨(un_X10_fits g1 (okB hp').2 e2).2, ow', nw, x6.sc x15⟩, x7, by rw [x15.r]; exact x11⟩
def FND (R : List ROW) (k : Nat) : Nat → Nat → Int
  | 0, _ => -1
  | n + 1, b => if 0 < R.length ∧ CNT R k b = R.length then (b : Int) else FND R k n (b + 1)
theorem FND_e {R : List ROW} {k : Nat} (h : R = []) : ∀ n b, FND R k n b = -1 := by
  intro n
  induction n with
  | zero => intro b; rfl
  | succ n ih => intro b; unfold FND; rw [if_neg (by rw [h]; simp)]; exact ih _
theorem FND_s {P : ROW} {R : List ROW} {k bc : Nat} (hP : P k < bc) : ∀ n b, b + n = bc → b ≤ P k → FND (P :: R) k n b = SUR (P :: R) k := by
  have key : ∀ b, CNT (P :: R) k b = (P :: R).length ↔ (b = P k ∧ ∀ Q ∈ R, Q k = P k) := fun b => by
    rw [CNT_all.2]
    constructor
    · intro h
      have e := h P List.mem_cons_self
      exact ⟨e.symm, fun Q hQ => (h Q (List.mem_cons_of_mem _ hQ)).trans e.symm⟩
    · intro h Q hQ
      rcases List.mem_cons.mp hQ with rfl | hQ
      · exact h.1.symm
      · exact (h.2 Q hQ).trans h.1.symm
  have no : ¬ (∀ Q ∈ R, Q k = P k) → ∀ n b, FND (P :: R) k n b = -1 := fun hn => by
    intro n
    induction n with
    | zero => intro b; rfl
    | succ n ih => intro b; unfold FND; rw [if_neg (fun h => hn ((key b).mp h.2).2)]; exact ih _
  intro n
  induction n with
  | zero => intro b h1 h2; omega
  | succ n ih =>
    intro b h1 h2
    by_cases c : ∀ Q ∈ R, Q k = P k
    · by_cases e : b = P k
      · unfold FND
        rw [if_pos ⟨by simp, (key b).mpr ⟨e, c⟩⟩]
        show (b : Int) = if ∀ Q ∈ R, Q k = P k then (P k : Int) else -1
        rw [if_pos c, e]
      · unfold FND
        rw [if_neg (fun h => e ((key b).mp h.2).1)]
        exact ih (b + 1) (by omega) (by omega)
    · rw [no c]
      show (-1 : Int) = if ∀ Q ∈ R, Q k = P k then (P k : Int) else -1
      rw [if_neg c]
theorem sureL10 {F : Nat} {s : List Sh} (hp : ∃ t, s = sB ++ t) {m : Mem} (hr : RF m) {sz bc k : Nat} {v : Int} {R : List ROW} (hW : W10 m sz v R) (hk : k < sz) (hsz : sz ≤ 8) (hbc : bc ≤ 6) (hb2 : m.1 24 2 = q32 bc) (hR : R.length ≤ 200000) : ∀ (n fuel : Nat), n < fuel → ∀ b, b + n = bc → nl_X10_sure_56 F s fuel m 23 (q32 k) (q32 b) = some (q32 (FND R k n b), m) := by
  have r1 := rf23_1 hr
  have r45 := rf23_45 hr
  have l24 := ln24 hp
  have l46 := ln46 hp
  have h46 := hW.1
  intro n
  induction n with
  | zero =>
    intro fuel hf b hb
    obtain ⟨fuel, rfl⟩ : ∃ f, fuel = f + 1 := ⟨fuel - 1, by omega⟩
    show nb_X10_sure_56 F s (nl_X10_sure_56 F s fuel) m 23 _ _ = _
    unfold nb_X10_sure_56 FND
    simp (disch := omega) only [Option.bind_some, bindv, bindv0, bind2_s, bind3_s, ↓reduceIte, Bool.false_eq_true, rZM_0, rZM_1, rZP_0, rZP_1, ptZ_0, ptZ_1, c32i, c64i, ncI, Int.natCast_add, Int.natCast_mul, q32_neg, q64_neg, q32_add, q32_sub, q32_mul, q64_add, q64_sub, q64_mul, q32_64i, q64_32, q32_lt_t, q32_lt_f, q32_le_t, q32_le_f, q32_eq_t, q32_eq_f, q64_lt_t, q64_lt_f, q64_le_t, q64_le_f, q64_eq_t, q64_eq_f, rdI_i, rdL_i, rdR_i, rdN_i, stI_i, stL_i, stR_i, wI_s, wI_n, wL_s, wL_n, wI_2, wI_3, wL_1, wL_3, wR_1, wR_2, Int.toNat_natCast, tnO, tn_add, tn_sub, tn_mul, Nat.add_sub_cancel, Nat.add_zero, Nat.zero_add, lnO, win_t, win_f, r1, hb2]
  | succ n ih =>
    intro fuel hf b hb
    obtain ⟨fuel, rfl⟩ : ∃ f, fuel = f + 1 := ⟨fuel - 1, by omega⟩
    have ih := ih fuel (by omega) (b + 1) (by omega)
    rw [Int.natCast_add] at ih
    have tl := hW.2.2.1 k b hk (by omega)
    have cl := (CNT_all (R := R) (i := k) (b := b)).1
    have e6 : ((6 : Int) * k + b).toNat = 6 * k + b := by omega
    show nb_X10_sure_56 F s (nl_X10_sure_56 F s fuel) m 23 _ _ = _
    unfold nb_X10_sure_56 nb_X10_sure_96 FND
    have e2 : (2 : Int).toNat = 2 := rfl
    by_cases c0 : 0 < R.length
    · by_cases c1 : CNT R k b = R.length
      · rw [if_pos (show 0 < R.length ∧ CNT R k b = R.length from ⟨c0, c1⟩)]
        rw [c1] at tl
        simp (disch := omega) only [Option.bind_some, bindv, bindv0, bind2_s, bind3_s, ↓reduceIte, Bool.false_eq_true, rZM_0, rZM_1, rZP_0, rZP_1, ptZ_0, ptZ_1, c32i, c64i, ncI, Int.natCast_add, Int.natCast_mul, q32_neg, q64_neg, q32_add, q32_sub, q32_mul, q64_add, q64_sub, q64_mul, q32_64i, q64_32, q32_lt_t, q32_lt_f, q32_le_t, q32_le_f, q32_eq_t, q32_eq_f, q64_lt_t, q64_lt_f, q64_le_t, q64_le_f, q64_eq_t, q64_eq_f, rdI_i, rdL_i, rdR_i, rdN_i, stI_i, stL_i, stR_i, wI_s, wI_n, wL_s, wL_n, wI_2, wI_3, wL_1, wL_3, wR_1, wR_2, Int.toNat_natCast, r1, e2, hb2, h46, r45, e6, tl]
      · rw [if_neg (show ¬ (0 < R.length ∧ CNT R k b = R.length) from fun h => c1 h.2)]
        simp (disch := omega) only [Option.bind_some, bindv, bindv0, bind2_s, bind3_s, ↓reduceIte, Bool.false_eq_true, rZM_0, rZM_1, rZP_0, rZP_1, ptZ_0, ptZ_1, c32i, c64i, ncI, Int.natCast_add, Int.natCast_mul, q32_neg, q64_neg, q32_add, q32_sub, q32_mul, q64_add, q64_sub, q64_mul, q32_64i, q64_32, q32_lt_t, q32_lt_f, q32_le_t, q32_le_f, q32_eq_t, q32_eq_f, q64_lt_t, q64_lt_f, q64_le_t, q64_le_f, q64_eq_t, q64_eq_f, rdI_i, rdL_i, rdR_i, rdN_i, stI_i, stL_i, stR_i, wI_s, wI_n, wL_s, wL_n, wI_2, wI_3, wL_1, wL_3, wR_1, wR_2, Int.toNat_natCast, r1, e2, hb2, h46, r45, e6, tl]
        exact ih
    · rw [if_neg (show ¬ (0 < R.length ∧ CNT R k b = R.length) from fun h => c0 h.1)]
      simp (disch := omega) only [Option.bind_some, bindv, bindv0, bind2_s, bind3_s, ↓reduceIte, Bool.false_eq_true, rZM_0, rZM_1, rZP_0, rZP_1, ptZ_0, ptZ_1, c32i, c64i, ncI, Int.natCast_add, Int.natCast_mul, q32_neg, q64_neg, q32_add, q32_sub, q32_mul, q64_add, q64_sub, q64_mul, q32_64i, q64_32, q32_lt_t, q32_lt_f, q32_le_t, q32_le_f, q32_eq_t, q32_eq_f, q64_lt_t, q64_lt_f, q64_le_t, q64_le_f, q64_eq_t, q64_eq_f, rdI_i, rdL_i, rdR_i, rdN_i, stI_i, stL_i, stR_i, wI_s, wI_n, wL_s, wL_n, wI_2, wI_3, wL_1, wL_3, wR_1, wR_2, Int.toNat_natCast, r1, e2, hb2, h46]
      exact ih
theorem win_ex (a b c : Int64) : m_X10_within a b c = some 0 ∨ m_X10_within a b c = some 1 := by
  unfold m_X10_within b_X10_within_0 rZP
  by_cases c1 : a < b
  · rw [if_pos c1]; exact Or.inl rfl
  · rw [if_neg c1]
    by_cases c2 : c < a
    · rw [if_pos c2]; exact Or.inl rfl
    · rw [if_neg c2]; exact Or.inr rfl
