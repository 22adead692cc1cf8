theorem GOL_bc {sz bc k : Nat} {rc : ROW → FR → List ROW → List ROW} {al : Nat → Int32} {U L : Nat → Int} {tv : Int} {x : FR} (hrc : ∀ P y R, (∀ i, i < k + 1 → P i < bc) → (∀ Q ∈ R, ∀ i, i < sz → Q i < bc) → ∀ Q ∈ rc P y R, ∀ i, i < sz → Q i < bc) : ∀ n b P R, b + n ≤ bc → (∀ i, i < k → P i < bc) → (∀ Q ∈ R, ∀ i, i < sz → Q i < bc) → ∀ Q ∈ GOL rc al U L tv k x n b P R, ∀ i, i < sz → Q i < bc := by
  intro n
  induction n with
  | zero => intro b P R _ _ hR; exact hR
  | succ n ih =>
    intro b P R hb hP hR
    unfold GOL
    split
    · refine ih (b + 1) _ _ (by omega) (fun i hi => by rw [upN_n (by omega)]; exact hP i hi) (hrc _ _ _ (fun i hi => ?_) hR)
      by_cases e : i = k
      · subst e; rw [upN_s]; omega
      · rw [upN_n e]; exact hP i (by omega)
    · exact ih (b + 1) P R (by omega) hP hR
theorem GO_bc {sz bc : Nat} {al : Nat → Int32} {U L T : Nat → Int} : ∀ n k P x R, k + n = sz → (∀ i, i < k → P i < bc) → (∀ Q ∈ R, ∀ i, i < sz → Q i < bc) → ∀ Q ∈ GO al U L T bc n k P x R, ∀ i, i < sz → Q i < bc := by
  intro n
  induction n with
  | zero =>
    intro k P x R hk hP hR Q hQ
    rcases List.mem_append.mp hQ with h | h
    · exact hR Q h
    · rw [List.mem_singleton.mp h]; exact fun i hi => hP i (by omega)
  | succ n ih =>
    intro k P x R hk hP hR
    unfold GO
    exact GOL_bc (fun P1 y R1 h1 h2 => ih (k + 1) P1 y R1 (by omega) h1 h2) bc 0 P R (by omega) hP hR
theorem noRow_ok {s : List Sh} {m m' : Mem} {ow : Nat → Nat} {nw : Nat} (h : ST s m ow nw) (hk : TK m m') (hr' : RF m') {i : Int} (hi : B31 i) (e : n_X9_refusedRow s m 0 (q32 i) (q32 2) = some (q32 0)) : n_X10_noRow s m' 23 (q32 i) (q32 2) = some (q32 0) := by
  rcases row_cases h hk hr' hi (l := 2) (Or.inr rfl) with ⟨r, c1, c2, c3, k1, k2⟩ | ⟨j, t, sz, -, -, -, -, -, k2⟩
  · have k1' : n_X9_refusedRow s m 0 (q32 i) (q32 2) = some (q32 r) := k1
    rw [e] at k1'
    have : q32 (0 : Int) = q32 r := Option.some.inj k1'
    rw [q32_eq_f (by omega)] at this
    exact this.elim
  · rw [if_neg (by omega)] at k2
    exact k2
theorem TR.grow {s t' : List Sh} {m m' : Mem} {j t sz : Nat} (hp : ∃ t, s = sB ++ t) (h : TR s m j t sz) (e : ∀ a, a < s.length → m'.1 a = m.1 a ∧ m'.2.1 a = m.2.1 a) (er : ∀ a k, a < s.length → (a ≠ 0 ∨ k ≠ 17) → m'.2.2 a k = m.2.2 a k) : TR (s ++ t') m' j t sz := by
  have hL : 53 ≤ s.length := by obtain ⟨t, ht⟩ := hp; rw [ht, List.length_append, sB_len]; omega
  obtain ⟨h1, h2, h3, h4, h5, h6, h7, h8, h9, ⟨so, k1, k2, k3⟩, h10⟩ := h
  have hl := ln_lt (s := s) (a := t + 1) (by rw [h6]; decide)
  refine ⟨h1, by rw [er 13 j (by omega) (by omega)]; exact h2, h3, ok_ap h4, by rw [er t 2 (by omega) (by omega)]; exact h5, by rw [ln_ap hl]; exact h6, h7, by rw [(e t (by omega)).1]; exact h8, by rw [(e 51 (by omega)).1]; exact h9, ⟨so, k1, by rw [(e t (by omega)).1]; exact k2, by rw [(e 50 (by omega)).1]; exact k3⟩, fun k hk => ?_⟩
  rw [(e (t + 1) (by omega)).2, (e 52 (by omega)).2]
  exact h10 k hk
theorem codeL10 {F : Nat} {s : List Sh} (hp : ∃ t, s = sB ++ t) {m : Mem} (hr : RF m) {j sz : Nat} (hj : j < 4) (hsz : sz ≤ 8) (h51 : m.1 51 j = q32 sz) {P : ROW} (h45 : ∀ i, i < sz → m.1 45 i = q32 (P i)) : ∀ (n fuel : Nat), n < fuel → ∀ (k x : Nat), k + n = sz → nl_X10_fits_53 F s fuel m 23 (q32 j) (q32 x) (q32 k) = some (q32 (CDE P n k x : Nat), m) := by
  have l45 := ln45 hp
  have l51 := ln51 hp
  have r44 := rf23_44 hr
  have r53 := rf23_53 hr
  intro n
  induction n with
  | zero =>
    intro fuel hf k x hk
    obtain ⟨fuel, rfl⟩ : ∃ f, fuel = f + 1 := ⟨fuel - 1, by omega⟩
    show nb_X10_fits_53 F s (nl_X10_fits_53 F s fuel) m 23 _ _ _ = _
    unfold nb_X10_fits_53 CDE
    simp (disch := omega) only [Option.bind_some, bindv, bindv0, bind2_s, bind3_s, ↓reduceIte, Bool.false_eq_true, rZM_0, rZM_1, rZP_0, rZP_1, ptZ_0, ptZ_1, c32i, c64i, ncI, Int.natCast_add, Int.natCast_mul, q32_neg, q64_neg, q32_add, q32_sub, q32_mul, q64_add, q64_sub, q64_mul, q32_64i, q64_32, q32_lt_t, q32_lt_f, q32_le_t, q32_le_f, q32_eq_t, q32_eq_f, q64_lt_t, q64_lt_f, q64_le_t, q64_le_f, q64_eq_t, q64_eq_f, rdI_i, rdL_i, rdR_i, rdN_i, stI_i, stL_i, stR_i, wI_s, wI_n, wL_s, wL_n, wI_2, wI_3, wL_1, wL_3, wR_1, wR_2, Int.toNat_natCast, tnO, tn_add, tn_sub, tn_mul, Nat.add_sub_cancel, Nat.add_zero, Nat.zero_add, lnO, win_t, win_f, r53, h51]
  | succ n ih =>
    intro fuel hf k x hk
    obtain ⟨fuel, rfl⟩ : ∃ f, fuel = f + 1 := ⟨fuel - 1, by omega⟩
    have ih := ih fuel (by omega) (k + 1) (6 * x + P k) (by omega)
    have hrk := h45 k (by omega)
    rw [Int.natCast_add k] at ih
    show nb_X10_fits_53 F s (nl_X10_fits_53 F s fuel) m 23 _ _ _ = _
    unfold nb_X10_fits_53 CDE
    rw [← ih]
    simp (disch := omega) only [Option.bind_some, bindv, bindv0, bind2_s, bind3_s, ↓reduceIte, Bool.false_eq_true, rZM_0, rZM_1, rZP_0, rZP_1, ptZ_0, ptZ_1, c32i, c64i, ncI, Int.natCast_add, Int.natCast_mul, q32_neg, q64_neg, q32_add, q32_sub, q32_mul, q64_add, q64_sub, q64_mul, q32_64i, q64_32, q32_lt_t, q32_lt_f, q32_le_t, q32_le_f, q32_eq_t, q32_eq_f, q64_lt_t, q64_lt_f, q64_le_t, q64_le_f, q64_eq_t, q64_eq_f, rdI_i, rdL_i, rdR_i, rdN_i, stI_i, stL_i, stR_i, wI_s, wI_n, wL_s, wL_n, wI_2, wI_3, wL_1, wL_3, wR_1, wR_2, Int.toNat_natCast, tnO, tn_add, tn_sub, tn_mul, Nat.add_sub_cancel, Nat.add_zero, Nat.zero_add, lnO, win_t, win_f, r53, h51, r44, hrk]
    first | rfl | skip
theorem watch_both {F : Nat} (hF : 1000 ≤ F) {s : List Sh} {m : Mem} {ow : Nat → Nat} {nw : Nat} (hst : ST s m ow nw) {j t sz fc tp bc : Nat} (ht : TR s m j t sz) (hsz : 2 ≤ sz ∧ sz ≤ 8) {U L : Nat → Int} {X : Nat → Nat → Nat} {O : Nat → Nat} (hd : FD fc tp U L X O) (f9 : F9 s m nw fc U L X O) (f10 : F10 m fc U L X) (htp : A (m.1 24) 1 = tp) (g6 : m.1 nw 6 = q32 bc) (hb2 : m.1 24 2 = q32 bc) (hbc : bc ≤ 6) {T : Nat → Int} (hTm : ∀ k, k < sz → m.2.1 52 (40 * j + k) = q64 (T k) ∧ B63 (T k)) (hT : SOK T fc 0 sz) (hpow : bc ^ sz ≤ 200000) {v : Int} (hv : B31 v) : ∃ s' m' w m1 ow' R M2, n_X9_watcherHere s m 0 = some (w, s', m') ∧ m'.2.2 0 4 = some nw ∧ m'.2.2 0 7 = some 13 ∧ rdR s' m' 13 (q32 j) = some t ∧ n_X8_watchAll F s' m' w nw t (q32 v) = some ((), m1) ∧ ST s' m1 ow' nw ∧ (∃ t, s' = s ++ t) ∧ W9 m1 w sz v R ∧ (∀ Q ∈ R, ∀ i, i < sz → Q i < bc) ∧ R.length ≤ 200000 ∧ m1.2.2 0 16 = m.2.2 0 16 ∧ m1.2.2 0 17 = some w ∧ (∀ w3 : Int32, ¬ w3 = 0 → n_X10_laysFits F s' (wI m1 23 0 (q32 0)) 23 (q32 j) (q32 v) w3 = some (q32 0, M2)) ∧ W10 M2 sz v R ∧ SC m1 M2 ∧ M2.1 51 j = q32 sz ∧ M2.1 24 2 = q32 bc := by
  have hp := hst.1.hp
  have hb := hst.1.2.2.2.1
  have hbl := hb.lt
  have hL : 53 ≤ s.length := by obtain ⟨t, ht⟩ := hp; rw [ht, List.length_append, sB_len]; omega
  obtain ⟨s', m', ow', w, c1, c2, c3, ⟨tt, rfl⟩, c5, c6⟩ := watcher hst
  have hp' := c2.1.hp
  have rn' := c2.1.nw
  have hr' := c2.1.rf
  have tr' : TR (s ++ tt) m' j t sz := ht.grow hp c5 c6
  have e24 : m'.1 24 = m.1 24 := (c5 24 (by omega)).1
  have f9' : F9 (s ++ tt) m' nw fc U L X O := by
    unfold F9 at f9 ⊢
    rw [(c5 nw (by omega)).1, (c5 (nw + 3) (by omega)).1, (c5 (nw + 4) (by omega)).1, (c5 (nw + 5) (by omega)).1, (c5 (nw + 7) (by omega)).1, c6 nw 10 (by omega) (by omega), c6 nw 11 (by omega) (by omega), c6 nw 12 (by omega) (by omega), c6 nw 14 (by omega) (by omega), ln_ap (by omega), ln_ap (by omega), ln_ap (by omega), ln_ap (by omega)]
    exact f9
  have hT' : ∀ k, k < sz → -1 ≤ T k ∧ T k < fc := fun k hk => hT k (by omega) hk
  obtain ⟨m1, w1, w2, w3, w4, w5, w6, w7⟩ := watch9 hF c2 c3 tr' hsz.2 hd f9' (bc := bc) (by rw [(c5 nw (by omega)).1]; exact g6) hbc (by rw [e24]; exact htp) (T := T) (fun k hk => by rw [(c5 52 (by omega)).2]; exact (hTm k hk).1) hT' hv hpow
  have wb := (c2.1.2.2.2.2.2.2.2.1 w c3).1
  have w53 := wb.1
  have len := GO_len (al := m'.1 24) (U := U) (L := L) (T := T) (bc := bc) sz 0 (fun _ => 0) (A (m'.1 24) 7, A (m'.1 24) 8) []
  have k24 : ∀ k, (wI m1 23 0 (q32 0)).1 24 k = m.1 24 k := fun k => by rw [wI_n (by omega), w5 24 k (by omega), e24]
  have k52 : ∀ k, (wI m1 23 0 (q32 0)).2.1 52 k = m.2.1 52 k := fun k => by rw [wI_2, w6 52 k (by omega), (c5 52 (by omega)).2]
  have k51 : (wI m1 23 0 (q32 0)).1 51 j = q32 sz := by rw [wI_n (by omega), w5 51 j (by omega)]; exact tr'.2.2.2.2.2.2.2.2.1
  have hrM : RF (wI m1 23 0 (q32 0)) := w2.1.rf.same rfl
  obtain ⟨d1, d2, d3, d4, -⟩ := hd
  obtain ⟨tp', y1, y2, y3, y4, y5, y6, y7, -⟩ := hst.2.1.wa.at
  have etp : tp' = tp := by rw [htp] at y4; omega
  subst etp
  obtain ⟨M2, z1, z2, z3⟩ := watch10 hF hp' hrM hst.2.1.wa (fun k _ => k24 k) ht.1 hsz.2 k51 (fc := fc) (tp := tp') (bc := bc) (U := U) (L := L) d1 (fun k hk => by
    obtain ⟨⟨u1, u2, u3, u4, -⟩, -⟩ := d4 k hk
    omega) (fun k hk => ⟨(f10.2.2 k hk).1, (f10.2.2 k hk).2.1⟩) hb2 hbc htp y6 y7 y5 (T := T) (fun k hk => by rw [k52]; exact (hTm k hk).1) hT' hv hpow
  rw [e24] at w3 w4 len
  refine ⟨s ++ tt, m', w, m1, ow', _, M2, c1, rn', rf0_7 hr', ?_, w1, w2, ⟨tt, rfl⟩, w3, GO_bc sz 0 _ _ [] (by omega) (fun i hi => by omega) (fun Q hQ => (List.not_mem_nil hQ).elim), ?_, ?_, ?_, fun x3 hx3 => ?_, z2, (SC.k0 m1).tr z3, ?_, ?_⟩
  · have l13 := ln13 hp'
    have := ht.1
    rw [rdR_q (by omega) (by omega)]
    exact tr'.2.1
  · have : ([] : List ROW).length = 0 := rfl
    omega
  · rw [w7 0 16 (by omega), c6 0 16 (by omega) (by omega)]
  · rw [w7 0 17 (by omega)]; exact c3
  · have nr := noRow_ok (m' := wI m1 23 0 (q32 0)) c2 ⟨fun k => by rw [wI_n (by omega), w5 50 k (by omega)], fun k => by rw [wI_n (by omega), w5 51 k (by omega)], fun k => by rw [wI_2, w6 52 k (by omega)]⟩ hrM (i := (j : Int)) (by have := ht.1; omega) (by
      have l13 := ln13 hp'
      have r7' := rf0_7 hr'
      have hj := ht.1
      have rN' : rdN (s ++ tt) m' 13 (q32 j) = some (some t) := by rw [rdN_q (by omega) (by omega), tr'.2.1]
      have rR' : rdR (s ++ tt) m' 13 (q32 j) = some t := by rw [rdR_q (by omega) (by omega)]; exact tr'.2.1
      have s1 := tr'.2.2.2.2.2.2.2.1
      unfold n_X9_refusedRow nb_X9_refusedRow_0 n_X9_refusedTray nb_X9_refusedTray_0
      simp (disch := omega) only [Option.bind_some, bindv, bindv0, bind2_s, bind3_s, ↓reduceIte, Bool.false_eq_true, rZM_0, rZM_1, rZP_0, rZP_1, ptZ_0, ptZ_1, c32i, c64i, ncI, Int.natCast_add, Int.natCast_mul, q32_neg, q64_neg, q32_add, q32_sub, q32_mul, q64_add, q64_sub, q64_mul, q32_64i, q64_32, q32_lt_t, q32_lt_f, q32_le_t, q32_le_f, q32_eq_t, q32_eq_f, q64_lt_t, q64_lt_f, q64_le_t, q64_le_f, q64_eq_t, q64_eq_f, rdI_i, rdL_i, rdR_i, rdN_i, stI_i, stL_i, stR_i, wI_s, wI_n, wL_s, wL_n, wI_2, wI_3, wL_1, wL_3, wR_1, wR_2, Int.toNat_natCast, tnO, tn_add, tn_sub, tn_mul, Nat.add_sub_cancel, Nat.add_zero, Nat.zero_add, lnO, win_t, win_f, r7', rN', rR', s1]
      rw [if_neg (fun h => by cases h)]
      rfl)
    have sn := (seenL10 (F := F) hp' hrM ht.1 (by omega) (by rw [k24]; exact f10.2.1) d1 k51 (T := T) (fun k hk => by rw [k52]; exact hTm k hk) (q32 v) x3 sz F (by omega) 0 (by omega)).1 hT
    have fw := fewL10 (F := F) hp' hrM ht.1 (by rw [k24]; exact hb2) k51 hbc hsz.2 (q32 v) sz F (by omega) 0 1 (by omega) (by decide)
    rw [if_neg hx3] at sn
    rw [if_neg (by omega), z1] at fw
    unfold n_X10_laysFits nb_X10_laysFits_0
    rw [show (2 : Int32) = q32 2 from rfl, nr, Option.bind_some, if_pos (show q32 0 = (0 : Int32) from rfl)]
    exact sn.trans fw
  · rw [z3.i 51 j (by omega)]; exact k51
  · rw [z3.i 24 2 (by omega), k24]; exact hb2
theorem seen_cases {F : Nat} (hF : 1000 ≤ F) {s : List Sh} {m : Mem} {ow : Nat → Nat} {nw : Nat} (hst : ST s m ow nw) {fc bc : Nat} (hfc : fc ≤ 8) (a9 : m.1 nw 9 = q32 fc) (b3 : m.1 24 3 = q32 fc) (hb2 : m.1 24 2 = q32 bc) (hbc : bc ≤ 6) {i : Int} (hi : B31 i) : (∃ r : Int, -10 ≤ r ∧ r ≤ 10 ∧ r ≠ 0 ∧ n_X9_refusedSeen F s m 0 (q32 i) = some (q32 r) ∧ ∀ w2 w3, n_X10_laysFits F s (wI m 23 0 (q32 0)) 23 (q32 i) w2 w3 = some (q32 r, wI m 23 0 (q32 0))) ∨ ∃ j t sz : Nat, i = j ∧ TR s m j t sz ∧ 2 ≤ sz ∧ sz ≤ 8 ∧ SOK (fun k => (m.2.1 52 (40 * j + k)).toInt) fc 0 sz ∧ n_X9_refusedSeen F s m 0 (q32 i) = some (q32 0) ∧ (∀ w2, n_X10_laysFits F s (wI m 23 0 (q32 0)) 23 (q32 i) w2 0 = some (q32 (-3), wI m 23 0 (q32 0))) ∧ (200000 < bc ^ sz → ∀ w2 w3, ¬ w3 = 0 → n_X10_laysFits F s (wI m 23 0 (q32 0)) 23 (q32 i) w2 w3 = some (q32 (-1000), wI m 23 0 (q32 0))) := by
  have hp := hst.1.hp
  have hr := hst.1.rf
  have rn := hst.1.nw
  have r7 := rf0_7 hr
  have l13 := ln13 hp
  have hrM : RF (wI m 23 0 (q32 0)) := hr.same rfl
  rcases row_cases hst (m' := wI m 23 0 (q32 0)) ⟨fun k => by simp (disch := omega) only [Option.bind_some, bindv, bindv0, bind2_s, bind3_s, ↓reduceIte, Bool.false_eq_true, rZM_0, rZM_1, rZP_0, rZP_1, ptZ_0, ptZ_1, c32i, c64i, ncI, Int.natCast_add, Int.natCast_mul, q32_neg, q64_neg, q32_add, q32_sub, q32_mul, q64_add, q64_sub, q64_mul, q32_64i, q64_32, q32_lt_t, q32_lt_f, q32_le_t, q32_le_f, q32_eq_t, q32_eq_f, q64_lt_t, q64_lt_f, q64_le_t, q64_le_f, q64_eq_t, q64_eq_f, rdI_i, rdL_i, rdR_i, rdN_i, stI_i, stL_i, stR_i, wI_s, wI_n, wL_s, wL_n, wI_2, wI_3, wL_1, wL_3, wR_1, wR_2, Int.toNat_natCast, tnO, tn_add, tn_sub, tn_mul, Nat.add_sub_cancel, Nat.add_zero, Nat.zero_add, lnO, win_t, win_f], fun k => by simp (disch := omega) only [Option.bind_some, bindv, bindv0, bind2_s, bind3_s, ↓reduceIte, Bool.false_eq_true, rZM_0, rZM_1, rZP_0, rZP_1, ptZ_0, ptZ_1, c32i, c64i, ncI, Int.natCast_add, Int.natCast_mul, q32_neg, q64_neg, q32_add, q32_sub, q32_mul, q64_add, q64_sub, q64_mul, q32_64i, q64_32, q32_lt_t, q32_lt_f, q32_le_t, q32_le_f, q32_eq_t, q32_eq_f, q64_lt_t, q64_lt_f, q64_le_t, q64_le_f, q64_eq_t, q64_eq_f, rdI_i, rdL_i, rdR_i, rdN_i, stI_i, stL_i, stR_i, wI_s, wI_n, wL_s, wL_n, wI_2, wI_3, wL_1, wL_3, wR_1, wR_2, Int.toNat_natCast, tnO, tn_add, tn_sub, tn_mul, Nat.add_sub_cancel, Nat.add_zero, Nat.zero_add, lnO, win_t, win_f], fun k => rfl⟩ hrM hi (l := 2) (Or.inr rfl) with ⟨r, c1, c2, c3, k1, k2⟩ | ⟨j, t, sz, rfl, ht, c1, c2, k1, k2⟩
  · rw [if_neg (by omega)] at k2
    have k1' : n_X9_refusedRow s m 0 (q32 i) (2 : Int32) = some (q32 r) := k1
    refine Or.inl ⟨r, c1, c2, c3, ?_, fun w2 w3 => ?_⟩
    · unfold n_X9_refusedSeen nb_X9_refusedSeen_0
      rw [k1']
      simp (disch := omega) only [Option.bind_some, bindv, bindv0, bind2_s, bind3_s, ↓reduceIte, Bool.false_eq_true, rZM_0, rZM_1, rZP_0, rZP_1, ptZ_0, ptZ_1, c32i, c64i, ncI, Int.natCast_add, Int.natCast_mul, q32_neg, q64_neg, q32_add, q32_sub, q32_mul, q64_add, q64_sub, q64_mul, q32_64i, q64_32, q32_lt_t, q32_lt_f, q32_le_t, q32_le_f, q32_eq_t, q32_eq_f, q64_lt_t, q64_lt_f, q64_le_t, q64_le_f, q64_eq_t, q64_eq_f, rdI_i, rdL_i, rdR_i, rdN_i, stI_i, stL_i, stR_i, wI_s, wI_n, wL_s, wL_n, wI_2, wI_3, wL_1, wL_3, wR_1, wR_2, Int.toNat_natCast, tnO, tn_add, tn_sub, tn_mul, Nat.add_sub_cancel, Nat.add_zero, Nat.zero_add, lnO, win_t, win_f]
    · unfold n_X10_laysFits nb_X10_laysFits_0
      rw [show (2 : Int32) = q32 2 from rfl, k2]
      simp (disch := omega) only [Option.bind_some, bindv, bindv0, bind2_s, bind3_s, ↓reduceIte, Bool.false_eq_true, rZM_0, rZM_1, rZP_0, rZP_1, ptZ_0, ptZ_1, c32i, c64i, ncI, Int.natCast_add, Int.natCast_mul, q32_neg, q64_neg, q32_add, q32_sub, q32_mul, q64_add, q64_sub, q64_mul, q32_64i, q64_32, q32_lt_t, q32_lt_f, q32_le_t, q32_le_f, q32_eq_t, q32_eq_f, q64_lt_t, q64_lt_f, q64_le_t, q64_le_f, q64_eq_t, q64_eq_f, rdI_i, rdL_i, rdR_i, rdN_i, stI_i, stL_i, stR_i, wI_s, wI_n, wL_s, wL_n, wI_2, wI_3, wL_1, wL_3, wR_1, wR_2, Int.toNat_natCast, tnO, tn_add, tn_sub, tn_mul, Nat.add_sub_cancel, Nat.add_zero, Nat.zero_add, lnO, win_t, win_f]
  · rw [if_neg (by omega)] at k2
    have k1' : n_X9_refusedRow s m 0 (q32 j) (2 : Int32) = some (q32 0) := k1
    have hj := ht.1
    have rR : rdR s m 13 (q32 j) = some t := by rw [rdR_q (by omega) (by omega)]; exact ht.2.1
    have hTm : ∀ k, k < sz → m.2.1 52 (40 * j + k) = q64 ((fun k => (m.2.1 52 (40 * j + k)).toInt) k) ∧ B63 ((fun k => (m.2.1 52 (40 * j + k)).toInt) k) := fun k _ => ⟨v64 _, v64b _⟩
    have h51 : (wI m 23 0 (q32 0)).1 51 j = q32 sz := by rw [wI_n (by omega)]; exact ht.2.2.2.2.2.2.2.2.1
    obtain ⟨p1, p2⟩ := seenL9 (F := F) rn a9 hfc ht hTm sz F (by omega) 0 (by omega)
    have q := fun w2 w3 => seenL10 (F := F) hp hrM hj (by omega) (fc := fc) (by rw [wI_n (by omega)]; exact b3) hfc h51 (T := fun k => (m.2.1 52 (40 * j + k)).toInt) hTm w2 w3 sz F (by omega) 0 (by omega)
    have pre9 : n_X9_refusedSeen F s m 0 (q32 j) = nl_X9_refusedSeen_23 F s m F 0 t (q32 ((0 : Nat) : Int)) := by
      unfold n_X9_refusedSeen nb_X9_refusedSeen_0
      rw [k1']
      simp (disch := omega) only [Option.bind_some, bindv, bindv0, bind2_s, bind3_s, ↓reduceIte, Bool.false_eq_true, rZM_0, rZM_1, rZP_0, rZP_1, ptZ_0, ptZ_1, c32i, c64i, ncI, Int.natCast_add, Int.natCast_mul, q32_neg, q64_neg, q32_add, q32_sub, q32_mul, q64_add, q64_sub, q64_mul, q32_64i, q64_32, q32_lt_t, q32_lt_f, q32_le_t, q32_le_f, q32_eq_t, q32_eq_f, q64_lt_t, q64_lt_f, q64_le_t, q64_le_f, q64_eq_t, q64_eq_f, rdI_i, rdL_i, rdR_i, rdN_i, stI_i, stL_i, stR_i, wI_s, wI_n, wL_s, wL_n, wI_2, wI_3, wL_1, wL_3, wR_1, wR_2, Int.toNat_natCast, tnO, tn_add, tn_sub, tn_mul, Nat.add_sub_cancel, Nat.add_zero, Nat.zero_add, lnO, win_t, win_f, r7, rR]
      first | rfl | skip
    have pre10 : ∀ w2 w3, n_X10_laysFits F s (wI m 23 0 (q32 0)) 23 (q32 j) w2 w3 = nl_X10_laysFits_19 F s F (wI m 23 0 (q32 0)) 23 (q32 j) w2 w3 (q32 ((0 : Nat) : Int)) := fun w2 w3 => by
      unfold n_X10_laysFits nb_X10_laysFits_0
      rw [show (2 : Int32) = q32 2 from rfl, k2, Option.bind_some, if_pos (show q32 0 = (0 : Int32) from rfl)]
      rfl
    by_cases hs : SOK (fun k => (m.2.1 52 (40 * j + k)).toInt) fc 0 sz
    · refine Or.inr ⟨j, t, sz, rfl, ht, by omega, c2, hs, by rw [pre9]; exact p1 hs, fun w2 => ?_, fun hpow w2 w3 h3 => ?_⟩
      · rw [pre10, (q w2 0).1 hs, if_pos rfl]
      · have fw := fewL10 (F := F) hp hrM hj (by rw [wI_n (by omega)]; exact hb2) h51 hbc c2 w2 sz F (by omega) 0 1 (by omega) (by decide)
        rw [if_pos (by omega)] at fw
        rw [pre10, (q w2 w3).1 hs, if_neg h3]
        exact fw
    · refine Or.inl ⟨-3, by omega, by omega, by omega, by rw [pre9]; exact p2 hs, fun w2 w3 => ?_⟩
      rw [pre10]
      exact (q w2 w3).2 hs
