/-! floors that were come to: the reference's table -/
def sp (x : FR) : Nat := (31 * x.1 + 1009 * x.2).toNat % 16381
theorem sp_lt (x : FR) : sp x < 16381 := Nat.mod_lt _ (by decide)
theorem sp_at {tp : Int} {x : FR} (h : FLR tp x.1 x.2) : m_X10_spot (q64 x.1) (q64 x.2) = some (q32 (sp x)) := by
  have b := h.b
  obtain ⟨u, hu⟩ := Int.eq_ofNat_of_zero_le b.1
  obtain ⟨l, hl⟩ := Int.eq_ofNat_of_zero_le (show 0 ≤ x.2 by omega)
  unfold m_X10_spot b_X10_spot_0 sp
  rw [hu, hl, if_neg (by decide)]
  have e1 : q64 (u : Int) * 31 + q64 (l : Int) * 1009 = q64 ((31 * u + 1009 * l : Nat) : Int) := by
    rw [show (31 : Int64) = q64 31 from rfl, show (1009 : Int64) = q64 1009 from rfl]
    simp (disch := omega) only [Option.bind_some, bindv, bindv0, bind2_s, bind3_s, ↓reduceIte, Bool.false_eq_true, rZM_0, rZM_1, rZP_0, rZP_1, ptZ_0, ptZ_1, c32i, c64i, ncI, Int.natCast_add, Int.natCast_mul, q32_neg, q64_neg, q32_add, q32_sub, q32_mul, q64_add, q64_sub, q64_mul, q32_64i, q64_32, q32_lt_t, q32_lt_f, q32_le_t, q32_le_f, q32_eq_t, q32_eq_f, q64_lt_t, q64_lt_f, q64_le_t, q64_le_f, q64_eq_t, q64_eq_f, rdI_i, rdL_i, rdR_i, rdN_i, stI_i, stL_i, stR_i, wI_s, wI_n, wL_s, wL_n, wI_2, wI_3, wL_1, wL_3, wR_1, wR_2, Int.toNat_natCast, tnO, tn_add, tn_sub, tn_mul, Nat.add_sub_cancel, Nat.add_zero, Nat.zero_add, lnO, win_t, win_f]
    congr 1
    omega
  rw [e1, show (16381 : Int64) = q64 ((16381 : Nat) : Int) from rfl, q64_rem_n (by omega), tmn, q64_32]
  have hm : (31 * u + 1009 * l) % 16381 < 16381 := Nat.mod_lt _ (by decide)
  rw [show (31 * (u : Int) + 1009 * (l : Int)).toNat = 31 * u + 1009 * l by omega]
def pr (x : FR) (d : Nat) : Nat := (sp x + d) % 16384
theorem pr_lt (x : FR) (d : Nat) : pr x d < 16384 := Nat.mod_lt _ (by decide)
theorem pr_0 (x : FR) : pr x 0 = sp x := by have := sp_lt x; unfold pr; omega
theorem pr_s (x : FR) (d : Nat) : pr x (d + 1) = if pr x d = 16383 then 0 else pr x d + 1 := by unfold pr; split <;> omega
theorem pr_ex (x : FR) {i : Nat} (h : i < 16384) : ∃ d, d < 16384 ∧ pr x d = i := by
  have := sp_lt x
  refine ⟨(i + 16384 - sp x) % 16384, Nat.mod_lt _ (by decide), ?_⟩
  unfold pr
  omega
theorem lst (P : Nat → Prop) (n : Nat) (h : P n) : ∃ d, d ≤ n ∧ P d ∧ ∀ k, k < d → ¬ P k := by
  induction n using Nat.strongRecOn with
  | ind n ih =>
    by_cases c : ∃ k, k < n ∧ P k
    · obtain ⟨k, k1, k2⟩ := c
      obtain ⟨d, d1, d2, d3⟩ := ih k k1 k2
      exact ⟨d, by omega, d2, d3⟩
    · exact ⟨n, Nat.le_refl _, h, fun k hk hp => c ⟨k, hk, hp⟩⟩
def emp (T : Nat → Int32) : Nat → Nat
  | 0 => 0
  | k + 1 => emp T k + (if T k = q32 (-1) then 1 else 0)
theorem emp_pos {T : Nat → Int32} : ∀ k, 0 < emp T k → ∃ i, i < k ∧ T i = q32 (-1) := by
  intro k
  induction k with
  | zero => intro h; exact absurd h (Nat.lt_irrefl 0)
  | succ k ih =>
    intro h
    by_cases c : T k = q32 (-1)
    · exact ⟨k, by omega, c⟩
    · unfold emp at h
      rw [if_neg c] at h
      obtain ⟨i, i1, i2⟩ := ih (by omega)
      exact ⟨i, by omega, i2⟩
theorem emp_c {T T' : Nat → Int32} : ∀ k, (∀ i, i < k → T' i = T i) → emp T' k = emp T k := by
  intro k
  induction k with
  | zero => intro _; rfl
  | succ k ih =>
    intro h
    unfold emp
    rw [h k (by omega), ih (fun i hi => h i (by omega))]
theorem emp_set {T T' : Nat → Int32} {j : Nat} (h1 : T j = q32 (-1)) (h2 : T' j ≠ q32 (-1)) (h3 : ∀ i, i ≠ j → T' i = T i) : ∀ k, j < k → emp T' k + 1 = emp T k := by
  intro k
  induction k with
  | zero => intro h; omega
  | succ k ih =>
    intro h
    unfold emp
    by_cases c : k = j
    · subst c
      rw [if_neg h2, if_pos h1, emp_c k (fun i hi => h3 i (by omega))]
    · rw [h3 k c]
      have := ih (by omega)
      omega
theorem emp_all {T : Nat → Int32} : ∀ k, (∀ i, i < k → T i = q32 (-1)) → emp T k = k := by
  intro k
  induction k with
  | zero => intro _; rfl
  | succ k ih =>
    intro h
    unfold emp
    rw [if_pos (h k (by omega)), ih (fun i hi => h i (by omega))]
def TAB (T : Nat → Int32) (L : List FR) : Prop := (∀ i, i < 16384 → T i = q32 (-1) ∨ ∃ j, j < L.length ∧ T i = q32 (j : Nat)) ∧ (∀ j, j < L.length → ∃ d, d < 16384 ∧ T (pr (gt L j) d) = q32 (j : Nat) ∧ ∀ k, k < d → T (pr (gt L j) k) ≠ q32 (-1)) ∧ emp T 16384 + L.length = 16384
theorem TAB.free {T : Nat → Int32} {L : List FR} (h : TAB T L) (hn : L.length < 9331) (x : FR) : ∃ d, d < 16384 ∧ T (pr x d) = q32 (-1) ∧ ∀ k, k < d → T (pr x k) ≠ q32 (-1) := by
  obtain ⟨i, i1, i2⟩ := emp_pos (T := T) 16384 (by have := h.2.2; omega)
  obtain ⟨d, d1, d2⟩ := pr_ex x i1
  obtain ⟨e, e1, e2, e3⟩ := lst (fun d => T (pr x d) = q32 (-1)) d (by show T (pr x d) = _; rw [d2]; exact i2)
  exact ⟨e, by omega, e2, e3⟩
theorem TAB.put {T T' : Nat → Int32} {L : List FR} {x : FR} (h : TAB T L) (hn : L.length < 9331) {d : Nat} (hd : d < 16384) (h1 : T (pr x d) = q32 (-1)) (h2 : ∀ k, k < d → T (pr x k) ≠ q32 (-1)) (h3 : T' (pr x d) = q32 L.length) (h4 : ∀ i, i ≠ pr x d → T' i = T i) : TAB T' (L ++ [x]) := by
  have hlen : (L ++ [x]).length = L.length + 1 := by rw [List.length_append]; rfl
  have hne : q32 (L.length : Int) ≠ q32 (-1) := by rw [Ne, q32_eq_f (by omega)]; exact fun h => h
  obtain ⟨p1, p2, p3⟩ := h
  refine ⟨fun i hi => ?_, fun j hj => ?_, ?_⟩
  · rw [hlen]
    by_cases c : i = pr x d
    · subst c; exact Or.inr ⟨L.length, by omega, h3⟩
    · rw [h4 i c]
      rcases p1 i hi with h | ⟨j, j1, j2⟩
      · exact Or.inl h
      · exact Or.inr ⟨j, by omega, j2⟩
  · rw [hlen] at hj
    by_cases c : j = L.length
    · subst c
      rw [gt_e]
      refine ⟨d, hd, h3, fun k hk => ?_⟩
      by_cases ck : pr x k = pr x d
      · rw [ck, h3]; exact hne
      · rw [h4 _ ck]; exact h2 k hk
    · have hj' : j < L.length := by omega
      rw [gt_l hj']
      obtain ⟨e, e1, e2, e3⟩ := p2 j hj'
      have nz : q32 (j : Int) ≠ q32 (-1) := by rw [Ne, q32_eq_f (by omega)]; exact fun h => h
      refine ⟨e, e1, ?_, fun k hk => ?_⟩
      · rw [h4 _ (fun h => nz (by rw [← e2, h, h1]))]; exact e2
      · by_cases ck : pr (gt L j) k = pr x d
        · rw [ck, h3]; exact hne
        · rw [h4 _ ck]; exact e3 k hk
  · rw [hlen]
    have := emp_set h1 (by rw [h3]; exact hne) h4 16384 (pr_lt x d)
    omega
def MG (m : Mem) (L : List FR) (C D : Nat → Int) : Prop := m.1 23 29 = q32 L.length ∧ (∀ i, i < L.length → m.1 31 i = q32 (gt L i).1 ∧ m.1 32 i = q32 (gt L i).2 ∧ m.1 33 i = q32 (C i) ∧ m.1 34 i = q32 (D i)) ∧ TAB (m.1 35) L
theorem MG.k {m m' : Mem} {L : List FR} {C D : Nat → Int} (h : MG m L C D) (e : ∀ a k, (a = 23 ∧ k = 29) ∨ (31 ≤ a ∧ a ≤ 35) → m'.1 a k = m.1 a k) : MG m' L C D := by
  obtain ⟨h1, h2, h3⟩ := h
  refine ⟨by rw [e _ _ (by omega)]; exact h1, fun i hi => ?_, ?_⟩
  · rw [e _ _ (by omega), e _ _ (by omega), e _ _ (by omega), e _ _ (by omega)]
    exact h2 i hi
  · rw [show m'.1 35 = m.1 35 from funext fun k => e 35 k (by omega)]; exact h3
theorem metL {F : Nat} {s : List Sh} {m : Mem} (hp : ∃ t, s = sB ++ t) (hr : RF m) {tp : Int} {L : List FR} {C D : Nat → Int} (hM : MG m L C D) (hn : L.length < 8192) (hf : FLS tp L) {x : FR} (hx : FLR tp x.1 x.2) {e : Nat} (he : m.1 35 (pr x e) = q32 (-1)) (hm : ∀ k, k < e → m.1 35 (pr x k) ≠ q32 (-1)) : ∀ k d fuel, d + k = e → k < fuel → ∃ r : Int, nl_X10_metAt_7 F s m fuel 23 (q64 x.1) (q64 x.2) (q32 (pr x d)) = some (q32 r) ∧ ((r = -1 ∧ ∀ k, d ≤ k → k < e → ∀ j, j < L.length → m.1 35 (pr x k) = q32 (j : Nat) → gt L j ≠ x) ∨ ∃ j : Nat, r = j ∧ j < L.length ∧ gt L j = x) := by
  have r24 := rf23_24 hr
  have r25 := rf23_25 hr
  have r28 := rf23_28 hr
  have l31 := ln31 hp
  have l32 := ln32 hp
  have l35 := ln35 hp
  have xb := hx.b
  obtain ⟨h1, h2, t1, t2, t3⟩ := hM
  intro k
  induction k with
  | zero =>
    intro d fuel hd hfu
    obtain ⟨fuel, rfl⟩ : ∃ f, fuel = f + 1 := ⟨fuel - 1, by omega⟩
    have hd' : d = e := by omega
    subst hd'
    have pl := pr_lt x d
    refine ⟨-1, ?_, Or.inl ⟨rfl, fun k _ _ => by omega⟩⟩
    show nb_X10_metAt_7 F s (nl_X10_metAt_7 F s m fuel) m 23 _ _ _ = _
    unfold nb_X10_metAt_7
    simp (disch := omega) only [Option.bind_some, bindv, bindv0, bind2_s, bind3_s, ↓reduceIte, Bool.false_eq_true, rZM_0, rZM_1, rZP_0, rZP_1, ptZ_0, ptZ_1, c32i, c64i, ncI, Int.natCast_add, Int.natCast_mul, q32_neg, q64_neg, q32_add, q32_sub, q32_mul, q64_add, q64_sub, q64_mul, q32_64i, q64_32, q32_lt_t, q32_lt_f, q32_le_t, q32_le_f, q32_eq_t, q32_eq_f, q64_lt_t, q64_lt_f, q64_le_t, q64_le_f, q64_eq_t, q64_eq_f, rdI_i, rdL_i, rdR_i, rdN_i, stI_i, stL_i, stR_i, wI_s, wI_n, wL_s, wL_n, wI_2, wI_3, wL_1, wL_3, wR_1, wR_2, Int.toNat_natCast, tnO, tn_add, tn_sub, tn_mul, Nat.add_sub_cancel, Nat.add_zero, Nat.zero_add, lnO, win_t, win_f, r28, he]
  | succ k ih =>
    intro d fuel hd hfu
    obtain ⟨fuel, rfl⟩ : ∃ f, fuel = f + 1 := ⟨fuel - 1, by omega⟩
    have pl := pr_lt x d
    obtain ⟨r, i1, i2⟩ := ih (d + 1) fuel (by omega) (by omega)
    rcases t1 (pr x d) pl with hz | ⟨j, j1, j2⟩
    · exact absurd hz (hm d (by omega))
    obtain ⟨e1, e2, -⟩ := h2 j j1
    have yb := (hf.at (i := j) (by omega)).b
    have nx : nb_X10_metAt_62 F s (nl_X10_metAt_7 F s m fuel) m 23 (q64 x.1) (q64 x.2) (q32 (pr x d)) = some (q32 r) := by
      rw [← i1, pr_s]
      unfold nb_X10_metAt_62 nb_X10_metAt_78
      by_cases c : pr x d = 16383
      · rw [if_pos c, c]
        simp (disch := omega) only [Option.bind_some, bindv, bindv0, bind2_s, bind3_s, ↓reduceIte, Bool.false_eq_true, rZM_0, rZM_1, rZP_0, rZP_1, ptZ_0, ptZ_1, c32i, c64i, ncI, Int.natCast_add, Int.natCast_mul, q32_neg, q64_neg, q32_add, q32_sub, q32_mul, q64_add, q64_sub, q64_mul, q32_64i, q64_32, q32_lt_t, q32_lt_f, q32_le_t, q32_le_f, q32_eq_t, q32_eq_f, q64_lt_t, q64_lt_f, q64_le_t, q64_le_f, q64_eq_t, q64_eq_f, rdI_i, rdL_i, rdR_i, rdN_i, stI_i, stL_i, stR_i, wI_s, wI_n, wL_s, wL_n, wI_2, wI_3, wL_1, wL_3, wR_1, wR_2, Int.toNat_natCast, tnO, tn_add, tn_sub, tn_mul, Nat.add_sub_cancel, Nat.add_zero, Nat.zero_add, lnO, win_t, win_f]
        first | done | rfl
      · rw [if_neg c]
        simp (disch := omega) only [Option.bind_some, bindv, bindv0, bind2_s, bind3_s, ↓reduceIte, Bool.false_eq_true, rZM_0, rZM_1, rZP_0, rZP_1, ptZ_0, ptZ_1, c32i, c64i, ncI, Int.natCast_add, Int.natCast_mul, q32_neg, q64_neg, q32_add, q32_sub, q32_mul, q64_add, q64_sub, q64_mul, q32_64i, q64_32, q32_lt_t, q32_lt_f, q32_le_t, q32_le_f, q32_eq_t, q32_eq_f, q64_lt_t, q64_lt_f, q64_le_t, q64_le_f, q64_eq_t, q64_eq_f, rdI_i, rdL_i, rdR_i, rdN_i, stI_i, stL_i, stR_i, wI_s, wI_n, wL_s, wL_n, wI_2, wI_3, wL_1, wL_3, wR_1, wR_2, Int.toNat_natCast, tnO, tn_add, tn_sub, tn_mul, Nat.add_sub_cancel, Nat.add_zero, Nat.zero_add, lnO, win_t, win_f]
        first | done | rfl
    by_cases c3 : gt L j = x
    · refine ⟨j, ?_, Or.inr ⟨j, rfl, j1, c3⟩⟩
      rw [c3] at e1 e2
      show nb_X10_metAt_7 F s (nl_X10_metAt_7 F s m fuel) m 23 _ _ _ = _
      unfold nb_X10_metAt_7
      simp (disch := omega) only [Option.bind_some, bindv, bindv0, bind2_s, bind3_s, ↓reduceIte, Bool.false_eq_true, rZM_0, rZM_1, rZP_0, rZP_1, ptZ_0, ptZ_1, c32i, c64i, ncI, Int.natCast_add, Int.natCast_mul, q32_neg, q64_neg, q32_add, q32_sub, q32_mul, q64_add, q64_sub, q64_mul, q32_64i, q64_32, q32_lt_t, q32_lt_f, q32_le_t, q32_le_f, q32_eq_t, q32_eq_f, q64_lt_t, q64_lt_f, q64_le_t, q64_le_f, q64_eq_t, q64_eq_f, rdI_i, rdL_i, rdR_i, rdN_i, stI_i, stL_i, stR_i, wI_s, wI_n, wL_s, wL_n, wI_2, wI_3, wL_1, wL_3, wR_1, wR_2, Int.toNat_natCast, tnO, tn_add, tn_sub, tn_mul, Nat.add_sub_cancel, Nat.add_zero, Nat.zero_add, lnO, win_t, win_f, r28, r24, r25, j2, e1, e2]
    · refine ⟨r, ?_, ?_⟩
      · show nb_X10_metAt_7 F s (nl_X10_metAt_7 F s m fuel) m 23 _ _ _ = _
        unfold nb_X10_metAt_7
        by_cases c4 : (gt L j).1 = x.1
        · have c5 : (gt L j).2 ≠ x.2 := fun h => c3 (Prod.ext c4 h)
          rw [c4] at e1
          simp (disch := omega) only [Option.bind_some, bindv, bindv0, bind2_s, bind3_s, ↓reduceIte, Bool.false_eq_true, rZM_0, rZM_1, rZP_0, rZP_1, ptZ_0, ptZ_1, c32i, c64i, ncI, Int.natCast_add, Int.natCast_mul, q32_neg, q64_neg, q32_add, q32_sub, q32_mul, q64_add, q64_sub, q64_mul, q32_64i, q64_32, q32_lt_t, q32_lt_f, q32_le_t, q32_le_f, q32_eq_t, q32_eq_f, q64_lt_t, q64_lt_f, q64_le_t, q64_le_f, q64_eq_t, q64_eq_f, rdI_i, rdL_i, rdR_i, rdN_i, stI_i, stL_i, stR_i, wI_s, wI_n, wL_s, wL_n, wI_2, wI_3, wL_1, wL_3, wR_1, wR_2, Int.toNat_natCast, tnO, tn_add, tn_sub, tn_mul, Nat.add_sub_cancel, Nat.add_zero, Nat.zero_add, lnO, win_t, win_f, r28, r24, r25, j2, e1, e2, nx]
        · simp (disch := omega) only [Option.bind_some, bindv, bindv0, bind2_s, bind3_s, ↓reduceIte, Bool.false_eq_true, rZM_0, rZM_1, rZP_0, rZP_1, ptZ_0, ptZ_1, c32i, c64i, ncI, Int.natCast_add, Int.natCast_mul, q32_neg, q64_neg, q32_add, q32_sub, q32_mul, q64_add, q64_sub, q64_mul, q32_64i, q64_32, q32_lt_t, q32_lt_f, q32_le_t, q32_le_f, q32_eq_t, q32_eq_f, q64_lt_t, q64_lt_f, q64_le_t, q64_le_f, q64_eq_t, q64_eq_f, rdI_i, rdL_i, rdR_i, rdN_i, stI_i, stL_i, stR_i, wI_s, wI_n, wL_s, wL_n, wI_2, wI_3, wL_1, wL_3, wR_1, wR_2, Int.toNat_natCast, tnO, tn_add, tn_sub, tn_mul, Nat.add_sub_cancel, Nat.add_zero, Nat.zero_add, lnO, win_t, win_f, r28, r24, r25, j2, e1, e2, nx]
      · rcases i2 with ⟨i2, i3⟩ | i2
        · refine Or.inl ⟨i2, fun k p1 p2 i p3 p4 => ?_⟩
          by_cases ck : k = d
          · subst ck
            rw [j2] at p4
            have : j = i := by
              by_cases cj : (j : Int) = i
              · omega
              · rw [q32_eq_f (by omega)] at p4; exact p4.elim
            rw [← this]; exact c3
          · exact i3 k (by omega) p2 i p3 p4
        · exact Or.inr i2
theorem met10 {F : Nat} (hF : 20000 ≤ F) {s : List Sh} {m : Mem} (hp : ∃ t, s = sB ++ t) (hr : RF m) {tp : Int} {L : List FR} {C D : Nat → Int} (hM : MG m L C D) (hn : L.length < 8192) (hf : FLS tp L) {x : FR} (hx : FLR tp x.1 x.2) : ∃ r : Int, n_X10_metAt F s m 23 (q64 x.1) (q64 x.2) = some (q32 r) ∧ ((r = -1 ∧ ¬ x ∈ L) ∨ ∃ j : Nat, r = j ∧ j < L.length ∧ gt L j = x) := by
  obtain ⟨e, e1, e2, e3⟩ := hM.2.2.free (by omega) x
  obtain ⟨r, i1, i2⟩ := metL (F := F) hp hr hM hn hf hx e2 e3 e 0 F (by omega) (by omega)
  refine ⟨r, ?_, ?_⟩
  · unfold n_X10_metAt nb_X10_metAt_0
    rw [sp_at hx, Option.bind_some, ← pr_0]
    exact i1
  · rcases i2 with ⟨i2, i3⟩ | i2
    · refine Or.inl ⟨i2, fun hx' => ?_⟩
      obtain ⟨j, j1, j2⟩ := mem_gt hx'
      obtain ⟨d, d1, d2, d3⟩ := hM.2.2.2.1 j j1
      rw [j2] at d2 d3
      have hde : d < e := by
        refine Nat.lt_of_not_le fun h => ?_
        by_cases c : d = e
        · subst c
          rw [e2] at d2
          rw [q32_eq_f (by omega)] at d2
          exact d2
        · exact d3 e (by omega) e2
      exact i3 d (by omega) hde j j1 d2 j2
    · exact Or.inr i2
theorem meetL {F : Nat} {s : List Sh} {m : Mem} (hp : ∃ t, s = sB ++ t) (hr : RF m) {L : List FR} {C D : Nat → Int} (hM : MG m L C D) (hn : L.length < 8192) {x : FR} (xb : 0 ≤ x.1 ∧ x.1 ≤ 1000000 ∧ 1 ≤ x.2 ∧ x.2 ≤ 1000000) {c f : Int} {e : Nat} (he : m.1 35 (pr x e) = q32 (-1)) (hm : ∀ k, k < e → m.1 35 (pr x k) ≠ q32 (-1)) : ∀ k d fuel, d + k = e → k < fuel → nl_X10_meets_7 F s fuel m 23 (q64 x.1) (q64 x.2) (q32 c) (q32 f) (q32 (pr x d)) = some ((), wI (wI (wI (wI (wI (wI m 35 (pr x e) (q32 L.length)) 31 L.length (q32 x.1)) 32 L.length (q32 x.2)) 33 L.length (q32 c)) 34 L.length (q32 f)) 23 29 (q32 (L.length + 1))) := by
  have r24 := rf23_24 hr
  have r25 := rf23_25 hr
  have r26 := rf23_26 hr
  have r27 := rf23_27 hr
  have r28 := rf23_28 hr
  have l31 := ln31 hp
  have l32 := ln32 hp
  have l33 := ln33 hp
  have l34 := ln34 hp
  have l35 := ln35 hp
  obtain ⟨h1, h2, t1, t2, t3⟩ := hM
  intro k
  induction k with
  | zero =>
    intro d fuel hd hfu
    obtain ⟨fuel, rfl⟩ : ∃ f, fuel = f + 1 := ⟨fuel - 1, by omega⟩
    have hd' : d = e := by omega
    subst hd'
    have pl := pr_lt x d
    show nb_X10_meets_7 F s (nl_X10_meets_7 F s fuel) m 23 _ _ _ _ _ = _
    unfold nb_X10_meets_7
    simp (disch := omega) only [Option.bind_some, bindv, bindv0, bind2_s, bind3_s, ↓reduceIte, Bool.false_eq_true, rZM_0, rZM_1, rZP_0, rZP_1, ptZ_0, ptZ_1, c32i, c64i, ncI, Int.natCast_add, Int.natCast_mul, q32_neg, q64_neg, q32_add, q32_sub, q32_mul, q64_add, q64_sub, q64_mul, q32_64i, q64_32, q32_lt_t, q32_lt_f, q32_le_t, q32_le_f, q32_eq_t, q32_eq_f, q64_lt_t, q64_lt_f, q64_le_t, q64_le_f, q64_eq_t, q64_eq_f, rdI_i, rdL_i, rdR_i, rdN_i, stI_i, stL_i, stR_i, wI_s, wI_n, wL_s, wL_n, wI_2, wI_3, wL_1, wL_3, wR_1, wR_2, Int.toNat_natCast, tnO, tn_add, tn_sub, tn_mul, Nat.add_sub_cancel, Nat.add_zero, Nat.zero_add, lnO, win_t, win_f, r28, r24, r25, r26, r27, he, h1]
  | succ k ih =>
    intro d fuel hd hfu
    obtain ⟨fuel, rfl⟩ : ∃ f, fuel = f + 1 := ⟨fuel - 1, by omega⟩
    have pl := pr_lt x d
    have ih := ih (d + 1) fuel (by omega) (by omega)
    rcases t1 (pr x d) pl with hz | ⟨j, j1, j2⟩
    · exact absurd hz (hm d (by omega))
    show nb_X10_meets_7 F s (nl_X10_meets_7 F s fuel) m 23 _ _ _ _ _ = _
    rw [← ih, pr_s]
    unfold nb_X10_meets_7 nb_X10_meets_34
    by_cases c : pr x d = 16383
    · rw [if_pos c]
      rw [c] at j2 ⊢
      simp (disch := omega) only [Option.bind_some, bindv, bindv0, bind2_s, bind3_s, ↓reduceIte, Bool.false_eq_true, rZM_0, rZM_1, rZP_0, rZP_1, ptZ_0, ptZ_1, c32i, c64i, ncI, Int.natCast_add, Int.natCast_mul, q32_neg, q64_neg, q32_add, q32_sub, q32_mul, q64_add, q64_sub, q64_mul, q32_64i, q64_32, q32_lt_t, q32_lt_f, q32_le_t, q32_le_f, q32_eq_t, q32_eq_f, q64_lt_t, q64_lt_f, q64_le_t, q64_le_f, q64_eq_t, q64_eq_f, rdI_i, rdL_i, rdR_i, rdN_i, stI_i, stL_i, stR_i, wI_s, wI_n, wL_s, wL_n, wI_2, wI_3, wL_1, wL_3, wR_1, wR_2, Int.toNat_natCast, tnO, tn_add, tn_sub, tn_mul, Nat.add_sub_cancel, Nat.add_zero, Nat.zero_add, lnO, win_t, win_f, r28, j2]
      first | done | rfl
    · rw [if_neg c]
      simp (disch := omega) only [Option.bind_some, bindv, bindv0, bind2_s, bind3_s, ↓reduceIte, Bool.false_eq_true, rZM_0, rZM_1, rZP_0, rZP_1, ptZ_0, ptZ_1, c32i, c64i, ncI, Int.natCast_add, Int.natCast_mul, q32_neg, q64_neg, q32_add, q32_sub, q32_mul, q64_add, q64_sub, q64_mul, q32_64i, q64_32, q32_lt_t, q32_lt_f, q32_le_t, q32_le_f, q32_eq_t, q32_eq_f, q64_lt_t, q64_lt_f, q64_le_t, q64_le_f, q64_eq_t, q64_eq_f, rdI_i, rdL_i, rdR_i, rdN_i, stI_i, stL_i, stR_i, wI_s, wI_n, wL_s, wL_n, wI_2, wI_3, wL_1, wL_3, wR_1, wR_2, Int.toNat_natCast, tnO, tn_add, tn_sub, tn_mul, Nat.add_sub_cancel, Nat.add_zero, Nat.zero_add, lnO, win_t, win_f, r28, j2]
      first | done | rfl
theorem meet10 {F : Nat} (hF : 20000 ≤ F) {s : List Sh} {m : Mem} (hp : ∃ t, s = sB ++ t) (hr : RF m) {tp : Int} {L : List FR} {C D : Nat → Int} (hM : MG m L C D) (hn : L.length < 8192) {x : FR} (hx : FLR tp x.1 x.2) (c f : Int) : ∃ m', n_X10_meets F s m 23 (q64 x.1) (q64 x.2) (q32 c) (q32 f) = some ((), m') ∧ MG m' (L ++ [x]) (fun i => if i = L.length then c else C i) (fun i => if i = L.length then f else D i) ∧ m'.2 = m.2 ∧ ∀ a k, (a ≠ 23 ∨ k ≠ 29) → (a < 31 ∨ 35 < a) → m'.1 a k = m.1 a k := by
  obtain ⟨e, e1, e2, e3⟩ := hM.2.2.free (by omega) x
  have i1 := meetL (F := F) hp hr hM hn hx.b (c := c) (f := f) e2 e3 e 0 F (by omega) (by omega)
  obtain ⟨h1, h2, ht⟩ := hM
  have hlen : (L ++ [x]).length = L.length + 1 := by rw [List.length_append]; rfl
  refine ⟨_, ?_, ⟨?_, fun i hi => ?_, ?_⟩, rfl, fun a k p1 p2 => ?_⟩
  rotate_left
  · unfold n_X10_meets nb_X10_meets_0
    rw [sp_at hx, Option.bind_some, ← pr_0]
    exact i1
  · rw [hlen, wI_s, Int.natCast_add]; rfl
  · rw [hlen] at hi
    by_cases ci : i = L.length
    · subst ci
      rw [gt_e, if_pos rfl, if_pos rfl]
      refine ⟨?_, ?_, ?_, ?_⟩
      · simp (disch := omega) only [Option.bind_some, bindv, bindv0, bind2_s, bind3_s, ↓reduceIte, Bool.false_eq_true, rZM_0, rZM_1, rZP_0, rZP_1, ptZ_0, ptZ_1, c32i, c64i, ncI, Int.natCast_add, Int.natCast_mul, q32_neg, q64_neg, q32_add, q32_sub, q32_mul, q64_add, q64_sub, q64_mul, q32_64i, q64_32, q32_lt_t, q32_lt_f, q32_le_t, q32_le_f, q32_eq_t, q32_eq_f, q64_lt_t, q64_lt_f, q64_le_t, q64_le_f, q64_eq_t, q64_eq_f, rdI_i, rdL_i, rdR_i, rdN_i, stI_i, stL_i, stR_i, wI_s, wI_n, wL_s, wL_n, wI_2, wI_3, wL_1, wL_3, wR_1, wR_2, Int.toNat_natCast, tnO, tn_add, tn_sub, tn_mul, Nat.add_sub_cancel, Nat.add_zero, Nat.zero_add, lnO, win_t, win_f]
      · simp (disch := omega) only [Option.bind_some, bindv, bindv0, bind2_s, bind3_s, ↓reduceIte, Bool.false_eq_true, rZM_0, rZM_1, rZP_0, rZP_1, ptZ_0, ptZ_1, c32i, c64i, ncI, Int.natCast_add, Int.natCast_mul, q32_neg, q64_neg, q32_add, q32_sub, q32_mul, q64_add, q64_sub, q64_mul, q32_64i, q64_32, q32_lt_t, q32_lt_f, q32_le_t, q32_le_f, q32_eq_t, q32_eq_f, q64_lt_t, q64_lt_f, q64_le_t, q64_le_f, q64_eq_t, q64_eq_f, rdI_i, rdL_i, rdR_i, rdN_i, stI_i, stL_i, stR_i, wI_s, wI_n, wL_s, wL_n, wI_2, wI_3, wL_1, wL_3, wR_1, wR_2, Int.toNat_natCast, tnO, tn_add, tn_sub, tn_mul, Nat.add_sub_cancel, Nat.add_zero, Nat.zero_add, lnO, win_t, win_f]
      · simp (disch := omega) only [Option.bind_some, bindv, bindv0, bind2_s, bind3_s, ↓reduceIte, Bool.false_eq_true, rZM_0, rZM_1, rZP_0, rZP_1, ptZ_0, ptZ_1, c32i, c64i, ncI, Int.natCast_add, Int.natCast_mul, q32_neg, q64_neg, q32_add, q32_sub, q32_mul, q64_add, q64_sub, q64_mul, q32_64i, q64_32, q32_lt_t, q32_lt_f, q32_le_t, q32_le_f, q32_eq_t, q32_eq_f, q64_lt_t, q64_lt_f, q64_le_t, q64_le_f, q64_eq_t, q64_eq_f, rdI_i, rdL_i, rdR_i, rdN_i, stI_i, stL_i, stR_i, wI_s, wI_n, wL_s, wL_n, wI_2, wI_3, wL_1, wL_3, wR_1, wR_2, Int.toNat_natCast, tnO, tn_add, tn_sub, tn_mul, Nat.add_sub_cancel, Nat.add_zero, Nat.zero_add, lnO, win_t, win_f]
      · simp (disch := omega) only [Option.bind_some, bindv, bindv0, bind2_s, bind3_s, ↓reduceIte, Bool.false_eq_true, rZM_0, rZM_1, rZP_0, rZP_1, ptZ_0, ptZ_1, c32i, c64i, ncI, Int.natCast_add, Int.natCast_mul, q32_neg, q64_neg, q32_add, q32_sub, q32_mul, q64_add, q64_sub, q64_mul, q32_64i, q64_32, q32_lt_t, q32_lt_f, q32_le_t, q32_le_f, q32_eq_t, q32_eq_f, q64_lt_t, q64_lt_f, q64_le_t, q64_le_f, q64_eq_t, q64_eq_f, rdI_i, rdL_i, rdR_i, rdN_i, stI_i, stL_i, stR_i, wI_s, wI_n, wL_s, wL_n, wI_2, wI_3, wL_1, wL_3, wR_1, wR_2, Int.toNat_natCast, tnO, tn_add, tn_sub, tn_mul, Nat.add_sub_cancel, Nat.add_zero, Nat.zero_add, lnO, win_t, win_f]
    · have hi' : i < L.length := by omega
      obtain ⟨e1, e2, e3, e4⟩ := h2 i hi'
      rw [gt_l hi', if_neg ci, if_neg ci]
      refine ⟨?_, ?_, ?_, ?_⟩
      · simp (disch := omega) only [Option.bind_some, bindv, bindv0, bind2_s, bind3_s, ↓reduceIte, Bool.false_eq_true, rZM_0, rZM_1, rZP_0, rZP_1, ptZ_0, ptZ_1, c32i, c64i, ncI, Int.natCast_add, Int.natCast_mul, q32_neg, q64_neg, q32_add, q32_sub, q32_mul, q64_add, q64_sub, q64_mul, q32_64i, q64_32, q32_lt_t, q32_lt_f, q32_le_t, q32_le_f, q32_eq_t, q32_eq_f, q64_lt_t, q64_lt_f, q64_le_t, q64_le_f, q64_eq_t, q64_eq_f, rdI_i, rdL_i, rdR_i, rdN_i, stI_i, stL_i, stR_i, wI_s, wI_n, wL_s, wL_n, wI_2, wI_3, wL_1, wL_3, wR_1, wR_2, Int.toNat_natCast, tnO, tn_add, tn_sub, tn_mul, Nat.add_sub_cancel, Nat.add_zero, Nat.zero_add, lnO, win_t, win_f, e1]
      · simp (disch := omega) only [Option.bind_some, bindv, bindv0, bind2_s, bind3_s, ↓reduceIte, Bool.false_eq_true, rZM_0, rZM_1, rZP_0, rZP_1, ptZ_0, ptZ_1, c32i, c64i, ncI, Int.natCast_add, Int.natCast_mul, q32_neg, q64_neg, q32_add, q32_sub, q32_mul, q64_add, q64_sub, q64_mul, q32_64i, q64_32, q32_lt_t, q32_lt_f, q32_le_t, q32_le_f, q32_eq_t, q32_eq_f, q64_lt_t, q64_lt_f, q64_le_t, q64_le_f, q64_eq_t, q64_eq_f, rdI_i, rdL_i, rdR_i, rdN_i, stI_i, stL_i, stR_i, wI_s, wI_n, wL_s, wL_n, wI_2, wI_3, wL_1, wL_3, wR_1, wR_2, Int.toNat_natCast, tnO, tn_add, tn_sub, tn_mul, Nat.add_sub_cancel, Nat.add_zero, Nat.zero_add, lnO, win_t, win_f, e2]
      · simp (disch := omega) only [Option.bind_some, bindv, bindv0, bind2_s, bind3_s, ↓reduceIte, Bool.false_eq_true, rZM_0, rZM_1, rZP_0, rZP_1, ptZ_0, ptZ_1, c32i, c64i, ncI, Int.natCast_add, Int.natCast_mul, q32_neg, q64_neg, q32_add, q32_sub, q32_mul, q64_add, q64_sub, q64_mul, q32_64i, q64_32, q32_lt_t, q32_lt_f, q32_le_t, q32_le_f, q32_eq_t, q32_eq_f, q64_lt_t, q64_lt_f, q64_le_t, q64_le_f, q64_eq_t, q64_eq_f, rdI_i, rdL_i, rdR_i, rdN_i, stI_i, stL_i, stR_i, wI_s, wI_n, wL_s, wL_n, wI_2, wI_3, wL_1, wL_3, wR_1, wR_2, Int.toNat_natCast, tnO, tn_add, tn_sub, tn_mul, Nat.add_sub_cancel, Nat.add_zero, Nat.zero_add, lnO, win_t, win_f, e3]
      · simp (disch := omega) only [Option.bind_some, bindv, bindv0, bind2_s, bind3_s, ↓reduceIte, Bool.false_eq_true, rZM_0, rZM_1, rZP_0, rZP_1, ptZ_0, ptZ_1, c32i, c64i, ncI, Int.natCast_add, Int.natCast_mul, q32_neg, q64_neg, q32_add, q32_sub, q32_mul, q64_add, q64_sub, q64_mul, q32_64i, q64_32, q32_lt_t, q32_lt_f, q32_le_t, q32_le_f, q32_eq_t, q32_eq_f, q64_lt_t, q64_lt_f, q64_le_t, q64_le_f, q64_eq_t, q64_eq_f, rdI_i, rdL_i, rdR_i, rdN_i, stI_i, stL_i, stR_i, wI_s, wI_n, wL_s, wL_n, wI_2, wI_3, wL_1, wL_3, wR_1, wR_2, Int.toNat_natCast, tnO, tn_add, tn_sub, tn_mul, Nat.add_sub_cancel, Nat.add_zero, Nat.zero_add, lnO, win_t, win_f, e4]
  · refine ht.put (by omega) e1 e2 e3 ?_ (fun i hi => ?_)
    · simp (disch := omega) only [Option.bind_some, bindv, bindv0, bind2_s, bind3_s, ↓reduceIte, Bool.false_eq_true, rZM_0, rZM_1, rZP_0, rZP_1, ptZ_0, ptZ_1, c32i, c64i, ncI, Int.natCast_add, Int.natCast_mul, q32_neg, q64_neg, q32_add, q32_sub, q32_mul, q64_add, q64_sub, q64_mul, q32_64i, q64_32, q32_lt_t, q32_lt_f, q32_le_t, q32_le_f, q32_eq_t, q32_eq_f, q64_lt_t, q64_lt_f, q64_le_t, q64_le_f, q64_eq_t, q64_eq_f, rdI_i, rdL_i, rdR_i, rdN_i, stI_i, stL_i, stR_i, wI_s, wI_n, wL_s, wL_n, wI_2, wI_3, wL_1, wL_3, wR_1, wR_2, Int.toNat_natCast, tnO, tn_add, tn_sub, tn_mul, Nat.add_sub_cancel, Nat.add_zero, Nat.zero_add, lnO, win_t, win_f]
    · simp (disch := omega) only [Option.bind_some, bindv, bindv0, bind2_s, bind3_s, ↓reduceIte, Bool.false_eq_true, rZM_0, rZM_1, rZP_0, rZP_1, ptZ_0, ptZ_1, c32i, c64i, ncI, Int.natCast_add, Int.natCast_mul, q32_neg, q64_neg, q32_add, q32_sub, q32_mul, q64_add, q64_sub, q64_mul, q32_64i, q64_32, q32_lt_t, q32_lt_f, q32_le_t, q32_le_f, q32_eq_t, q32_eq_f, q64_lt_t, q64_lt_f, q64_le_t, q64_le_f, q64_eq_t, q64_eq_f, rdI_i, rdL_i, rdR_i, rdN_i, stI_i, stL_i, stR_i, wI_s, wI_n, wL_s, wL_n, wI_2, wI_3, wL_1, wL_3, wR_1, wR_2, Int.toNat_natCast, tnO, tn_add, tn_sub, tn_mul, Nat.add_sub_cancel, Nat.add_zero, Nat.zero_add, lnO, win_t, win_f]
  · simp (disch := omega) only [Option.bind_some, bindv, bindv0, bind2_s, bind3_s, ↓reduceIte, Bool.false_eq_true, rZM_0, rZM_1, rZP_0, rZP_1, ptZ_0, ptZ_1, c32i, c64i, ncI, Int.natCast_add, Int.natCast_mul, q32_neg, q64_neg, q32_add, q32_sub, q32_mul, q64_add, q64_sub, q64_mul, q32_64i, q64_32, q32_lt_t, q32_lt_f, q32_le_t, q32_le_f, q32_eq_t, q32_eq_f, q64_lt_t, q64_lt_f, q64_le_t, q64_le_f, q64_eq_t, q64_eq_f, rdI_i, rdL_i, rdR_i, rdN_i, stI_i, stL_i, stR_i, wI_s, wI_n, wL_s, wL_n, wI_2, wI_3, wL_1, wL_3, wR_1, wR_2, Int.toNat_natCast, tnO, tn_add, tn_sub, tn_mul, Nat.add_sub_cancel, Nat.add_zero, Nat.zero_add, lnO, win_t, win_f]
theorem forgL {F : Nat} {s : List Sh} (hp : ∃ t, s = sB ++ t) : ∀ k i fuel, i + k = 16384 → k < fuel → ∀ m : Mem, RF m → (∀ j, j < i → m.1 35 j = q32 (-1)) → ∃ m', nl_X10_forgets_2 F s fuel m 23 (q32 (i : Nat)) = some ((), m') ∧ (∀ j, j < 16384 → m'.1 35 j = q32 (-1)) ∧ m'.1 23 29 = q32 0 ∧ m'.2 = m.2 ∧ ∀ a k, a ≠ 35 → (a ≠ 23 ∨ k ≠ 29) → m'.1 a k = m.1 a k := by
  have l35 := ln35 hp
  intro k
  induction k with
  | zero =>
    intro i fuel hi hfu m hr h
    obtain ⟨fuel, rfl⟩ : ∃ f, fuel = f + 1 := ⟨fuel - 1, by omega⟩
    refine ⟨wI m 23 29 (q32 0), ?_, fun j hj => ?_, wI_s .., rfl, fun a k p1 p2 => ?_⟩
    · show nb_X10_forgets_2 F s (nl_X10_forgets_2 F s fuel) m 23 _ = _
      unfold nb_X10_forgets_2
      simp (disch := omega) only [Option.bind_some, bindv, bindv0, bind2_s, bind3_s, ↓reduceIte, Bool.false_eq_true, rZM_0, rZM_1, rZP_0, rZP_1, ptZ_0, ptZ_1, c32i, c64i, ncI, Int.natCast_add, Int.natCast_mul, q32_neg, q64_neg, q32_add, q32_sub, q32_mul, q64_add, q64_sub, q64_mul, q32_64i, q64_32, q32_lt_t, q32_lt_f, q32_le_t, q32_le_f, q32_eq_t, q32_eq_f, q64_lt_t, q64_lt_f, q64_le_t, q64_le_f, q64_eq_t, q64_eq_f, rdI_i, rdL_i, rdR_i, rdN_i, stI_i, stL_i, stR_i, wI_s, wI_n, wL_s, wL_n, wI_2, wI_3, wL_1, wL_3, wR_1, wR_2, Int.toNat_natCast, tnO, tn_add, tn_sub, tn_mul, Nat.add_sub_cancel, Nat.add_zero, Nat.zero_add, lnO, win_t, win_f]
    · rw [wI_n (by omega)]; exact h j (by omega)
    · rw [wI_n (by omega)]
  | succ k ih =>
    intro i fuel hi hfu m hr h
    obtain ⟨fuel, rfl⟩ : ∃ f, fuel = f + 1 := ⟨fuel - 1, by omega⟩
    have r28 := rf23_28 hr
    obtain ⟨m', i1, i2, i3, i4, i5⟩ := ih (i + 1) fuel (by omega) (by omega) (wI m 35 i (q32 (-1))) (hr.same rfl) (fun j hj => by
      by_cases c : j = i
      · rw [c, wI_s]
      · rw [wI_n (by omega)]; exact h j (by omega))
    refine ⟨m', ?_, i2, i3, i4, fun a k p1 p2 => by rw [i5 a k p1 p2, wI_n (by omega)]⟩
    rw [← i1, Int.natCast_add]
    show nb_X10_forgets_2 F s (nl_X10_forgets_2 F s fuel) m 23 _ = _
    unfold nb_X10_forgets_2
    simp (disch := omega) only [Option.bind_some, bindv, bindv0, bind2_s, bind3_s, ↓reduceIte, Bool.false_eq_true, rZM_0, rZM_1, rZP_0, rZP_1, ptZ_0, ptZ_1, c32i, c64i, ncI, Int.natCast_add, Int.natCast_mul, q32_neg, q64_neg, q32_add, q32_sub, q32_mul, q64_add, q64_sub, q64_mul, q32_64i, q64_32, q32_lt_t, q32_lt_f, q32_le_t, q32_le_f, q32_eq_t, q32_eq_f, q64_lt_t, q64_lt_f, q64_le_t, q64_le_f, q64_eq_t, q64_eq_f, rdI_i, rdL_i, rdR_i, rdN_i, stI_i, stL_i, stR_i, wI_s, wI_n, wL_s, wL_n, wI_2, wI_3, wL_1, wL_3, wR_1, wR_2, Int.toNat_natCast, tnO, tn_add, tn_sub, tn_mul, Nat.add_sub_cancel, Nat.add_zero, Nat.zero_add, lnO, win_t, win_f, r28]
    first | done | rfl
theorem forg10 {F : Nat} (hF : 20000 ≤ F) {s : List Sh} {m : Mem} (hp : ∃ t, s = sB ++ t) (hr : RF m) (C D : Nat → Int) : ∃ m', n_X10_forgets F s m 23 = some ((), m') ∧ MG m' [] C D ∧ m'.2 = m.2 ∧ ∀ a k, a ≠ 35 → (a ≠ 23 ∨ k ≠ 29) → m'.1 a k = m.1 a k := by
  obtain ⟨m', i1, i2, i3, i4, i5⟩ := forgL (F := F) hp 16384 0 F (by omega) (by omega) m hr (fun j hj => by omega)
  refine ⟨m', i1, ⟨i3, fun i hi => absurd hi (Nat.not_lt_zero _), fun i hi => Or.inl (i2 i hi), fun j hj => absurd hj (Nat.not_lt_zero _), ?_⟩, i4, i5⟩
  rw [emp_all 16384 i2]
  rfl
