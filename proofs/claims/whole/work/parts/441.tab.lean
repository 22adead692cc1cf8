/-! floors that were come to: the reference's table -/
def sp (x : FR) : Nat := (31 * x.1 + 1009 * x.2).toNat % 16381
theorem sp_lt (x : FR) : sp x < 16381 := Nat.mod_lt _ (by decide)
theorem sp_at {tp : Int} {x : FR} (h : FLR tp x.1 x.2) : m_X10_spot (q64 x.1) (q64 x.2) = some (q32 (sp x)) := by
  have b := h.b
  obtain ⟨u, hu⟩ := Int.eq_ofNat_of_zero_le b.1
  obtain ⟨l, hl⟩ := Int.eq_ofNat_of_zero_le (show 0 ≤ x.2 by omega)
  unfold m_X10_spot b_X10_spot_0 sp
  rw [hu, hl, if_neg (by decide)]
  have e1 : q64 (u : Int) * 31 + q64 (l : Int) * 1009 = q64 ((31 * u + 1009 * l : Nat) : Int) := by
    rw [show (31 : Int64) = q64 31 from rfl, show (1009 : Int64) = q64 1009 from rfl]
    simp (disch := omega) only [Option.bind_some, bindv, bindv0, bind2_s, bind3_s, ↓reduceIte, Bool.false_eq_true, rZM_0, rZM_1, rZP_0, rZP_1, ptZ_0, ptZ_1, c32i, c64i, ncI, Int.natCast_add, Int.natCast_mul, q32_neg, q64_neg, q32_add, q32_sub, q32_mul, q64_add, q64_sub, q64_mul, q32_64i, q64_32, q32_lt_t, q32_lt_f, q32_le_t, q32_le_f, q32_eq_t, q32_eq_f, q64_lt_t, q64_lt_f, q64_le_t, q64_le_f, q64_eq_t, q64_eq_f, rdI_i, rdL_i, rdR_i, rdN_i, stI_i, stL_i, stR_i, wI_s, wI_n, wL_s, wL_n, wI_2, wI_3, wL_1, wL_3, wR_1, wR_2, Int.toNat_natCast, tnO, tn_add, tn_sub, tn_mul, Nat.add_sub_cancel, Nat.add_zero, Nat.zero_add, lnO, win_t, win_f]
    first | done | (congr 1; omega)
  rw [e1, show (16381 : Int64) = q64 ((16381 : Nat) : Int) from rfl, q64_rem_n (by omega), tmn, q64_32]
  have hm : (31 * u + 1009 * l) % 16381 < 16381 := Nat.mod_lt _ (by decide)
  rw [show (31 * (u : Int) + 1009 * (l : Int)).toNat = 31 * u + 1009 * l by omega]
def pr (x : FR) (d : Nat) : Nat := (sp x + d) % 16384
theorem pr_lt (x : FR) (d : Nat) : pr x d < 16384 := Nat.mod_lt _ (by decide)
theorem pr_0 (x : FR) : pr x 0 = sp x := by have := sp_lt x; unfold pr; omega
theorem pr_s (x : FR) (d : Nat) : pr x (d + 1) = if pr x d = 16383 then 0 else pr x d + 1 := by unfold pr; split <;> omega
theorem pr_ex (x : FR) {i : Nat} (h : i < 16384) : ∃ d, d < 16384 ∧ pr x d = i := by
  have := sp_lt x
  refine ⟨(i + 16384 - sp x) % 16384, Nat.mod_lt _ (by decide), ?_⟩
  unfold pr
  omega
theorem lst (P : Nat → Prop) (n : Nat) (h : P n) : ∃ d, d ≤ n ∧ P d ∧ ∀ k, k < d → ¬ P k := by
  induction n using Nat.strongRecOn with
  | ind n ih =>
    by_cases c : ∃ k, k < n ∧ P k
    · obtain ⟨k, k1, k2⟩ := c
      obtain ⟨d, d1, d2, d3⟩ := ih k k1 k2
      exact ⟨d, by omega, d2, d3⟩
    · exact ⟨n, Nat.le_refl _, h, fun k hk hp => c ⟨k, hk, hp⟩⟩
def emp (T : Nat → Int32) : Nat → Nat
  | 0 => 0
  | k + 1 => emp T k + (if T k = q32 (-1) then 1 else 0)
theorem emp_pos {T : Nat → Int32} : ∀ k, 0 < emp T k → ∃ i, i < k ∧ T i = q32 (-1) := by
  intro k
  induction k with
  | zero => intro h; exact absurd h (Nat.lt_irrefl 0)
  | succ k ih =>
    intro h
    by_cases c : T k = q32 (-1)
    · exact ⟨k, by omega, c⟩
    · unfold emp at h
      rw [if_neg c] at h
      obtain ⟨i, i1, i2⟩ := ih (by omega)
      exact ⟨i, by omega, i2⟩
theorem emp_c {T T' : Nat → Int32} : ∀ k, (∀ i, i < k → T' i = T i) → emp T' k = emp T k := by
  intro k
  induction k with
  | zero => intro _; rfl
  | succ k ih =>
    intro h
    unfold emp
    rw [h k (by omega), ih (fun i hi => h i (by omega))]
theorem emp_set {T T' : Nat → Int32} {j : Nat} (h1 : T j = q32 (-1)) (h2 : T' j ≠ q32 (-1)) (h3 : ∀ i, i ≠ j → T' i = T i) : ∀ k, j < k → emp T' k + 1 = emp T k := by
  intro k
  induction k with
  | zero => intro h; omega
  | succ k ih =>
    intro h
    unfold emp
    by_cases c : k = j
    · subst c
      rw [if_neg h2, if_pos h1, emp_c k (fun i hi => h3 i (by omega))]
    · rw [h3 k c]
      have := ih (by omega)
      omega
theorem emp_all {T : Nat → Int32} : ∀ k, (∀ i, i < k → T i = q32 (-1)) → emp T k = k := by
  intro k
  induction k with
  | zero => intro _; rfl
  | succ k ih =>
    intro h
    unfold emp
    rw [if_pos (h k (by omega)), ih (fun i hi => h i (by omega))]
def TAB (T : Nat → Int32) (L : List FR) : Prop := (∀ i, i < 16384 → T i = q32 (-1) ∨ ∃ j, j < L.length ∧ T i = q32 (j : Nat)) ∧ (∀ j, j < L.length → ∃ d, d < 16384 ∧ T (pr (gt L j) d) = q32 (j : Nat) ∧ ∀ k, k < d → T (pr (gt L j) k) ≠ q32 (-1)) ∧ emp T 16384 + L.length = 16384
theorem TAB.free {T : Nat → Int32} {L : List FR} (h : TAB T L) (hn : L.length < 9331) (x : FR) : ∃ d, d < 16384 ∧ T (pr x d) = q32 (-1) ∧ ∀ k, k < d → T (pr x k) ≠ q32 (-1) := by
  obtain ⟨i, i1, i2⟩ := emp_pos (T := T) 16384 (by have := h.2.2; omega)
  obtain ⟨d, d1, d2⟩ := pr_ex x i1
  obtain ⟨e, e1, e2, e3⟩ := lst (fun d => T (pr x d) = q32 (-1)) d (by show T (pr x d) = _; rw [d2]; exact i2)
  exact ⟨e, by omega, e2, e3⟩
theorem TAB.put {T T' : Nat → Int32} {L : List FR} {x : FR} (h : TAB T L) (hn : L.length < 9331) {d : Nat} (hd : d < 16384) (h1 : T (pr x d) = q32 (-1)) (h2 : ∀ k, k < d → T (pr x k) ≠ q32 (-1)) (h3 : T' (pr x d) = q32 L.length) (h4 : ∀ i, i ≠ pr x d → T' i = T i) : TAB T' (L ++ [x]) := by
  have hlen : (L ++ [x]).length = L.length + 1 := by rw [List.length_append]; rfl
  have hne : q32 (L.length : Int) ≠ q32 (-1) := by rw [Ne, q32_eq_f (by omega)]; exact fun h => h
  obtain ⟨p1, p2, p3⟩ := h
  refine ⟨fun i hi => ?_, fun j hj => ?_, ?_⟩
  · rw [hlen]
    by_cases c : i = pr x d
    · subst c; exact Or.inr ⟨L.length, by omega, h3⟩
    · rw [h4 i c]
      rcases p1 i hi with h | ⟨j, j1, j2⟩
      · exact Or.inl h
      · exact Or.inr ⟨j, by omega, j2⟩
  · rw [hlen] at hj
    by_cases c : j = L.length
    · subst c
      rw [gt_e]
      refine ⟨d, hd, h3, fun k hk => ?_⟩
      by_cases ck : pr x k = pr x d
      · rw [ck, h3]; exact hne
      · rw [h4 _ ck]; exact h2 k hk
    · have hj' : j < L.length := by omega
      rw [gt_l hj']
      obtain ⟨e, e1, e2, e3⟩ := p2 j hj'
      have nz : q32 (j : Int) ≠ q32 (-1) := by rw [Ne, q32_eq_f (by omega)]; exact fun h => h
      refine ⟨e, e1, ?_, fun k hk => ?_⟩
      · rw [h4 _ (fun h => nz (by rw [← e2, h, h1]))]; exact e2
      · by_cases ck : pr (gt L j) k = pr x d
        · rw [ck, h3]; exact hne
        · rw [h4 _ ck]; exact e3 k hk
  · rw [hlen]
    have := emp_set h1 (by rw [h3]; exact hne) h4 16384 (pr_lt x d)
    omega
