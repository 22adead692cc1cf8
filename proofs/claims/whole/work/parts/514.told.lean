/-! a told house, on both sides -/
theorem CT_cx {x : Int} (hx : -6 ≤ x ∧ x ≤ 999) : CT (q32 x) (q32 (cx x)) := by
  by_cases c : 0 ≤ x
  · obtain ⟨v, rfl⟩ := Int.eq_ofNat_of_zero_le c
    refine Or.inl ⟨v, by omega, rfl, ?_⟩
    unfold cx
    rw [if_neg (by omega), if_neg (by omega), if_neg (by omega), if_neg (by omega), if_neg (by omega), if_neg (by omega)]
  · refine Or.inr ?_
    rcases (show x = -1 ∨ x = -2 ∨ x = -3 ∨ x = -4 ∨ x = -5 ∨ x = -6 by omega) with rfl | rfl | rfl | rfl | rfl | rfl
    · exact Or.inl ⟨rfl, rfl⟩
    · exact Or.inr (Or.inl ⟨rfl, rfl⟩)
    · exact Or.inr (Or.inr (Or.inl ⟨rfl, rfl⟩))
    · exact Or.inr (Or.inr (Or.inr (Or.inl ⟨rfl, rfl⟩)))
    · exact Or.inr (Or.inr (Or.inr (Or.inr (Or.inl ⟨rfl, rfl⟩))))
    · exact Or.inr (Or.inr (Or.inr (Or.inr (Or.inr ⟨rfl, rfl⟩))))
theorem getD_in {c : List Int} {i : Nat} (h : i < c.length) : c.getD i 0 ∈ c := by
  rw [List.getD_eq_getElem?_getD, List.getElem?_eq_getElem h]
  exact List.getElem_mem h
theorem told_HR {s : List Sh} {m m3 : Mem} {r z : Nat} {h : HSS} {al : Nat → Int32} (hc : HCL s m r z h) (h10 : H10 m3 h) (hal : ∀ k, k < 999 → al k = m3.1 27 k) (hp : HPP h) (ht : HBT h) (hl : (hCd h).length ≤ 900) (hn : h.1.2.2 ≤ 900) : HREL m z al := by
  obtain ⟨⟨a0, a1, a2, a3⟩, ⟨b4, b5⟩, c9, f, t, d6, d1, cd⟩ := hc
  obtain ⟨⟨q0, q1, q2, q3, q4, q5, q6, q7, q8⟩, qf, qt, qb, qc, -, -⟩ := h10
  obtain ⟨p1, p2, p3, p4, p5, p6, p7⟩ := hp
  have fc8 := p4.1
  have tc6 := p5.1
  refine ⟨hTop h, h.1.2.1, h.1.2.2, hBc h, hFc h, hTc h, h.2.1.1, h.2.1.2, hSt h, h.2.2.2.1.2.1, h.2.2.2.1.2.2.1, h.2.2.2.2.1.2.1, h.2.2.2.2.1.2.2, h.2.2.2.1.2.2.2.1, h.2.2.2.1.2.2.2.2, ⟨p1.1, p1.2, p2, hn, p6, p4.1, p5.1⟩, ⟨a0, a1, a2, b4, b5, d6, f.1, t.1⟩, ⟨?_, ?_, ?_, ?_, ?_, ?_, ?_, ?_, ?_⟩, p3, ⟨ht.1, ht.2.2.1, by rw [ht.2.1]; exact hl, d1, fun b hb => ?_, fun i hi => ?_, fun b hb => ?_⟩, fun k hk => ?_, ⟨fun i hi => ⟨p4.2.2.2.2.1 i hi, f.2.2.2.2 i hi⟩, p4.2.2.2.2.2.2⟩, fun k hk => ?_⟩
  · rw [hal 0 (by omega)]; exact q0
  · rw [hal 1 (by omega)]; exact q1
  · rw [hal 2 (by omega)]; exact q2
  · rw [hal 3 (by omega)]; exact q3
  · rw [hal 4 (by omega)]; exact q4
  · rw [hal 5 (by omega)]; exact q5
  · rw [hal 6 (by omega), q6, a3]
  · rw [hal 7 (by omega)]; exact q7
  · rw [hal 8 (by omega)]; exact q8
  · rw [hal _ (by omega), hal _ (by omega)]; exact qb b hb
  · have hi' : i < (hCd h).length := by rw [← ht.2.1]; exact hi
    rw [hal _ (by omega), cd.2 i hi', qc.2 i hi']
    exact CT_cx (ht.2.2.2.1 _ (getD_in hi'))
  · have l1 := hst_le ht (hBc h - (b + 1)) (b + 1) (by omega)
    have l0 := ht.2.2.1 b hb
    exact WFC_cg _ _ _ (fun j h1 h2 => cd.2 j (by omega)) (ht.2.2.2.2 b hb)
  · have k1 := f.2.2.2.1 k hk
    have k2 := p4.2.2.2.1 k hk
    have k3 := qf k hk
    refine ⟨k1.1, k1.2.1, k2.1, k2.2.1, by rw [hal _ (by omega)]; exact k3.1, by rw [hal _ (by omega)]; exact k3.2.1, fun y hy => ⟨k2.2.2 y hy, k1.2.2 y hy, by rw [hal _ (by omega)]; exact k3.2.2 y hy⟩⟩
  · have k1 := t.2.2.2 k hk
    have k2 := p5.2 k hk
    have k3 := qt k hk
    exact ⟨k1.1, k1.2, k2.1, k2.2, by rw [hal _ (by omega)]; exact k3.1, by rw [hal _ (by omega)]; exact k3.2⟩
/-- a house was told, or a fault was found: the reader and its house changed, the house that is now may have been changed for it -/
theorem ST.hs {s : List Sh} {m m' : Mem} {ow : Nat → Nat} {nw r z nw' z' : Nat} (h : ST s m ow nw) (hr : m.2.2 0 5 = some r) (hz : m.2.2 r 0 = some z) (e1 : ∀ a k, a ≠ 0 → a ≠ 23 → a ≠ 27 → (a ≠ 24 ∨ 999 ≤ k) → a ≠ r → ¬ (r + 11 ≤ a ∧ a ≤ r + 15) → ¬ (z ≤ a ∧ a < z + 10) → m'.1 a k = m.1 a k) (eL : ∀ a k, a ≠ 23 → a ≠ r + 16 → m'.2.1 a k = m.2.1 a k) (eR : ∀ a k, ¬ (a = r + 11 ∧ k = 4) → ¬ (a = r ∧ k = 0) → ¬ (a = 0 ∧ k = 4) → m'.2.2 a k = m.2.2 a k) (h4 : m'.2.2 0 4 = some nw') (h0 : m'.2.2 r 0 = some z') (hsw : (nw' = nw ∧ z' = z) ∨ (nw' = z ∧ z' = nw)) (hH : HREL m' nw' (m'.1 24)) (hF : FXR m') : ST s m' ow nw' := by
  obtain ⟨⟨l1, l2, l3, l4, l5, l6, l7, l8, l9, l10, l11, l12⟩, r1, r2, r3, r4⟩ := h
  obtain ⟨z0, rb, zb, zn, zo, ro, ro2, zi⟩ := l6 r hr
  have rz : z0 = z := by have := rb.2.2.1; rw [hz] at this; cases this; rfl
  rw [rz] at rb zb zn zo zi
  have r53 := rb.1
  have ok3 := rb.2.1
  have ok6 := rb.2.2.2.2.2.2.2.2.2.1
  have z2 := zb.1
  have n2 := l4.1
  have c : ∀ a, a ≠ r → a ≠ r + 11 → a ≠ 0 → m'.2.2 a = m.2.2 a := fun a h1 h2 h3 => funext fun k => eR a k (fun h => h2 h.1) (fun h => h1 h.1) (fun h => h3 h.1)
  have co : ∀ {a d : Nat}, ok s a d → d < 100 → d ≠ 3 → d ≠ 6 → a ≠ 0 → m'.2.2 a = m.2.2 a := fun h1 h2 h3 h5 h6 => c _ (ok_ne h1 ok3 h2 (by omega) h3) (ok_ne h1 ok6 h2 (by omega) h5) h6
  have c0 : ∀ k, k ≠ 4 → m'.2.2 0 k = m.2.2 0 k := fun k hk => eR 0 k (by omega) (by omega) (by omega)
  have c12 : m'.2.2 12 = m.2.2 12 := c 12 (by omega) (by omega) (by omega)
  have c13 : m'.2.2 13 = m.2.2 13 := c 13 (by omega) (by omega) (by omega)
  have lo : ∀ a, (a = 14 ∨ a = 15 ∨ a = 25 ∨ a = 50 ∨ a = 51) → m'.1 a = m.1 a := fun a ha => funext fun k => e1 a k (by omega) (by omega) (by omega) (by omega) (by omega) (by omega) (by omega)
  have hbz : HB s m' z := zb.at (co zb.2.1 (by omega) (by omega) (by omega) (by omega))
  have hbn : HB s m' nw := l4.at (co l4.2.1 (by omega) (by omega) (by omega) (by omega))
  have onr : ∀ n k, OWN ow n k → n ≠ r → ∀ i, i < k → n + i ≠ r ∧ ¬ (r + 11 ≤ n + i ∧ n + i ≤ r + 16) := fun n k ho hne i hi => by
    refine ⟨fun e => ?_, fun e => ?_⟩
    · have x1 := ho i hi
      rw [e, ro] at x1
      exact hne x1.symm
    · have x1 := ho i hi
      have x2 := ro2 (n + i - r) (by omega) (by omega)
      rw [show r + (n + i - r) = n + i by omega, x1] at x2
      exact hne x2
  refine ⟨⟨l1, fun q hq => ?_, h4, ?_, ?_, fun r' hr' => ?_, fun q hq => ?_, fun w hw => ?_, fun i n hi hn => ?_, ?_, fun i t hi ht => ?_, ?_⟩, hH, hF, fun i hi => ?_, fun i hi => ?_⟩
  · have d1 : ∀ q ∈ rfB, q.1 < 53 ∧ (q.1 ≠ 0 ∨ q.2.1 ≠ 4) := by decide
    have := d1 q hq
    rw [eR _ _ (by omega) (by omega) (by omega)]
    exact l2 q hq
  · rcases hsw with ⟨rfl, -⟩ | ⟨rfl, -⟩
    · exact hbn
    · exact hbz
  · rcases hsw with ⟨rfl, -⟩ | ⟨rfl, -⟩
    · exact l5
    · exact zo
  · rw [c0 5 (by omega), hr] at hr'
    cases hr'
    refine ⟨z', ?_, ?_, ?_, ?_, ro, ro2, ?_⟩
    · unfold RB at rb ⊢
      rw [eR r 3 (by omega) (by omega) (by omega), eR r 11 (by omega) (by omega) (by omega), eR r 13 (by omega) (by omega) (by omega), eR (r + 11) 1 (by omega) (by omega) (by omega), eR (r + 11) 2 (by omega) (by omega) (by omega), eR (r + 11) 3 (by omega) (by omega) (by omega)]
      exact ⟨rb.1, rb.2.1, h0, rb.2.2.2⟩
    · rcases hsw with ⟨-, rfl⟩ | ⟨-, rfl⟩
      · exact hbz
      · exact hbn
    · rcases hsw with ⟨rfl, rfl⟩ | ⟨rfl, rfl⟩
      · exact zn
      · exact fun e => zn e.symm
    · rcases hsw with ⟨-, rfl⟩ | ⟨-, rfl⟩
      · exact zo
      · exact l5
    · rw [c12]
      rcases hsw with ⟨-, rfl⟩ | ⟨-, rfl⟩
      · exact zi
      · exact fun i n hi hn => (l9 i n hi hn).2.2.1
  · rw [c0 16 (by omega)] at hq
    obtain ⟨z1, z2⟩ := l7 q hq
    have := z1.1
    refine ⟨?_, z2⟩
    unfold QB at z1 ⊢
    rw [co z1.2.1 (by omega) (by omega) (by omega) (by omega), co z1.2.2.1 (by omega) (by omega) (by omega) (by omega)]
    exact z1
  · rw [c0 17 (by omega)] at hw
    obtain ⟨z1, z2⟩ := l8 w hw
    have := z1.1
    refine ⟨?_, z2⟩
    unfold WB at z1 ⊢
    rw [co z1.2.1 (by omega) (by omega) (by omega) (by omega)]
    exact z1
  · rw [c12] at hn
    obtain ⟨z1, z2, z3, z4⟩ := l9 i n hi hn
    refine ⟨z1.at (co z1.2.1 (by omega) (by omega) (by omega) (by omega)), z2, ?_, z4⟩
    rcases hsw with ⟨rfl, -⟩ | ⟨rfl, -⟩
    · exact z3
    · exact zi i n hi hn
  · rw [c12]; exact l10
  · rw [c13] at ht
    obtain ⟨z1, z2⟩ := l11 i t hi ht
    have := z1.1
    refine ⟨?_, z2⟩
    unfold TB at z1 ⊢
    rw [co z1.2.1 (by omega) (by omega) (by omega) (by omega)]
    exact z1
  · rw [c13]; exact l12
  · rw [c12, lo 25 (by omega)]
    rcases r3 i hi with h | ⟨n, h1, h2, h3⟩
    · exact Or.inl h
    · obtain ⟨y1, y2, y3, y4⟩ := l9 i n hi h1
      have ap := apart y2 zo (zi i n hi h1)
      have nr : n ≠ r := ok_ne y1.2.1 ok3 (by omega) (by omega) (by omega)
      refine Or.inr ⟨n, h1, h2, h3.same (fun j hj => funext fun k => ?_) (fun k hk => e1 24 _ (by omega) (by omega) (by omega) (Or.inr (by have := Nat.le_mul_of_pos_right 999 (show 0 < i + 1 by omega); omega)) (by omega) (by omega) (by omega))⟩
      have o := onr n 10 y2 nr j hj
      exact e1 _ k (by omega) (by omega) (by omega) (by omega) o.1 (by omega) (by omega)
  · rw [c13, lo 50 (by omega)]
    rcases r4 i hi with h | ⟨t, h1, h2⟩
    · exact Or.inl h
    · obtain ⟨y1, y2⟩ := l11 i t hi h1
      have t53 := y1.1
      have tr : t ≠ r := ok_ne y1.2.1 ok3 (by omega) (by omega) (by omega)
      have tz : t ≠ z := ok_ne y1.2.1 zb.2.1 (by omega) (by omega) (by omega)
      have o0 := onr t 2 y2 tr 0 (by omega)
      have o1 := onr t 2 y2 tr 1 (by omega)
      have oz : ¬ (z ≤ t ∧ t < z + 10) := fun e => by
        have := ow_out y2 zo tz (i := 0) (j := t - z) (by omega) (by omega)
        omega
      refine Or.inr ⟨t, h1, ?_⟩
      unfold TREL at h2 ⊢
      rw [show m'.1 t = m.1 t from funext fun k => e1 t k (by omega) (by omega) (by omega) (by omega) (by omega) (by omega) oz, lo 50 (by omega), lo 51 (by omega), show m'.2.1 (t + 1) = m.2.1 (t + 1) from funext fun k => eL _ k (by omega) (by omega), show m'.2.1 52 = m.2.1 52 from funext fun k => eL _ k (by omega) (by omega)]
      exact h2
