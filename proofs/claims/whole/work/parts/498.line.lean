/-- what numbers of stuffs leave -/
def KFL (r z : Nat) (m m' : Mem) : Prop := (∀ a k, a ≠ r → a ≠ z + 6 → m'.1 a k = m.1 a k) ∧ (∀ k, (k < 4 ∨ 8 < k) → m'.1 r k = m.1 r k) ∧ m'.2 = m.2
theorem KFL.tr {r z : Nat} {m m1 m2 : Mem} (h : KFL r z m m1) (h2 : KFL r z m1 m2) : KFL r z m m2 := ⟨fun a k p q => (h2.1 a k p q).trans (h.1 a k p q), fun k p => (h2.2.1 k p).trans (h.2.1 k p), h2.2.2.trans h.2.2⟩
theorem KFL.pr {r z : Nat} {m m' : Mem} (h : KFL r z m m') : KPR r z m m' := ⟨fun a k p1 p2 p3 => h.1 a k p1 (by omega), fun a k _ => by rw [h.2.2], by rw [h.2.2]⟩
theorem flN9 {F : Nat} {s : List Sh} {m : Mem} {r z K N : Nat} {T : Nat → Int} (hT : ∀ k, k < N → 0 ≤ T k ∧ T k < 256) (hx : RCX s m r z K T N) {j : Nat} (hj : j < K) (hc : CUR m r T N j) {y fuel : Nat} (hy : y < 3) : match numW (kdF T N) (amF T N) j 0 99 with
  | .inl (k, jj) => jj < K ∧ ∃ m', nl_X3_floorLine_70 F s (fuel + 1) m r (q32 (y : Nat)) = some (q32 0, m') ∧ KPR r z m m' ∧ FLT m' r k (tpos T N jj)
  | .inr (jj, v) => jj < K ∧ 0 ≤ v ∧ v ≤ 99 ∧ ∃ m', nl_X3_floorLine_70 F s (fuel + 1) m r (q32 (y : Nat)) = nl_X3_floorLine_70 F s fuel m' r (q32 (y + 1 : Nat)) ∧ KFL r z m m' ∧ CUR m' r T N jj ∧ m'.1 (z + 6) y = q32 v ∧ ∀ k, k ≠ y → m'.1 (z + 6) k = m.1 (z + 6) k := by
  have n6 := (hx.2.2.2.2.1 6 (by omega)).1
  have n1 := numW9 hT hx hj hc (lo := 0) (hh := 99) (by omega) (by omega)
  cases e : numW (kdF T N) (amF T N) j 0 99 with
  | inl p =>
    obtain ⟨k, jj⟩ := p
    rw [e] at n1
    obtain ⟨d0, m2, d1, d2, d3⟩ := n1
    refine ⟨d0, m2, ?_, d2, d3⟩
    show nb_X3_floorLine_70 F s (nl_X3_floorLine_70 F s fuel) m r _ = _
    unfold nb_X3_floorLine_70
    simp (disch := omega) only [Option.bind_some, bindv, bindv0, bind2_s, bind3_s, ↓reduceIte, Bool.false_eq_true, rZM_0, rZM_1, rZP_0, rZP_1, ptZ_0, ptZ_1, c32i, c64i, ncI, Int.natCast_add, Int.natCast_mul, q32_neg, q64_neg, q32_add, q32_sub, q32_mul, q64_add, q64_sub, q64_mul, q32_64i, q64_32, q32_lt_t, q32_lt_f, q32_le_t, q32_le_f, q32_eq_t, q32_eq_f, q64_lt_t, q64_lt_f, q64_le_t, q64_le_f, q64_eq_t, q64_eq_f, rdI_i, rdL_i, rdR_i, rdN_i, stI_i, stL_i, stR_i, wI_s, wI_n, wL_s, wL_n, wI_2, wI_3, wL_1, wL_3, wR_1, wR_2, Int.toNat_natCast, tnO, tn_add, tn_sub, tn_mul, Nat.add_sub_cancel, Nat.add_zero, Nat.zero_add, lnO, win_t, win_f, d1]
  | inr p =>
    obtain ⟨jj, v⟩ := p
    rw [e] at n1
    obtain ⟨d0, v0, v1, v2, v3, m2, d1, d2, d3, d4, d5, d6⟩ := n1
    have hx2 := hx.k d2
    have r0 := hx2.2.1.1
    obtain ⟨-, -, ⟨-, -, -, -, -, z13, -⟩, -, -, -, -, -, l6, -⟩ := hx2.2.2.2.1
    refine ⟨d0, v0, v3, wI m2 (z + 6) y (q32 v), ?_, ⟨fun a k p1 p2 => by rw [wI_n (by omega)]; exact d3.2 a k p1, fun k hk => by rw [wI_n (by omega)]; exact d3.1 k hk, by show m2.2 = _; exact d4⟩, d5.k (fun k _ _ => by rw [wI_n (by omega)]), wI_s .., fun k hk => by rw [wI_n (by omega)]; exact d3.2 _ _ (by omega)⟩
    rw [Int.natCast_add]
    show nb_X3_floorLine_70 F s (nl_X3_floorLine_70 F s fuel) m r _ = _
    unfold nb_X3_floorLine_70
    simp (disch := omega) only [Option.bind_some, bindv, bindv0, bind2_s, bind3_s, ↓reduceIte, Bool.false_eq_true, rZM_0, rZM_1, rZP_0, rZP_1, ptZ_0, ptZ_1, c32i, c64i, ncI, Int.natCast_add, Int.natCast_mul, q32_neg, q64_neg, q32_add, q32_sub, q32_mul, q64_add, q64_sub, q64_mul, q32_64i, q64_32, q32_lt_t, q32_lt_f, q32_le_t, q32_le_f, q32_eq_t, q32_eq_f, q64_lt_t, q64_lt_f, q64_le_t, q64_le_f, q64_eq_t, q64_eq_f, rdI_i, rdL_i, rdR_i, rdN_i, stI_i, stL_i, stR_i, wI_s, wI_n, wL_s, wL_n, wI_2, wI_3, wL_1, wL_3, wR_1, wR_2, Int.toNat_natCast, tnO, tn_add, tn_sub, tn_mul, Nat.add_sub_cancel, Nat.add_zero, Nat.zero_add, lnO, win_t, win_f, d1, r0, z13, d6]
    first | done | rfl
theorem HCL.f {s : List Sh} {m m' : Mem} {r z K N : Nat} {T : Nat → Int} (hx : RCX s m r z K T N) {h : HSS} (hh : HCL s m r z h) (e : KFL r z m m') : HCL s m' r z h := by
  have sp := hx.2.2.2.2.1
  have n : ∀ i, i < 10 → z + i ≠ r := fun i hi => (sp i hi).1
  have n0 : z ≠ r := n 0 (by omega)
  have e1 : ∀ i k, i < 10 → i ≠ 6 → m'.1 (z + i) k = m.1 (z + i) k := fun i k h1 h2 => e.1 _ _ (n i h1) (by omega)
  have e0 : ∀ k, m'.1 z k = m.1 z k := fun k => e1 0 k (by omega) (by omega)
  obtain ⟨⟨a1, a2, a3, a4⟩, ⟨b1, b2⟩, c, f, t, d1, d2, d3, d4⟩ := hh
  refine ⟨⟨by rw [e0]; exact a1, by rw [e0]; exact a2, by rw [e0]; exact a3, by rw [e0]; exact a4⟩, ⟨by rw [e0]; exact b1, by rw [e0]; exact b2⟩, by rw [e.2.1 9 (by omega)]; exact c, f.k (fun a k ha => e.1 a k (by have := n 3 (by omega); have := n 4 (by omega); have := n 5 (by omega); have := n 7 (by omega); omega) (by omega)) (by rw [e.2.2]), ?_, by rw [e0]; exact d1, fun b hb h0 => by rw [e1 1 b (by omega) (by omega)]; exact d2 b hb h0, by rw [e.2.1 10 (by omega)]; exact d3, fun i hi => by rw [e1 2 i (by omega) (by omega)]; exact d4 i hi⟩
  obtain ⟨t1, t2, t3, t4⟩ := t
  exact ⟨by rw [e0]; exact t1, by rw [e.2.2]; exact t2, t3, fun k hk => by rw [e1 8 k (by omega) (by omega), e1 9 k (by omega) (by omega)]; exact t4 k hk⟩
theorem flo9 {F : Nat} (hF : 20000 ≤ F) {s : List Sh} {m : Mem} {r z K N : Nat} {T : Nat → Int} (hT : ∀ k, k < N → 0 ≤ T k ∧ T k < 256) (hx : RCX s m r z K T N) {i : Nat} (hi1 : i + 1 < K) (hc : CUR m r T N i) {h : HSS} (hh : HCL s m r z h) (hp : HPP h) (hcl : (hCd h).length ≤ i) : LN9 s T N K m r z i (if 8 ≤ hFc h then .inl (4, i) else match frcT (kdF T N) (amF T N) (i + 1) 10 (hTop h) with
    | .inl e => .inl e
    | .inr (j, f) => if FAT h.2.2.2.1.2.1 h.2.2.2.1.2.2.1 f.1 f.2 (hFc h) 0 ≠ -1 then .inl (3, j) else match numW (kdF T N) (amF T N) (j + 1) 0 99 with
      | .inl e => .inl e
      | .inr (j0, x0) => match numW (kdF T N) (amF T N) j0 0 99 with
        | .inl e => .inl e
        | .inr (j1, x1) => match numW (kdF T N) (amF T N) j1 0 99 with
          | .inl e => .inl e
          | .inr (j2, x2) => .inr (j2, sFlo h f (fun z => if z = 0 then x0.toNat else if z = 1 then x1.toNat else x2.toNat))) (n_X3_floorLine F s m r) := by
  have zr : z ≠ r := by have := hx.sep.2; omega
  have r0 := hx.2.1.1
  have t9 := hh.2.2.2.1.1
  have fc8 := hp.2.2.2.1.1
  by_cases c8 : 8 ≤ hFc h
  · rw [if_pos c8]
    obtain ⟨m', a1, a2, a3⟩ := fail9 (s := s) (z := z) hc 4
    have a1' : n_X3_failed s m r (q32 4) = some (q32 0, m') := a1
    refine ⟨by omega, m', ?_, a2, a3⟩
    unfold n_X3_floorLine nb_X3_floorLine_0
    generalize hFc h = fc at *
    simp (disch := omega) only [Option.bind_some, bindv, bindv0, bind2_s, bind3_s, ↓reduceIte, Bool.false_eq_true, rZM_0, rZM_1, rZP_0, rZP_1, ptZ_0, ptZ_1, c32i, c64i, ncI, Int.natCast_add, Int.natCast_mul, q32_neg, q64_neg, q32_add, q32_sub, q32_mul, q64_add, q64_sub, q64_mul, q32_64i, q64_32, q32_lt_t, q32_lt_f, q32_le_t, q32_le_f, q32_eq_t, q32_eq_f, q64_lt_t, q64_lt_f, q64_le_t, q64_le_f, q64_eq_t, q64_eq_f, rdI_i, rdL_i, rdR_i, rdN_i, stI_i, stL_i, stR_i, wI_s, wI_n, wL_s, wL_n, wI_2, wI_3, wL_1, wL_3, wR_1, wR_2, Int.toNat_natCast, tnO, tn_add, tn_sub, tn_mul, Nat.add_sub_cancel, Nat.add_zero, Nat.zero_add, lnO, win_t, win_f, r0, t9, a1']
  · rw [if_neg c8]
    obtain ⟨m1, a1, a2, a3, a4, a5, a6⟩ := nxt9 hx hc hi1
    have hx1 := hx.k a2
    have n1 := frac9 hF hT hx1 hi1 a3 (ex := 10) (by omega) hp.1 (by rw [a5 z 0 zr]; exact hh.1.1)
    cases e : frcT (kdF T N) (amF T N) (i + 1) 10 (hTop h) with
    | inl p =>
      obtain ⟨k, j⟩ := p
      rw [e] at n1
      obtain ⟨d0, m2, d1, d2, d3⟩ := n1
      refine ⟨d0, m2, ?_, a2.tr d2, d3⟩
      unfold n_X3_floorLine nb_X3_floorLine_0
      generalize hFc h = fc at *
      simp (disch := omega) only [Option.bind_some, bindv, bindv0, bind2_s, bind3_s, ↓reduceIte, Bool.false_eq_true, rZM_0, rZM_1, rZP_0, rZP_1, ptZ_0, ptZ_1, c32i, c64i, ncI, Int.natCast_add, Int.natCast_mul, q32_neg, q64_neg, q32_add, q32_sub, q32_mul, q64_add, q64_sub, q64_mul, q32_64i, q64_32, q32_lt_t, q32_lt_f, q32_le_t, q32_le_f, q32_eq_t, q32_eq_f, q64_lt_t, q64_lt_f, q64_le_t, q64_le_f, q64_eq_t, q64_eq_f, rdI_i, rdL_i, rdR_i, rdN_i, stI_i, stL_i, stR_i, wI_s, wI_n, wL_s, wL_n, wI_2, wI_3, wL_1, wL_3, wR_1, wR_2, Int.toNat_natCast, tnO, tn_add, tn_sub, tn_mul, Nat.add_sub_cancel, Nat.add_zero, Nat.zero_add, lnO, win_t, win_f, r0, t9, a1, d1]
    | inr p =>
      obtain ⟨j, f⟩ := p
      have je := frcT_j e
      rw [e] at n1
      obtain ⟨d0, dk, fl, f1, f2, m2, d1, d2, d3, d5, d6, d7⟩ := n1
      have flb := fl
      unfold FLR at flb
      have hx2 := hx1.k d2
      obtain ⟨r02, -, -, r13⟩ := hx2.2.1
      have h2 : HCL s m2 r z h := HCL.k hx hh (fun a k ha => by rw [d3.2 a k ha, a5 a k ha]) (by rw [d3.1 9 (by omega), a4 9 (by omega)]) (by rw [d3.1 10 (by omega), a4 10 (by omega)]) (by rw [d2.2.2, a6])
      have fa := fat9 (F := F) (by omega) hp.2.2.2.1 h2.2.2.2.1 (u := f.1) (l := f.2) (by omega) (by omega)
      have pre : n_X3_floorLine F s m r = (if q32 (FAT h.2.2.2.1.2.1 h.2.2.2.1.2.2.1 f.1 f.2 (hFc h) 0) = (-1 : Int32) then (bind2 (n_X3_next s m2 r) fun _ m11 => (nl_X3_floorLine_70 F s F m11 r (0 : Int32))) else (bind2 (n_X3_failed s m2 r (3 : Int32)) fun x12 m13 => (rZM x12 m13))) := by
        unfold n_X3_floorLine nb_X3_floorLine_0
        rw [r0, Option.bind_some, t9, if_pos (show q32 (hFc h : Int) < (8 : Int32) by rw [show (8 : Int32) = q32 8 from rfl, q32_lt_t (by omega)]; trivial), a1, bind2_s, show (10 : Int32) = q32 10 from rfl, d1, bind2_s, if_neg (by decide), r02, Option.bind_some, r13, Option.bind_some, Option.bind_some, d6, d7, fa, Option.bind_some]
      dsimp only
      rw [pre]
      have fb := FAT_n (U := h.2.2.2.1.2.1) (L := h.2.2.2.1.2.2.1) (u := f.1) (l := f.2) (hFc h) 0
      by_cases cf : FAT h.2.2.2.1.2.1 h.2.2.2.1.2.2.1 f.1 f.2 (hFc h) 0 = -1
      · rw [if_neg (fun hn => hn cf), cf, if_pos (show q32 (-1) = (-1 : Int32) by simp only [c32i, q32_neg])]
        have hj1 := hx2.nx d0 (by omega) (by omega)
        obtain ⟨m3, b1, b2, b3, b4, b5, b6⟩ := nxt9 hx2 d5 hj1
        have hx3 := hx2.k b2
        have k3 : KFL r z m2 m3 := ⟨fun a k p1 _ => b5 a k p1, fun k hk => b4 k (by omega), b6⟩
        rw [b1, bind2_s]
        obtain ⟨G, rfl⟩ : ∃ G, F = G + 4 := ⟨F - 4, by omega⟩
        have l0 := flN9 (F := G + 4) hT hx3 hj1 b3 (y := 0) (fuel := G + 3) (by omega)
        show LN9 s T N K m r z i _ (nl_X3_floorLine_70 (G + 4) s (G + 3 + 1) m3 r (q32 ((0 : Nat) : Int)))
        cases e0 : numW (kdF T N) (amF T N) (j + 1) 0 99 with
        | inl p =>
          obtain ⟨k, jj⟩ := p
          rw [e0] at l0
          obtain ⟨w0, m4, w1, w2, w3⟩ := l0
          exact ⟨w0, m4, w1, ((a2.tr d2).tr b2).tr w2, w3⟩
        | inr p =>
          obtain ⟨j0, x0⟩ := p
          have j0e := numW_j e0
          rw [e0] at l0
          obtain ⟨w0, x0a, x0b, m4, w1, w2, w3, w4, w5⟩ := l0
          have hx4 := hx3.k w2.pr
          rw [w1]
          dsimp only
          have l1 := flN9 (F := G + 4) hT hx4 w0 w3 (y := 1) (fuel := G + 2) (by omega)
          cases e1 : numW (kdF T N) (amF T N) j0 0 99 with
          | inl p =>
            obtain ⟨k, jj⟩ := p
            rw [e1] at l1
            obtain ⟨v0, m5, v1, v2, v3⟩ := l1
            exact ⟨v0, m5, v1, (((a2.tr d2).tr b2).tr w2.pr).tr v2, v3⟩
          | inr p =>
            obtain ⟨j1, x1⟩ := p
            have j1e := numW_j e1
            rw [e1] at l1
            obtain ⟨v0, x1a, x1b, m5, v1, v2, v3, v4, v5⟩ := l1
            have hx5 := hx4.k v2.pr
            have v1' : nl_X3_floorLine_70 (G + 4) s (G + 3) m4 r (q32 ((0 + 1 : Nat) : Int)) = nl_X3_floorLine_70 (G + 4) s (G + 2) m5 r (q32 ((1 + 1 : Nat) : Int)) := v1
            rw [v1']
            dsimp only
            have l2 := flN9 (F := G + 4) hT hx5 v0 v3 (y := 2) (fuel := G + 1) (by omega)
            cases e2 : numW (kdF T N) (amF T N) j1 0 99 with
            | inl p =>
              obtain ⟨k, jj⟩ := p
              rw [e2] at l2
              obtain ⟨u0, m6, u1, u2, u3⟩ := l2
              exact ⟨u0, m6, u1, ((((a2.tr d2).tr b2).tr w2.pr).tr v2.pr).tr u2, u3⟩
            | inr p =>
              obtain ⟨j2, x2⟩ := p
              have j2e := numW_j e2
              rw [e2] at l2
              obtain ⟨u0, x2a, x2b, m6, u1, u2, u3, u4, u5⟩ := l2
              have u1' : nl_X3_floorLine_70 (G + 4) s (G + 2) m5 r (q32 ((1 + 1 : Nat) : Int)) = nl_X3_floorLine_70 (G + 4) s (G + 1) m6 r (q32 ((2 + 1 : Nat) : Int)) := u1
              rw [u1']
              have hx6 := hx5.k u2.pr
              have kf : KFL r z m2 m6 := ((k3.tr w2).tr v2).tr u2
              have h6 := HCL.f hx2 h2 kf
              obtain ⟨r06, -, -, r136⟩ := hx6.2.1
              obtain ⟨-, -, ⟨-, -, -, -, -, z13, -⟩, -, -, -, -, -, l6, -⟩ := hx6.2.2.2.1
              obtain ⟨y0, rfl⟩ := Int.eq_ofNat_of_zero_le x0a
              obtain ⟨y1, rfl⟩ := Int.eq_ofNat_of_zero_le x1a
              obtain ⟨y2, rfl⟩ := Int.eq_ofNat_of_zero_le x2a
              have st6 : ∀ zz, zz < 3 → m6.1 (z + 6) zz = q32 (((fun z => if z = 0 then (y0 : Int).toNat else if z = 1 then (y1 : Int).toNat else (y2 : Int).toNat) zz : Nat) : Int) := fun zz hz => by
                have : zz = 0 ∨ zz = 1 ∨ zz = 2 := by omega
                rcases this with rfl | rfl | rfl
                · rw [u5 0 (by omega), v5 0 (by omega), w4]; rfl
                · rw [u5 1 (by omega), v4]; rfl
                · rw [u4]; rfl
              obtain ⟨m7, g1, g2, g3, g4⟩ := addF9 (F := G + 4) (by omega) hp.2.2.2.1 h6.2.2.2.1 (by omega) z13 l6 (u := f.1) (l := f.2) (by omega) (by omega) st6
              have c16 : m6.2.1 (r + 16) 0 = q64 f.1 := by rw [kf.2.2]; exact d6
              have d16 : m6.2.1 (r + 16) 1 = q64 f.2 := by rw [kf.2.2]; exact d7
              have sp := hx6.2.2.2.2.1
              have n : ∀ i, i < 10 → z + i ≠ r := fun i hi => (sp i hi).1
              have n3 := n 3 (by omega)
              have n4 := n 4 (by omega)
              have n5 := n 5 (by omega)
              have n7 := n 7 (by omega)
              have gr : ∀ k, m7.1 r k = m6.1 r k := fun k => g3 r k (by omega)
              have kk : KPR r z m6 m7 := ⟨fun a k p1 p2 p3 => g3 a k (by omega), fun a k _ => by rw [g2], by rw [g2]⟩
              refine ⟨by omega, u0, by show (hCd h).length ≤ j2; omega, m7, ?_, (((((a2.tr d2).tr b2).tr w2.pr).tr v2.pr).tr u2.pr).tr kk, u3.k (fun k _ _ => gr k), ?_, ?_, ?_⟩
              · show nb_X3_floorLine_70 (G + 4) s (nl_X3_floorLine_70 (G + 4) s G) m6 r (q32 3) = _
                unfold nb_X3_floorLine_70
                rw [if_pos (by decide), r06, Option.bind_some, r136, Option.bind_some, Option.bind_some, c16, d16, q64_32, q64_32, g1, bind2_s]
                rfl
              · obtain ⟨⟨q1, q2, q3, q4⟩, ⟨e5, e6⟩, c, ff, t, t1, t2, t3, t4⟩ := h6
                refine ⟨⟨by rw [g3 _ _ (by omega)]; exact q1, by rw [g3 _ _ (by omega)]; exact q2, by rw [g3 _ _ (by omega)]; exact q3, by rw [g3 _ _ (by omega)]; exact q4⟩, ⟨by rw [g3 _ _ (by omega)]; exact e5, by rw [g3 _ _ (by omega)]; exact e6⟩, by rw [gr]; exact c, g4, ?_, by rw [g3 _ _ (by omega)]; exact t1, fun b hb hb0 => by rw [g3 _ _ (by omega)]; exact t2 b hb hb0, by rw [gr]; exact t3, fun k hk => by rw [g3 _ _ (by omega)]; exact t4 k hk⟩
                obtain ⟨o1, o2, o3, o4⟩ := t
                exact ⟨by rw [g3 _ _ (by omega)]; exact o1, by rw [g2]; exact o2, o3, fun k hk => by rw [g3 _ _ (by omega), g3 _ _ (by omega)]; exact o4 k hk⟩
              · rw [gr, kf.2.1 1 (by omega), d3.1 1 (by omega), a4 1 (by omega)]
              · rw [gr, kf.2.1 2 (by omega), d3.1 2 (by omega), a4 2 (by omega)]
      · rw [if_pos cf, if_neg (show ¬ q32 (FAT h.2.2.2.1.2.1 h.2.2.2.1.2.2.1 f.1 f.2 (hFc h) 0) = (-1 : Int32) by rw [show (-1 : Int32) = q32 (-1) by simp only [c32i, q32_neg], q32_eq_f (by omega)]; exact fun h => h)]
        obtain ⟨m', b1, b2, b3⟩ := fail9 (s := s) (z := z) d5 3
        have b1' : n_X3_failed s m2 r (3 : Int32) = some (q32 0, m') := b1
        refine ⟨d0, m', ?_, (a2.tr d2).tr b2, b3⟩
        rw [b1', bind2_s]
        rfl
