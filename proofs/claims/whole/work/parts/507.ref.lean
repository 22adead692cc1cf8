theorem KX.m27 {m m' : Mem} (h : KX m m') (k : Nat) : m'.1 27 k = m.1 27 k := h.1 _ _ (by omega)
theorem flo10 {F : Nat} (hF : 20000 ≤ F) {s : List Sh} (hp : ∃ t, s = sB ++ t) {m : Mem} (hr : RF m) {T : Nat → Int} {N K i : Nat} (hK : TKE T N K) {h : HSS} (hpp : HPP h) (hh : H10 m h) (hc : CN10 s m T N K i) (hk6 : kdF T N i = 6) : LN10 s T N K m i (if 8 ≤ hFc h then .inl (4, i) else match frcT (kdF T N) (amF T N) (i + 1) 10 (hTop h) with
    | .inl e => .inl e
    | .inr (j, f) => if FAT h.2.2.2.1.2.1 h.2.2.2.1.2.2.1 f.1 f.2 (hFc h) 0 ≠ -1 then .inl (3, j) else match numW (kdF T N) (amF T N) (j + 1) 0 99 with
      | .inl e => .inl e
      | .inr (j0, x0) => match numW (kdF T N) (amF T N) j0 0 99 with
        | .inl e => .inl e
        | .inr (j1, x1) => match numW (kdF T N) (amF T N) j1 0 99 with
          | .inl e => .inl e
          | .inr (j2, x2) => .inr (j2, sFlo h f (fun z => if z = 0 then x0.toNat else if z = 1 then x1.toNat else x2.toNat))) (bind2 (n_X10_readFloor F s m 23) fun _ m20 => ((ptZ m20 23 18 (1 : Int32)).bind fun m21 => (some ((), m21)))) := by
  have l27 := ln27 hp
  have r4 := rf23_4 hr
  obtain ⟨hx, h0, hs, hi⟩ := id hc
  have k6' : kdT T N (tpos T N i) = 6 := hk6
  have f8 := hpp.2.2.2.1.1
  have q3 := hh.1.2.2.2.1
  have pz : ∀ m1 : Mem, (bind2 (some ((), m1) : Option (Unit × Mem)) fun _ m20 => ((ptZ m20 23 18 (1 : Int32)).bind (fun m16 => (some ((), m16) : Option (Unit × Mem))))) = some ((), wI m1 23 18 (q32 1)) := fun m1 => rfl
  -- a fault: whatever comes behind it, nothing is done
  have flt : ∀ k j (m1 : Mem), j < K → n_X10_readFloor F s m 23 = some ((), m1) → KL10 m m1 → FLT10 m1 k (tpos T N j) → LN10 s T N K m i (.inl (k, j)) (bind2 (n_X10_readFloor F s m 23) fun _ m20 => ((ptZ m20 23 18 (1 : Int32)).bind fun m21 => (some ((), m21)))) := fun k j m1 hj e k1 f1 => ⟨hj, wI m1 23 18 (q32 1), by rw [e, pz], k1.tr KL10.Z, Or.inl (f1.I (Or.inr ⟨rfl, rfl⟩))⟩
  have begin0 : n_X10_readFloor F s m 23 = if q32 (hFc h : Nat) = (8 : Int32) then (bind2 (n_X10_fails s m 23 (4 : Int32)) fun _ m4 => (nb_X10_readFloor_18 F s m4 23 (q32 (hFc h : Nat)))) else (nb_X10_readFloor_18 F s m 23 (q32 (hFc h : Nat))) := by
    unfold n_X10_readFloor nb_X10_readFloor_0
    rw [r4, Option.bind_some, rdI_c 3 (by omega) (by omega), Option.bind_some, q3]
  by_cases c8 : 8 ≤ hFc h
  · have e8 : hFc h = 8 := by omega
    rw [if_pos c8]
    rw [e8, if_pos (show q32 ((8 : Nat) : Int) = (8 : Int32) by decide)] at begin0
    obtain ⟨m1, a1, a2, a3⟩ := fai10a (s := s) h0 hs (k := 4) (by omega)
    rw [if_neg (by omega)] at a3
    have a1' : n_X10_fails s m 23 (4 : Int32) = some ((), m1) := a1
    refine flt 4 i m1 hi ?_ a2.kl a3
    rw [begin0, a1', bind2_s]
    unfold nb_X10_readFloor_18
    rw [if_neg (flt_ne a3)]
  rw [if_neg c8]
  rw [if_neg (by rw [show (8 : Int32) = q32 8 from rfl, q32_eq_f (by omega)]; exact fun h => h)] at begin0
  have hi1 := hK.nx hi (by omega) (by omega)
  obtain ⟨m1, a1, a2, a3⟩ := step10 hF hx hs (hK.2.2.2 i hi1)
  have hc1 : CN10 s m1 T N K (i + 1) := ⟨hx.x a2, a2.n11 h0, a3, hi1⟩
  have hh1 := hh.ka a2.ka
  have hr1 : RF m1 := hr.same (by rw [a2.2])
  have tf := tfr10 hF hp hr1 hK hpp.1 hh1.1.2.1 hc1
  have begin1 : ∀ m2 : Mem, n_X10_takesFraction F s m1 23 = some ((), m2) → n_X10_readFloor F s m 23 = nl_X10_readFloor_41 F s F m2 23 (q32 (hFc h : Nat)) (m2.1 23 17) (q32 ((0 : Nat) : Int)) := fun m2 e => by
    rw [begin0]
    unfold nb_X10_readFloor_18
    rw [h0, if_pos (show q32 0 = (0 : Int32) from rfl), a1, bind2_s, e, bind2_s]
    rfl
  rw [frcT_U]
  cases e1 : frcU (kdF T N) (amF T N) (i + 1) with
  | inl p =>
    obtain ⟨k, j⟩ := p
    rw [e1] at tf
    obtain ⟨b0, m2, b1, b2, b3⟩ := tf
    obtain ⟨v', hv⟩ := f41f (F := F) hp (m := m2) (hr1.same (by rw [b2.2.2])) f8 (hFc h) F 0 (m2.1 23 17) (by omega) (by omega)
    refine flt k j m2 b0 ?_ (a2.kl.tr b2.kl) b3
    rw [begin1 m2 b1, hv]
    unfold FTL
    rw [goe10f b3, bind2_s]
    exact f118f b3 3 F 0 (by omega) (by omega)
  | inr p =>
    obtain ⟨j, f⟩ := p
    rw [e1] at tf
    obtain ⟨b0, b00, fv, m2, b1, b2, b3, b4, b5, b6⟩ := tf
    have hr2 : RF m2 := hr1.same (by rw [b2.2.2])
    have hh2 := hh1.ka b2
    have begin2 : n_X10_readFloor F s m 23 = FTL F s m2 (hFc h) (q32 (if (¬ f.1 ≤ hTop h * f.2) ∨ FAT h.2.2.2.1.2.1 h.2.2.2.1.2.2.1 f.1 f.2 (hFc h) 0 ≠ -1 then 1 else 0)) := by
      rw [begin1 m2 b1, b6, f41 hp hr2 f8 (U := h.2.2.2.1.2.1) (L := h.2.2.2.1.2.2.1) (fun k hk => ⟨(hh2.2.1 k hk).1, (hh2.2.1 k hk).2.1, by have := hpp.2.2.2.1.2.2.2.1 k hk; unfold FLR at this; omega⟩) ⟨fv.1, fv.2.1⟩ ⟨fv.2.2.1, fv.2.2.2⟩ b4 b5 (hFc h) F 0 _ (by omega) (by omega) (by split <;> omega)]
      congr 2
      by_cases c : f.1 ≤ hTop h * f.2
      · rw [if_pos c]
        congr 1
        exact propext ⟨fun hh => hh.elim (fun h => absurd h (by decide)) Or.inr, fun hh => hh.elim (fun h => absurd c h) Or.inr⟩
      · rw [if_neg c, if_pos (Or.inl rfl), if_pos (Or.inl c)]
    have i10 : n_X10_is s m2 23 (3 : Int32) = some (if kdT T N (tpos T N j) = 10 then q32 1 else q32 0) := is10 (s := s) b3.2.1 b3.2.2.1 (c := 10) (by decide) (by decide)
    have e10 := eat10 hF b3.1 b3.2.1 b3.2.2.1 (c := 10) (by decide) (by decide) (by decide)
    dsimp only
    by_cases c10 : kdF T N j = 10
    · have c10' : kdT T N (tpos T N j) = 10 := c10
      rw [if_pos c10]
      by_cases cw : (¬ f.1 ≤ hTop h * f.2) ∨ FAT h.2.2.2.1.2.1 h.2.2.2.1.2.2.1 f.1 f.2 (hFc h) 0 ≠ -1
      · rw [if_pos cw] at begin2
        obtain ⟨m3, d1, d2, d3⟩ := fai10a (s := s) b3.2.1 b3.2.2.1 (k := 3) (by omega)
        rw [if_neg (by omega)] at d3
        have d1' : n_X10_fails s m2 23 (3 : Int32) = some ((), m3) := d1
        have rd : n_X10_readFloor F s m 23 = some ((), m3) := by
          rw [begin2]
          unfold FTL n_X10_goesOn nb_X10_goesOn_0 nb_X10_goesOn_17
          rw [i10, if_pos c10', Option.bind_some, if_neg (show ¬ q32 1 = (0 : Int32) by decide), if_neg (show ¬ q32 1 = (0 : Int32) by decide), d1', bind2_s, eat10f d3, bind2_s, if_pos rfl, fai10f d3, bind2_s, bind2_s]
          exact f118f d3 3 F 0 (by omega) (by omega)
        have ff := flt 3 j m3 b00 rd (a2.kl.tr (b2.tr d2).kl) d3
        by_cases ct : f.1 ≤ hTop h * f.2
        · rw [if_pos ct]
          dsimp only
          rw [if_pos (cw.elim (fun hn => absurd ct hn) (fun hn => hn))]
          exact ff
        · rw [if_neg ct]
          exact ff
      · rw [if_neg cw] at begin2
        have ct : f.1 ≤ hTop h * f.2 := Classical.byContradiction fun hn => cw (Or.inl hn)
        rw [if_pos ct]
        dsimp only
        rw [if_neg (fun hn => cw (Or.inr hn))]
        have hj1 := hK.nx b00 (by omega) (by omega)
        obtain ⟨m3, d1, d2, d3⟩ := e10.1 c10
        have d1' : n_X10_eats F s m2 23 (3 : Int32) = some (q32 1, m3) := d1
        have hc3 : CN10 s m3 T N K (j + 1) := ⟨b3.1.x d2, d2.n11 b3.2.1, d3, hj1⟩
        have hr3 : RF m3 := hr2.same (by rw [d2.2])
        obtain ⟨g, hg⟩ : ∃ g, F = g + 5 + 1 + 1 + 1 := ⟨F - 8, by omega⟩
        have begin3 : n_X10_readFloor F s m 23 = nl_X10_readFloor_118 F s (g + 5 + 1 + 1 + 1) m3 23 (q32 (hFc h : Nat)) (q32 f.1) (q32 f.2) (q32 ((0 : Nat) : Int)) := by
          rw [begin2]
          unfold FTL n_X10_goesOn nb_X10_goesOn_0 nb_X10_goesOn_17
          rw [i10, if_pos c10', Option.bind_some, if_neg (show ¬ q32 1 = (0 : Int32) by decide), if_pos (show q32 0 = (0 : Int32) from rfl), d1', bind2_s, if_neg (show ¬ q32 1 = (0 : Int32) by decide), bind2_s, b4, b5, q64_32, q64_32, ← congrArg (nl_X10_readFloor_118 F s) hg]
          rfl
        have s0 := stf10 hF hp hr3 hK (z := 0) (fuel := g + 5 + 1 + 1) (fc := hFc h) (by omega) (by omega) (by omega) hc3 (v3 := q32 f.1) (v4 := q32 f.2)
        have kl3 : KL10 m m3 := a2.kl.tr (b2.kl.tr d2.kl)
        cases n0 : numW (kdF T N) (amF T N) (j + 1) 0 99 with
        | inl p =>
          obtain ⟨k, j'⟩ := p
          rw [n0] at s0
          obtain ⟨w0, m4, w1, w2, w3⟩ := s0
          exact flt k j' m4 w0 (by rw [begin3]; exact w1) (kl3.tr w2) w3
        | inr p =>
          obtain ⟨j0, x0⟩ := p
          rw [n0] at s0
          obtain ⟨u0, u00, u1, u2, m4, u3, u4, u5⟩ := s0
          generalize hM4 : wI m4 27 (25 + 8 * 0 + hFc h) (q32 x0) = M4 at *
          have hr4 : RF M4 := hr3.same (by rw [← hM4, wI_3, u3.2])
          have kl4 : KL10 m M4 := by rw [← hM4]; exact (kl3.tr u3.kl).tr KL10.I
          have s1 := stf10 hF hp hr4 hK (z := 1) (fuel := g + 5 + 1) (fc := hFc h) (by omega) (by omega) (by omega) u4 (v3 := q32 f.1) (v4 := q32 f.2)
          dsimp only
          cases n1 : numW (kdF T N) (amF T N) j0 0 99 with
          | inl p =>
            obtain ⟨k, j'⟩ := p
            rw [n1] at s1
            obtain ⟨w0, m5, w1, w2, w3⟩ := s1
            exact flt k j' m5 w0 (by rw [begin3, u5]; exact w1) (kl4.tr w2) w3
          | inr p =>
            obtain ⟨j1, x1⟩ := p
            rw [n1] at s1
            obtain ⟨v0, v00, v1, v2, m5, v3, v4, v5⟩ := s1
            generalize hM5 : wI m5 27 (25 + 8 * 1 + hFc h) (q32 x1) = M5 at *
            have hr5 : RF M5 := hr4.same (by rw [← hM5, wI_3, v3.2])
            have kl5 : KL10 m M5 := by rw [← hM5]; exact (kl4.tr v3.kl).tr KL10.I
            have s2 := stf10 hF hp hr5 hK (z := 2) (fuel := g + 5) (fc := hFc h) (by omega) (by omega) (by omega) v4 (v3 := q32 f.1) (v4 := q32 f.2)
            dsimp only
            cases n2 : numW (kdF T N) (amF T N) j1 0 99 with
            | inl p =>
              obtain ⟨k, j'⟩ := p
              rw [n2] at s2
              obtain ⟨w0, m6, w1, w2, w3⟩ := s2
              exact flt k j' m6 w0 (by rw [begin3, u5, v5]; exact w1) (kl5.tr w2) w3
            | inr p =>
              obtain ⟨j2, x2⟩ := p
              rw [n2] at s2
              obtain ⟨t0, t00, t1, t2, m6, t3, t4, t5⟩ := s2
              generalize hM6 : wI m6 27 (25 + 8 * 2 + hFc h) (q32 x2) = M6 at *
              have kl6 : KL10 m M6 := by rw [← hM6]; exact (kl5.tr t3.kl).tr KL10.I
              have r46 : M6.2.2 23 4 = some 27 := by rw [kl6.2.2]; exact r4
              have V : ∀ k, k ≠ 25 + hFc h → k ≠ 33 + hFc h → k ≠ 41 + hFc h → M6.1 27 k = m2.1 27 k := fun k p1 p2 p3 => by
                rw [← hM6, wI_n (by omega), t3.m27, ← hM5, wI_n (by omega), v3.m27, ← hM4, wI_n (by omega), u3.m27, d2.m27]
              have V0 : M6.1 27 (25 + hFc h) = q32 x0 := by
                rw [← hM6, wI_n (by omega), t3.m27, ← hM5, wI_n (by omega), v3.m27, ← hM4]
                exact wI_s ..
              have V1 : M6.1 27 (33 + hFc h) = q32 x1 := by
                rw [← hM6, wI_n (by omega), t3.m27, ← hM5]
                exact wI_s ..
              have V2 : M6.1 27 (41 + hFc h) = q32 x2 := by
                rw [← hM6]
                exact wI_s ..
              have e9 : (9 : Int32) + q32 (hFc h : Nat) = q32 ((9 + hFc h : Nat) : Int) := by rw [show (9 : Int32) = q32 9 from rfl, q32_add, Int.natCast_add]; rfl
              have e17 : (17 : Int32) + q32 (hFc h : Nat) = q32 ((17 + hFc h : Nat) : Int) := by rw [show (17 : Int32) = q32 17 from rfl, q32_add, Int.natCast_add]; rfl
              have e1 : q32 (hFc h : Int) + 1 = q32 ((hFc h + 1 : Nat) : Int) := by rw [show (1 : Int32) = q32 1 from rfl, q32_add, Int.natCast_add]; rfl
              have e11 := t4.2.1
              have rd : n_X10_readFloor F s m 23 = some ((), wI (wI (wI M6 27 (9 + hFc h) (q32 f.1)) 27 (17 + hFc h) (q32 f.2)) 27 3 (q32 ((hFc h + 1 : Nat) : Int))) := by
                rw [begin3, u5, v5, t5]
                show nb_X10_readFloor_118 F s (nl_X10_readFloor_118 F s (g + 4)) M6 23 _ _ _ _ = _
                unfold nb_X10_readFloor_118
                rw [if_pos (show (3 : Int32) ≤ q32 ((2 + 1 : Nat) : Int) by decide), e11, if_pos (show q32 0 = (0 : Int32) from rfl), r46, Option.bind_some, e9, stI_q (by omega) (by omega), Option.bind_some, wI_3, r46, Option.bind_some, e17, stI_q (by omega) (by omega), Option.bind_some, wI_3, wI_3, r46, Option.bind_some, rdI_c 3 (by omega) (by omega), Option.bind_some, wI_n (by omega), wI_n (by omega), V 3 (by omega) (by omega) (by omega), hh2.1.2.2.2.1, e1, stI_c 3 (by omega) (by omega), Option.bind_some]
              obtain ⟨⟨q0, q1, q2, q3, q4, q5, q6, q7, q8⟩, fl, t, b, c, gg, g73⟩ := hh2
              have Y : ∀ k, k ≠ 3 → k ≠ 9 + hFc h → k ≠ 17 + hFc h → (wI (wI (wI (wI M6 27 (9 + hFc h) (q32 f.1)) 27 (17 + hFc h) (q32 f.2)) 27 3 (q32 ((hFc h + 1 : Nat) : Int))) 23 18 (q32 1)).1 27 k = M6.1 27 k := fun k p1 p2 p3 => by rw [wI_n (by omega), wI_n (by omega), wI_n (by omega), wI_n (by omega)]
              have Q : ∀ k, k < 9 → k ≠ 3 → (wI (wI (wI (wI M6 27 (9 + hFc h) (q32 f.1)) 27 (17 + hFc h) (q32 f.2)) 27 3 (q32 ((hFc h + 1 : Nat) : Int))) 23 18 (q32 1)).1 27 k = m2.1 27 k := fun k p1 p2 => by rw [Y k p2 (by omega) (by omega), V k (by omega) (by omega) (by omega)]
              refine ⟨by omega, t00, wI (wI (wI (wI M6 27 (9 + hFc h) (q32 f.1)) 27 (17 + hFc h) (q32 f.2)) 27 3 (q32 ((hFc h + 1 : Nat) : Int))) 23 18 (q32 1), by rw [rd, pz], (((kl6.tr KL10.I).tr KL10.I).tr KL10.I).tr KL10.Z, (((t4.I (Or.inl rfl)).I (Or.inl rfl)).I (Or.inl rfl)).I (Or.inr ⟨rfl, rfl⟩), ⟨by rw [Q 0 (by omega) (by omega)]; exact q0, by rw [Q 1 (by omega) (by omega)]; exact q1, by rw [Q 2 (by omega) (by omega)]; exact q2, ?_, by rw [Q 4 (by omega) (by omega)]; exact q4, by rw [Q 5 (by omega) (by omega)]; exact q5, by rw [Q 6 (by omega) (by omega)]; exact q6, by rw [Q 7 (by omega) (by omega)]; exact q7, by rw [Q 8 (by omega) (by omega)]; exact q8⟩, fun k hk => ?_, fun k hk => ?_, fun k hk => ?_, ⟨?_, fun k hk => ?_⟩, ?_, by rw [Y 73 (by omega) (by omega) (by omega), V 73 (by omega) (by omega) (by omega)]; exact g73⟩
              · rw [wI_n (by omega), wI_s]; rfl
              · have hk' : k < hFc h + 1 := hk
                show _ = q32 (insI h.2.2.2.1.2.1 (hFc h) f.1 k) ∧ _ = q32 (insI h.2.2.2.1.2.2.1 (hFc h) f.2 k) ∧ ∀ z, z < 3 → _ = q32 ((insX h.2.2.2.1.2.2.2.1 (hFc h) (fun z => if z = 0 then x0.toNat else if z = 1 then x1.toNat else x2.toNat) k z : Nat) : Int)
                unfold insI insX
                by_cases ck : k = hFc h
                · refine ⟨?_, ?_, fun z hz => ?_⟩
                  · rw [if_pos ck, ck, wI_n (by omega), wI_n (by omega), wI_n (by omega), wI_s]
                  · rw [if_pos ck, ck, wI_n (by omega), wI_n (by omega), wI_s]
                  · rw [if_pos ck, ck, Y _ (by omega) (by omega) (by omega)]
                    rcases (show z = 0 ∨ z = 1 ∨ z = 2 by omega) with rfl | rfl | rfl
                    · show M6.1 27 _ = q32 ((x0.toNat : Nat) : Int)
                      rw [Int.toNat_of_nonneg u1]; exact V0
                    · show M6.1 27 _ = q32 ((x1.toNat : Nat) : Int)
                      rw [Int.toNat_of_nonneg v1]; exact V1
                    · show M6.1 27 _ = q32 ((x2.toNat : Nat) : Int)
                      rw [Int.toNat_of_nonneg t1]; exact V2
                · have := fl k (by omega)
                  refine ⟨?_, ?_, fun z hz => ?_⟩
                  · rw [if_neg ck, Y _ (by omega) (by omega) (by omega), V _ (by omega) (by omega) (by omega)]; exact this.1
                  · rw [if_neg ck, Y _ (by omega) (by omega) (by omega), V _ (by omega) (by omega) (by omega)]; exact this.2.1
                  · rw [if_neg ck, Y _ (by omega) (by omega) (by omega), V _ (by omega) (by omega) (by omega)]; exact this.2.2 z hz
              · have : k < hTc h := hk
                rw [Y _ (by omega) (by omega) (by omega), Y _ (by omega) (by omega) (by omega), V _ (by omega) (by omega) (by omega), V _ (by omega) (by omega) (by omega)]; exact t k hk
              · rw [Y _ (by omega) (by omega) (by omega), Y _ (by omega) (by omega) (by omega), V _ (by omega) (by omega) (by omega), V _ (by omega) (by omega) (by omega)]; exact b k hk
              · rw [Y _ (by omega) (by omega) (by omega), V _ (by omega) (by omega) (by omega)]; exact c.1
              · rw [Y _ (by omega) (by omega) (by omega), V _ (by omega) (by omega) (by omega)]; exact c.2 k hk
              · have : 0 < hFc (sFlo h f (fun z => if z = 0 then x0.toNat else if z = 1 then x1.toNat else x2.toNat)) := Nat.succ_pos _
                rw [wI_s, if_pos (Or.inr (Or.inl this))]
    · have c10' : ¬ kdT T N (tpos T N j) = 10 := c10
      rw [if_neg c10]
      dsimp only
      have d1' : n_X10_eats F s m2 23 (3 : Int32) = some (q32 0, m2) := e10.2 c10
      obtain ⟨m3, g1, g2, g3⟩ := fai10a (s := s) b3.2.1 b3.2.2.1 (k := 2) (by omega)
      have g1' : n_X10_fails s m2 23 (2 : Int32) = some ((), m3) := g1
      refine flt (csF (kdF T N) j) j m3 b00 ?_ (a2.kl.tr (b2.tr g2).kl) g3
      rw [begin2]
      unfold FTL n_X10_goesOn nb_X10_goesOn_0 nb_X10_goesOn_17
      rw [i10, if_neg c10', Option.bind_some, if_pos (show q32 0 = (0 : Int32) from rfl), d1', bind2_s, if_pos (show q32 0 = (0 : Int32) from rfl), g1', bind2_s, bind2_s]
      exact f118f g3 3 F 0 (by omega) (by omega)
