def CND (s : List Sh) (m : Mem) (T : Nat → Int) (N K i : Nat) (out : List Int) (sl : Nat) : Prop := TXR s m N T ∧ RF m ∧ m.1 23 11 = q32 0 ∧ RST m T N (tpos T N i) ∧ CDE10 m out ∧ i < K ∧ out.length + sl ≤ i
def RDR (T : Nat → Int) (N K : Nat) (m : Mem) (out : List Int) (sl i : Nat) (res : PRZ) (o : Option (Unit × Mem)) : Prop := match res with
  | .inl (k, j) => j < K ∧ ∃ m', o = some ((), m') ∧ KS10 m m' ∧ FLT10 m' k (tpos T N j)
  | .inr (j, c) => i ≤ j ∧ j < K ∧ (out ++ c).length + sl ≤ j ∧ ∃ m', o = some ((), m') ∧ KS10 m m' ∧ m'.1 23 11 = q32 0 ∧ RST m' T N (tpos T N j) ∧ CDE10 m' (out ++ c)
/-- the text's tokens end at K -/
def TKE (T : Nat → Int) (N K : Nat) : Prop := (∀ k, k < N → 0 ≤ T k ∧ T k < 256) ∧ K ≤ 901 ∧ (kdF T N (K - 1) = 0 ∨ kdF T N (K - 1) = 1) ∧ ∀ j, j + 1 < K → tpos T N j < N
theorem TKE.nx {T : Nat → Int} {N K : Nat} (h : TKE T N K) {i : Nat} (hi : i < K) (h0 : kdF T N i ≠ 0) (h1 : kdF T N i ≠ 1) : i + 1 < K := by
  rcases Nat.lt_or_ge (i + 1) K with h' | h'
  · exact h'
  · have : i = K - 1 := by omega
    rw [this] at h0 h1
    exact (h.2.2.1.elim h0 h1).elim
theorem CND.go {s : List Sh} {m m' : Mem} {T : Nat → Int} {N K i j : Nat} {out out' : List Int} {sl sl' : Nat} (h : CND s m T N K i out sl) (e : KS10 m m') (h0 : m'.1 23 11 = q32 0) (hs : RST m' T N (tpos T N j)) (hc : CDE10 m' out') (hj : j < K) (hl : out'.length + sl' ≤ j) : CND s m' T N K j out' sl' := ⟨h.1.ks e, h.2.1.same (by rw [e.2]), h0, hs, hc, hj, hl⟩
theorem KX.cde {m m' : Mem} (h : KX m m') {out : List Int} (hc : CDE10 m out) : CDE10 m' out := ⟨by rw [h.1 _ _ (by omega)]; exact hc.1, fun i hi => by rw [h.1 _ _ (by omega)]; exact hc.2 i hi⟩
theorem KX.n11 {m m' : Mem} (h : KX m m') (h0 : m.1 23 11 = q32 0) : m'.1 23 11 = q32 0 := by rw [h.1 _ _ (by omega)]; exact h0
def SUM10 (s : List Sh) (T : Nat → Int) (N K : Nat) (rc : Nat → Nat → PRZ) (nrc : Mem → Nat → Int32 → Option (Unit × Mem)) (lo : Nat) : Prop := ∀ nest i out sl m, lo ≤ nest → nest ≤ 6 → CND s m T N K i out sl → RDR T N K m out sl i (rc nest i) (nrc m 23 (q32 (nest : Nat)))
theorem fail_at {s : List Sh} {m : Mem} {T : Nat → Int} {N K i : Nat} {out : List Int} {sl : Nat} (h : CND s m T N K i out sl) : ∃ m', n_X10_fails s m 23 (2 : Int32) = some ((), m') ∧ KS10 m m' ∧ FLT10 m' (csF (kdF T N) i) (tpos T N i) := by
  obtain ⟨m', a1, a2, a3⟩ := fai10 (s := s) h.2.2.1 h.2.2.2.1 (k := 2) (by omega)
  exact ⟨m', a1, a2, a3⟩
theorem atm10 {F : Nat} (hF : 20000 ≤ F) {s : List Sh} (hp : ∃ t, s = sB ++ t) {T : Nat → Int} {N K : Nat} (hK : TKE T N K) {rc : Nat → Nat → PRZ} {nrc : Mem → Nat → Int32 → Option (Unit × Mem)} {lo : Nat} (hrc : SUM10 s T N K rc nrc lo) {nest i : Nat} (hlo : lo ≤ nest + 1) (hn : nest ≤ 6) {out : List Int} {sl : Nat} {m : Mem} (h : CND s m T N K i out sl) : RDR T N K m out sl (i + 1) (ATMp (kdF T N) (amF T N) rc nest i) (ng_X10_readAtom nrc F s m 23 (q32 (nest : Nat))) := by
  obtain ⟨hx, hr, h0, hs, hc, hi, hl⟩ := id h
  have i16 := is10 (s := s) h0 hs (c := 2) (by decide) (by decide)
  have e11 := eat10 hF hx h0 hs (c := 11) (by decide) (by decide) (by decide)
  have e4 := eat10 hF hx h0 hs (c := 4) (by decide) (by decide) (by decide)
  have i40 := is10 (s := s) h0 hs (c := 40) (by decide) (by decide)
  have k9 := hK.2.1
  show RDR T N K m out sl (i + 1) _ (nb_X10_readAtom_0 nrc F s m 23 (q32 (nest : Nat)))
  unfold ATMp nb_X10_readAtom_0
  have i16' : n_X10_is s m 23 (16 : Int32) = some (if kdT T N (tpos T N i) = 2 then q32 1 else q32 0) := i16
  have i40' : n_X10_is s m 23 (26 : Int32) = some (if kdT T N (tpos T N i) = 40 then q32 1 else q32 0) := i40
  rw [i16', Option.bind_some]
  by_cases c2 : kdF T N i = 2
  · have c2' : kdT T N (tpos T N i) = 2 := c2
    have hi1 := hK.nx hi (by omega) (by omega)
    have hpN := hK.2.2.2 i hi1
    have ab := amT_b hK.1 hpN c2'
    rw [if_pos c2, if_pos c2', if_neg (by decide), hs.2.2.2.2 c2']
    obtain ⟨m1, a1, a2, a3, a4⟩ := tel10 hp hr h0 hc (by omega) (x := amT T N (tpos T N i)) (y := q32 (amT T N (tpos T N i))) (by unfold cx; rw [if_neg (by omega), if_neg (by omega), if_neg (by omega), if_neg (by omega), if_neg (by omega), if_neg (by omega)])
    obtain ⟨m2, b1, b2, b3⟩ := step10 hF (hx.ks a2) (hs.k a4) hpN
    refine ⟨Nat.le_refl _, hi1, by rw [List.length_append, List.length_singleton]; omega, m2, ?_, a2.tr b2.ks, b2.n11 (by rw [a4]; exact h0), b3, b2.cde a3⟩
    rw [a1, bind2_s, b1, bind2_s]
  · have c2' : ¬ kdT T N (tpos T N i) = 2 := c2
    rw [if_neg c2, if_neg c2', if_pos (show q32 0 = (0 : Int32) from rfl)]
    by_cases c11 : kdF T N i = 11
    · have hi1 := hK.nx hi (by omega) (by omega)
      obtain ⟨m1, a1, a2, a3⟩ := e11.1 c11
      have a1' : n_X10_eats F s m 23 (7 : Int32) = some (q32 1, m1) := a1
      obtain ⟨m2, b1, b2, b3, b4⟩ := tel10 hp (hr.same (by rw [a2.2])) (a2.n11 h0) (a2.cde hc) (by omega) (x := -1) (y := (1000 : Int32)) rfl
      rw [if_pos c11]
      refine ⟨Nat.le_refl _, hi1, by rw [List.length_append, List.length_singleton]; omega, m2, ?_, a2.ks.tr b2, by rw [b4]; exact a2.n11 h0, a3.k b4, b3⟩
      rw [a1', bind2_s, if_neg (by decide), b1, bind2_s]
    · have a1' : n_X10_eats F s m 23 (7 : Int32) = some (q32 0, m) := e11.2 c11
      rw [if_neg c11, a1', bind2_s, if_pos (show q32 0 = (0 : Int32) from rfl)]
      by_cases c4 : kdF T N i = 4
      · have hi1 := hK.nx hi (by omega) (by omega)
        obtain ⟨m1, a1, a2, a3⟩ := e4.1 c4
        have a1'' : n_X10_eats F s m 23 (0 : Int32) = some (q32 1, m1) := a1
        obtain ⟨m2, b1, b2, b3, b4⟩ := tel10 hp (hr.same (by rw [a2.2])) (a2.n11 h0) (a2.cde hc) (by omega) (x := -2) (y := (1001 : Int32)) rfl
        rw [if_pos c4]
        refine ⟨Nat.le_refl _, hi1, by rw [List.length_append, List.length_singleton]; omega, m2, ?_, a2.ks.tr b2, by rw [b4]; exact a2.n11 h0, a3.k b4, b3⟩
        rw [a1'', bind2_s, if_neg (by decide), b1, bind2_s]
      · have a1'' : n_X10_eats F s m 23 (0 : Int32) = some (q32 0, m) := e4.2 c4
        rw [if_neg c4, a1'', bind2_s, if_pos (show q32 0 = (0 : Int32) from rfl), i40', Option.bind_some]
        by_cases c40 : kdF T N i = 40
        · have c40' : kdT T N (tpos T N i) = 40 := c40
          have hi1 := hK.nx hi (by omega) (by omega)
          have hpN := hK.2.2.2 i hi1
          rw [if_pos c40, if_pos c40', if_neg (show ¬ q32 1 = (0 : Int32) by decide)]
          by_cases cn : 6 ≤ nest
          · have en : nest = 6 := by omega
            rw [if_pos cn, en, if_pos (show q32 ((6 : Nat) : Int) = (6 : Int32) by decide)]
            obtain ⟨m1, a1, a2, a3⟩ := fai10 (s := s) h0 hs (k := 4) (by omega)
            rw [if_neg (by omega)] at a3
            have a1f : n_X10_fails s m 23 (4 : Int32) = some ((), m1) := a1
            refine ⟨hi, m1, ?_, a2, a3⟩
            unfold nb_X10_readAtom_81
            rw [a1f, bind2_s, if_neg (flt_ne a3)]
          · rw [if_neg cn, if_neg (by rw [show (6 : Int32) = q32 6 from rfl, q32_eq_f (by omega)]; exact fun h => h)]
            obtain ⟨m1, a1, a2, a3⟩ := step10 hF hx hs hpN
            have cd1 := h.go (j := i + 1) (out' := out) (sl' := sl + 1) a2.ks (a2.n11 h0) a3 (a2.cde hc) hi1 (by omega)
            have rr := hrc (nest + 1) (i + 1) out (sl + 1) m1 hlo (by omega) cd1
            have ne1 : q32 (nest : Int) + 1 = q32 ((nest + 1 : Nat) : Int) := by rw [show (1 : Int32) = q32 1 from rfl, q32_add, Int.natCast_add]; rfl
            unfold nb_X10_readAtom_81
            rw [h0, if_pos (show q32 0 = (0 : Int32) from rfl), a1, bind2_s, ne1]
            cases hres : rc (nest + 1) (i + 1) with
            | inl p =>
              obtain ⟨k, j⟩ := p
              rw [hres] at rr
              obtain ⟨d1, m2, d2, d3, d4⟩ := rr
              refine ⟨d1, m2, ?_, a2.ks.tr d3, d4⟩
              rw [d2, bind2_s, eat10f d4, bind2_s, if_pos rfl, fai10f d4, bind2_s]
            | inr p =>
              obtain ⟨j, c⟩ := p
              rw [hres] at rr
              obtain ⟨d0, d1, dl, m2, d2, d3, d4, d5, d6⟩ := rr
              have cd2 := cd1.go (j := j) (out' := out ++ c) (sl' := sl + 1) d3 d4 d5 d6 d1 dl
              have e41 := eat10 hF cd2.1 d4 d5 (c := 41) (by decide) (by decide) (by decide)
              dsimp only
              by_cases c41 : kdF T N j = 41
              · have hj1 := hK.nx d1 (by omega) (by omega)
                obtain ⟨m3, f1, f2, f3⟩ := e41.1 c41
                have f1' : n_X10_eats F s m2 23 (27 : Int32) = some (q32 1, m3) := f1
                rw [if_pos c41]
                refine ⟨by omega, hj1, by omega, m3, ?_, (a2.ks.tr d3).tr f2.ks, f2.n11 d4, f3, f2.cde d6⟩
                rw [d2, bind2_s, f1', bind2_s, if_neg (by decide)]
              · have f1' : n_X10_eats F s m2 23 (27 : Int32) = some (q32 0, m2) := e41.2 c41
                rw [if_neg c41]
                obtain ⟨m3, g1, g2, g3⟩ := fail_at cd2
                refine ⟨d1, m3, ?_, (a2.ks.tr d3).tr g2, g3⟩
                rw [d2, bind2_s, f1', bind2_s, if_pos (show q32 0 = (0 : Int32) from rfl), g1, bind2_s]
        · have c40' : ¬ kdT T N (tpos T N i) = 40 := c40
          rw [if_neg c40, if_neg c40', if_pos (show q32 0 = (0 : Int32) from rfl)]
          obtain ⟨m1, a1, a2, a3⟩ := fail_at h
          exact ⟨hi, m1, by rw [a1, bind2_s], a2, a3⟩
theorem trl10 {F : Nat} (hF : 20000 ≤ F) {s : List Sh} (hp : ∃ t, s = sB ++ t) {T : Nat → Int} {N K : Nat} (hK : TKE T N K) {rc : Nat → Nat → PRZ} {nrc : Mem → Nat → Int32 → Option (Unit × Mem)} {lo : Nat} (hrc : SUM10 s T N K rc nrc lo) {nest : Nat} (hlo : lo ≤ nest + 1) (hn : nest ≤ 6) {out : List Int} {sl : Nat} : ∀ n i fuel g c, K - i ≤ n → n < fuel → K - i ≤ g → ∀ m : Mem, CND s m T N K i (out ++ c) sl → RDR T N K m out sl i (TRLp (kdF T N) (amF T N) rc nest g i c) (nl_X10_readTerm_5 nrc F s fuel m 23 (q32 (nest : Nat))) := by
  intro n
  induction n with
  | zero => intro i fuel g c h1 h2 h3 m h; have := h.2.2.2.2.2.1; omega
  | succ n ih =>
    intro i fuel g c hf hfu hg m h
    obtain ⟨fuel, rfl⟩ : ∃ f, fuel = f + 1 := ⟨fuel - 1, by omega⟩
    obtain ⟨hx, hr, h0, hs, hc, hi, hl⟩ := id h
    obtain ⟨g, rfl⟩ : ∃ f, g = f + 1 := ⟨g - 1, by omega⟩
    have k9 := hK.2.1
    have i42 : n_X10_is s m 23 (24 : Int32) = some (if kdT T N (tpos T N i) = 42 then q32 1 else q32 0) := is10 (s := s) h0 hs (c := 42) (by decide) (by decide)
    have i47 : n_X10_is s m 23 (25 : Int32) = some (if kdT T N (tpos T N i) = 47 then q32 1 else q32 0) := is10 (s := s) h0 hs (c := 47) (by decide) (by decide)
    have h9 := hs.2.2.2.1
    show RDR T N K m out sl i _ (nb_X10_readTerm_5 nrc F s (nl_X10_readTerm_5 nrc F s fuel) m 23 (q32 (nest : Nat)))
    unfold TRLp nb_X10_readTerm_5
    by_cases ck : kdF T N i = 42 ∨ kdF T N i = 47
    · rw [if_pos ck]
      have hi1 := hK.nx hi (by omega) (by omega)
      have hpN := hK.2.2.2 i hi1
      obtain ⟨m1, a1, a2, a3⟩ := step10 hF hx hs hpN
      have cd1 := h.go (j := i + 1) (out' := out ++ c) (sl' := sl + 1) a2.ks (a2.n11 h0) a3 (a2.cde hc) hi1 (by omega)
      have at1 := atm10 hF hp hK hrc (i := i + 1) hlo hn cd1
      have eq : ∃ y : Int32, y = q32 (cx (opF (kdF T N i))) ∧ ((n_X10_is s m 23 (24 : Int32)).bind fun x1 => (if x1 = 0 then ((n_X10_is s m 23 (25 : Int32)).bind fun x2 => (if x2 = 0 then (some ((), m)) else (nb_X10_readTerm_23 nrc F s (nl_X10_readTerm_5 nrc F s fuel) m 23 (q32 (nest : Nat))))) else (nb_X10_readTerm_23 nrc F s (nl_X10_readTerm_5 nrc F s fuel) m 23 (q32 (nest : Nat))))) = nb_X10_readTerm_41 nrc F s (nl_X10_readTerm_5 nrc F s fuel) m 23 (q32 (nest : Nat)) y := by
        rcases ck with e | e
        · have e' : kdT T N (tpos T N i) = 42 := e
          refine ⟨(3002 : Int32), by rw [e]; rfl, ?_⟩
          rw [i42, if_pos e', Option.bind_some, if_neg (by decide)]
          unfold nb_X10_readTerm_23
          rw [h9, e', if_pos (by decide)]
        · have e' : kdT T N (tpos T N i) = 47 := e
          refine ⟨(3003 : Int32), by rw [e]; rfl, ?_⟩
          rw [i42, if_neg (by omega), Option.bind_some, if_pos (show q32 0 = (0 : Int32) from rfl), i47, if_pos e', Option.bind_some, if_neg (by decide)]
          unfold nb_X10_readTerm_23
          rw [h9, e', if_neg (by decide)]
      obtain ⟨y, ey, eq⟩ := eq
      rw [eq]
      unfold nb_X10_readTerm_41
      rw [a1, bind2_s]
      cases hres : ATMp (kdF T N) (amF T N) rc nest (i + 1) with
      | inl p =>
        obtain ⟨k, j⟩ := p
        rw [hres] at at1
        obtain ⟨d1, m2, d2, d3, d4⟩ := at1
        refine ⟨d1, m2, ?_, a2.ks.tr d3, d4⟩
        rw [d2, bind2_s, tel10f d4, bind2_s]
        obtain ⟨f2, rfl⟩ : ∃ f2, fuel = f2 + 1 := ⟨fuel - 1, by omega⟩
        show nb_X10_readTerm_5 nrc F s (nl_X10_readTerm_5 nrc F s f2) m2 23 _ = _
        unfold nb_X10_readTerm_5
        rw [is10f d4, Option.bind_some, if_pos rfl, is10f d4, Option.bind_some, if_pos rfl]
      | inr p =>
        obtain ⟨j, a⟩ := p
        rw [hres] at at1
        obtain ⟨d0, d1, dl, m2, d2, d3, d4, d5, d6⟩ := at1
        obtain ⟨m3, b1, b2, b3, b4⟩ := tel10 hp (hr.same (by rw [d3.2, a2.2])) d4 d6 (by omega) (x := opF (kdF T N i)) ey
        have cd3 : CND s m3 T N K j (out ++ (c ++ a ++ [opF (kdF T N i)])) sl := cd1.go (d3.tr b2) (by rw [b4]; exact d4) (d5.k b4) (by rw [← List.append_assoc, ← List.append_assoc]; exact b3) d1 (by rw [← List.append_assoc, ← List.append_assoc, List.length_append (bs := [opF (kdF T N i)]), List.length_singleton]; omega)
        have rr := ih j fuel g (c ++ a ++ [opF (kdF T N i)]) (by omega) (by omega) (by omega) m3 cd3
        dsimp only
        have e3 : (bind2 (ng_X10_readAtom nrc F s m1 23 (q32 (nest : Nat))) fun _ m4 => (bind2 (n_X10_tellsCode s m4 23 y) fun _ m6 => (nl_X10_readTerm_5 nrc F s fuel m6 23 (q32 (nest : Nat))))) = nl_X10_readTerm_5 nrc F s fuel m3 23 (q32 (nest : Nat)) := by
          rw [d2, bind2_s, b1, bind2_s]
        rw [e3]
        have kk : KS10 m m3 := (a2.ks.tr d3).tr b2
        cases hres2 : TRLp (kdF T N) (amF T N) rc nest g j (c ++ a ++ [opF (kdF T N i)]) with
        | inl p =>
          obtain ⟨k, j2⟩ := p
          rw [hres2] at rr
          obtain ⟨z1, m4, z2, z3, z4⟩ := rr
          exact ⟨z1, m4, z2, kk.tr z3, z4⟩
        | inr p =>
          obtain ⟨j2, c2⟩ := p
          rw [hres2] at rr
          obtain ⟨z0, z1, zl, m4, z2, z3, z4⟩ := rr
          exact ⟨by omega, z1, zl, m4, z2, kk.tr z3, z4⟩
    · rw [if_neg ck]
      have n42 : ¬ kdT T N (tpos T N i) = 42 := fun e => ck (Or.inl e)
      have n47 : ¬ kdT T N (tpos T N i) = 47 := fun e => ck (Or.inr e)
      refine ⟨Nat.le_refl _, hi, hl, m, ?_, KS10.rf m, h0, hs, hc⟩
      rw [i42, if_neg n42, Option.bind_some, if_pos (show q32 0 = (0 : Int32) from rfl), i47, if_neg n47, Option.bind_some, if_pos (show q32 0 = (0 : Int32) from rfl)]
