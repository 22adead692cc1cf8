theorem trm10 {F : Nat} (hF : 20000 ≤ F) {s : List Sh} (hp : ∃ t, s = sB ++ t) {T : Nat → Int} {N K g : Nat} (hg : K ≤ g) (hK : TKE T N K) {rc : Nat → Nat → PRZ} {nrc : Mem → Nat → Int32 → Option (Unit × Mem)} {lo : Nat} (hrc : SUM10 s T N K rc nrc lo) {nest i : Nat} (hlo : lo ≤ nest + 1) (hn : nest ≤ 6) {out : List Int} {sl : Nat} {m : Mem} (h : CND s m T N K i out sl) : RDR T N K m out sl (i + 1) (TRMp (kdF T N) (amF T N) rc g nest i) (ng_X10_readTerm nrc F s m 23 (q32 (nest : Nat))) := by
  have at1 := atm10 hF hp hK hrc (i := i) hlo hn h
  have k9 := hK.2.1
  show RDR T N K m out sl (i + 1) _ (nb_X10_readTerm_0 nrc F s m 23 (q32 (nest : Nat)))
  unfold TRMp nb_X10_readTerm_0
  cases hres : ATMp (kdF T N) (amF T N) rc nest i with
  | inl p =>
    obtain ⟨k, j⟩ := p
    rw [hres] at at1
    obtain ⟨d1, m2, d2, d3, d4⟩ := at1
    refine ⟨d1, m2, ?_, d3, d4⟩
    rw [d2, bind2_s]
    obtain ⟨f2, rfl⟩ : ∃ f2, F = f2 + 1 := ⟨F - 1, by omega⟩
    show nb_X10_readTerm_5 nrc (f2 + 1) s (nl_X10_readTerm_5 nrc (f2 + 1) s f2) m2 23 _ = _
    unfold nb_X10_readTerm_5
    rw [is10f d4, Option.bind_some, if_pos rfl, is10f d4, Option.bind_some, if_pos rfl]
  | inr p =>
    obtain ⟨j, a⟩ := p
    rw [hres] at at1
    obtain ⟨d0, d1, dl, m2, d2, d3, d4, d5, d6⟩ := at1
    have cd2 : CND s m2 T N K j (out ++ a) sl := h.go d3 d4 d5 d6 d1 dl
    have rr := trl10 hF hp hK hrc hlo hn (out := out) K j F g a (by omega) (by omega) (by omega) m2 cd2
    dsimp only
    rw [d2, bind2_s]
    cases hres2 : TRLp (kdF T N) (amF T N) rc nest g j a with
    | inl p =>
      obtain ⟨k, j2⟩ := p
      rw [hres2] at rr
      obtain ⟨z1, m4, z2, z3, z4⟩ := rr
      exact ⟨z1, m4, z2, d3.tr z3, z4⟩
    | inr p =>
      obtain ⟨j2, c2⟩ := p
      rw [hres2] at rr
      obtain ⟨z0, z1, zl, m4, z2, z3, z4⟩ := rr
      exact ⟨by omega, z1, zl, m4, z2, d3.tr z3, z4⟩
theorem sul10 {F : Nat} (hF : 20000 ≤ F) {s : List Sh} (hp : ∃ t, s = sB ++ t) {T : Nat → Int} {N K gg : Nat} (hgg : K ≤ gg) (hK : TKE T N K) {rc : Nat → Nat → PRZ} {nrc : Mem → Nat → Int32 → Option (Unit × Mem)} {lo : Nat} (hrc : SUM10 s T N K rc nrc lo) {nest : Nat} (hlo : lo ≤ nest + 1) (hn : nest ≤ 6) {out : List Int} {sl : Nat} : ∀ n i fuel g c, K - i ≤ n → n < fuel → K - i ≤ g → ∀ m : Mem, CND s m T N K i (out ++ c) sl → RDR T N K m out sl i (SULp (kdF T N) (amF T N) rc gg nest g i c) (nl_X10_readSum_5 nrc F s fuel m 23 (q32 (nest : Nat))) := by
  intro n
  induction n with
  | zero => intro i fuel g c h1 h2 h3 m h; have := h.2.2.2.2.2.1; omega
  | succ n ih =>
    intro i fuel g c hf hfu hg m h
    obtain ⟨fuel, rfl⟩ : ∃ f, fuel = f + 1 := ⟨fuel - 1, by omega⟩
    obtain ⟨hx, hr, h0, hs, hc, hi, hl⟩ := id h
    obtain ⟨g, rfl⟩ : ∃ f, g = f + 1 := ⟨g - 1, by omega⟩
    have k9 := hK.2.1
    have i42 : n_X10_is s m 23 (22 : Int32) = some (if kdT T N (tpos T N i) = 43 then q32 1 else q32 0) := is10 (s := s) h0 hs (c := 43) (by decide) (by decide)
    have i47 : n_X10_is s m 23 (23 : Int32) = some (if kdT T N (tpos T N i) = 45 then q32 1 else q32 0) := is10 (s := s) h0 hs (c := 45) (by decide) (by decide)
    have h9 := hs.2.2.2.1
    show RDR T N K m out sl i _ (nb_X10_readSum_5 nrc F s (nl_X10_readSum_5 nrc F s fuel) m 23 (q32 (nest : Nat)))
    unfold SULp nb_X10_readSum_5
    by_cases ck : kdF T N i = 43 ∨ kdF T N i = 45
    · rw [if_pos ck]
      have hi1 := hK.nx hi (by omega) (by omega)
      have hpN := hK.2.2.2 i hi1
      obtain ⟨m1, a1, a2, a3⟩ := step10 hF hx hs hpN
      have cd1 := h.go (j := i + 1) (out' := out ++ c) (sl' := sl + 1) a2.ks (a2.n11 h0) a3 (a2.cde hc) hi1 (by omega)
      have at1 := trm10 hF hp hgg hK hrc (i := i + 1) hlo hn cd1
      have eq : ∃ y : Int32, y = q32 (cx (opF (kdF T N i))) ∧ ((n_X10_is s m 23 (22 : Int32)).bind fun x1 => (if x1 = 0 then ((n_X10_is s m 23 (23 : Int32)).bind fun x2 => (if x2 = 0 then (some ((), m)) else (nb_X10_readSum_23 nrc F s (nl_X10_readSum_5 nrc F s fuel) m 23 (q32 (nest : Nat))))) else (nb_X10_readSum_23 nrc F s (nl_X10_readSum_5 nrc F s fuel) m 23 (q32 (nest : Nat))))) = nb_X10_readSum_41 nrc F s (nl_X10_readSum_5 nrc F s fuel) m 23 (q32 (nest : Nat)) y := by
        rcases ck with e | e
        · have e' : kdT T N (tpos T N i) = 43 := e
          refine ⟨(3000 : Int32), by rw [e]; rfl, ?_⟩
          rw [i42, if_pos e', Option.bind_some, if_neg (by decide)]
          unfold nb_X10_readSum_23
          rw [h9, e', if_pos (by decide)]
        · have e' : kdT T N (tpos T N i) = 45 := e
          refine ⟨(3001 : Int32), by rw [e]; rfl, ?_⟩
          rw [i42, if_neg (by omega), Option.bind_some, if_pos (show q32 0 = (0 : Int32) from rfl), i47, if_pos e', Option.bind_some, if_neg (by decide)]
          unfold nb_X10_readSum_23
          rw [h9, e', if_neg (by decide)]
      obtain ⟨y, ey, eq⟩ := eq
      rw [eq]
      unfold nb_X10_readSum_41
      rw [a1, bind2_s]
      cases hres : TRMp (kdF T N) (amF T N) rc gg nest (i + 1) with
      | inl p =>
        obtain ⟨k, j⟩ := p
        rw [hres] at at1
        obtain ⟨d1, m2, d2, d3, d4⟩ := at1
        refine ⟨d1, m2, ?_, a2.ks.tr d3, d4⟩
        rw [d2, bind2_s, tel10f d4, bind2_s]
        obtain ⟨f2, rfl⟩ : ∃ f2, fuel = f2 + 1 := ⟨fuel - 1, by omega⟩
        show nb_X10_readSum_5 nrc F s (nl_X10_readSum_5 nrc F s f2) m2 23 _ = _
        unfold nb_X10_readSum_5
        rw [is10f d4, Option.bind_some, if_pos rfl, is10f d4, Option.bind_some, if_pos rfl]
      | inr p =>
        obtain ⟨j, a⟩ := p
        rw [hres] at at1
        obtain ⟨d0, d1, dl, m2, d2, d3, d4, d5, d6⟩ := at1
        obtain ⟨m3, b1, b2, b3, b4⟩ := tel10 hp (hr.same (by rw [d3.2, a2.2])) d4 d6 (by omega) (x := opF (kdF T N i)) ey
        have cd3 : CND s m3 T N K j (out ++ (c ++ a ++ [opF (kdF T N i)])) sl := cd1.go (d3.tr b2) (by rw [b4]; exact d4) (d5.k b4) (by rw [← List.append_assoc, ← List.append_assoc]; exact b3) d1 (by rw [← List.append_assoc, ← List.append_assoc, List.length_append (bs := [opF (kdF T N i)]), List.length_singleton]; omega)
        have rr := ih j fuel g (c ++ a ++ [opF (kdF T N i)]) (by omega) (by omega) (by omega) m3 cd3
        dsimp only
        have e3 : (bind2 (ng_X10_readTerm nrc F s m1 23 (q32 (nest : Nat))) fun _ m4 => (bind2 (n_X10_tellsCode s m4 23 y) fun _ m6 => (nl_X10_readSum_5 nrc F s fuel m6 23 (q32 (nest : Nat))))) = nl_X10_readSum_5 nrc F s fuel m3 23 (q32 (nest : Nat)) := by
          rw [d2, bind2_s, b1, bind2_s]
        rw [e3]
        have kk : KS10 m m3 := (a2.ks.tr d3).tr b2
        cases hres2 : SULp (kdF T N) (amF T N) rc gg nest g j (c ++ a ++ [opF (kdF T N i)]) with
        | inl p =>
          obtain ⟨k, j2⟩ := p
          rw [hres2] at rr
          obtain ⟨z1, m4, z2, z3, z4⟩ := rr
          exact ⟨z1, m4, z2, kk.tr z3, z4⟩
        | inr p =>
          obtain ⟨j2, c2⟩ := p
          rw [hres2] at rr
          obtain ⟨z0, z1, zl, m4, z2, z3, z4⟩ := rr
          exact ⟨by omega, z1, zl, m4, z2, kk.tr z3, z4⟩
    · rw [if_neg ck]
      have n42 : ¬ kdT T N (tpos T N i) = 43 := fun e => ck (Or.inl e)
      have n47 : ¬ kdT T N (tpos T N i) = 45 := fun e => ck (Or.inr e)
      refine ⟨Nat.le_refl _, hi, hl, m, ?_, KS10.rf m, h0, hs, hc⟩
      rw [i42, if_neg n42, Option.bind_some, if_pos (show q32 0 = (0 : Int32) from rfl), i47, if_neg n47, Option.bind_some, if_pos (show q32 0 = (0 : Int32) from rfl)]
theorem sum10 {F : Nat} (hF : 20000 ≤ F) {s : List Sh} (hp : ∃ t, s = sB ++ t) {T : Nat → Int} {N K g : Nat} (hg : K ≤ g) (hK : TKE T N K) : ∀ d, SUM10 s T N K (SUMp (kdF T N) (amF T N) g d) (nd_X10_readSum F s d) (7 - d) := by
  intro d
  induction d with
  | zero => intro nest i out sl m h1 h2; omega
  | succ d ih =>
    intro nest i out sl m h1 h2 h
    have k9 := hK.2.1
    have tr := trm10 hF hp hg hK ih (i := i) (by omega) h2 h
    show RDR T N K m out sl i _ (nb_X10_readSum_0 (nd_X10_readSum F s d) F s m 23 (q32 (nest : Nat)))
    unfold SUMp nb_X10_readSum_0
    cases hres : TRMp (kdF T N) (amF T N) (SUMp (kdF T N) (amF T N) g d) g nest i with
    | inl p =>
      obtain ⟨k, j⟩ := p
      rw [hres] at tr
      obtain ⟨d1, m2, d2, d3, d4⟩ := tr
      refine ⟨d1, m2, ?_, d3, d4⟩
      rw [d2, bind2_s]
      obtain ⟨f2, rfl⟩ : ∃ f2, F = f2 + 1 := ⟨F - 1, by omega⟩
      show nb_X10_readSum_5 (nd_X10_readSum (f2 + 1) s d) (f2 + 1) s (nl_X10_readSum_5 (nd_X10_readSum (f2 + 1) s d) (f2 + 1) s f2) m2 23 _ = _
      unfold nb_X10_readSum_5
      rw [is10f d4, Option.bind_some, if_pos rfl, is10f d4, Option.bind_some, if_pos rfl]
    | inr p =>
      obtain ⟨j, a⟩ := p
      rw [hres] at tr
      obtain ⟨d0, d1, dl, m2, d2, d3, d4, d5, d6⟩ := tr
      have cd2 : CND s m2 T N K j (out ++ a) sl := h.go d3 d4 d5 d6 d1 dl
      have rr := sul10 hF hp hg hK ih (by omega) h2 (out := out) K j F g a (by omega) (by omega) (by omega) m2 cd2
      dsimp only
      rw [d2, bind2_s]
      cases hres2 : SULp (kdF T N) (amF T N) (SUMp (kdF T N) (amF T N) g d) g nest g j a with
      | inl p =>
        obtain ⟨k, j2⟩ := p
        rw [hres2] at rr
        obtain ⟨z1, m4, z2, z3, z4⟩ := rr
        exact ⟨z1, m4, z2, d3.tr z3, z4⟩
      | inr p =>
        obtain ⟨j2, c2⟩ := p
        rw [hres2] at rr
        obtain ⟨z0, z1, zl, m4, z2, z3, z4⟩ := rr
        exact ⟨by omega, z1, zl, m4, z2, d3.tr z3, z4⟩
