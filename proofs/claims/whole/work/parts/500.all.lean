theorem FAT_no {U L : Nat → Int} {u l : Int} : ∀ q i, FAT U L u l q i = -1 → ∀ k, i ≤ k → k < i + q → ¬ (U k = u ∧ L k = l) := by
  intro q
  induction q with
  | zero => intro i _ k h1 h2; omega
  | succ q ih =>
    intro i h k h1 h2
    unfold FAT at h
    by_cases c : U i = u ∧ L i = l
    · rw [if_pos c] at h; omega
    · rw [if_neg c] at h
      by_cases e : k = i
      · rw [e]; exact c
      · exact ih (i + 1) h k (by omega) (by omega)
theorem numW_v {kd am : Nat → Int} {i : Nat} {lo hi : Int} {j : Nat} {v : Int} (h : numW kd am i lo hi = .inr (j, v)) : lo ≤ v ∧ v ≤ hi := by
  unfold numW at h
  split at h
  · split at h
    · cases h
    · cases h; omega
  · cases h
theorem frcT_v {kd am : Nat → Int} {i tp : Nat} {ex : Int} {j : Nat} {f : FR} (h : frcT kd am i ex tp = .inr (j, f)) : FLR tp f.1 f.2 ∧ f.2 ≤ 99 := by
  have fin : ∀ u l : Int, 0 ≤ u ∧ u ≤ 999 → 1 ≤ l ∧ l ≤ 99 → (nrm u l).1 ≤ tp * (nrm u l).2 → FLR tp (nrm u l).1 (nrm u l).2 ∧ (nrm u l).2 ≤ 99 := fun u l hu hl hc => by
    have := nrm_sm hu hl
    exact ⟨⟨this.1, by omega, this.2.2.1, by omega, hc, this.2.2.2.2⟩, this.2.2.2.1⟩
  unfold frcT at h
  cases e1 : numW kd am i 0 999 with
  | inl e => rw [e1] at h; cases h
  | inr p =>
    obtain ⟨j1, u⟩ := p
    have uv := numW_v e1
    rw [e1] at h
    dsimp only at h
    by_cases c : kd j1 = 47
    · rw [if_pos c] at h
      cases e2 : numW kd am (j1 + 1) 1 99 with
      | inl e => rw [e2] at h; cases h
      | inr p =>
        obtain ⟨j2, l⟩ := p
        have lv := numW_v e2
        rw [e2] at h
        dsimp only at h
        split at h
        · split at h
          · next cc => cases h; exact fin u l uv lv cc
          · cases h
        · cases h
    · rw [if_neg c] at h
      dsimp only at h
      split at h
      · split at h
        · next cc => cases h; exact fin u 1 uv (by omega) cc
        · cases h
      · cases h
theorem LINE_ok {kd am : Nat → Int} {g i j : Nat} {h h' : HSS} (hp : HPP h) (e : LINE kd am g i h = .inr (j, h')) : HPP h' := by
  obtain ⟨p1, p2, p3, p4, p5, p6, p7⟩ := hp
  unfold LINE at e
  by_cases c4 : kd i = 4
  · rw [if_pos c4] at e
    split at e
    · cases e
    · next cb =>
      cases en : numW kd am (i + 1) 1 9 with
      | inl x => rw [en] at e; cases e
      | inr p =>
        obtain ⟨jj, v⟩ := p
        have vv := numW_v en
        rw [en] at e
        cases e
        have tb : h.2.2.1 = false := by cases hb : h.2.2.1 with | true => exact absurd (Or.inl hb) cb | false => rfl
        have f0 : hFc h = 0 := by omega
        have t0 : hTc h = 0 := by omega
        have a0 := p7 tb
        obtain ⟨w, rfl⟩ := Int.eq_ofNat_of_zero_le (show 0 ≤ v by omega)
        refine ⟨⟨by show 1 ≤ (w : Int).toNat; omega, by show (w : Int).toNat ≤ 9; omega⟩, p2, ?_, ?_, ?_, p6, p7⟩
        · show FLR ((w : Int).toNat : Int) h.2.1.1 h.2.1.2
          rw [a0]
          exact ⟨by decide, by decide, by decide, by decide, by show (0 : Int) ≤ _ * 1; omega, by decide⟩
        · obtain ⟨d1, d2, d3, d4, d5⟩ := p4
          refine ⟨d1, by show 1 ≤ (w : Int).toNat; omega, by show (w : Int).toNat ≤ 9; omega, fun k hk => ?_, d5⟩
          have : k < hFc h := hk
          omega
        · refine ⟨p5.1, fun k hk => ?_⟩
          have : k < hTc h := hk
          omega
  rw [if_neg c4] at e
  by_cases c5 : kd i = 5
  · rw [if_pos c5] at e
    split at e
    · cases e
    · next cb =>
      split at e
      · cases es : SUMp kd am g 10 0 (i + 2) with
        | inl x => rw [es] at e; cases e
        | inr p =>
          obtain ⟨jj, c⟩ := p
          rw [es] at e
          dsimp only at e
          split at e
          · cases e
            exact ⟨p1, p2, p3, p4, p5, by show hBc h + 1 ≤ 6; omega, p7⟩
          · cases e
      · cases e
  rw [if_neg c5] at e
  by_cases c6 : kd i = 6
  · rw [if_pos c6] at e
    split at e
    · cases e
    · next cb =>
      cases ef : frcT kd am (i + 1) 10 (hTop h) with
      | inl x => rw [ef] at e; cases e
      | inr p =>
        obtain ⟨jj, f⟩ := p
        obtain ⟨fv, fl⟩ := frcT_v ef
        rw [ef] at e
        dsimp only at e
        split at e
        · cases e
        · next cf =>
          have cf' : FAT h.2.2.2.1.2.1 h.2.2.2.1.2.2.1 f.1 f.2 (hFc h) 0 = -1 := by
            by_cases q : FAT h.2.2.2.1.2.1 h.2.2.2.1.2.2.1 f.1 f.2 (hFc h) 0 = -1
            · exact q
            · exact absurd q cf
          cases e0 : numW kd am (jj + 1) 0 99 with
          | inl x => rw [e0] at e; cases e
          | inr p =>
            obtain ⟨j0, x0⟩ := p
            have v0 := numW_v e0
            rw [e0] at e
            dsimp only at e
            cases e1 : numW kd am j0 0 99 with
            | inl x => rw [e1] at e; cases e
            | inr p =>
              obtain ⟨j1, x1⟩ := p
              have v1 := numW_v e1
              rw [e1] at e
              dsimp only at e
              cases e2 : numW kd am j1 0 99 with
              | inl x => rw [e2] at e; cases e
              | inr p =>
                obtain ⟨j2, x2⟩ := p
                have v2 := numW_v e2
                rw [e2] at e
                cases e
                refine ⟨p1, p2, p3, p4.add (by omega) fv fl (fun z hz => ?_) (fun k hk => FAT_no _ _ cf' k (by omega) (by omega)), p5, p6, p7⟩
                split
                · omega
                · split <;> omega
  rw [if_neg c6] at e
  by_cases c7 : kd i = 7
  · rw [if_pos c7] at e
    split at e
    · cases e
    · next cb =>
      cases ef : frcT kd am (i + 1) 59 (hTop h) with
      | inl x => rw [ef] at e; cases e
      | inr p =>
        obtain ⟨jj, f⟩ := p
        obtain ⟨fv, fl⟩ := frcT_v ef
        rw [ef] at e
        cases e
        refine ⟨p1, p2, p3, p4, ⟨by show hTc h + 1 ≤ 6; omega, fun k hk => ?_⟩, p6, p7⟩
        have hk' : k < hTc h + 1 := hk
        show FLR _ (insI h.2.2.2.2.1.2.1 (hTc h) f.1 k) (insI h.2.2.2.2.1.2.2 (hTc h) f.2 k) ∧ insI h.2.2.2.2.1.2.2 (hTc h) f.2 k ≤ 99
        unfold insI
        by_cases ck : k = hTc h
        · rw [if_pos ck, if_pos ck]; exact ⟨fv, fl⟩
        · rw [if_neg ck, if_neg ck]; exact p5.2 k (by omega)
  rw [if_neg c7] at e
  by_cases c8 : kd i = 8
  · rw [if_pos c8] at e
    cases ef : frcT kd am (i + 1) 59 (hTop h) with
    | inl x => rw [ef] at e; cases e
    | inr p =>
      obtain ⟨jj, f⟩ := p
      obtain ⟨fv, fl⟩ := frcT_v ef
      rw [ef] at e
      cases e
      exact ⟨p1, p2, fv, p4, p5, p6, fun hb => by cases hb⟩
  rw [if_neg c8] at e
  by_cases c9 : kd i = 9
  · rw [if_pos c9] at e
    cases en : numW kd am (i + 1) 0 9 with
    | inl x => rw [en] at e; cases e
    | inr p =>
      obtain ⟨jj, v⟩ := p
      have vv := numW_v en
      rw [en] at e
      cases e
      exact ⟨p1, by show v.toNat ≤ 9; omega, p3, p4, p5, p6, p7⟩
  rw [if_neg c9] at e
  cases e
theorem LN9.z {s : List Sh} {T : Nat → Int} {N K : Nat} {m : Mem} {r z i : Nat} {res : LRZ} {o : Option (Int32 × Mem)} (h : LN9 s T N K m r z i res o) : LN9 s T N K m r z i res (bind2 o fun x m2 => rZM x m2) := by
  cases res with
  | inl p =>
    obtain ⟨k, j⟩ := p
    obtain ⟨a, m', b, c⟩ := h
    exact ⟨a, m', by rw [b, bind2_s]; rfl, c⟩
  | inr p =>
    obtain ⟨j, h'⟩ := p
    obtain ⟨a, b, c, m', d, e⟩ := h
    exact ⟨a, b, c, m', by rw [d, bind2_s]; rfl, e⟩
theorem line9 {F : Nat} (hF : 20000 ≤ F) {s : List Sh} {m : Mem} {r z K N g : Nat} {T : Nat → Int} (hg : K ≤ g) (hT : ∀ k, k < N → 0 ≤ T k ∧ T k < 256) (hx : RCX s m r z K T N) {i : Nat} (hi : i < K) (hc : CUR m r T N i) {h : HSS} (hh : HCL s m r z h) (hp : HPP h) (hcl : (hCd h).length ≤ i) : LN9 s T N K m r z i (LINE (kdF T N) (amF T N) g i h) (n_X3_line F s m r) := by
  have h5 := hc.2.1
  have kb := kdT_b (T := T) (N := N) (p := tpos T N i)
  have kb31 : B31 (kdT T N (tpos T N i)) := by unfold B31; omega
  unfold n_X3_line nb_X3_line_0 LINE
  rw [h5]
  by_cases c4 : kdF T N i = 4
  · rw [if_pos c4, sw_at kb31 0 (show kdT T N (tpos T N i) = 4 + (0 : Nat) from c4) rfl]
    exact (top9 hT hx hi c4 hc hh hp hcl).z
  rw [if_neg c4]
  by_cases c5 : kdF T N i = 5
  · rw [if_pos c5, sw_at kb31 1 (show kdT T N (tpos T N i) = 4 + (1 : Nat) from c5) rfl]
    exact (but9 hF hg hT hx (hx.nx hi (by omega) (by omega)) hc hh hp hcl).z
  rw [if_neg c5]
  by_cases c6 : kdF T N i = 6
  · rw [if_pos c6, sw_at kb31 2 (show kdT T N (tpos T N i) = 4 + (2 : Nat) from c6) rfl]
    exact (flo9 hF hT hx (hx.nx hi (by omega) (by omega)) hc hh hp hcl).z
  rw [if_neg c6]
  by_cases c7 : kdF T N i = 7
  · rw [if_pos c7, sw_at kb31 3 (show kdT T N (tpos T N i) = 4 + (3 : Nat) from c7) rfl]
    exact (ten9 hF hT hx (hx.nx hi (by omega) (by omega)) hc hh hp hcl).z
  rw [if_neg c7]
  by_cases c8 : kdF T N i = 8
  · rw [if_pos c8, sw_at kb31 4 (show kdT T N (tpos T N i) = 4 + (4 : Nat) from c8) rfl]
    exact (atl9 hF hT hx (hx.nx hi (by omega) (by omega)) hc hh hp hcl).z
  rw [if_neg c8]
  by_cases c9 : kdF T N i = 9
  · rw [if_pos c9, sw_at kb31 5 (show kdT T N (tpos T N i) = 4 + (5 : Nat) from c9) rfl]
    exact (stk9 hT hx (hx.nx hi (by omega) (by omega)) hc hh hcl).z
  rw [if_neg c9, sw_out kb31 (by dsimp only [kdF] at c4 c5 c6 c7 c8 c9; show _ < (4 : Int) ∨ (4 : Int) + 6 ≤ _; omega)]
  obtain ⟨m', a1, a2, a3⟩ := cant9 (s := s) (z := z) hc
  exact ⟨hi, m', by rw [a1, bind2_s]; rfl, a2, a3⟩
