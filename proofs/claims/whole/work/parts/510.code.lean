/-! what a button's codes are -/
def RNC : List Int → Nat → Option Nat
  | [], d => some d
  | x :: c, d => if -2 ≤ x then (if d < 60 then RNC c (d + 1) else none) else (if 2 ≤ d then RNC c (d - 1) else none)
theorem RNC_ap : ∀ (c c' : List Int) d, RNC (c ++ c') d = (RNC c d).bind (RNC c') := by
  intro c
  induction c with
  | nil => intro c' d; rfl
  | cons x c ih =>
    intro c' d
    show (if -2 ≤ x then (if d < 60 then RNC (c ++ c') (d + 1) else none) else (if 2 ≤ d then RNC (c ++ c') (d - 1) else none)) = (if -2 ≤ x then (if d < 60 then RNC c (d + 1) else none) else (if 2 ≤ d then RNC c (d - 1) else none)).bind (RNC c')
    split
    · split
      · exact ih _ _
      · rfl
    · split
      · exact ih _ _
      · rfl
/-- codes that leave one number, from every pile up to D -/
def GDC (D : Nat) (c : List Int) : Prop := (∀ x ∈ c, -6 ≤ x ∧ x ≤ 999) ∧ ∀ d, d ≤ D → RNC c d = some (d + 1)
theorem GDC.one {D : Nat} {x : Int} (hD : D < 60) (hx : -2 ≤ x ∧ x ≤ 999) : GDC D [x] := by
  refine ⟨fun y hy => ?_, fun d hd => ?_⟩
  · rw [List.mem_singleton.mp hy]; omega
  · show (if -2 ≤ x then (if d < 60 then some (d + 1) else none) else (if 2 ≤ d then some (d - 1) else none)) = _
    rw [if_pos hx.1, if_pos (by omega)]
theorem GDC.op {D : Nat} {c a : List Int} {o : Int} (ho : -6 ≤ o ∧ o ≤ -3) (hc : GDC D c) (ha : GDC (D + 1) a) : GDC D (c ++ a ++ [o]) := by
  refine ⟨fun y hy => ?_, fun d hd => ?_⟩
  · rcases List.mem_append.mp hy with h | h
    · rcases List.mem_append.mp h with h | h
      · exact hc.1 y h
      · exact ha.1 y h
    · rw [List.mem_singleton.mp h]; omega
  · rw [RNC_ap, RNC_ap, hc.2 d hd, Option.bind_some, ha.2 (d + 1) (by omega), Option.bind_some]
    show (if -2 ≤ o then (if d + 1 + 1 < 60 then some (d + 1 + 1 + 1) else none) else (if 2 ≤ d + 1 + 1 then some (d + 1 + 1 - 1) else none)) = _
    rw [if_neg (by omega), if_pos (by omega)]
    rfl
theorem GDC.le {D D' : Nat} {c : List Int} (h : GDC D c) (hd : D' ≤ D) : GDC D' c := ⟨h.1, fun d hx => h.2 d (by omega)⟩
def SGD (rc : Nat → Nat → PRZ) : Prop := ∀ nest i j c, nest ≤ 6 → rc nest i = .inr (j, c) → GDC (2 * nest) c
theorem opF_b {k : Int} (h : k = 42 ∨ k = 47 ∨ k = 43 ∨ k = 45) : -6 ≤ opF k ∧ opF k ≤ -3 := by rcases h with rfl | rfl | rfl | rfl <;> decide
theorem atm_g {kd am : Nat → Int} (ham : ∀ i, kd i = 2 → 0 ≤ am i ∧ am i ≤ 999) {rc : Nat → Nat → PRZ} (hrc : SGD rc) {nest i j : Nat} {c : List Int} (hn : nest ≤ 6) (e : ATMp kd am rc nest i = .inr (j, c)) : GDC (2 * nest + 2) c := by
  unfold ATMp at e
  by_cases c2 : kd i = 2
  · rw [if_pos c2] at e
    cases e
    exact GDC.one (by omega) (by have := ham i c2; omega)
  rw [if_neg c2] at e
  by_cases c11 : kd i = 11
  · rw [if_pos c11] at e
    cases e
    exact GDC.one (by omega) (by omega)
  rw [if_neg c11] at e
  by_cases c4 : kd i = 4
  · rw [if_pos c4] at e
    cases e
    exact GDC.one (by omega) (by omega)
  rw [if_neg c4] at e
  by_cases c40 : kd i = 40
  · rw [if_pos c40] at e
    by_cases cn : 6 ≤ nest
    · rw [if_pos cn] at e; cases e
    rw [if_neg cn] at e
    cases hr : rc (nest + 1) (i + 1) with
    | inl x => rw [hr] at e; cases e
    | inr p =>
      obtain ⟨j', c'⟩ := p
      rw [hr] at e
      dsimp only at e
      split at e
      · cases e
        exact hrc (nest + 1) (i + 1) j' c (by omega) hr
      · cases e
  · rw [if_neg c40] at e; cases e
theorem trl_g {kd am : Nat → Int} (ham : ∀ i, kd i = 2 → 0 ≤ am i ∧ am i ≤ 999) {rc : Nat → Nat → PRZ} (hrc : SGD rc) {nest : Nat} (hn : nest ≤ 6) : ∀ n i c j c', GDC (2 * nest + 1) c → TRLp kd am rc nest n i c = .inr (j, c') → GDC (2 * nest + 1) c' := by
  intro n
  induction n with
  | zero => intro i c j c' _ e; cases e
  | succ n ih =>
    intro i c j c' hc e
    unfold TRLp at e
    by_cases ck : kd i = 42 ∨ kd i = 47
    · rw [if_pos ck] at e
      cases ha : ATMp kd am rc nest (i + 1) with
      | inl x => rw [ha] at e; cases e
      | inr p =>
        obtain ⟨j2, a⟩ := p
        rw [ha] at e
        exact ih j2 _ j c' (hc.op (opF_b (by omega)) (atm_g ham hrc hn ha)) e
    · rw [if_neg ck] at e
      cases e
      exact hc
theorem trm_g {kd am : Nat → Int} (ham : ∀ i, kd i = 2 → 0 ≤ am i ∧ am i ≤ 999) {rc : Nat → Nat → PRZ} (hrc : SGD rc) {g nest i j : Nat} {c : List Int} (hn : nest ≤ 6) (e : TRMp kd am rc g nest i = .inr (j, c)) : GDC (2 * nest + 1) c := by
  unfold TRMp at e
  cases ha : ATMp kd am rc nest i with
  | inl x => rw [ha] at e; cases e
  | inr p =>
    obtain ⟨j2, a⟩ := p
    rw [ha] at e
    exact trl_g ham hrc hn g j2 a j c ((atm_g ham hrc hn ha).le (by omega)) e
theorem sul_g {kd am : Nat → Int} (ham : ∀ i, kd i = 2 → 0 ≤ am i ∧ am i ≤ 999) {rc : Nat → Nat → PRZ} (hrc : SGD rc) {g nest : Nat} (hn : nest ≤ 6) : ∀ n i c j c', GDC (2 * nest) c → SULp kd am rc g nest n i c = .inr (j, c') → GDC (2 * nest) c' := by
  intro n
  induction n with
  | zero => intro i c j c' _ e; cases e
  | succ n ih =>
    intro i c j c' hc e
    unfold SULp at e
    by_cases ck : kd i = 43 ∨ kd i = 45
    · rw [if_pos ck] at e
      cases ha : TRMp kd am rc g nest (i + 1) with
      | inl x => rw [ha] at e; cases e
      | inr p =>
        obtain ⟨j2, a⟩ := p
        rw [ha] at e
        exact ih j2 _ j c' (hc.op (opF_b (by omega)) (trm_g ham hrc hn ha)) e
    · rw [if_neg ck] at e
      cases e
      exact hc
theorem sum_g {kd am : Nat → Int} (ham : ∀ i, kd i = 2 → 0 ≤ am i ∧ am i ≤ 999) {g : Nat} : ∀ d, SGD (SUMp kd am g d) := by
  intro d
  induction d with
  | zero => intro nest i j c _ e; cases e
  | succ d ih =>
    intro nest i j c hn e
    unfold SUMp at e
    cases ha : TRMp kd am (SUMp kd am g d) g nest i with
    | inl x => rw [ha] at e; cases e
    | inr p =>
      obtain ⟨j2, a⟩ := p
      rw [ha] at e
      exact sul_g ham ih hn g j2 a j c ((trm_g ham ih hn ha).le (by omega)) e
theorem RNC_w {cd : Nat → Int32} : ∀ (c : List Int) (i d : Nat), (∀ j, j < c.length → cd (i + j) = q32 (c.getD j 0)) → (∀ x ∈ c, -6 ≤ x ∧ x ≤ 999) → RNC c d = some 1 → WFC cd c.length i d := by
  intro c
  induction c with
  | nil => intro i d _ _ h; cases h; exact rfl
  | cons x c ih =>
    intro i d hc hx h
    have h0 : cd i = q32 x := hc 0 (Nat.succ_pos _)
    have xb := hx x List.mem_cons_self
    have ti : (cd i).toInt = x := by rw [h0, q32_toInt (by unfold B31; omega)]
    have rest : ∀ j, j < c.length → cd (i + 1 + j) = q32 (c.getD j 0) := fun j hj => by
      have := hc (j + 1) (by rw [List.length_cons]; omega)
      rw [show i + 1 + j = i + (j + 1) by omega, this]
      rfl
    have hx' : ∀ y ∈ c, -6 ≤ y ∧ y ≤ 999 := fun y hy => hx y (List.mem_cons_of_mem _ hy)
    show if -2 ≤ (cd i).toInt then d < 60 ∧ WFC cd c.length (i + 1) (d + 1) else 2 ≤ d ∧ WFC cd c.length (i + 1) (d - 1)
    rw [ti]
    have h' : (if -2 ≤ x then (if d < 60 then RNC c (d + 1) else none) else (if 2 ≤ d then RNC c (d - 1) else none)) = some 1 := h
    by_cases c1 : -2 ≤ x
    · rw [if_pos c1] at h' ⊢
      by_cases c2 : d < 60
      · rw [if_pos c2] at h'
        exact ⟨c2, ih _ _ rest hx' h'⟩
      · rw [if_neg c2] at h'; cases h'
    · rw [if_neg c1] at h' ⊢
      by_cases c2 : 2 ≤ d
      · rw [if_pos c2] at h'
        exact ⟨c2, ih _ _ rest hx' h'⟩
      · rw [if_neg c2] at h'; cases h'
/-- buttons' codes: where they begin and end, what they do -/
def hSt (h : HSS) : Nat → Nat := h.2.2.2.2.2.2.1
def HBT (h : HSS) : Prop := hSt h 0 = 0 ∧ hSt h (hBc h) = (hCd h).length ∧ (∀ b, b < hBc h → hSt h b ≤ hSt h (b + 1)) ∧ (∀ x ∈ hCd h, -6 ≤ x ∧ x ≤ 999) ∧ ∀ b, b < hBc h → WFC (fun i => q32 ((hCd h).getD i 0)) (hSt h (b + 1) - hSt h b) (hSt h b) 0
theorem HBT.bs {h : HSS} (hb : HBT h) : HBS h := ⟨fun _ => hb.2.1, hb.2.2.1, fun _ => hb.1, fun e => by
  have h1 := hb.1
  have h2 := hb.2.1
  rw [e, h1] at h2
  exact List.eq_nil_of_length_eq_zero h2.symm⟩
theorem hst_le {h : HSS} (hb : HBT h) : ∀ n b, b + n = hBc h → hSt h b ≤ (hCd h).length := by
  intro n
  induction n with
  | zero => intro b e; rw [show b = hBc h by omega, hb.2.1]; exact Nat.le_refl _
  | succ n ih =>
    intro b e
    exact Nat.le_trans (hb.2.2.1 b (by omega)) (ih (b + 1) (by omega))
theorem getD_l {a b : List Int} {i : Nat} (h : i < a.length) : (a ++ b).getD i 0 = a.getD i 0 := by
  rw [List.getD_eq_getElem?_getD, List.getD_eq_getElem?_getD, List.getElem?_append_left h]
theorem getD_r {a b : List Int} {i : Nat} : (a ++ b).getD (a.length + i) 0 = b.getD i 0 := by
  rw [List.getD_eq_getElem?_getD, List.getD_eq_getElem?_getD, List.getElem?_append_right (by omega), Nat.add_sub_cancel_left]
theorem sBut_t {h : HSS} (hb : HBT h) {c : List Int} (hc : GDC 0 c) : HBT (sBut h c) := by
  obtain ⟨b1, b2, b3, b4, b5⟩ := id hb
  have eS : ∀ b, hSt (sBut h c) b = if b = hBc h then (hCd h).length else if b = hBc h + 1 then (hCd h ++ c).length else hSt h b := fun b => rfl
  have eB : hBc (sBut h c) = hBc h + 1 := rfl
  have eC : hCd (sBut h c) = hCd h ++ c := rfl
  have ll : (hCd h ++ c).length = (hCd h).length + c.length := List.length_append
  have old : ∀ b, b ≤ hBc h → hSt (sBut h c) b = hSt h b := fun b hb' => by
    rw [eS]
    by_cases e : b = hBc h
    · rw [if_pos e, e, b2]
    · rw [if_neg e, if_neg (by omega)]
  have new : hSt (sBut h c) (hBc h + 1) = (hCd h ++ c).length := by rw [eS, if_neg (by omega), if_pos rfl]
  refine ⟨by rw [old 0 (by omega)]; exact b1, by rw [eB, eC, new], fun b hb' => ?_, fun x hx => ?_, fun b hb' => ?_⟩
  · rw [eB] at hb'
    by_cases e : b = hBc h
    · rw [e, new, old _ (Nat.le_refl _), b2, ll]; omega
    · rw [old b (by omega), old (b + 1) (by omega)]; exact b3 b (by omega)
  · rw [eC] at hx
    rcases List.mem_append.mp hx with h' | h'
    · exact b4 x h'
    · exact hc.1 x h'
  · rw [eB] at hb'
    rw [eC]
    by_cases e : b = hBc h
    · rw [e, new, old _ (Nat.le_refl _), b2, ll, Nat.add_sub_cancel_left]
      exact RNC_w c _ 0 (fun j hj => by show q32 _ = _; rw [getD_r]) hc.1 (hc.2 0 (Nat.le_refl _))
    · rw [old b (by omega), old (b + 1) (by omega)]
      have l1 := hst_le hb (hBc h - (b + 1)) (b + 1) (by omega)
      have l0 := b3 b (by omega)
      exact WFC_cg _ _ _ (fun j h1 h2 => by show q32 _ = q32 _; rw [getD_l (by omega)]) (b5 b (by omega))
theorem LINE_t {kd am : Nat → Int} (ham : ∀ i, kd i = 2 → 0 ≤ am i ∧ am i ≤ 999) {g i j : Nat} {h h' : HSS} (hb : HBT h) (e : LINE kd am g i h = .inr (j, h')) : HBT h' := by
  unfold LINE at e
  by_cases c4 : kd i = 4
  · rw [if_pos c4] at e
    repeat' (first | (split at e) | (cases e; done) | (cases e; exact hb))
  rw [if_neg c4] at e
  by_cases c5 : kd i = 5
  · rw [if_pos c5] at e
    split at e
    · cases e
    · split at e
      · cases es : SUMp kd am g 10 0 (i + 2) with
        | inl x => rw [es] at e; cases e
        | inr p =>
          obtain ⟨jj, c⟩ := p
          rw [es] at e
          dsimp only at e
          split at e
          · cases e
            exact sBut_t hb (sum_g ham 10 0 (i + 2) _ c (by omega) es)
          · cases e
      · cases e
  rw [if_neg c5] at e
  repeat' (first | (split at e) | (cases e; done) | (cases e; exact hb))
