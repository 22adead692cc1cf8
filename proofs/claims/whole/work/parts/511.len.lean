/-! codes are no more than tokens -/
def SLN (rc : Nat → Nat → PRZ) : Prop := ∀ nest i j c, rc nest i = .inr (j, c) → c.length + i ≤ j
theorem atm_n {kd am : Nat → Int} {rc : Nat → Nat → PRZ} (hrc : SLN rc) {nest i j : Nat} {c : List Int} (e : ATMp kd am rc nest i = .inr (j, c)) : c.length + i ≤ j := by
  unfold ATMp at e
  by_cases c2 : kd i = 2
  · rw [if_pos c2] at e
    cases e
    show 1 + i ≤ i + 1
    omega
  rw [if_neg c2] at e
  by_cases c11 : kd i = 11
  · rw [if_pos c11] at e
    cases e
    show 1 + i ≤ i + 1
    omega
  rw [if_neg c11] at e
  by_cases c4 : kd i = 4
  · rw [if_pos c4] at e
    cases e
    show 1 + i ≤ i + 1
    omega
  rw [if_neg c4] at e
  by_cases c40 : kd i = 40
  · rw [if_pos c40] at e
    by_cases cn : 6 ≤ nest
    · rw [if_pos cn] at e; cases e
    rw [if_neg cn] at e
    cases hr : rc (nest + 1) (i + 1) with
    | inl x => rw [hr] at e; cases e
    | inr p =>
      obtain ⟨j', c'⟩ := p
      rw [hr] at e
      dsimp only at e
      split at e
      · cases e
        have := hrc (nest + 1) (i + 1) j' c hr
        omega
      · cases e
  · rw [if_neg c40] at e; cases e
theorem trl_n {kd am : Nat → Int} {rc : Nat → Nat → PRZ} (hrc : SLN rc) {nest : Nat} : ∀ n i c j c', TRLp kd am rc nest n i c = .inr (j, c') → c'.length + i ≤ j + c.length := by
  intro n
  induction n with
  | zero => intro i c j c' e; cases e
  | succ n ih =>
    intro i c j c' e
    unfold TRLp at e
    by_cases ck : kd i = 42 ∨ kd i = 47
    · rw [if_pos ck] at e
      cases ha : ATMp kd am rc nest (i + 1) with
      | inl x => rw [ha] at e; cases e
      | inr p =>
        obtain ⟨j2, a⟩ := p
        rw [ha] at e
        have h1 := ih j2 _ j c' e
        have h2 := atm_n hrc ha
        rw [List.length_append, List.length_append, List.length_cons, List.length_nil] at h1
        omega
    · rw [if_neg ck] at e
      cases e
      omega
theorem trm_n {kd am : Nat → Int} {rc : Nat → Nat → PRZ} (hrc : SLN rc) {g nest i j : Nat} {c : List Int} (e : TRMp kd am rc g nest i = .inr (j, c)) : c.length + i ≤ j := by
  unfold TRMp at e
  cases ha : ATMp kd am rc nest i with
  | inl x => rw [ha] at e; cases e
  | inr p =>
    obtain ⟨j2, a⟩ := p
    rw [ha] at e
    have h1 := trl_n hrc g j2 a j c e
    have h2 := atm_n hrc ha
    omega
theorem sul_n {kd am : Nat → Int} {rc : Nat → Nat → PRZ} (hrc : SLN rc) {g nest : Nat} : ∀ n i c j c', SULp kd am rc g nest n i c = .inr (j, c') → c'.length + i ≤ j + c.length := by
  intro n
  induction n with
  | zero => intro i c j c' e; cases e
  | succ n ih =>
    intro i c j c' e
    unfold SULp at e
    by_cases ck : kd i = 43 ∨ kd i = 45
    · rw [if_pos ck] at e
      cases ha : TRMp kd am rc g nest (i + 1) with
      | inl x => rw [ha] at e; cases e
      | inr p =>
        obtain ⟨j2, a⟩ := p
        rw [ha] at e
        have h1 := ih j2 _ j c' e
        have h2 := trm_n hrc ha
        rw [List.length_append, List.length_append, List.length_cons, List.length_nil] at h1
        omega
    · rw [if_neg ck] at e
      cases e
      omega
theorem sum_n {kd am : Nat → Int} {g : Nat} : ∀ d, SLN (SUMp kd am g d) := by
  intro d
  induction d with
  | zero => intro nest i j c e; cases e
  | succ d ih =>
    intro nest i j c e
    unfold SUMp at e
    cases ha : TRMp kd am (SUMp kd am g d) g nest i with
    | inl x => rw [ha] at e; cases e
    | inr p =>
      obtain ⟨j2, a⟩ := p
      rw [ha] at e
      have h1 := sul_n ih g j2 a j c e
      have h2 := trm_n ih ha
      omega
theorem LINE_n {kd am : Nat → Int} {g i j : Nat} {h h' : HSS} (hl : (hCd h).length ≤ i) (hij : i ≤ j) (e : LINE kd am g i h = .inr (j, h')) : (hCd h').length ≤ j := by
  have hl' : (hCd h).length ≤ j := by omega
  unfold LINE at e
  by_cases c4 : kd i = 4
  · rw [if_pos c4] at e
    repeat' (first | (split at e) | (cases e; done) | (cases e; exact hl'))
  rw [if_neg c4] at e
  by_cases c5 : kd i = 5
  · rw [if_pos c5] at e
    split at e
    · cases e
    · split at e
      · cases es : SUMp kd am g 10 0 (i + 2) with
        | inl x => rw [es] at e; cases e
        | inr p =>
          obtain ⟨jj, c⟩ := p
          rw [es] at e
          dsimp only at e
          split at e
          · cases e
            have := sum_n 10 0 (i + 2) _ c es
            show (hCd h ++ c).length ≤ _
            rw [List.length_append]
            omega
          · cases e
      · cases e
  rw [if_neg c5] at e
  repeat' (first | (split at e) | (cases e; done) | (cases e; exact hl'))
