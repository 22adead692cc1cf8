abbrev PRZ : Type := (Nat × Nat) ⊕ (Nat × List Int)
def csF (kd : Nat → Int) (i : Nat) : Nat := if kd i = 0 then 1 else 2
def opF (k : Int) : Int := if k = 43 then -3 else if k = 45 then -4 else if k = 42 then -5 else if k = 47 then -6 else 0
def stF (c : Int) : Int := if c = -7 then -1 else if c = -5 ∨ c = -6 then 1 else 0
def ATMp (kd am : Nat → Int) (rc : Nat → Nat → PRZ) (nest i : Nat) : PRZ :=
  if kd i = 2 then .inr (i + 1, [am i]) else if kd i = 11 then .inr (i + 1, [-1]) else if kd i = 4 then .inr (i + 1, [-2]) else
  if kd i = 40 then (if 6 ≤ nest then .inl (4, i) else match rc (nest + 1) (i + 1) with
    | .inl e => .inl e
    | .inr (j, c) => if kd j = 41 then .inr (j + 1, c) else .inl (csF kd j, j)) else .inl (csF kd i, i)
def TRLp (kd am : Nat → Int) (rc : Nat → Nat → PRZ) (nest : Nat) : Nat → Nat → List Int → PRZ
  | 0, i, _ => .inl (9, i)
  | n + 1, i, c => if kd i = 42 ∨ kd i = 47 then (match ATMp kd am rc nest (i + 1) with
    | .inl e => .inl e
    | .inr (j, a) => TRLp kd am rc nest n j (c ++ a ++ [opF (kd i)])) else .inr (i, c)
def TRMp (kd am : Nat → Int) (rc : Nat → Nat → PRZ) (g nest i : Nat) : PRZ := match ATMp kd am rc nest i with
  | .inl e => .inl e
  | .inr (j, a) => TRLp kd am rc nest g j a
def SULp (kd am : Nat → Int) (rc : Nat → Nat → PRZ) (g nest : Nat) : Nat → Nat → List Int → PRZ
  | 0, i, _ => .inl (9, i)
  | n + 1, i, c => if kd i = 43 ∨ kd i = 45 then (match TRMp kd am rc g nest (i + 1) with
    | .inl e => .inl e
    | .inr (j, a) => SULp kd am rc g nest n j (c ++ a ++ [opF (kd i)])) else .inr (i, c)
def SUMp (kd am : Nat → Int) (g : Nat) : Nat → Nat → Nat → PRZ
  | 0, _, i => .inl (9, i)
  | d + 1, nest, i => match TRMp kd am (SUMp kd am g d) g nest i with
    | .inl e => .inl e
    | .inr (j, a) => SULp kd am (SUMp kd am g d) g nest g j a
/-- what comes out: signs that are as strong or stronger, up to the latest that is open -/
def popF (least : Int) : List Int → List Int × List Int
  | [] => ([], [])
  | x :: S => if least ≤ stF x then (x :: (popF least S).1, (popF least S).2) else ([], x :: S)
def SYF (kd am : Nat → Int) (K : Nat) : Nat → Nat → Nat → Bool → List Int → List Int → PRZ
  | 0, i, _, _, _, _ => .inl (csF kd i, i)
  | n + 1, i, nest, want, S, out =>
    if want then
      (if kd i = 40 then (if 6 ≤ nest then .inl (4, i) else SYF kd am K n (i + 1) (nest + 1) true (-7 :: S) out) else
       if kd i = 2 then SYF kd am K n (i + 1) nest false S (out ++ [am i]) else if kd i = 11 then SYF kd am K n (i + 1) nest false S (out ++ [-1]) else
       if kd i = 4 then SYF kd am K n (i + 1) nest false S (out ++ [-2]) else .inl (csF kd i, i))
    else if kd i = 41 ∧ 0 < nest then SYF kd am K n (i + 1) (nest - 1) false (popF 0 S).2.tail (out ++ (popF 0 S).1)
    else if kd i = 59 ∧ nest = 0 then .inr (i, out ++ (popF 0 S).1)
    else if opF (kd i) ≠ 0 then SYF kd am K n (i + 1) nest true (opF (kd i) :: (popF (stF (opF (kd i))) S).2) (out ++ (popF (stF (opF (kd i))) S).1)
    else .inl (csF kd i, i)

def SYS (kd am : Nat → Int) (K i nest : Nat) (want : Bool) (S out : List Int) : PRZ := SYF kd am K (K - i) i nest want S out
theorem SYS_s {kd am : Nat → Int} {K i nest : Nat} {want : Bool} {S out : List Int} (h : i < K) : SYS kd am K i nest want S out =
    if want then
      (if kd i = 40 then (if 6 ≤ nest then .inl (4, i) else SYS kd am K (i + 1) (nest + 1) true (-7 :: S) out) else
       if kd i = 2 then SYS kd am K (i + 1) nest false S (out ++ [am i]) else if kd i = 11 then SYS kd am K (i + 1) nest false S (out ++ [-1]) else
       if kd i = 4 then SYS kd am K (i + 1) nest false S (out ++ [-2]) else .inl (csF kd i, i))
    else if kd i = 41 ∧ 0 < nest then SYS kd am K (i + 1) (nest - 1) false (popF 0 S).2.tail (out ++ (popF 0 S).1)
    else if kd i = 59 ∧ nest = 0 then .inr (i, out ++ (popF 0 S).1)
    else if opF (kd i) ≠ 0 then SYS kd am K (i + 1) nest true (opF (kd i) :: (popF (stF (opF (kd i))) S).2) (out ++ (popF (stF (opF (kd i))) S).1)
    else .inl (csF kd i, i) := by
  have e : K - i = (K - (i + 1)) + 1 := by omega
  show SYF kd am K (K - i) i nest want S out = _
  rw [e]
  rfl
theorem popF_ap {l : Int} {seg S : List Int} (h : ∀ x ∈ seg, l ≤ stF x) : popF l (seg ++ S) = (seg ++ (popF l S).1, (popF l S).2) := by
  induction seg with
  | nil => rfl
  | cons x seg ih =>
    show (if l ≤ stF x then (x :: (popF l (seg ++ S)).1, (popF l (seg ++ S)).2) else ([], x :: (seg ++ S))) = _
    rw [if_pos (h x List.mem_cons_self), ih (fun y hy => h y (List.mem_cons_of_mem _ hy))]
    rfl
/-- nothing comes out -/
def BTM (S : List Int) : Prop := S = [] ∨ ∃ T, S = -7 :: T
theorem BTM.p {S : List Int} (h : BTM S) {l : Int} (hl : 0 ≤ l) : popF l S = ([], S) := by
  rcases h with rfl | ⟨T, rfl⟩
  · rfl
  · unfold popF
    rw [if_neg (by show ¬ l ≤ -1; omega)]
def MQS (S : List Int) : Prop := S = [] ∨ ∃ x, S = [x] ∧ (x = -5 ∨ x = -6)
def SQS (S : List Int) : Prop := S = [] ∨ ∃ x, S = [x] ∧ (x = -3 ∨ x = -4)
theorem MQS.s {S : List Int} (h : MQS S) : ∀ x ∈ S, stF x = 1 := fun y hy => by
  rcases h with rfl | ⟨x, rfl, hx⟩
  · exact (List.not_mem_nil hy).elim
  · rw [List.mem_singleton.mp hy]
    rcases hx with rfl | rfl <;> rfl
theorem SQS.s {S : List Int} (h : SQS S) : ∀ x ∈ S, stF x = 0 := fun y hy => by
  rcases h with rfl | ⟨x, rfl, hx⟩
  · exact (List.not_mem_nil hy).elim
  · rw [List.mem_singleton.mp hy]
    rcases hx with rfl | rfl <;> rfl
theorem pop1 {M S B : List Int} (hm : MQS M) (hs : SQS S) (hb : BTM B) : popF 1 (M ++ (S ++ B)) = (M, S ++ B) := by
  rw [popF_ap (fun x hx => by rw [hm.s x hx]; omega)]
  have : popF 1 (S ++ B) = ([], S ++ B) := by
    rcases hs with rfl | ⟨x, rfl, hx⟩
    · exact hb.p (by omega)
    · show popF 1 (x :: B) = _
      unfold popF
      rw [if_neg]
      · rfl
      · rcases hx with rfl | rfl <;> decide
  rw [this, List.append_nil]
theorem pop0 {M S B : List Int} (hm : MQS M) (hs : SQS S) (hb : BTM B) : popF 0 (M ++ (S ++ B)) = (M ++ S, B) := by
  rw [popF_ap (fun x hx => by rw [hm.s x hx]; omega), popF_ap (fun x hx => by rw [hs.s x hx]; omega), hb.p (by omega), List.append_nil]
/-- a sum at nest: the class's way, from where a number may stand -/
def SUMok (kd am : Nat → Int) (K lo : Nat) (rc : Nat → Nat → PRZ) : Prop := ∀ nest i B out, lo ≤ nest → nest ≤ 6 → i < K → BTM B → match rc nest i with
  | .inl e => SYS kd am K i nest true B out = .inl e
  | .inr (j, c) => i < j ∧ j < K ∧ opF (kd j) = 0 ∧ ∃ M S out', MQS M ∧ SQS S ∧ SYS kd am K i nest true B out = SYS kd am K j nest false (M ++ (S ++ B)) out' ∧ out' ++ (M ++ S) = out ++ c
theorem atm_sim {kd am : Nat → Int} {K : Nat} (hK : kd (K - 1) = 0 ∨ kd (K - 1) = 1) {rc : Nat → Nat → PRZ} {lo : Nat} (hrc : SUMok kd am K lo rc) {nest i : Nat} (hlo : lo ≤ nest + 1) (hn : nest ≤ 6) (hi : i < K) (S out : List Int) : match ATMp kd am rc nest i with
  | .inl e => SYS kd am K i nest true S out = .inl e
  | .inr (j, c) => i < j ∧ j < K ∧ SYS kd am K i nest true S out = SYS kd am K j nest false S (out ++ c) := by
  have nx : ∀ {j : Nat}, j < K → kd j ≠ 0 → kd j ≠ 1 → j + 1 < K := fun {j} h1 h2 h3 => by
    rcases Nat.lt_or_ge (j + 1) K with h | h
    · exact h
    · have : j = K - 1 := by omega
      rw [this] at h2 h3
      exact (hK.elim h2 h3).elim
  unfold ATMp
  rw [SYS_s hi, if_pos rfl]
  by_cases c2 : kd i = 2
  · rw [if_pos c2, if_neg (by omega), if_pos c2]
    exact ⟨by omega, nx hi (by omega) (by omega), rfl⟩
  · rw [if_neg c2]
    by_cases c11 : kd i = 11
    · rw [if_pos c11, if_neg (by omega), if_neg c2, if_pos c11]
      exact ⟨by omega, nx hi (by omega) (by omega), rfl⟩
    · rw [if_neg c11]
      by_cases c4 : kd i = 4
      · rw [if_pos c4, if_neg (by omega), if_neg c2, if_neg c11, if_pos c4]
        exact ⟨by omega, nx hi (by omega) (by omega), rfl⟩
      · rw [if_neg c4]
        by_cases c40 : kd i = 40
        · rw [if_pos c40, if_pos c40]
          by_cases cn : 6 ≤ nest
          · rw [if_pos cn, if_pos cn]
          · rw [if_neg cn, if_neg cn]
            have hi1 := nx hi (by omega) (by omega)
            have := hrc (nest + 1) (i + 1) (-7 :: S) out (by omega) (by omega) hi1 (Or.inr ⟨S, rfl⟩)
            cases hr : rc (nest + 1) (i + 1) with
            | inl e =>
              rw [hr] at this
              exact this
            | inr p =>
              obtain ⟨j, c⟩ := p
              rw [hr] at this
              obtain ⟨a1, a2, a3, M, Q, out', hm, hs, a4, a5⟩ := this
              dsimp only
              by_cases c41 : kd j = 41
              · rw [if_pos c41]
                refine ⟨by omega, nx a2 (by omega) (by omega), ?_⟩
                rw [a4, SYS_s a2, if_neg (by decide), if_pos ⟨c41, by omega⟩, pop0 hm hs (Or.inr ⟨S, rfl⟩), a5]
                rfl
              · rw [if_neg c41]
                show SYS kd am K (i + 1) (nest + 1) true (-7 :: S) out = .inl (csF kd j, j)
                rw [a4, SYS_s a2, if_neg (by decide), if_neg (fun h => c41 h.1), if_neg (fun h => by omega), if_neg (fun h => h a3)]
        · rw [if_neg c40, if_neg c40, if_neg c2, if_neg c11, if_neg c4]
theorem op_ne {k : Int} (h : k = 42 ∨ k = 47) : opF k ≠ 0 ∧ stF (opF k) = 1 ∧ (opF k = -5 ∨ opF k = -6) ∧ k ≠ 0 ∧ k ≠ 1 ∧ k ≠ 41 ∧ k ≠ 59 := by rcases h with rfl | rfl <;> decide
theorem op_ns {k : Int} (h : k = 43 ∨ k = 45) : opF k ≠ 0 ∧ stF (opF k) = 0 ∧ (opF k = -3 ∨ opF k = -4) ∧ k ≠ 0 ∧ k ≠ 1 ∧ k ≠ 41 ∧ k ≠ 59 := by rcases h with rfl | rfl <;> decide
theorem op_0 {k : Int} (h1 : ¬ (k = 42 ∨ k = 47)) (h2 : ¬ (k = 43 ∨ k = 45)) : opF k = 0 := by
  unfold opF
  rw [if_neg (by omega), if_neg (by omega), if_neg (by omega), if_neg (by omega)]
theorem trl_sim {kd am : Nat → Int} {K : Nat} (hK : kd (K - 1) = 0 ∨ kd (K - 1) = 1) {rc : Nat → Nat → PRZ} {lo : Nat} (hrc : SUMok kd am K lo rc) {nest : Nat} (hlo : lo ≤ nest + 1) (hn : nest ≤ 6) {S B out0 : List Int} (hs : SQS S) (hb : BTM B) : ∀ n i c M out, K - i ≤ n → i < K → MQS M → out ++ M = out0 ++ c → match TRLp kd am rc nest n i c with
  | .inl e => SYS kd am K i nest false (M ++ (S ++ B)) out = .inl e
  | .inr (j, c') => i ≤ j ∧ j < K ∧ ¬ (kd j = 42 ∨ kd j = 47) ∧ ∃ M' out', MQS M' ∧ SYS kd am K i nest false (M ++ (S ++ B)) out = SYS kd am K j nest false (M' ++ (S ++ B)) out' ∧ out' ++ M' = out0 ++ c' := by
  intro n
  induction n with
  | zero => intro i c M out hf hi; omega
  | succ n ih =>
    intro i c M out hf hi hm ho
    unfold TRLp
    by_cases ck : kd i = 42 ∨ kd i = 47
    · rw [if_pos ck]
      obtain ⟨o1, o2, o3, o4, o5, o6, o7⟩ := op_ne ck
      have hi1 : i + 1 < K := by
        rcases Nat.lt_or_ge (i + 1) K with h | h
        · exact h
        · have : i = K - 1 := by omega
          rw [this] at o4 o5
          exact (hK.elim o4 o5).elim
      have st : SYS kd am K i nest false (M ++ (S ++ B)) out = SYS kd am K (i + 1) nest true ([opF (kd i)] ++ (S ++ B)) (out ++ M) := by
        rw [SYS_s hi, if_neg (by decide), if_neg (fun h => o6 h.1), if_neg (fun h => o7 h.1), if_pos o1, o2, pop1 hm hs hb]
        rfl
      have at1 := atm_sim hK hrc hlo hn hi1 ([opF (kd i)] ++ (S ++ B)) (out ++ M)
      cases ha : ATMp kd am rc nest (i + 1) with
      | inl e =>
        rw [ha] at at1
        show SYS kd am K i nest false (M ++ (S ++ B)) out = .inl e
        rw [st]
        exact at1
      | inr p =>
        obtain ⟨j, a⟩ := p
        rw [ha] at at1
        obtain ⟨b1, b2, b3⟩ := at1
        have := ih j (c ++ a ++ [opF (kd i)]) [opF (kd i)] (out ++ M ++ a) (by omega) b2 (Or.inr ⟨_, rfl, o3⟩) (by rw [ho]; simp only [List.append_assoc])
        dsimp only
        rw [st, b3]
        cases ht : TRLp kd am rc nest n j (c ++ a ++ [opF (kd i)]) with
        | inl e => rw [ht] at this; exact this
        | inr p =>
          rw [ht] at this
          obtain ⟨d1, d2⟩ := this
          exact ⟨by omega, d2⟩
    · rw [if_neg ck]
      exact ⟨Nat.le_refl _, hi, ck, M, out, hm, rfl, ho⟩
theorem trm_sim {kd am : Nat → Int} {K g : Nat} (hg : K ≤ g) (hK : kd (K - 1) = 0 ∨ kd (K - 1) = 1) {rc : Nat → Nat → PRZ} {lo : Nat} (hrc : SUMok kd am K lo rc) {nest i : Nat} (hlo : lo ≤ nest + 1) (hn : nest ≤ 6) (hi : i < K) {S B : List Int} (out : List Int) (hs : SQS S) (hb : BTM B) : match TRMp kd am rc g nest i with
  | .inl e => SYS kd am K i nest true (S ++ B) out = .inl e
  | .inr (j, a) => i < j ∧ j < K ∧ ¬ (kd j = 42 ∨ kd j = 47) ∧ ∃ M' out', MQS M' ∧ SYS kd am K i nest true (S ++ B) out = SYS kd am K j nest false (M' ++ (S ++ B)) out' ∧ out' ++ M' = out ++ a := by
  have at1 := atm_sim hK hrc hlo hn hi (S ++ B) out
  unfold TRMp
  cases ha : ATMp kd am rc nest i with
  | inl e => rw [ha] at at1; exact at1
  | inr p =>
    obtain ⟨j, a⟩ := p
    rw [ha] at at1
    obtain ⟨b1, b2, b3⟩ := at1
    have := trl_sim hK hrc hlo hn (out0 := out) hs hb g j a [] (out ++ a) (by omega) b2 (Or.inl rfl) (List.append_nil _)
    dsimp only
    rw [b3]
    cases ht : TRLp kd am rc nest g j a with
    | inl e => rw [ht] at this; exact this
    | inr p =>
      rw [ht] at this
      obtain ⟨d1, d2⟩ := this
      exact ⟨by omega, d2⟩
theorem sul_sim {kd am : Nat → Int} {K g : Nat} (hg : K ≤ g) (hK : kd (K - 1) = 0 ∨ kd (K - 1) = 1) {rc : Nat → Nat → PRZ} {lo : Nat} (hrc : SUMok kd am K lo rc) {nest : Nat} (hlo : lo ≤ nest + 1) (hn : nest ≤ 6) {B out0 : List Int} (hb : BTM B) : ∀ n i c M S out, K - i ≤ n → i < K → MQS M → SQS S → ¬ (kd i = 42 ∨ kd i = 47) → out ++ (M ++ S) = out0 ++ c → match SULp kd am rc g nest n i c with
  | .inl e => SYS kd am K i nest false (M ++ (S ++ B)) out = .inl e
  | .inr (j, c') => i ≤ j ∧ j < K ∧ opF (kd j) = 0 ∧ ∃ M' S' out', MQS M' ∧ SQS S' ∧ SYS kd am K i nest false (M ++ (S ++ B)) out = SYS kd am K j nest false (M' ++ (S' ++ B)) out' ∧ out' ++ (M' ++ S') = out0 ++ c' := by
  intro n
  induction n with
  | zero => intro i c M S out hf hi; omega
  | succ n ih =>
    intro i c M S out hf hi hm hs hk ho
    unfold SULp
    by_cases ck : kd i = 43 ∨ kd i = 45
    · rw [if_pos ck]
      obtain ⟨o1, o2, o3, o4, o5, o6, o7⟩ := op_ns ck
      have hi1 : i + 1 < K := by
        rcases Nat.lt_or_ge (i + 1) K with h | h
        · exact h
        · have : i = K - 1 := by omega
          rw [this] at o4 o5
          exact (hK.elim o4 o5).elim
      have st : SYS kd am K i nest false (M ++ (S ++ B)) out = SYS kd am K (i + 1) nest true ([opF (kd i)] ++ B) (out ++ (M ++ S)) := by
        rw [SYS_s hi, if_neg (by decide), if_neg (fun h => o6 h.1), if_neg (fun h => o7 h.1), if_pos o1, o2, pop0 hm hs hb]
        rfl
      have tr := trm_sim hg hK hrc hlo hn hi1 (S := [opF (kd i)]) (B := B) (out ++ (M ++ S)) (Or.inr ⟨_, rfl, o3⟩) hb
      cases ha : TRMp kd am rc g nest (i + 1) with
      | inl e =>
        rw [ha] at tr
        show SYS kd am K i nest false (M ++ (S ++ B)) out = .inl e
        rw [st]
        exact tr
      | inr p =>
        obtain ⟨j, a⟩ := p
        rw [ha] at tr
        obtain ⟨b1, b2, b3, M', out', hm', b4, b5⟩ := tr
        have := ih j (c ++ a ++ [opF (kd i)]) M' [opF (kd i)] out' (by omega) b2 hm' (Or.inr ⟨_, rfl, o3⟩) b3 (by rw [← List.append_assoc, b5, ho]; simp only [List.append_assoc])
        dsimp only
        rw [st, b4]
        cases ht : SULp kd am rc g nest n j (c ++ a ++ [opF (kd i)]) with
        | inl e => rw [ht] at this; exact this
        | inr p =>
          rw [ht] at this
          obtain ⟨d1, d2⟩ := this
          exact ⟨by omega, d2⟩
    · rw [if_neg ck]
      exact ⟨Nat.le_refl _, hi, op_0 hk ck, M, S, out, hm, hs, rfl, ho⟩
theorem sum_one {kd am : Nat → Int} {K g : Nat} (hg : K ≤ g) (hK : kd (K - 1) = 0 ∨ kd (K - 1) = 1) {rc : Nat → Nat → PRZ} {lo : Nat} (hrc : SUMok kd am K lo rc) {nest i : Nat} (hlo : lo ≤ nest + 1) (hn : nest ≤ 6) (hi : i < K) {B : List Int} (out : List Int) (hb : BTM B) : match (match TRMp kd am rc g nest i with | .inl e => .inl e | .inr (j, a) => SULp kd am rc g nest g j a : PRZ) with
  | .inl e => SYS kd am K i nest true B out = .inl e
  | .inr (j, c) => i < j ∧ j < K ∧ opF (kd j) = 0 ∧ ∃ M S out', MQS M ∧ SQS S ∧ SYS kd am K i nest true B out = SYS kd am K j nest false (M ++ (S ++ B)) out' ∧ out' ++ (M ++ S) = out ++ c := by
  have tr := trm_sim hg hK hrc hlo hn hi (S := []) (B := B) out (Or.inl rfl) hb
  cases ha : TRMp kd am rc g nest i with
  | inl e => rw [ha] at tr; exact tr
  | inr p =>
    obtain ⟨j, a⟩ := p
    rw [ha] at tr
    obtain ⟨b1, b2, b3, M', out', hm', b4, b5⟩ := tr
    have := sul_sim hg hK hrc hlo hn (out0 := out) hb g j a M' [] out' (by omega) b2 hm' (Or.inl rfl) b3 (by rw [List.append_nil]; exact b5)
    dsimp only
    have b4' : SYS kd am K i nest true B out = SYS kd am K j nest false (M' ++ ([] ++ B)) out' := b4
    rw [b4']
    cases ht : SULp kd am rc g nest g j a with
    | inl e => rw [ht] at this; exact this
    | inr p =>
      rw [ht] at this
      obtain ⟨d1, d2⟩ := this
      exact ⟨by omega, d2⟩
theorem sum_ok {kd am : Nat → Int} {K g : Nat} (hg : K ≤ g) (hK : kd (K - 1) = 0 ∨ kd (K - 1) = 1) : ∀ d, SUMok kd am K (7 - d) (SUMp kd am g d) := by
  intro d
  induction d with
  | zero => intro nest i B out h1 h2; omega
  | succ d ih =>
    intro nest i B out h1 h2 hi hb
    exact sum_one hg hK ih (by omega) h2 hi out hb
/-- a button's sum: the class's way and the reference's -/
theorem sum_alike {kd am : Nat → Int} {K g : Nat} (hg : K ≤ g) (hK : kd (K - 1) = 0 ∨ kd (K - 1) = 1) {i : Nat} (hi : i < K) (out : List Int) : SYS kd am K i 0 true [] out = match SUMp kd am g 10 0 i with
  | .inl e => .inl e
  | .inr (j, c) => if kd j = 59 then .inr (j, out ++ c) else .inl (csF kd j, j) := by
  have := sum_one hg hK (sum_ok (am := am) hg hK 9) (nest := 0) (by omega) (by omega) hi (B := []) out (Or.inl rfl)
  have e : SUMp kd am g 10 0 i = (match TRMp kd am (SUMp kd am g 9) g 0 i with | .inl e => .inl e | .inr (j, a) => SULp kd am (SUMp kd am g 9) g 0 g j a : PRZ) := rfl
  rw [← e] at this
  revert this
  generalize SUMp kd am g 10 0 i = r
  intro this
  cases r with
  | inl e => exact this
  | inr p =>
    obtain ⟨j, c⟩ := p
    obtain ⟨a1, a2, a3, M, Q, out', hm, hs, a4, a5⟩ := this
    dsimp only
    rw [a4, SYS_s a2, if_neg (by decide), if_neg (fun h => by omega)]
    by_cases c59 : kd j = 59
    · rw [if_pos ⟨c59, rfl⟩, if_pos c59, pop0 hm hs (Or.inl rfl), a5]
    · rw [if_neg (fun h => c59 h.1), if_neg c59, if_neg (fun h => h a3)]
