/-! the first two rows that are one: rows by their numbers -/
abbrev RPL : Type := List (FR × Nat)
def lk : RPL → FR → Option Nat
  | [], _ => none
  | p :: R, y => if p.1 = y then some p.2 else lk R y
def WK (al : Nat → Int32) (bc : Nat) (x : FR) : Nat → Nat → Option FR
  | 0, _ => some x
  | n + 1, c => match WK al bc x n (c / bc) with
    | none => none
    | some y => if (LE al ((c % bc : Nat) : Int) y).1 = 0 then some (LE al ((c % bc : Nat) : Int) y).2 else none
def PAf (al : Nat → Int32) (bc : Nat) (x : FR) (n : Nat) : Nat → Nat → RPL
  | 0, _ => []
  | k + 1, c => match WK al bc x n c with
    | some y => (y, c) :: PAf al bc x n k (c + 1)
    | none => PAf al bc x n k (c + 1)
def RTW (al : Nat → Int32) (bc : Nat) (x : FR) (n : Nat) : Nat → Nat → RPL → Option (Nat × Nat) × RPL
  | 0, _, R => (none, R)
  | k + 1, c, R => match WK al bc x n c with
    | none => RTW al bc x n k (c + 1) R
    | some y => match lk R y with
      | some c0 => (some (c0, c), R)
      | none => RTW al bc x n k (c + 1) (R ++ [(y, c)])
def TWB (al : Nat → Int32) (bc : Nat) (x : FR) (c : Nat) : Nat → Nat → RPL → Option (Nat × Nat) × RPL
  | 0, _, R => (none, R)
  | n + 1, b, R => if (LE al (b : Nat) x).1 = 0 then (match lk R (LE al (b : Nat) x).2 with
      | some c0 => (some (c0, c * bc + b), R)
      | none => TWB al bc x c n (b + 1) (R ++ [((LE al (b : Nat) x).2, c * bc + b)])) else TWB al bc x c n (b + 1) R
def TWL (al : Nat → Int32) (bc : Nat) : RPL → RPL → Option (Nat × Nat) × RPL
  | [], R => (none, R)
  | p :: P, R => match (TWB al bc p.1 p.2 bc 0 R).1 with
    | some z => (some z, (TWB al bc p.1 p.2 bc 0 R).2)
    | none => TWL al bc P (TWB al bc p.1 p.2 bc 0 R).2
def TWS (al : Nat → Int32) (bc : Nat) : Nat → Nat → RPL → Option (Nat × Nat × Nat)
  | 0, _, _ => none
  | k + 1, d, P => match (TWL al bc P []).1 with
    | some z => some (d + 1, z)
    | none => TWS al bc k (d + 1) (TWL al bc P []).2
def RTS (al : Nat → Int32) (bc : Nat) (x : FR) : Nat → Nat → Option (Nat × Nat × Nat)
  | 0, _ => none
  | k + 1, d => match (RTW al bc x (d + 1) (bc ^ (d + 1)) 0 []).1 with
    | some z => some (d + 1, z)
    | none => RTS al bc x k (d + 1)
theorem RTW_ap {al : Nat → Int32} {bc : Nat} {x : FR} {n : Nat} : ∀ k c R, (RTW al bc x n k c R).1 = none → (RTW al bc x n k c R).2 = R ++ PAf al bc x n k c := by
  intro k
  induction k with
  | zero => intro c R _; exact (List.append_nil R).symm
  | succ k ih =>
    intro c R h
    unfold RTW at h ⊢
    unfold PAf
    cases hw : WK al bc x n c with
    | none =>
      rw [hw] at h
      exact ih _ _ h
    | some y =>
      rw [hw] at h
      dsimp only at h ⊢
      cases hl : lk R y with
      | some c0 => rw [hl] at h; cases h
      | none =>
        rw [hl] at h
        dsimp only at h ⊢
        rw [ih _ _ h, List.append_assoc]
        rfl
theorem RTW_n {al : Nat → Int32} {bc : Nat} {x : FR} {d c : Nat} (hx : WK al bc x d c = none) (K : Nat) (R : RPL) : ∀ n b, b + n = bc → RTW al bc x (d + 1) (n + K) (c * bc + b) R = RTW al bc x (d + 1) K ((c + 1) * bc) R := by
  intro n
  induction n with
  | zero =>
    intro b hb
    rw [Nat.zero_add, Nat.add_mul, Nat.one_mul, show b = bc by omega]
  | succ n ih =>
    intro b hb
    have e1 : (c * bc + b) / bc = c := by
      rw [Nat.mul_comm, Nat.mul_add_div (by omega), Nat.div_eq_of_lt (by omega), Nat.add_zero]
    have hw : WK al bc x (d + 1) (c * bc + b) = none := by
      show (match WK al bc x d ((c * bc + b) / bc) with | none => none | some y => _) = none
      rw [e1, hx]
    rw [show n + 1 + K = (n + K) + 1 by omega]
    show (match WK al bc x (d + 1) (c * bc + b) with | none => _ | some y => _) = _
    rw [hw]
    exact ih (b + 1) (by omega)
theorem RTW_b {al : Nat → Int32} {bc : Nat} {x y : FR} {d c : Nat} (hx : WK al bc x d c = some y) (K : Nat) : ∀ n b R, b + n = bc → RTW al bc x (d + 1) (n + K) (c * bc + b) R = match (TWB al bc y c n b R).1 with
    | some z => (some z, (TWB al bc y c n b R).2)
    | none => RTW al bc x (d + 1) K ((c + 1) * bc) (TWB al bc y c n b R).2 := by
  intro n
  induction n with
  | zero =>
    intro b R hb
    rw [Nat.zero_add, Nat.add_mul, Nat.one_mul, show b = bc by omega]
    rfl
  | succ n ih =>
    intro b R hb
    have e1 : (c * bc + b) / bc = c := by
      rw [Nat.mul_comm, Nat.mul_add_div (by omega), Nat.div_eq_of_lt (by omega), Nat.add_zero]
    have e2 : (c * bc + b) % bc = b := by
      rw [Nat.mul_comm, Nat.mul_add_mod, Nat.mod_eq_of_lt (by omega)]
    have hw : WK al bc x (d + 1) (c * bc + b) = if (LE al (b : Nat) y).1 = 0 then some (LE al (b : Nat) y).2 else none := by
      show (match WK al bc x d ((c * bc + b) / bc) with | none => none | some y => _) = _
      rw [e1, hx, e2]
    rw [show n + 1 + K = (n + K) + 1 by omega]
    by_cases c0 : (LE al (b : Nat) y).1 = 0
    · rw [if_pos c0] at hw
      cases hl : lk R (LE al (b : Nat) y).2 with
      | some c1 =>
        have hT : TWB al bc y c (n + 1) b R = (some (c1, c * bc + b), R) := by
          unfold TWB
          rw [if_pos c0, hl]
        have hR : RTW al bc x (d + 1) (n + K + 1) (c * bc + b) R = (some (c1, c * bc + b), R) := by
          unfold RTW
          rw [hw]
          dsimp only
          rw [hl]
        rw [hT, hR]
      | none =>
        have hT : TWB al bc y c (n + 1) b R = TWB al bc y c n (b + 1) (R ++ [((LE al (b : Nat) y).2, c * bc + b)]) := by
          show (if _ then _ else _) = _
          rw [if_pos c0, hl]
        have hR : RTW al bc x (d + 1) (n + K + 1) (c * bc + b) R = RTW al bc x (d + 1) (n + K) (c * bc + b + 1) (R ++ [((LE al (b : Nat) y).2, c * bc + b)]) := by
          show (match WK al bc x (d + 1) (c * bc + b) with | none => _ | some y => _) = _
          rw [hw]
          dsimp only
          rw [hl]
        rw [hT, hR]
        exact ih (b + 1) _ (by omega)
    · rw [if_neg c0] at hw
      have hT : TWB al bc y c (n + 1) b R = TWB al bc y c n (b + 1) R := by
        show (if _ then _ else _) = _
        rw [if_neg c0]
      have hR : RTW al bc x (d + 1) (n + K + 1) (c * bc + b) R = RTW al bc x (d + 1) (n + K) (c * bc + b + 1) R := by
        show (match WK al bc x (d + 1) (c * bc + b) with | none => _ | some y => _) = _
        rw [hw]
      rw [hT, hR]
      exact ih (b + 1) R (by omega)
theorem RTW_P {al : Nat → Int32} {bc : Nat} {x : FR} {d : Nat} : ∀ k c R, RTW al bc x (d + 1) (k * bc) (c * bc) R = TWL al bc (PAf al bc x d k c) R := by
  intro k
  induction k with
  | zero => intro c R; rw [Nat.zero_mul]; rfl
  | succ k ih =>
    intro c R
    rw [show (k + 1) * bc = bc + k * bc by rw [Nat.add_mul, Nat.one_mul, Nat.add_comm]]
    unfold PAf
    cases hw : WK al bc x d c with
    | none =>
      have := RTW_n hw (k * bc) R bc 0 (by omega)
      show RTW al bc x (d + 1) (bc + k * bc) (c * bc + 0) R = _
      rw [this]
      exact ih (c + 1) R
    | some y =>
      have := RTW_b hw (k * bc) bc 0 R (by omega)
      show RTW al bc x (d + 1) (bc + k * bc) (c * bc + 0) R = _
      rw [this]
      show _ = (match (TWB al bc y c bc 0 R).1 with | some z => _ | none => _)
      cases ht : (TWB al bc y c bc 0 R).1 with
      | some z => rfl
      | none => exact ih (c + 1) _
theorem TWS_R {al : Nat → Int32} {bc : Nat} {x : FR} : ∀ k d, TWS al bc k d (PAf al bc x d (bc ^ d) 0) = RTS al bc x k d := by
  intro k
  induction k with
  | zero => intro d; rfl
  | succ k ih =>
    intro d
    have e := RTW_P (al := al) (bc := bc) (x := x) (d := d) (bc ^ d) 0 []
    rw [Nat.zero_mul, ← Nat.pow_succ] at e
    show (match (TWL al bc (PAf al bc x d (bc ^ d) 0) []).1 with | some z => some (d + 1, z) | none => TWS al bc k (d + 1) (TWL al bc (PAf al bc x d (bc ^ d) 0) []).2) = (match (RTW al bc x (d + 1) (bc ^ (d + 1)) 0 []).1 with | some z => some (d + 1, z) | none => RTS al bc x k (d + 1))
    rw [← e]
    cases h : (RTW al bc x (d + 1) (bc ^ (d + 1)) 0 []).1 with
    | some z => rfl
    | none =>
      have := RTW_ap _ _ _ h
      rw [List.nil_append] at this
      dsimp only
      rw [this]
      exact ih (d + 1)
/-! digits -/
def DG (bc : Nat) : Nat → Nat → Nat → Nat
  | 0, _, _ => 0
  | d + 1, c, k => if k = d then c % bc else DG bc d (c / bc) k
theorem DG_e {bc : Nat} : ∀ d c k, k < d → DG bc d c k = c / bc ^ (d - 1 - k) % bc := by
  intro d
  induction d with
  | zero => intro c k h; omega
  | succ d ih =>
    intro c k h
    unfold DG
    by_cases ck : k = d
    · rw [if_pos ck, ck, show d + 1 - 1 - d = 0 by omega, Nat.pow_zero, Nat.div_one]
    · rw [if_neg ck, ih _ _ (by omega), show d + 1 - 1 - k = (d - 1 - k) + 1 by omega, Nat.pow_succ, Nat.mul_comm, ← Nat.div_div_eq_div_mul]
theorem lk_n {R : RPL} {y : FR} : lk R y = none ↔ ∀ p ∈ R, p.1 ≠ y := by
  induction R with
  | nil => exact ⟨fun _ p hp => (List.not_mem_nil hp).elim, fun _ => rfl⟩
  | cons p R ih =>
    unfold lk
    by_cases c : p.1 = y
    · rw [if_pos c]
      exact ⟨fun h => by (cases h), fun h => absurd c (h p List.mem_cons_self)⟩
    · rw [if_neg c, ih]
      constructor
      · intro h q hq
        rcases List.mem_cons.mp hq with rfl | hq
        · exact c
        · exact h q hq
      · exact fun h q hq => h q (List.mem_cons_of_mem _ hq)
theorem lk_s {R : RPL} {y : FR} {c : Nat} (nd : (R.map Prod.fst).Nodup) (h : (y, c) ∈ R) : lk R y = some c := by
  induction R with
  | nil => exact (List.not_mem_nil h).elim
  | cons p R ih =>
    unfold lk
    rw [List.map_cons, List.nodup_cons] at nd
    rcases List.mem_cons.mp h with rfl | h
    · exact if_pos rfl
    · rw [if_neg (fun e => nd.1 (by rw [e]; exact List.mem_map_of_mem (f := Prod.fst) h))]
      exact ih nd.2 h
