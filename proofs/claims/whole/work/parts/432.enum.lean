/-! PURE: the rows that fit, in their order -/
abbrev ROW : Type := Nat → Nat
def GOL (rc : ROW → FR → List ROW → List ROW) (al : Nat → Int32) (U L : Nat → Int) (tv : Int) (k : Nat) (x : FR) : Nat → Nat → ROW → List ROW → List ROW
  | 0, _, _, R => R
  | n + 1, b, P, R => if (LE al b x).1 = 0 ∧ (tv = -1 ∨ (U tv.toNat = (LE al b x).2.1 ∧ L tv.toNat = (LE al b x).2.2)) then GOL rc al U L tv k x n (b + 1) (upN P k b) (rc (upN P k b) (LE al b x).2 R) else GOL rc al U L tv k x n (b + 1) P R
def GO (al : Nat → Int32) (U L : Nat → Int) (T : Nat → Int) (bc : Nat) : Nat → Nat → ROW → FR → List ROW → List ROW
  | 0, _, P, _, R => R ++ [P]
  | n + 1, k, P, x, R => GOL (GO al U L T bc n (k + 1)) al U L (T k) k x bc 0 P R
theorem GOL_len {rc : ROW → FR → List ROW → List ROW} {al : Nat → Int32} {U L : Nat → Int} {tv : Int} {k : Nat} {x : FR} {B : Nat} (h : ∀ P y R, (rc P y R).length ≤ R.length + B) : ∀ n b P R, (GOL rc al U L tv k x n b P R).length ≤ R.length + n * B := by
  intro n
  induction n with
  | zero => intro b P R; unfold GOL; omega
  | succ n ih =>
    intro b P R
    unfold GOL
    rw [Nat.add_mul, Nat.one_mul]
    split
    · have := ih (b + 1) (upN P k b) (rc (upN P k b) (LE al b x).2 R)
      have := h (upN P k b) (LE al b x).2 R
      omega
    · have := ih (b + 1) P R
      omega
theorem GO_len {al : Nat → Int32} {U L T : Nat → Int} {bc : Nat} : ∀ n k P x R, (GO al U L T bc n k P x R).length ≤ R.length + bc ^ n := by
  intro n
  induction n with
  | zero => intro k P x R; unfold GO; simp
  | succ n ih =>
    intro k P x R
    unfold GO
    rw [Nat.pow_succ, Nat.mul_comm]
    exact GOL_len (ih (k + 1)) bc 0 P R
/-! what each keeps of the rows -/
def SUR : List ROW → Nat → Int
  | [], _ => -1
  | P :: R, k => if ∀ Q ∈ R, Q k = P k then (P k : Int) else -1
def KPT (R : List ROW) (v : Int) (sz : Nat) : Int := if 0 ≤ v then (match R[v.toNat]? with
  | some P => (CDE P sz 0 0 : Int)
  | none => -1) else -1
def CNT : List ROW → Nat → Nat → Nat
  | [], _, _ => 0
  | P :: R, i, b => (if P i = b then 1 else 0) + CNT R i b
theorem CNT_ap {R : List ROW} {P : ROW} {i b : Nat} : CNT (R ++ [P]) i b = CNT R i b + (if P i = b then 1 else 0) := by
  induction R with
  | nil => show (if P i = b then 1 else 0) + 0 = 0 + _; omega
  | cons Q R ih =>
    show (if Q i = b then 1 else 0) + CNT (R ++ [P]) i b = (if Q i = b then 1 else 0) + CNT R i b + _
    rw [ih]; omega
theorem CNT_all {R : List ROW} {i b : Nat} : CNT R i b ≤ R.length ∧ (CNT R i b = R.length ↔ ∀ Q ∈ R, Q i = b) := by
  induction R with
  | nil => exact ⟨Nat.le_refl _, ⟨fun _ Q hQ => (List.not_mem_nil hQ).elim, fun _ => rfl⟩⟩
  | cons P R ih =>
    obtain ⟨i1, i2⟩ := ih
    unfold CNT
    rw [List.length_cons]
    by_cases c : P i = b
    · rw [if_pos c]
      refine ⟨by omega, ⟨fun h Q hQ => ?_, fun h => ?_⟩⟩
      · rcases List.mem_cons.mp hQ with rfl | hQ
        · exact c
        · exact i2.mp (by omega) Q hQ
      · have := i2.mpr (fun Q hQ => h Q (List.mem_cons_of_mem _ hQ))
        omega
    · rw [if_neg c]
      refine ⟨by omega, ⟨fun h => by omega, fun h => absurd (h P List.mem_cons_self) c⟩⟩
theorem SUR_ap {P0 : ROW} {R : List ROW} {P : ROW} {k : Nat} : SUR (P0 :: R ++ [P]) k = if SUR (P0 :: R) k = P k then (P k : Int) else -1 := by
  show (if ∀ Q ∈ R ++ [P], Q k = P0 k then (P0 k : Int) else -1) = if (if ∀ Q ∈ R, Q k = P0 k then (P0 k : Int) else -1) = P k then (P k : Int) else -1
  by_cases c : ∀ Q ∈ R, Q k = P0 k
  · rw [if_pos c]
    by_cases e : P k = P0 k
    · rw [if_pos (fun Q hQ => by
        rcases List.mem_append.mp hQ with h | h
        · exact c Q h
        · rw [List.mem_singleton.mp h]; exact e), if_pos (by omega)]
      omega
    · rw [if_neg (fun h => e (h P (List.mem_append.mpr (Or.inr (List.mem_singleton.mpr rfl))))), if_neg (by omega)]
  · rw [if_neg c, if_neg (fun h => c (fun Q hQ => h Q (List.mem_append.mpr (Or.inl hQ)))), if_neg (by omega)]
theorem KPT_ap {R : List ROW} {P : ROW} {v : Int} {sz : Nat} : KPT (R ++ [P]) v sz = if (R.length : Int) = v then (CDE P sz 0 0 : Int) else KPT R v sz := by
  unfold KPT
  by_cases c : 0 ≤ v
  · rw [if_pos c, if_pos c]
    by_cases e : (R.length : Int) = v
    · rw [if_pos e, show v.toNat = R.length by omega, List.getElem?_append_right (Nat.le_refl _), Nat.sub_self]
      rfl
    · rw [if_neg e]
      by_cases g : v.toNat < R.length
      · rw [List.getElem?_append_left g]
      · rw [List.getElem?_eq_none (by rw [List.length_append, List.length_singleton]; omega), List.getElem?_eq_none (by omega)]
  · rw [if_neg c, if_neg c, if_neg (by omega)]
def W9 (m : Mem) (w sz : Nat) (v : Int) (R : List ROW) : Prop := m.1 w 0 = q32 R.length ∧ m.1 w 7 = q32 v ∧ m.1 w 1 = q32 (KPT R v sz) ∧ ∀ k, k < sz → R ≠ [] → m.1 (w + 1) k = q32 (SUR R k)
def W10 (m : Mem) (sz : Nat) (v : Int) (R : List ROW) : Prop := m.1 23 46 = q32 R.length ∧ m.1 23 47 = q32 v ∧ (∀ i b, i < sz → b < 6 → m.1 46 (6 * i + b) = q32 (CNT R i b)) ∧ (0 ≤ v → ∀ P, R[v.toNat]? = some P → ∀ i, i < sz → m.1 45 i = q32 (P i))
theorem SUR_b {R : List ROW} {k : Nat} (h : ∀ Q ∈ R, Q k < 6) : -1 ≤ SUR R k ∧ SUR R k < 6 := by
  cases R with
  | nil => show -1 ≤ (-1 : Int) ∧ (-1 : Int) < 6; omega
  | cons P R =>
    have := h P List.mem_cons_self
    show -1 ≤ (if _ then _ else _) ∧ (if _ then _ else _) < _
    split <;> omega
theorem take9 {F : Nat} (hF : 1000 ≤ F) {s : List Sh} {m : Mem} {w sz : Nat} {v : Int} (hv : B31 v) {P : ROW} {R : List ROW} (hsz : sz ≤ 8) (hP : ∀ i, i < sz → P i < 6) (hR : ∀ Q ∈ R, ∀ i, i < sz → Q i < 6) (l1 : ln s (w + 1) = 8) (l2 : ln s (w + 2) = 8) (hc : R.length ≤ 2000000) (r2 : m.2.2 w 2 = some (w + 1)) (r3 : m.2.2 w 3 = some (w + 2)) (hr : ∀ i, i < sz → m.1 (w + 2) i = q32 (P i)) (h : W9 m w sz v R) : ∃ m', n_X8_takeRow F s m w (q32 sz) = some ((), m') ∧ m'.2 = m.2 ∧ (∀ a j, a ≠ w → a ≠ w + 1 → m'.1 a j = m.1 a j) ∧ W9 m' w sz v (R ++ [P]) := by
  obtain ⟨h0, h7, h1, hS⟩ := h
  obtain ⟨m', e1, e2, e3, e4, e5, e6⟩ := takeL9 (F := F) hv hsz hP l1 l2 hc sz F (by omega) m 0 0 (by omega) r2 r3 h0 h7 hr (by omega)
  refine ⟨m', e1, e2, fun a j h1 h2 => e3 a j (by omega) (by omega), ?_, by rw [e3 w 7 (by omega) (by omega)]; exact h7, ?_, fun k hk hne => ?_⟩
  · rw [e4, List.length_append, List.length_singleton]
  · rw [e5, KPT_ap]
    split
    · rfl
    · exact h1
  · rw [e6 k (by omega) hk]
    cases R with
    | nil =>
      rw [if_pos (show ([] : List ROW).length = 0 from rfl)]
      show q32 _ = q32 (if ∀ Q ∈ ([] : List ROW), Q k = P k then (P k : Int) else -1)
      rw [if_pos (fun Q hQ => (List.not_mem_nil hQ).elim)]
    | cons P0 R =>
      have b := SUR_b (R := P0 :: R) (k := k) (fun Q hQ => hR Q hQ k hk)
      have bp := hP k hk
      rw [if_neg (by rw [List.length_cons]; omega), hS k hk (by simp), SUR_ap]
      by_cases e : SUR (P0 :: R) k = P k
      · rw [if_pos e, if_pos (by rw [e])]
      · rw [if_neg e, if_neg (by rw [q32_eq_f (by omega)]; exact id)]
theorem tally10 {nrc : Mem → Nat → Int32 → Int32 → Int64 → Int64 → Option (Unit × Mem)} {F : Nat} (hF : 1000 ≤ F) {s : List Sh} (hp : ∃ t, s = sB ++ t) {m : Mem} (hr : RF m) {sz : Nat} {v : Int} (hv : B31 v) {P : ROW} {R : List ROW} (hsz : sz ≤ 8) (hP : ∀ i, i < sz → P i < 6) (hc : R.length ≤ 2000000) (hR : ∀ i, i < sz → m.1 44 i = q32 (P i)) (h : W10 m sz v R) : ∃ m', nl_X10_goesFit_13 nrc F s F m 23 (q32 sz) (q32 0) = some ((), m') ∧ m'.2 = m.2 ∧ (∀ a j, (a ≠ 23 ∨ j ≠ 46) → a ≠ 45 → a ≠ 46 → m'.1 a j = m.1 a j) ∧ W10 m' sz v (R ++ [P]) := by
  obtain ⟨h0, h7, h1, hS⟩ := h
  obtain ⟨m', e1, e2, e3, e4, e5, e6⟩ := tallyL10 (nrc := nrc) (F := F) hp hv hsz hP hc sz F (by omega) m 0 (by omega) hr h0 h7 hR
  refine ⟨m', e1, e2, e3, ?_, by rw [e3 23 47 (by omega) (by omega) (by omega)]; exact h7, fun i b hi hb => ?_, fun hv0 Q hQ i hi => ?_⟩
  · rw [e4, List.length_append, List.length_singleton]
  · rw [e6 i b hb, CNT_ap, h1 i b hi hb]
    by_cases c : P i = b
    · rw [if_pos (by omega), if_pos c, c32i, q32_add]
      rfl
    · rw [if_neg (by omega), if_neg c]
      rfl
  · rw [e5 i]
    by_cases c : (R.length : Int) = v
    · rw [if_pos (by omega)]
      rw [show v.toNat = R.length by omega, List.getElem?_append_right (Nat.le_refl _), Nat.sub_self] at hQ
      cases hQ
      rfl
    · rw [if_neg (by omega)]
      by_cases g : v.toNat < R.length
      · rw [List.getElem?_append_left g] at hQ
        exact hS hv0 Q hQ i hi
      · rw [List.getElem?_eq_none (by rw [List.length_append, List.length_singleton]; omega)] at hQ
        cases hQ
