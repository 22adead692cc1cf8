/-! PURE: bits -/
def bt (v : Int32) (k : Nat) : Bool := v.toBitVec.getLsbD k
theorem bt_or (a b : Int32) (k : Nat) : bt (a ||| b) k = (bt a k || bt b k) := by
  unfold bt
  rw [Int32.toBitVec_or, BitVec.getLsbD_or]
theorem bt_dif (a b : Int32) {k : Nat} (hk : k < 32) : bt (a &&& (b ^^^ (-1 : Int32))) k = (bt a k && !bt b k) := by
  unfold bt
  rw [Int32.toBitVec_and, Int32.toBitVec_xor, BitVec.getLsbD_and, BitVec.getLsbD_xor]
  have : (Int32.toBitVec (-1 : Int32)).getLsbD k = true := by
    have : ∀ k : Fin 32, (Int32.toBitVec (-1 : Int32)).getLsbD k.val = true := by decide
    exact this ⟨k, hk⟩
  rw [this]
  simp
theorem bt_one {x k : Nat} (hx : x < 32) (hk : k < 32) : bt ((1 : Int32) <<< (q32 x &&& 31)) k = decide (k = x) := by
  have : ∀ x k : Fin 32, bt ((1 : Int32) <<< (q32 (x.val : Int) &&& 31)) k.val = decide (k.val = x.val) := by decide +kernel
  exact this ⟨x, hx⟩ ⟨k, hk⟩
theorem bt_all {x k : Nat} (hx : x < 31) (hk : k < 32) : bt ((1 : Int32) <<< (q32 x &&& 31) - 1) k = decide (k < x) := by
  have : ∀ (x : Fin 31) (k : Fin 32), bt ((1 : Int32) <<< (q32 (x.val : Int) &&& 31) - 1) k.val = decide (k.val < x.val) := by decide +kernel
  exact this ⟨x, hx⟩ ⟨k, hk⟩
theorem bt_z (k : Nat) : bt 0 k = false := by
  unfold bt
  simp
theorem bt_ext {a b : Int32} (h : ∀ k, k < 32 → bt a k = bt b k) : a = b := by
  apply Int32.toBitVec_inj.mp
  apply BitVec.eq_of_getLsbD_eq
  intro i hi
  exact h i hi
theorem low0 (x : BitVec 32) : (x &&& 1#32 = 0#32) ↔ x.getLsbD 0 = false := by
  constructor
  · intro h
    have := congrArg (fun v => BitVec.getLsbD v 0) h
    simpa using this
  · intro h
    apply BitVec.eq_of_getLsbD_eq
    intro i hi
    rcases Nat.eq_zero_or_pos i with rfl | hp
    · rw [BitVec.getLsbD_and, h]; simp
    · simp only [BitVec.getLsbD_and, BitVec.getLsbD_zero]
      have : (1#32).getLsbD i = false := by
        rw [BitVec.getLsbD_one]
        simp
        omega
      rw [this, Bool.and_false]
theorem bt_u {v : Int32} {k : Nat} (hk : k < 32) : (ushr v (q32 k) &&& (1 : Int32) = 0) ↔ bt v k = false := by
  have e : ∀ k : Fin 32, ((q32 (k.val : Int)).toUInt32 &&& Int32.toUInt32 31).toBitVec.toNat % 32 = k.val := by decide +kernel
  have e := e ⟨k, hk⟩
  unfold ushr bt
  rw [← Int32.toBitVec_inj]
  rw [Int32.toBitVec_and, show Int32.toBitVec (1 : Int32) = 1#32 from rfl, show Int32.toBitVec (0 : Int32) = 0#32 from rfl, low0]
  have : ((v.toUInt32 >>> ((q32 (k : Int)).toUInt32 &&& Int32.toUInt32 31)).toInt32).toBitVec.getLsbD 0 = v.toBitVec.getLsbD k := by
    have e2 : ((q32 (k : Int)).toUInt32 &&& Int32.toUInt32 31) = UInt32.ofNat k := by
      have : ∀ k : Fin 32, ((q32 (k.val : Int)).toUInt32 &&& Int32.toUInt32 31) = UInt32.ofNat k.val := by decide +kernel
      exact this ⟨k, hk⟩
    rw [e2]
    show (v.toUInt32 >>> UInt32.ofNat k).toBitVec.getLsbD 0 = v.toBitVec.getLsbD k
    rw [UInt32.toBitVec_shiftRight]
    have e3 : ((UInt32.ofNat k).toBitVec % 32).toNat = k := by
      have : ∀ k : Fin 32, ((UInt32.ofNat k.val).toBitVec % 32).toNat = k.val := by decide +kernel
      exact this ⟨k, hk⟩
    rw [BitVec.ushiftRight_eq', e3, BitVec.getLsbD_ushiftRight]
    rfl
  rw [this]
theorem bt_s {v : Int32} {k : Nat} (hk : k < 32) : ((v >>> (q32 k &&& 31)) &&& (1 : Int32) = 0) ↔ bt v k = false := by
  unfold bt
  rw [← Int32.toBitVec_inj]
  rw [Int32.toBitVec_and, show Int32.toBitVec (1 : Int32) = 1#32 from rfl, show Int32.toBitVec (0 : Int32) = 0#32 from rfl, low0]
  have : ((v >>> (q32 (k : Int) &&& 31))).toBitVec.getLsbD 0 = v.toBitVec.getLsbD k := by
    have e2 : (q32 (k : Int) &&& 31) = q32 k := by
      have : ∀ k : Fin 32, (q32 (k.val : Int) &&& 31) = q32 (k.val : Int) := by decide +kernel
      exact this ⟨k, hk⟩
    rw [e2, Int32.toBitVec_shiftRight]
    have e3 : ((q32 (k : Int)).toBitVec.smod 32).toNat = k := by
      have : ∀ k : Fin 32, ((q32 (k.val : Int)).toBitVec.smod 32).toNat = k.val := by decide +kernel
      exact this ⟨k, hk⟩
    rw [BitVec.sshiftRight_eq', e3, BitVec.getLsbD_sshiftRight]
    simp [hk]
  rw [this]
/-! PURE: what is reached -/
def cdB (v : Int32) : Nat → Nat
  | 0 => 0
  | n + 1 => cdB v n + (if bt v n then 1 else 0)
theorem cdB_le {v : Int32} : ∀ n, cdB v n ≤ n := by
  intro n
  induction n with
  | zero => exact Nat.le_refl _
  | succ n ih => unfold cdB; split <;> omega
theorem cdB_mono {a b : Int32} : ∀ n, (∀ k, k < n → bt a k = true → bt b k = true) → cdB a n ≤ cdB b n ∧ ((∃ k, k < n ∧ bt b k = true ∧ bt a k = false) → cdB a n < cdB b n) := by
  intro n
  induction n with
  | zero => intro _; exact ⟨Nat.le_refl _, fun ⟨k, h, _⟩ => by omega⟩
  | succ n ih =>
    intro h
    obtain ⟨i1, i2⟩ := ih (fun k hk => h k (by omega))
    have hn := h n (by omega)
    unfold cdB
    refine ⟨?_, fun ⟨k, k1, k2, k3⟩ => ?_⟩
    · split
      · rename_i c; rw [if_pos (hn c)]; omega
      · omega
    · by_cases e : k = n
      · subst e
        rw [k2, k3]
        simp
        omega
      · have := i2 ⟨k, by omega, k2, k3⟩
        split
        · rename_i c; rw [if_pos (hn c)]; omega
        · omega
theorem cdB_full {v : Int32} : ∀ n, n ≤ cdB v n → ∀ k, k < n → bt v k = true := by
  intro n
  induction n with
  | zero => intro _ k hk; omega
  | succ n ih =>
    intro h k hk
    unfold cdB at h
    have := cdB_le (v := v) n
    by_cases c : bt v n = true
    · by_cases e : k = n
      · subst e; exact c
      · exact ih (by rw [if_pos c] at h; omega) k (by omega)
    · rw [if_neg c] at h; omega
def Cl (R : Nat → Nat → Prop) (x0 k : Nat) : Prop := ∀ S : Nat → Prop, S x0 → (∀ r k, S r → R r k → S k) → S k
theorem Cl.base {R : Nat → Nat → Prop} {x0 : Nat} : Cl R x0 x0 := fun _ h _ => h
theorem Cl.st {R : Nat → Nat → Prop} {x0 r k : Nat} (h : Cl R x0 r) (hr : R r k) : Cl R x0 k := fun S h0 h1 => h1 r k (h S h0 h1) hr
def RR (Q : Nat → Nat → Option Nat) (bc md r k : Nat) : Prop := k < md ∧ ((∃ b, b < bc ∧ Q b r = none) ∨ ∃ b, b < bc ∧ Q b r = some k)
/-- a closed set within what is reached is what is reached -/
theorem Cl_eq {R : Nat → Nat → Prop} {x0 : Nat} {v : Int32} (h0 : bt v x0 = true) (h1 : ∀ k, k < 32 → bt v k = true → Cl R x0 k) (h2 : ∀ r k, bt v r = true → R r k → bt v k = true) : ∀ k, k < 32 → (bt v k = true ↔ Cl R x0 k) := fun k hk => by
  exact ⟨h1 k hk, fun h => h (fun k => bt v k = true) h0 h2⟩
theorem same_bits {a b : Int32} {C : Nat → Prop} (ha : ∀ k, k < 32 → (bt a k = true ↔ C k)) (hb : ∀ k, k < 32 → (bt b k = true ↔ C k)) : a = b := bt_ext fun k hk => by
  have h1 := ha k hk
  have h2 := hb k hk
  cases h3 : bt a k
  · cases h4 : bt b k
    · rfl
    · exact absurd (h1.mpr (h2.mp h4)) (by rw [h3]; decide)
  · exact ((h2.mpr (h1.mp h3))).symm
