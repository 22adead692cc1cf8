/-! PURE: bits -/
def bt (v : Int32) (k : Nat) : Bool := v.toBitVec.getLsbD k
theorem bt_or (a b : Int32) (k : Nat) : bt (a ||| b) k = (bt a k || bt b k) := by
  unfold bt
  rw [Int32.toBitVec_or, BitVec.getLsbD_or]
theorem bt_dif (a b : Int32) {k : Nat} (hk : k < 32) : bt (a &&& (b ^^^ (-1 : Int32))) k = (bt a k && !bt b k) := by
  unfold bt
  rw [Int32.toBitVec_and, Int32.toBitVec_xor, BitVec.getLsbD_and, BitVec.getLsbD_xor]
  have : (Int32.toBitVec (-1 : Int32)).getLsbD k = true := by
    have : ∀ k : Fin 32, (Int32.toBitVec (-1 : Int32)).getLsbD k.val = true := by decide
    exact this ⟨k, hk⟩
  rw [this]
  simp
theorem bt_one {x k : Nat} (hx : x < 32) (hk : k < 32) : bt ((1 : Int32) <<< (q32 x &&& 31)) k = decide (k = x) := by
  have : ∀ x k : Fin 32, bt ((1 : Int32) <<< (q32 (x.val : Int) &&& 31)) k.val = decide (k.val = x.val) := by decide +kernel
  exact this ⟨x, hx⟩ ⟨k, hk⟩
theorem bt_all {x k : Nat} (hx : x < 31) (hk : k < 32) : bt ((1 : Int32) <<< (q32 x &&& 31) - 1) k = decide (k < x) := by
  have : ∀ (x : Fin 31) (k : Fin 32), bt ((1 : Int32) <<< (q32 (x.val : Int) &&& 31) - 1) k.val = decide (k.val < x.val) := by decide +kernel
  exact this ⟨x, hx⟩ ⟨k, hk⟩
theorem bt_z (k : Nat) : bt 0 k = false := by
  unfold bt
  simp
theorem bt_ext {a b : Int32} (h : ∀ k, k < 32 → bt a k = bt b k) : a = b := by
  apply Int32.toBitVec_inj.mp
  apply BitVec.eq_of_getLsbD_eq
  intro i hi
  exact h i hi
theorem low0 (x : BitVec 32) : (x &&& 1#32 = 0#32) ↔ x.getLsbD 0 = false := by
  constructor
  · intro h
    have := congrArg (fun v => BitVec.getLsbD v 0) h
    simpa using this
  · intro h
    apply BitVec.eq_of_getLsbD_eq
    intro i hi
    rcases Nat.eq_zero_or_pos i with rfl | hp
    · simp [h]
    · simp only [BitVec.getLsbD_and, BitVec.getLsbD_zero]
      have : (1#32).getLsbD i = false := by
        rw [BitVec.getLsbD_one]
        simp
        omega
      rw [this, Bool.and_false]
theorem bt_u {v : Int32} {k : Nat} (hk : k < 32) : (ushr v (q32 k) &&& (1 : Int32) = 0) ↔ bt v k = false := by
  have e : ∀ k : Fin 32, ((q32 (k.val : Int)).toUInt32 &&& Int32.toUInt32 31).toBitVec.toNat % 32 = k.val := by decide +kernel
  have e := e ⟨k, hk⟩
  unfold ushr bt
  rw [← Int32.toBitVec_inj]
  rw [Int32.toBitVec_and, show Int32.toBitVec (1 : Int32) = 1#32 from rfl, show Int32.toBitVec (0 : Int32) = 0#32 from rfl, low0]
  have : ((v.toUInt32 >>> ((q32 (k : Int)).toUInt32 &&& Int32.toUInt32 31)).toInt32).toBitVec.getLsbD 0 = v.toBitVec.getLsbD k := by
    sorry
  rw [this]
theorem bt_s {v : Int32} {k : Nat} (hk : k < 32) : ((v >>> (q32 k &&& 31)) &&& (1 : Int32) = 0) ↔ bt v k = false := by
  unfold bt
  rw [← Int32.toBitVec_inj]
  rw [Int32.toBitVec_and, show Int32.toBitVec (1 : Int32) = 1#32 from rfl, show Int32.toBitVec (0 : Int32) = 0#32 from rfl, low0]
  have : ((v >>> (q32 (k : Int) &&& 31))).toBitVec.getLsbD 0 = v.toBitVec.getLsbD k := by
    sorry
  rw [this]
