/-! PURE: numbers -/
abbrev q64 (a : Int) : Int64 := Int64.ofInt a
abbrev q32 (a : Int) : Int32 := Int32.ofInt a
abbrev B63 (a : Int) : Prop := -9223372036854775808 ≤ a ∧ a < 9223372036854775808
abbrev B31 (a : Int) : Prop := -2147483648 ≤ a ∧ a < 2147483648
theorem q64_toInt {a : Int} (h : B63 a) : (q64 a).toInt = a := Int64.toInt_ofInt_of_le (by unfold B63 at h; omega) (by unfold B63 at h; omega)
theorem q32_toInt {a : Int} (h : B31 a) : (q32 a).toInt = a := Int32.toInt_ofInt_of_le (by unfold B31 at h; omega) (by unfold B31 at h; omega)
theorem q64_lt {a b : Int} (ha : B63 a) (hb : B63 b) : q64 a < q64 b ↔ a < b := by rw [Int64.lt_iff_toInt_lt, q64_toInt ha, q64_toInt hb]
theorem q64_le {a b : Int} (ha : B63 a) (hb : B63 b) : q64 a ≤ q64 b ↔ a ≤ b := by rw [Int64.le_iff_toInt_le, q64_toInt ha, q64_toInt hb]
theorem q64_eq {a b : Int} (ha : B63 a) (hb : B63 b) : q64 a = q64 b ↔ a = b := by rw [← Int64.toInt_inj, q64_toInt ha, q64_toInt hb]
theorem q32_lt {a b : Int} (ha : B31 a) (hb : B31 b) : q32 a < q32 b ↔ a < b := by rw [Int32.lt_iff_toInt_lt, q32_toInt ha, q32_toInt hb]
theorem q32_le {a b : Int} (ha : B31 a) (hb : B31 b) : q32 a ≤ q32 b ↔ a ≤ b := by rw [Int32.le_iff_toInt_le, q32_toInt ha, q32_toInt hb]
theorem q32_eq {a b : Int} (ha : B31 a) (hb : B31 b) : q32 a = q32 b ↔ a = b := by rw [← Int32.toInt_inj, q32_toInt ha, q32_toInt hb]
theorem q64_add (a b : Int) : q64 a + q64 b = q64 (a + b) := (Int64.ofInt_add a b).symm
theorem q64_sub (a b : Int) : q64 a - q64 b = q64 (a - b) := (Int64.ofInt_sub a b).symm
theorem q64_mul (a b : Int) : q64 a * q64 b = q64 (a * b) := (Int64.ofInt_mul a b).symm
theorem q64_neg (a : Int) : -q64 a = q64 (-a) := (Int64.ofInt_neg a).symm
theorem q32_add (a b : Int) : q32 a + q32 b = q32 (a + b) := (Int32.ofInt_add a b).symm
theorem q32_sub (a b : Int) : q32 a - q32 b = q32 (a - b) := (Int32.ofInt_sub a b).symm
theorem q32_mul (a b : Int) : q32 a * q32 b = q32 (a * b) := (Int32.ofInt_mul a b).symm
theorem q32_neg (a : Int) : -q32 a = q32 (-a) := (Int32.ofInt_neg a).symm
theorem q64_of (x : Int64) : ∃ a, B63 a ∧ x = q64 a := ⟨x.toInt, ⟨by have := Int64.le_toInt x; omega, by have := Int64.toInt_lt x; omega⟩, (Int64.ofInt_toInt x).symm⟩
theorem q32_of (x : Int32) : ∃ a, B31 a ∧ x = q32 a := ⟨x.toInt, ⟨by have := Int32.le_toInt x; omega, by have := Int32.toInt_lt x; omega⟩, (Int32.ofInt_toInt x).symm⟩
theorem q64_div {a b : Int} (ha : B63 a) (hb : B63 b) (h0 : b ≠ 0) (hm : b ≠ -1 ∨ a ≠ -9223372036854775808) : q64 a / q64 b = q64 (a.tdiv b) := by
  apply Int64.toInt_inj.mp
  have hb0 : b.natAbs ≠ 0 := by omega
  have hq : B63 (a.tdiv b) := by
    have h1 : (a.tdiv b).natAbs ≤ a.natAbs := by rw [Int.natAbs_tdiv]; exact Nat.div_le_self _ _
    unfold B63 at ha hb ⊢
    by_cases hmin : a = -9223372036854775808
    · have hb1 : b ≠ -1 := hm.resolve_right (fun h => h hmin)
      by_cases hb2 : b = 1
      · subst hb2; rw [Int.tdiv_one]; omega
      · have h2 : (a.tdiv b).natAbs ≤ a.natAbs / 2 := by
          rw [Int.natAbs_tdiv]
          exact Nat.div_le_div_left (by omega) (by omega)
        omega
    · omega
  have e : ∀ z : Int64, z ≠ -1 ∨ (q64 a) ≠ Int64.minValue → True := fun _ _ => trivial
  rcases hm with hm | hm
  · rw [Int64.toInt_div_of_ne_right _ _ (fun q => hm (by
      have := congrArg Int64.toInt q
      rw [q64_toInt hb] at this
      exact this)), q64_toInt ha, q64_toInt hb, q64_toInt hq]
  · rw [Int64.toInt_div_of_ne_left _ _ (fun q => hm (by
      have := congrArg Int64.toInt q
      rw [q64_toInt ha, Int64.toInt_minValue] at this
      exact this)), q64_toInt ha, q64_toInt hb, q64_toInt hq]
theorem q64_rem {a b : Int} (ha : B63 a) (hb : B63 b) (h0 : b ≠ 0) (hm : b ≠ -1 ∨ a ≠ -9223372036854775808) : remL (q64 a) (q64 b) = q64 (a.tmod b) := by
  show q64 a - q64 a / q64 b * q64 b = _
  rw [q64_div ha hb h0 hm, q64_mul, q64_sub]
  congr 1
  rw [Int.tmod_def, Int.mul_comm]
theorem q32_div {a b : Int} (ha : B31 a) (hb : B31 b) (h0 : b ≠ 0) (hm : b ≠ -1 ∨ a ≠ -2147483648) : q32 a / q32 b = q32 (a.tdiv b) := by
  apply Int32.toInt_inj.mp
  have hb0 : b.natAbs ≠ 0 := by omega
  have hq : B31 (a.tdiv b) := by
    have h1 : (a.tdiv b).natAbs ≤ a.natAbs := by rw [Int.natAbs_tdiv]; exact Nat.div_le_self _ _
    unfold B31 at ha hb ⊢
    by_cases hmin : a = -2147483648
    · have hb1 : b ≠ -1 := hm.resolve_right (fun h => h hmin)
      by_cases hb2 : b = 1
      · subst hb2; rw [Int.tdiv_one]; omega
      · have h2 : (a.tdiv b).natAbs ≤ a.natAbs / 2 := by
          rw [Int.natAbs_tdiv]
          exact Nat.div_le_div_left (by omega) (by omega)
        omega
    · omega
  rcases hm with hm | hm
  · rw [Int32.toInt_div_of_ne_right _ _ (fun q => hm (by
      have := congrArg Int32.toInt q
      rw [q32_toInt hb] at this
      exact this)), q32_toInt ha, q32_toInt hb, q32_toInt hq]
  · rw [Int32.toInt_div_of_ne_left _ _ (fun q => hm (by
      have := congrArg Int32.toInt q
      rw [q32_toInt ha, Int32.toInt_minValue] at this
      exact this)), q32_toInt ha, q32_toInt hb, q32_toInt hq]
theorem q32_rem {a b : Int} (ha : B31 a) (hb : B31 b) (h0 : b ≠ 0) (hm : b ≠ -1 ∨ a ≠ -2147483648) : remI (q32 a) (q32 b) = q32 (a.tmod b) := by
  show q32 a - q32 a / q32 b * q32 b = _
  rw [q32_div ha hb h0 hm, q32_mul, q32_sub]
  congr 1
  rw [Int.tmod_def, Int.mul_comm]
theorem q32_64 {a : Int} (h : B31 a) : (q32 a).toInt64 = q64 a := by
  apply Int64.toInt_inj.mp
  rw [Int32.toInt_toInt64, q32_toInt h, q64_toInt (by unfold B31 at h; unfold B63; omega)]
theorem q64_32 (a : Int) : (q64 a).toInt32 = q32 a := Int64.toInt32_ofInt
theorem c64 (n : Nat) : (OfNat.ofNat n : Int64) = q64 n := (Int64.ofInt_eq_ofNat (n := n)).symm
theorem c32 (n : Nat) : (OfNat.ofNat n : Int32) = q32 n := (Int32.ofInt_eq_ofNat (n := n)).symm
theorem q64_divU {a b : Int} (ha : B63 a) (hb : B63 b) : q64 a / q64 b = q64 (a.tdiv b) := (Int64.ofInt_tdiv (by rw [Int64.toInt_minValue]; unfold B63 at ha; omega) (by rw [Int64.toInt_maxValue]; unfold B63 at ha; omega) (by rw [Int64.toInt_minValue]; unfold B63 at hb; omega) (by rw [Int64.toInt_maxValue]; unfold B63 at hb; omega)).symm
theorem q64_remU {a b : Int} (ha : B63 a) (hb : B63 b) : remL (q64 a) (q64 b) = q64 (a.tmod b) := by
  show q64 a - q64 a / q64 b * q64 b = _
  rw [q64_divU ha hb, q64_mul, q64_sub]
  congr 1
  rw [Int.tmod_def, Int.mul_comm]
theorem b63n {a : Int} (h : a.natAbs < 9223372036854775808) : B63 a := by unfold B63; omega
theorem b31n {a : Nat} (h : a < 2147483648) : B31 (a : Int) := by unfold B31; omega
theorem q64_0 : (0 : Int64) = q64 0 := rfl
theorem q32_0 : (0 : Int32) = q32 0 := rfl
