/-! PURE: steps that a simplifier can take -/
theorem bind2_s {α β γ : Type} (a : α) (b : β) (f : α → β → Option γ) : bind2 (some (a, b)) f = f a b := rfl
theorem bind3_s {α β δ γ : Type} (a : α) (b : β) (c : δ) (f : α → β → δ → Option γ) : bind3 (some (a, b, c)) f = f a b c := rfl
theorem c32i (n : Nat) : (OfNat.ofNat n : Int32) = q32 (OfNat.ofNat n : Int) := c32 n
theorem c64i (n : Nat) : (OfNat.ofNat n : Int64) = q64 (OfNat.ofNat n : Int) := c64 n
theorem ncI (n : Nat) : ((no_index (OfNat.ofNat n) : Nat) : Int) = (OfNat.ofNat n : Int) := rfl
theorem rZM_0 (m : Mem) : rZM (q32 0) m = some (q32 0, m) := rfl
theorem rZM_1 (m : Mem) : rZM (q32 1) m = some (q32 1, m) := rfl
theorem rZP_0 : rZP (q32 0) = some (q32 0) := rfl
theorem rZP_1 : rZP (q32 1) = some (q32 1) := rfl
theorem ptZ_0 (m : Mem) (a k : Nat) : ptZ m a k (q32 0) = some (wI m a k (q32 0)) := rfl
theorem ptZ_1 (m : Mem) (a k : Nat) : ptZ m a k (q32 1) = some (wI m a k (q32 1)) := rfl
theorem q32_64i {a : Int} (h : -2147483648 ≤ a ∧ a < 2147483648) : (q32 a).toInt64 = q64 a := q32_64 h
theorem q32_lt_t {a b : Int} (h : -2147483648 ≤ a ∧ b < 2147483648 ∧ a < b) : (q32 a < q32 b) = True := eq_true ((q32_lt (by omega) (by omega)).mpr h.2.2)
theorem q32_lt_f {a b : Int} (h : -2147483648 ≤ b ∧ a < 2147483648 ∧ b ≤ a) : (q32 a < q32 b) = False := eq_false (fun z => by have := (q32_lt (by omega) (by omega)).mp z; omega)
theorem q32_le_t {a b : Int} (h : -2147483648 ≤ a ∧ b < 2147483648 ∧ a ≤ b) : (q32 a ≤ q32 b) = True := eq_true ((q32_le (by omega) (by omega)).mpr h.2.2)
theorem q32_le_f {a b : Int} (h : -2147483648 ≤ b ∧ a < 2147483648 ∧ b < a) : (q32 a ≤ q32 b) = False := eq_false (fun z => by have := (q32_le (by omega) (by omega)).mp z; omega)
theorem q32_eq_t {a b : Int} (h : a = b) : (q32 a = q32 b) = True := eq_true (by rw [h])
theorem q32_eq_f {a b : Int} (h : -2147483648 ≤ a ∧ a < 2147483648 ∧ -2147483648 ≤ b ∧ b < 2147483648 ∧ a ≠ b) : (q32 a = q32 b) = False := eq_false (fun z => h.2.2.2.2 ((q32_eq (by omega) (by omega)).mp z))
theorem q64_lt_t {a b : Int} (h : -9223372036854775808 ≤ a ∧ b < 9223372036854775808 ∧ a < b) : (q64 a < q64 b) = True := eq_true ((q64_lt (by omega) (by omega)).mpr h.2.2)
theorem q64_lt_f {a b : Int} (h : -9223372036854775808 ≤ b ∧ a < 9223372036854775808 ∧ b ≤ a) : (q64 a < q64 b) = False := eq_false (fun z => by have := (q64_lt (by omega) (by omega)).mp z; omega)
theorem q64_le_t {a b : Int} (h : -9223372036854775808 ≤ a ∧ b < 9223372036854775808 ∧ a ≤ b) : (q64 a ≤ q64 b) = True := eq_true ((q64_le (by omega) (by omega)).mpr h.2.2)
theorem q64_le_f {a b : Int} (h : -9223372036854775808 ≤ b ∧ a < 9223372036854775808 ∧ b < a) : (q64 a ≤ q64 b) = False := eq_false (fun z => by have := (q64_le (by omega) (by omega)).mp z; omega)
theorem q64_eq_t {a b : Int} (h : a = b) : (q64 a = q64 b) = True := eq_true (by rw [h])
theorem q64_eq_f {a b : Int} (h : -9223372036854775808 ≤ a ∧ a < 9223372036854775808 ∧ -9223372036854775808 ≤ b ∧ b < 9223372036854775808 ∧ a ≠ b) : (q64 a = q64 b) = False := eq_false (fun z => h.2.2.2.2 ((q64_eq (by omega) (by omega)).mp z))
theorem i_nn {e : Int} (h : 0 ≤ e ∧ e < 2147483648) : (0 : Int32) ≤ q32 e ∧ (q32 e).toNatClampNeg = e.toNat := by
  obtain ⟨n, rfl⟩ := Int.eq_ofNat_of_zero_le h.1
  exact ⟨nn32 (by omega), tnc (by omega)⟩
theorem rdI_i {s : List Sh} {m : Mem} {a : Nat} {e : Int} (h : 0 ≤ e ∧ e < ln s a ∧ e < 2147483648) : rdI s m a (q32 e) = some (m.1 a e.toNat) := by
  unfold rdI
  rw [(i_nn ⟨h.1, h.2.2⟩).2, if_pos ⟨(i_nn ⟨h.1, h.2.2⟩).1, by omega⟩]
theorem rdL_i {s : List Sh} {m : Mem} {a : Nat} {e : Int} (h : 0 ≤ e ∧ e < ln s a ∧ e < 2147483648) : rdL s m a (q32 e) = some (m.2.1 a e.toNat) := by
  unfold rdL
  rw [(i_nn ⟨h.1, h.2.2⟩).2, if_pos ⟨(i_nn ⟨h.1, h.2.2⟩).1, by omega⟩]
theorem rdR_i {s : List Sh} {m : Mem} {a : Nat} {e : Int} (h : 0 ≤ e ∧ e < ln s a ∧ e < 2147483648) : rdR s m a (q32 e) = m.2.2 a e.toNat := by
  unfold rdR
  rw [(i_nn ⟨h.1, h.2.2⟩).2, if_pos ⟨(i_nn ⟨h.1, h.2.2⟩).1, by omega⟩]
theorem rdN_i {s : List Sh} {m : Mem} {a : Nat} {e : Int} (h : 0 ≤ e ∧ e < ln s a ∧ e < 2147483648) : rdN s m a (q32 e) = some (m.2.2 a e.toNat) := by
  unfold rdN
  rw [(i_nn ⟨h.1, h.2.2⟩).2, if_pos ⟨(i_nn ⟨h.1, h.2.2⟩).1, by omega⟩]
theorem stI_i {s : List Sh} {m : Mem} {a : Nat} {e : Int} {x : Int32} (h : 0 ≤ e ∧ e < ln s a ∧ e < 2147483648) : stI s m a (q32 e) x = some (wI m a e.toNat x) := by
  unfold stI
  rw [(i_nn ⟨h.1, h.2.2⟩).2, if_pos ⟨(i_nn ⟨h.1, h.2.2⟩).1, by omega⟩]
theorem stL_i {s : List Sh} {m : Mem} {a : Nat} {e : Int} {x : Int64} (h : 0 ≤ e ∧ e < ln s a ∧ e < 2147483648) : stL s m a (q32 e) x = some (wL m a e.toNat x) := by
  unfold stL
  rw [(i_nn ⟨h.1, h.2.2⟩).2, if_pos ⟨(i_nn ⟨h.1, h.2.2⟩).1, by omega⟩]
theorem stR_i {s : List Sh} {m : Mem} {a : Nat} {e : Int} {x : Nat} (h : 0 ≤ e ∧ e < ln s a ∧ e < 2147483648) : stR s m a (q32 e) x = some (wR m a e.toNat (some x)) := by
  unfold stR
  rw [(i_nn ⟨h.1, h.2.2⟩).2, if_pos ⟨(i_nn ⟨h.1, h.2.2⟩).1, by omega⟩]
theorem wI_s (m : Mem) (a k : Nat) (x : Int32) : (wI m a k x).1 a k = x := by rw [wI_1, if_pos ⟨rfl, rfl⟩]
theorem wI_n {m : Mem} {a k : Nat} {x : Int32} {b j : Nat} (h : b ≠ a ∨ j ≠ k) : (wI m a k x).1 b j = m.1 b j := by rw [wI_1, if_neg (fun z => by omega)]
theorem wL_s (m : Mem) (a k : Nat) (x : Int64) : (wL m a k x).2.1 a k = x := by rw [wL_2, if_pos ⟨rfl, rfl⟩]
theorem wL_n {m : Mem} {a k : Nat} {x : Int64} {b j : Nat} (h : b ≠ a ∨ j ≠ k) : (wL m a k x).2.1 b j = m.2.1 b j := by rw [wL_2, if_neg (fun z => by omega)]
/-! a row as a whole -/
theorem wI_r {m : Mem} {a k : Nat} {x : Int32} {b : Nat} (h : b ≠ a) : (wI m a k x).1 b = m.1 b := by funext j; exact wI_n (Or.inl h)
theorem wL_r {m : Mem} {a k : Nat} {x : Int64} {b : Nat} (h : b ≠ a) : (wL m a k x).2.1 b = m.2.1 b := by funext j; exact wL_n (Or.inl h)
