/-! PURE: comparisons with written numbers; within; the first calls -/
theorem e32 {a : Int} (h : B31 a) (n : Nat) (hn : n < 2147483648) : (q32 a = (OfNat.ofNat n : Int32)) ↔ a = n := by rw [c32]; exact q32_eq h (b31n hn)
theorem lt32 {a : Int} (h : B31 a) (n : Nat) (hn : n < 2147483648) : (q32 a < (OfNat.ofNat n : Int32)) ↔ a < n := by rw [c32]; exact q32_lt h (b31n hn)
theorem le32 {a : Int} (h : B31 a) (n : Nat) (hn : n < 2147483648) : (q32 a ≤ (OfNat.ofNat n : Int32)) ↔ a ≤ n := by rw [c32]; exact q32_le h (b31n hn)
theorem gt32 {a : Int} (h : B31 a) (n : Nat) (hn : n < 2147483648) : ((OfNat.ofNat n : Int32) < q32 a) ↔ n < a := by rw [c32]; exact q32_lt (b31n hn) h
theorem ge32 {a : Int} (h : B31 a) (n : Nat) (hn : n < 2147483648) : ((OfNat.ofNat n : Int32) ≤ q32 a) ↔ n ≤ a := by rw [c32]; exact q32_le (b31n hn) h
theorem b63m {n : Nat} (h : n < 9223372036854775808) : B63 (n : Int) := by unfold B63; omega
theorem e64 {a : Int} (h : B63 a) (n : Nat) (hn : n < 9223372036854775808) : (q64 a = (OfNat.ofNat n : Int64)) ↔ a = n := by rw [c64]; exact q64_eq h (b63m hn)
theorem lt64 {a : Int} (h : B63 a) (n : Nat) (hn : n < 9223372036854775808) : (q64 a < (OfNat.ofNat n : Int64)) ↔ a < n := by rw [c64]; exact q64_lt h (b63m hn)
theorem le64 {a : Int} (h : B63 a) (n : Nat) (hn : n < 9223372036854775808) : (q64 a ≤ (OfNat.ofNat n : Int64)) ↔ a ≤ n := by rw [c64]; exact q64_le h (b63m hn)
theorem gt64 {a : Int} (h : B63 a) (n : Nat) (hn : n < 9223372036854775808) : ((OfNat.ofNat n : Int64) < q64 a) ↔ n < a := by rw [c64]; exact q64_lt (b63m hn) h
theorem ge64 {a : Int} (h : B63 a) (n : Nat) (hn : n < 9223372036854775808) : ((OfNat.ofNat n : Int64) ≤ q64 a) ↔ n ≤ a := by rw [c64]; exact q64_le (b63m hn) h
theorem win {a b c : Int} (ha : B63 a) (hb : B63 b) (hc : B63 c) : m_X10_within (q64 a) (q64 b) (q64 c) = some (if b ≤ a ∧ a ≤ c then 1 else 0) := by
  unfold m_X10_within b_X10_within_0
  by_cases h1 : a < b
  · rw [if_pos ((q64_lt ha hb).mpr h1), show (if b ≤ a ∧ a ≤ c then (1 : Int32) else 0) = 0 from if_neg (by omega)]; rfl
  · rw [if_neg (fun z => h1 ((q64_lt ha hb).mp z))]
    by_cases h2 : c < a
    · rw [if_pos ((q64_lt hc ha).mpr h2), show (if b ≤ a ∧ a ≤ c then (1 : Int32) else 0) = 0 from if_neg (by omega)]; rfl
    · rw [if_neg (fun z => h2 ((q64_lt hc ha).mp z)), show (if b ≤ a ∧ a ≤ c then (1 : Int32) else 0) = 1 from if_pos (by omega)]; rfl
theorem b3163 {a : Int} (h : B31 a) : B63 a := by omega
/-- within of an int, bounds written -/
theorem win32 {a : Int} (ha : B31 a) (b c : Nat) (hb : b < 2147483648) (hc : c < 2147483648) : m_X10_within (Int32.toInt64 (q32 a)) (OfNat.ofNat b : Int64) (OfNat.ofNat c : Int64) = some (if (b : Int) ≤ a ∧ a ≤ c then 1 else 0) := by
  rw [q32_64 ha, c64, c64]
  exact win (b3163 ha) (b63m (by omega)) (b63m (by omega))
theorem INV.gs {s : List Sh} {m : Mem} (h : INV s m) : GS s m := h.1
theorem INV.hp {s : List Sh} {m : Mem} (h : INV s m) : ∃ t, s = sB ++ t := by
  obtain ⟨-, ow, nw, hl, -⟩ := h
  exact hl.1
theorem INV.rf {s : List Sh} {m : Mem} (h : INV s m) : RF m := by
  obtain ⟨-, ow, nw, hl, -⟩ := h
  exact hl.2.1
/-- behind a call of the reference that leaves nothing -/
theorem inv10 {s : List Sh} {m m2 : Mem} {α : Type} {r : α} {o : Option (α × PH)} (h : INV s m) (hj : J3 o (r, bl s m2) (GS s m2)) (e : SC m m2) : INV s m2 := h.sc hj.2 e
theorem op_fault {s : List Sh} {m : Mem} (h : INV s m) (w : Int32) : ∃ r m2, n_X9_fault s m 0 w = some r ∧ n_X10_fault s m 23 w = some (r, m2) ∧ INV s m2 ∧ m2.2.2 = m.2.2 := by
  have key : ∃ r m2, n_X9_fault s m 0 w = some r ∧ n_X10_fault s m 23 w = some (r, m2) ∧ SC m m2 := by
    obtain ⟨-, ow, nw, hl, -, ⟨⟨tpd, hfx⟩, -⟩, -⟩ := h
    obtain ⟨-, -, -, -, -, f1, f2⟩ := hfx
    unfold n_X9_fault nb_X9_fault_0 n_X10_fault nb_X10_fault_0
    by_cases h0 : w = 0
    · rw [if_pos h0]
      refine ⟨_, _, rfl, ?_, SC.I (m := m) (a := 23) (k := 0) (x := 0) (Or.inr (by omega))⟩
      show (if w = 0 then _ else _) = _
      rw [if_pos h0, ← f1]
      rfl
    · rw [if_neg h0]
      by_cases h1 : w = 1
      · rw [if_pos h1]
        refine ⟨_, _, rfl, ?_, SC.I (m := m) (a := 23) (k := 0) (x := 0) (Or.inr (by omega))⟩
        show (if w = 0 then _ else if w = 1 then _ else _) = _
        rw [if_neg h0, if_pos h1, ← f2]
        rfl
      · rw [if_neg h1]
        refine ⟨_, _, rfl, ?_, SC.I (m := m) (a := 23) (k := 0) (x := 0) (Or.inr (by omega))⟩
        show (if w = 0 then _ else if w = 1 then _ else _) = _
        rw [if_neg h0, if_neg h1]
  obtain ⟨r, m2, e1, e2, e3⟩ := key
  exact ⟨r, m2, e1, e2, inv10 h (un_X10_fault h.gs (okB h.hp).2 e2) e3, e3.2.2.2⟩
theorem op_at {s : List Sh} {m : Mem} (h : INV s m) (w : Int32) : ∃ r m2, n_X9_at s m 0 w = some r ∧ n_X10_at s m 23 w = some (r, m2) ∧ INV s m2 ∧ m2.2.2 = m.2.2 := by
  have key : ∃ r m2, n_X9_at s m 0 w = some r ∧ n_X10_at s m 23 w = some (r, m2) ∧ SC m m2 := by
    have hp := h.hp
    have r1 := rf23_1 h.rf
    obtain ⟨-, ow, nw, hl, ⟨tp, sk, nl, bc, fc, tc, au, aw, S, U, L, V, W, X, O, -, g2, g3, -⟩, -⟩ := h
    obtain ⟨-, -, -, g24, g25, -⟩ := g2
    obtain ⟨-, -, -, -, -, -, -, g37, g38⟩ := g3
    have hnw := hl.2.2.1
    obtain ⟨a, ha, rfl⟩ := q32_of w
    have hSC : SC m (wI m 23 0 0) := SC.I (Or.inr (by omega))
    unfold n_X9_at nb_X9_at_0 n_X10_at nb_X10_at_0
    simp only [bindv, bindv0, win32 ha 0 1 (by omega) (by omega), Option.bind_some, hnw, wI_3, r1, e32 ha 0 (by omega), e32 ha 1 (by omega)]
    by_cases h0 : a = 0
    · subst h0
      refine ⟨q32 au, wI m 23 0 0, by simp [g24], ?_, hSC⟩
      have : ((7 : Int32) + q32 0) = OfNat.ofNat 7 := rfl
      simp [this, rdI_c 7 (s := s) (m := wI m 23 0 0) (a := 24) (by rw [ln24 hp]; decide) (by rw [ln24 hp]; decide), wI_1, g37]
    · by_cases h1 : a = 1
      · subst h1
        refine ⟨q32 aw, wI m 23 0 0, by simp [g25], ?_, hSC⟩
        have : ((7 : Int32) + q32 1) = OfNat.ofNat 8 := rfl
        simp [this, rdI_c 8 (s := s) (m := wI m 23 0 0) (a := 24) (by rw [ln24 hp]; decide) (by rw [ln24 hp]; decide), wI_1, g38]
      · refine ⟨-2, wI m 23 0 0, ?_, ?_, hSC⟩
        · simp [h0, h1]
        · have hz : ¬ (((0 : Nat) : Int) ≤ a ∧ a ≤ ((1 : Nat) : Int)) := by omega
          rw [if_neg hz]; rfl
  obtain ⟨r, m2, e1, e2, e3⟩ := key
  exact ⟨r, m2, e1, e2, inv10 h (un_X10_at h.gs (okB h.hp).2 e2) e3, e3.2.2.2⟩
theorem op_count {s : List Sh} {m : Mem} (h : INV s m) (w : Int32) : ∃ r m2, n_X9_count s m 0 w = some r ∧ n_X10_count s m 23 w = some (r, m2) ∧ INV s m2 ∧ m2.2.2 = m.2.2 := by
  have key : ∃ r m2, n_X9_count s m 0 w = some r ∧ n_X10_count s m 23 w = some (r, m2) ∧ SC m m2 := by
    have hp := h.hp
    have r1 := rf23_1 h.rf
    obtain ⟨-, ow, nw, hl, ⟨tp, sk, nl, bc, fc, tc, au, aw, S, U, L, V, W, X, O, -, g2, g3, -⟩, ⟨⟨tpd, -, -, f1, f2, -⟩, ⟨ud, -, f3, f4, -⟩⟩, -⟩ := h
    obtain ⟨a0, a1, a2, a4, a5, a6, a9, a15⟩ := g2
    obtain ⟨b0, b1, b2, b3, b4, b5, b6, b7, b8⟩ := g3
    have hnw := hl.2.2.1
    have hl24 : ln s 24 < 2147483648 := by rw [ln24 hp]; decide
    have hSC : SC m (wI m 23 0 0) := SC.I (Or.inr (by omega))
    have rd : ∀ n : Nat, n < 2997 → rdI s (wI m 23 0 0) 24 (OfNat.ofNat n) = some (m.1 24 n) := fun n hn => by
      rw [rdI_c n hl24 (by rw [ln24 hp]; exact hn), wI_1, if_neg (by omega)]
    unfold n_X9_count nb_X9_count_0 n_X10_count nb_X10_count_0 swN
    simp only [bindv, bindv0, Option.bind_some, hnw, wI_3, r1]
    by_cases h1 : (0 : Int) ≤ w.toInt
    · rw [if_pos h1, if_pos h1]
      generalize (w.toInt - 0).toNat = i
      by_cases hi : i < 9
      · rcases (show i = 0 ∨ i = 1 ∨ i = 2 ∨ i = 3 ∨ i = 4 ∨ i = 5 ∨ i = 6 ∨ i = 7 ∨ i = 8 by omega) with rfl | rfl | rfl | rfl | rfl | rfl | rfl | rfl | rfl
        · exact ⟨q32 tp, _, by simp [a0], by simp [rd 1 (by omega), b1], hSC⟩
        · exact ⟨q32 bc, _, by simp [a6], by simp [rd 2 (by omega), b2], hSC⟩
        · exact ⟨q32 fc, _, by simp [a9], by simp [rd 3 (by omega), b3], hSC⟩
        · exact ⟨q32 tc, _, by simp [a15], by simp [rd 4 (by omega), b4], hSC⟩
        · exact ⟨q32 sk, _, by simp [a1], by simp [rd 5 (by omega), b5], hSC⟩
        · exact ⟨q32 ud, _, by simp [f3], by simp [rd 73 (by omega), f4], hSC⟩
        · exact ⟨m.1 nw 3, _, by simp, by simp [rd 6 (by omega), b6], hSC⟩
        · exact ⟨q32 tpd, _, by simp [f1], by simp [wI_1, f2], hSC⟩
        · exact ⟨q32 nl, _, by simp [a2], by simp [rd 0 (by omega), b0], hSC⟩
      · refine ⟨-1, _, ?_, ?_, hSC⟩
        · rw [List.getD_eq_getElem?_getD, List.getElem?_eq_none (by simp; omega)]; rfl
        · rw [List.getD_eq_getElem?_getD, List.getElem?_eq_none (by simp; omega)]; rfl
    · rw [if_neg h1, if_neg h1]
      exact ⟨-1, _, rfl, rfl, hSC⟩
  obtain ⟨r, m2, e1, e2, e3⟩ := key
  exact ⟨r, m2, e1, e2, inv10 h (un_X10_count h.gs (okB h.hp).2 e2) e3, e3.2.2.2⟩
