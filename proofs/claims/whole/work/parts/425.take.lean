/-! a house takes all from another one -/
theorem takeH {s : List Sh} {m : Mem} {a b : Nat} (ha : HB s m a) (hb : HB s m b) (hab : a + 10 ≤ b ∨ b + 10 ≤ a) : ∃ m', n_X0_takeFrom s m a b = some ((), m') ∧ m'.2 = m.2 ∧ (∀ c k, c < a ∨ a + 10 ≤ c → m'.1 c k = m.1 c k) ∧ (∀ k, k < 7 ∨ k = 9 ∨ k = 15 → m'.1 a k = m.1 b k) ∧ (∀ k, k < 7 → m'.1 (a + 1) k = m.1 (b + 1) k) ∧ (∀ k, k < 900 → m'.1 (a + 2) k = m.1 (b + 2) k) ∧ (∀ k, k < 8 → m'.1 (a + 3) k = m.1 (b + 3) k) ∧ (∀ k, k < 8 → m'.1 (a + 4) k = m.1 (b + 4) k) ∧ (∀ k, k < 24 → m'.1 (a + 5) k = m.1 (b + 5) k) ∧ (∀ k, k < 8 → m'.1 (a + 7) k = m.1 (b + 7) k) ∧ (∀ k, k < 6 → m'.1 (a + 8) k = m.1 (b + 8) k) ∧ (∀ k, k < 6 → m'.1 (a + 9) k = m.1 (b + 9) k) := by
  obtain ⟨-, -, ⟨p7, p8, p10, p11, p12, p13, p14, p16, p17⟩, u1, u2, u3, u4, u5, u6, u7, u8, u9⟩ := ha
  obtain ⟨-, -, ⟨q7, q8, q10, q11, q12, q13, q14, q16, q17⟩, v1, v2, v3, v4, v5, v6, v7, v8, v9⟩ := hb
  obtain ⟨m1, h1, e1, f1, g1⟩ : ∃ x, wI m a 0 (m.1 b 0) = x ∧ x.2 = m.2 ∧ (∀ c j, c ≠ a ∨ j ≠ 0 → x.1 c j = m.1 c j) ∧ x.1 a 0 = m.1 b 0 := ⟨_, rfl, rfl, fun c j h => wI_n h, wI_s _ _ _ _⟩
  obtain ⟨m2, h2, e2, f2, g2⟩ : ∃ x, wI m1 a 1 (m1.1 b 1) = x ∧ x.2 = m1.2 ∧ (∀ c j, c ≠ a ∨ j ≠ 1 → x.1 c j = m1.1 c j) ∧ x.1 a 1 = m1.1 b 1 := ⟨_, rfl, rfl, fun c j h => wI_n h, wI_s _ _ _ _⟩
  rw [e1] at e2
  obtain ⟨m3, h3, e3, f3, g3⟩ : ∃ x, wI m2 a 2 (m2.1 b 2) = x ∧ x.2 = m2.2 ∧ (∀ c j, c ≠ a ∨ j ≠ 2 → x.1 c j = m2.1 c j) ∧ x.1 a 2 = m2.1 b 2 := ⟨_, rfl, rfl, fun c j h => wI_n h, wI_s _ _ _ _⟩
  rw [e2] at e3
  obtain ⟨m4, h4, e4, f4, g4⟩ : ∃ x, wI m3 a 3 (m3.1 b 3) = x ∧ x.2 = m3.2 ∧ (∀ c j, c ≠ a ∨ j ≠ 3 → x.1 c j = m3.1 c j) ∧ x.1 a 3 = m3.1 b 3 := ⟨_, rfl, rfl, fun c j h => wI_n h, wI_s _ _ _ _⟩
  rw [e3] at e4
  obtain ⟨m5, h5, e5, f5, g5⟩ : ∃ x, wI m4 a 4 (m4.1 b 4) = x ∧ x.2 = m4.2 ∧ (∀ c j, c ≠ a ∨ j ≠ 4 → x.1 c j = m4.1 c j) ∧ x.1 a 4 = m4.1 b 4 := ⟨_, rfl, rfl, fun c j h => wI_n h, wI_s _ _ _ _⟩
  rw [e4] at e5
  obtain ⟨m6, h6, e6, f6, g6⟩ : ∃ x, wI m5 a 5 (m5.1 b 5) = x ∧ x.2 = m5.2 ∧ (∀ c j, c ≠ a ∨ j ≠ 5 → x.1 c j = m5.1 c j) ∧ x.1 a 5 = m5.1 b 5 := ⟨_, rfl, rfl, fun c j h => wI_n h, wI_s _ _ _ _⟩
  rw [e5] at e6
  obtain ⟨m7, h7, e7, f7, g7⟩ : ∃ x, wI m6 a 6 (m6.1 b 6) = x ∧ x.2 = m6.2 ∧ (∀ c j, c ≠ a ∨ j ≠ 6 → x.1 c j = m6.1 c j) ∧ x.1 a 6 = m6.1 b 6 := ⟨_, rfl, rfl, fun c j h => wI_n h, wI_s _ _ _ _⟩
  rw [e6] at e7
  obtain ⟨m8, h8, e8, f8, g8⟩ : ∃ x, cpM s m7 (b + 1) (0 : Int32) (a + 1) (0 : Int32) (Int32.ofNat 7) = some x ∧ x.2 = m7.2 ∧ (∀ c k, c ≠ a + 1 → x.1 c k = m7.1 c k) ∧ ∀ k, k < 7 → x.1 (a + 1) k = m7.1 (b + 1) k := ⟨wC m7 (b + 1) 0 (a + 1) 0 7, cpM_i (sp := 0) (dp := 0) (n := 7) (by omega), rfl, fun c k h => wC_n (Or.inl h), fun k hk => by rw [wC_1, if_pos ⟨rfl, by omega, by omega⟩]; rw [show 0 + (k - 0) = k by omega]⟩
  rw [e7] at e8
  obtain ⟨m9, h9, e9, f9, g9⟩ : ∃ x, cpM s m8 (b + 2) (0 : Int32) (a + 2) (0 : Int32) (Int32.ofNat 900) = some x ∧ x.2 = m8.2 ∧ (∀ c k, c ≠ a + 2 → x.1 c k = m8.1 c k) ∧ ∀ k, k < 900 → x.1 (a + 2) k = m8.1 (b + 2) k := ⟨wC m8 (b + 2) 0 (a + 2) 0 900, cpM_i (sp := 0) (dp := 0) (n := 900) (by omega), rfl, fun c k h => wC_n (Or.inl h), fun k hk => by rw [wC_1, if_pos ⟨rfl, by omega, by omega⟩]; rw [show 0 + (k - 0) = k by omega]⟩
  rw [e8] at e9
  obtain ⟨m10, h10, e10, f10, g10⟩ : ∃ x, wI m9 a 9 (m9.1 b 9) = x ∧ x.2 = m9.2 ∧ (∀ c j, c ≠ a ∨ j ≠ 9 → x.1 c j = m9.1 c j) ∧ x.1 a 9 = m9.1 b 9 := ⟨_, rfl, rfl, fun c j h => wI_n h, wI_s _ _ _ _⟩
  rw [e9] at e10
  obtain ⟨m11, h11, e11, f11, g11⟩ : ∃ x, cpM s m10 (b + 3) (0 : Int32) (a + 3) (0 : Int32) (Int32.ofNat 8) = some x ∧ x.2 = m10.2 ∧ (∀ c k, c ≠ a + 3 → x.1 c k = m10.1 c k) ∧ ∀ k, k < 8 → x.1 (a + 3) k = m10.1 (b + 3) k := ⟨wC m10 (b + 3) 0 (a + 3) 0 8, cpM_i (sp := 0) (dp := 0) (n := 8) (by omega), rfl, fun c k h => wC_n (Or.inl h), fun k hk => by rw [wC_1, if_pos ⟨rfl, by omega, by omega⟩]; rw [show 0 + (k - 0) = k by omega]⟩
  rw [e10] at e11
  obtain ⟨m12, h12, e12, f12, g12⟩ : ∃ x, cpM s m11 (b + 4) (0 : Int32) (a + 4) (0 : Int32) (Int32.ofNat 8) = some x ∧ x.2 = m11.2 ∧ (∀ c k, c ≠ a + 4 → x.1 c k = m11.1 c k) ∧ ∀ k, k < 8 → x.1 (a + 4) k = m11.1 (b + 4) k := ⟨wC m11 (b + 4) 0 (a + 4) 0 8, cpM_i (sp := 0) (dp := 0) (n := 8) (by omega), rfl, fun c k h => wC_n (Or.inl h), fun k hk => by rw [wC_1, if_pos ⟨rfl, by omega, by omega⟩]; rw [show 0 + (k - 0) = k by omega]⟩
  rw [e11] at e12
  obtain ⟨m13, h13, e13, f13, g13⟩ : ∃ x, cpM s m12 (b + 5) (0 : Int32) (a + 5) (0 : Int32) (Int32.ofNat 24) = some x ∧ x.2 = m12.2 ∧ (∀ c k, c ≠ a + 5 → x.1 c k = m12.1 c k) ∧ ∀ k, k < 24 → x.1 (a + 5) k = m12.1 (b + 5) k := ⟨wC m12 (b + 5) 0 (a + 5) 0 24, cpM_i (sp := 0) (dp := 0) (n := 24) (by omega), rfl, fun c k h => wC_n (Or.inl h), fun k hk => by rw [wC_1, if_pos ⟨rfl, by omega, by omega⟩]; rw [show 0 + (k - 0) = k by omega]⟩
  rw [e12] at e13
  obtain ⟨m14, h14, e14, f14, g14⟩ : ∃ x, cpM s m13 (b + 7) (0 : Int32) (a + 7) (0 : Int32) (Int32.ofNat 8) = some x ∧ x.2 = m13.2 ∧ (∀ c k, c ≠ a + 7 → x.1 c k = m13.1 c k) ∧ ∀ k, k < 8 → x.1 (a + 7) k = m13.1 (b + 7) k := ⟨wC m13 (b + 7) 0 (a + 7) 0 8, cpM_i (sp := 0) (dp := 0) (n := 8) (by omega), rfl, fun c k h => wC_n (Or.inl h), fun k hk => by rw [wC_1, if_pos ⟨rfl, by omega, by omega⟩]; rw [show 0 + (k - 0) = k by omega]⟩
  rw [e13] at e14
  obtain ⟨m15, h15, e15, f15, g15⟩ : ∃ x, wI m14 a 15 (m14.1 b 15) = x ∧ x.2 = m14.2 ∧ (∀ c j, c ≠ a ∨ j ≠ 15 → x.1 c j = m14.1 c j) ∧ x.1 a 15 = m14.1 b 15 := ⟨_, rfl, rfl, fun c j h => wI_n h, wI_s _ _ _ _⟩
  rw [e14] at e15
  obtain ⟨m16, h16, e16, f16, g16⟩ : ∃ x, cpM s m15 (b + 8) (0 : Int32) (a + 8) (0 : Int32) (Int32.ofNat 6) = some x ∧ x.2 = m15.2 ∧ (∀ c k, c ≠ a + 8 → x.1 c k = m15.1 c k) ∧ ∀ k, k < 6 → x.1 (a + 8) k = m15.1 (b + 8) k := ⟨wC m15 (b + 8) 0 (a + 8) 0 6, cpM_i (sp := 0) (dp := 0) (n := 6) (by omega), rfl, fun c k h => wC_n (Or.inl h), fun k hk => by rw [wC_1, if_pos ⟨rfl, by omega, by omega⟩]; rw [show 0 + (k - 0) = k by omega]⟩
  rw [e15] at e16
  obtain ⟨m17, h17, e17, f17, g17⟩ : ∃ x, cpM s m16 (b + 9) (0 : Int32) (a + 9) (0 : Int32) (Int32.ofNat 6) = some x ∧ x.2 = m16.2 ∧ (∀ c k, c ≠ a + 9 → x.1 c k = m16.1 c k) ∧ ∀ k, k < 6 → x.1 (a + 9) k = m16.1 (b + 9) k := ⟨wC m16 (b + 9) 0 (a + 9) 0 6, cpM_i (sp := 0) (dp := 0) (n := 6) (by omega), rfl, fun c k h => wC_n (Or.inl h), fun k hk => by rw [wC_1, if_pos ⟨rfl, by omega, by omega⟩]; rw [show 0 + (k - 0) = k by omega]⟩
  rw [e16] at e17
  refine ⟨m17, ?_, e17, fun c k h => ?_, fun k h => ?_, fun k h => ?_, fun k h => ?_, fun k h => ?_, fun k h => ?_, fun k h => ?_, fun k h => ?_, fun k h => ?_, fun k h => ?_⟩
  · unfold n_X0_takeFrom nb_X0_takeFrom_0
    simp only [bindv, bindv0, Option.bind_some, h1, h2, h3, h4, h5, h6, h7, h8, h9, h10, h11, h12, h13, h14, h15, h16, h17, e1, e2, e3, e4, e5, e6, e7, e8, e9, e10, e11, e12, e13, e14, e15, e16, e17, p7, p8, p10, p11, p12, p14, p16, p17, q7, q8, q10, q11, q12, q14, q16, q17, u1, u2, u3, u4, u5, u7, u8, u9]
  · rw [f17 c k (by omega), f16 c k (by omega), f15 c k (by omega), f14 c k (by omega), f13 c k (by omega), f12 c k (by omega), f11 c k (by omega), f10 c k (by omega), f9 c k (by omega), f8 c k (by omega), f7 c k (by omega), f6 c k (by omega), f5 c k (by omega), f4 c k (by omega), f3 c k (by omega), f2 c k (by omega), f1 c k (by omega)]
  · rcases (show k = 0 ∨ k = 1 ∨ k = 2 ∨ k = 3 ∨ k = 4 ∨ k = 5 ∨ k = 6 ∨ k = 9 ∨ k = 15 by omega) with rfl | rfl | rfl | rfl | rfl | rfl | rfl | rfl | rfl
    · rw [f17 a 0 (by omega), f16 a 0 (by omega), f15 a 0 (by omega), f14 a 0 (by omega), f13 a 0 (by omega), f12 a 0 (by omega), f11 a 0 (by omega), f10 a 0 (by omega), f9 a 0 (by omega), f8 a 0 (by omega), f7 a 0 (by omega), f6 a 0 (by omega), f5 a 0 (by omega), f4 a 0 (by omega), f3 a 0 (by omega), f2 a 0 (by omega), g1]
    · rw [f17 a 1 (by omega), f16 a 1 (by omega), f15 a 1 (by omega), f14 a 1 (by omega), f13 a 1 (by omega), f12 a 1 (by omega), f11 a 1 (by omega), f10 a 1 (by omega), f9 a 1 (by omega), f8 a 1 (by omega), f7 a 1 (by omega), f6 a 1 (by omega), f5 a 1 (by omega), f4 a 1 (by omega), f3 a 1 (by omega), g2, f1 b 1 (by omega)]
    · rw [f17 a 2 (by omega), f16 a 2 (by omega), f15 a 2 (by omega), f14 a 2 (by omega), f13 a 2 (by omega), f12 a 2 (by omega), f11 a 2 (by omega), f10 a 2 (by omega), f9 a 2 (by omega), f8 a 2 (by omega), f7 a 2 (by omega), f6 a 2 (by omega), f5 a 2 (by omega), f4 a 2 (by omega), g3, f2 b 2 (by omega), f1 b 2 (by omega)]
    · rw [f17 a 3 (by omega), f16 a 3 (by omega), f15 a 3 (by omega), f14 a 3 (by omega), f13 a 3 (by omega), f12 a 3 (by omega), f11 a 3 (by omega), f10 a 3 (by omega), f9 a 3 (by omega), f8 a 3 (by omega), f7 a 3 (by omega), f6 a 3 (by omega), f5 a 3 (by omega), g4, f3 b 3 (by omega), f2 b 3 (by omega), f1 b 3 (by omega)]
    · rw [f17 a 4 (by omega), f16 a 4 (by omega), f15 a 4 (by omega), f14 a 4 (by omega), f13 a 4 (by omega), f12 a 4 (by omega), f11 a 4 (by omega), f10 a 4 (by omega), f9 a 4 (by omega), f8 a 4 (by omega), f7 a 4 (by omega), f6 a 4 (by omega), g5, f4 b 4 (by omega), f3 b 4 (by omega), f2 b 4 (by omega), f1 b 4 (by omega)]
    · rw [f17 a 5 (by omega), f16 a 5 (by omega), f15 a 5 (by omega), f14 a 5 (by omega), f13 a 5 (by omega), f12 a 5 (by omega), f11 a 5 (by omega), f10 a 5 (by omega), f9 a 5 (by omega), f8 a 5 (by omega), f7 a 5 (by omega), g6, f5 b 5 (by omega), f4 b 5 (by omega), f3 b 5 (by omega), f2 b 5 (by omega), f1 b 5 (by omega)]
    · rw [f17 a 6 (by omega), f16 a 6 (by omega), f15 a 6 (by omega), f14 a 6 (by omega), f13 a 6 (by omega), f12 a 6 (by omega), f11 a 6 (by omega), f10 a 6 (by omega), f9 a 6 (by omega), f8 a 6 (by omega), g7, f6 b 6 (by omega), f5 b 6 (by omega), f4 b 6 (by omega), f3 b 6 (by omega), f2 b 6 (by omega), f1 b 6 (by omega)]
    · rw [f17 a 9 (by omega), f16 a 9 (by omega), f15 a 9 (by omega), f14 a 9 (by omega), f13 a 9 (by omega), f12 a 9 (by omega), f11 a 9 (by omega), g10, f9 b 9 (by omega), f8 b 9 (by omega), f7 b 9 (by omega), f6 b 9 (by omega), f5 b 9 (by omega), f4 b 9 (by omega), f3 b 9 (by omega), f2 b 9 (by omega), f1 b 9 (by omega)]
    · rw [f17 a 15 (by omega), f16 a 15 (by omega), g15, f14 b 15 (by omega), f13 b 15 (by omega), f12 b 15 (by omega), f11 b 15 (by omega), f10 b 15 (by omega), f9 b 15 (by omega), f8 b 15 (by omega), f7 b 15 (by omega), f6 b 15 (by omega), f5 b 15 (by omega), f4 b 15 (by omega), f3 b 15 (by omega), f2 b 15 (by omega), f1 b 15 (by omega)]
  · rw [f17 (a + 1) k (by omega), f16 (a + 1) k (by omega), f15 (a + 1) k (by omega), f14 (a + 1) k (by omega), f13 (a + 1) k (by omega), f12 (a + 1) k (by omega), f11 (a + 1) k (by omega), f10 (a + 1) k (by omega), f9 (a + 1) k (by omega), g8 k h, f7 (b + 1) k (by omega), f6 (b + 1) k (by omega), f5 (b + 1) k (by omega), f4 (b + 1) k (by omega), f3 (b + 1) k (by omega), f2 (b + 1) k (by omega), f1 (b + 1) k (by omega)]
  · rw [f17 (a + 2) k (by omega), f16 (a + 2) k (by omega), f15 (a + 2) k (by omega), f14 (a + 2) k (by omega), f13 (a + 2) k (by omega), f12 (a + 2) k (by omega), f11 (a + 2) k (by omega), f10 (a + 2) k (by omega), g9 k h, f8 (b + 2) k (by omega), f7 (b + 2) k (by omega), f6 (b + 2) k (by omega), f5 (b + 2) k (by omega), f4 (b + 2) k (by omega), f3 (b + 2) k (by omega), f2 (b + 2) k (by omega), f1 (b + 2) k (by omega)]
  · rw [f17 (a + 3) k (by omega), f16 (a + 3) k (by omega), f15 (a + 3) k (by omega), f14 (a + 3) k (by omega), f13 (a + 3) k (by omega), f12 (a + 3) k (by omega), g11 k h, f10 (b + 3) k (by omega), f9 (b + 3) k (by omega), f8 (b + 3) k (by omega), f7 (b + 3) k (by omega), f6 (b + 3) k (by omega), f5 (b + 3) k (by omega), f4 (b + 3) k (by omega), f3 (b + 3) k (by omega), f2 (b + 3) k (by omega), f1 (b + 3) k (by omega)]
  · rw [f17 (a + 4) k (by omega), f16 (a + 4) k (by omega), f15 (a + 4) k (by omega), f14 (a + 4) k (by omega), f13 (a + 4) k (by omega), g12 k h, f11 (b + 4) k (by omega), f10 (b + 4) k (by omega), f9 (b + 4) k (by omega), f8 (b + 4) k (by omega), f7 (b + 4) k (by omega), f6 (b + 4) k (by omega), f5 (b + 4) k (by omega), f4 (b + 4) k (by omega), f3 (b + 4) k (by omega), f2 (b + 4) k (by omega), f1 (b + 4) k (by omega)]
  · rw [f17 (a + 5) k (by omega), f16 (a + 5) k (by omega), f15 (a + 5) k (by omega), f14 (a + 5) k (by omega), g13 k h, f12 (b + 5) k (by omega), f11 (b + 5) k (by omega), f10 (b + 5) k (by omega), f9 (b + 5) k (by omega), f8 (b + 5) k (by omega), f7 (b + 5) k (by omega), f6 (b + 5) k (by omega), f5 (b + 5) k (by omega), f4 (b + 5) k (by omega), f3 (b + 5) k (by omega), f2 (b + 5) k (by omega), f1 (b + 5) k (by omega)]
  · rw [f17 (a + 7) k (by omega), f16 (a + 7) k (by omega), f15 (a + 7) k (by omega), g14 k h, f13 (b + 7) k (by omega), f12 (b + 7) k (by omega), f11 (b + 7) k (by omega), f10 (b + 7) k (by omega), f9 (b + 7) k (by omega), f8 (b + 7) k (by omega), f7 (b + 7) k (by omega), f6 (b + 7) k (by omega), f5 (b + 7) k (by omega), f4 (b + 7) k (by omega), f3 (b + 7) k (by omega), f2 (b + 7) k (by omega), f1 (b + 7) k (by omega)]
  · rw [f17 (a + 8) k (by omega), g16 k h, f15 (b + 8) k (by omega), f14 (b + 8) k (by omega), f13 (b + 8) k (by omega), f12 (b + 8) k (by omega), f11 (b + 8) k (by omega), f10 (b + 8) k (by omega), f9 (b + 8) k (by omega), f8 (b + 8) k (by omega), f7 (b + 8) k (by omega), f6 (b + 8) k (by omega), f5 (b + 8) k (by omega), f4 (b + 8) k (by omega), f3 (b + 8) k (by omega), f2 (b + 8) k (by omega), f1 (b + 8) k (by omega)]
  · rw [g17 k h, f16 (b + 9) k (by omega), f15 (b + 9) k (by omega), f14 (b + 9) k (by omega), f13 (b + 9) k (by omega), f12 (b + 9) k (by omega), f11 (b + 9) k (by omega), f10 (b + 9) k (by omega), f9 (b + 9) k (by omega), f8 (b + 9) k (by omega), f7 (b + 9) k (by omega), f6 (b + 9) k (by omega), f5 (b + 9) k (by omega), f4 (b + 9) k (by omega), f3 (b + 9) k (by omega), f2 (b + 9) k (by omega), f1 (b + 9) k (by omega)]
theorem WFC_cg {c c' : Nat → Int32} : ∀ (n i d : Nat), (∀ j, i ≤ j → j < i + n → c' j = c j) → WFC c n i d → WFC c' n i d := by
  intro n
  induction n with
  | zero => intro i d _ h; exact h
  | succ n ih =>
    intro i d hc h
    unfold WFC at h ⊢
    rw [hc i (by omega) (by omega)]
    split
    · rename_i g
      rw [if_pos g] at h
      exact ⟨h.1, ih _ _ (fun j h1 h2 => hc j (by omega) (by omega)) h.2⟩
    · rename_i g
      rw [if_neg g] at h
      exact ⟨h.1, ih _ _ (fun j h1 h2 => hc j (by omega) (by omega)) h.2⟩
theorem HR.cp {hs st cd fu fl sf od tu tl al hs' st' cd' fu' fl' sf' od' tu' tl' al' : Nat → Int32} (h : HR hs st cd fu fl sf od tu tl al) (e0 : ∀ k, k < 7 ∨ k = 9 ∨ k = 15 → hs' k = hs k) (e1 : ∀ k, k < 7 → st' k = st k) (e2 : ∀ k, k < 900 → cd' k = cd k) (e3 : ∀ k, k < 8 → fu' k = fu k) (e4 : ∀ k, k < 8 → fl' k = fl k) (e5 : ∀ k, k < 24 → sf' k = sf k) (e7 : ∀ k, k < 8 → od' k = od k) (e8 : ∀ k, k < 6 → tu' k = tu k) (e9 : ∀ k, k < 6 → tl' k = tl k) (ea : ∀ k, k < 999 → k < 73 ∨ 99 ≤ k → al' k = al k) : HR hs' st' cd' fu' fl' sf' od' tu' tl' al' := by
  obtain ⟨tp, sk, nl, bc, fc, tc, au, aw, S, U, L, V, W, X, O, h1, h2, h3, h4, ⟨s1, s2, s3, s4, s5, s6, s7⟩, h6, ⟨h7, h7b⟩, h8⟩ := h
  have mono : ∀ b, b < bc → S (b + 1) ≤ 900 := fun b hb => by
    have := S_mono s2 (bc - (b + 1)) (b + 1) (by omega)
    rw [show b + 1 + (bc - (b + 1)) = bc by omega] at this
    omega
  refine ⟨tp, sk, nl, bc, fc, tc, au, aw, S, U, L, V, W, X, O, h1, ?_, ?_, h4, ⟨s1, s2, s3, fun b hb hb0 => ?_, fun b hb => ?_, fun i hi => ?_, fun b hb => ?_⟩, fun k hk => ?_, ⟨fun i hi => ?_, h7b⟩, fun t ht => ?_⟩
  · rw [e0 0 (by omega), e0 1 (by omega), e0 2 (by omega), e0 4 (by omega), e0 5 (by omega), e0 6 (by omega), e0 9 (by omega), e0 15 (by omega)]; exact h2
  · rw [ea 0 (by omega) (by omega), ea 1 (by omega) (by omega), ea 2 (by omega) (by omega), ea 3 (by omega) (by omega), ea 4 (by omega) (by omega), ea 5 (by omega) (by omega), ea 6 (by omega) (by omega), ea 7 (by omega) (by omega), ea 8 (by omega) (by omega), e0 3 (by omega)]; exact h3
  · rw [e1 b (by omega)]; exact s4 b hb hb0
  · rw [ea _ (by omega) (by omega), ea _ (by omega) (by omega)]; exact s5 b hb
  · rw [ea _ (by omega) (by omega), e2 i (by omega)]; exact s6 i hi
  · have := mono b hb
    have := s2 b hb
    exact WFC_cg _ _ _ (fun j h1 h2 => e2 j (by omega)) (s7 b hb)
  · obtain ⟨a1, a2, a3, a4, a5, a6, a7⟩ := h6 k hk
    refine ⟨by rw [e3 k (by omega)]; exact a1, by rw [e4 k (by omega)]; exact a2, a3, a4, by rw [ea _ (by omega) (by omega)]; exact a5, by rw [ea _ (by omega) (by omega)]; exact a6, fun z hz => ?_⟩
    obtain ⟨z1, z2, z3⟩ := a7 z hz
    exact ⟨z1, by rw [e5 _ (by omega)]; exact z2, by rw [ea _ (by omega) (by omega)]; exact z3⟩
  · obtain ⟨o1, o2⟩ := h7 i hi
    exact ⟨o1, by rw [e7 i (by omega)]; exact o2⟩
  · obtain ⟨a1, a2, a3, a4, a5, a6⟩ := h8 t ht
    exact ⟨by rw [e8 t (by omega)]; exact a1, by rw [e9 t (by omega)]; exact a2, a3, a4, by rw [ea _ (by omega) (by omega)]; exact a5, by rw [ea _ (by omega) (by omega)]; exact a6⟩
/-- houses of two owners lie apart -/
theorem apart {ow : Nat → Nat} {a b : Nat} (h1 : OWN ow a 10) (h2 : OWN ow b 10) (h : a ≠ b) : a + 10 ≤ b ∨ b + 10 ≤ a := by
  apply Classical.byContradiction
  intro hn
  by_cases c : a ≤ b
  · have x1 := h1 (b - a) (by omega)
    have x2 := h2 0 (by omega)
    rw [show a + (b - a) = b by omega] at x1
    rw [Nat.add_zero] at x2
    omega
  · have x1 := h2 (a - b) (by omega)
    have x2 := h1 0 (by omega)
    rw [show b + (a - b) = a by omega] at x1
    rw [Nat.add_zero] at x2
    omega
theorem resL10 {F : Nat} {s : List Sh} (hp : ∃ t, s = sB ++ t) {i : Nat} (hi : i < 2) : ∀ (n fuel : Nat), n < fuel → ∀ (m : Mem) (j : Nat), RF m → j + n = 999 → ∃ m', nl_X10_restore_32 F s fuel m 23 (q32 i) (q32 j) = some (q32 0, m') ∧ m'.2 = m.2 ∧ (∀ c k, c ≠ 24 ∨ 999 ≤ k → m'.1 c k = m.1 c k) ∧ ∀ k, k < 999 → m'.1 24 k = if k = 73 then q32 0 else if j ≤ k then m.1 24 (999 * (i + 1) + k) else m.1 24 k := by
  have l24 := ln24 hp
  intro n
  induction n with
  | zero =>
    intro fuel hf m j hr hj
    obtain ⟨fuel, rfl⟩ : ∃ f, fuel = f + 1 := ⟨fuel - 1, by omega⟩
    have r1 := rf23_1 hr
    refine ⟨wI m 24 73 (q32 0), ?_, rfl, fun c k h => wI_n (by omega), fun k hk => ?_⟩
    · show nb_X10_restore_32 F s (nl_X10_restore_32 F s fuel) m 23 _ _ = _
      unfold nb_X10_restore_32
      simp (disch := omega) only [Option.bind_some, bindv, bindv0, bind2_s, bind3_s, ↓reduceIte, Bool.false_eq_true, rZM_0, rZM_1, rZP_0, rZP_1, ptZ_0, ptZ_1, c32i, c64i, ncI, Int.natCast_add, Int.natCast_mul, q32_neg, q64_neg, q32_add, q32_sub, q32_mul, q64_add, q64_sub, q64_mul, q32_64i, q64_32, q32_lt_t, q32_lt_f, q32_le_t, q32_le_f, q32_eq_t, q32_eq_f, q64_lt_t, q64_lt_f, q64_le_t, q64_le_f, q64_eq_t, q64_eq_f, rdI_i, rdL_i, rdR_i, rdN_i, stI_i, stL_i, stR_i, wI_s, wI_n, wL_s, wL_n, wI_2, wI_3, wL_1, wL_3, wR_1, wR_2, Int.toNat_natCast, tnO, tn_add, tn_sub, tn_mul, Nat.add_sub_cancel, Nat.add_zero, Nat.zero_add, lnO, win_t, win_f, r1]
    · by_cases c : k = 73
      · subst c; rw [if_pos rfl, wI_s]
      · rw [if_neg c, if_neg (by omega), wI_n (by omega)]
  | succ n ih =>
    intro fuel hf m j hr hj
    obtain ⟨fuel, rfl⟩ : ∃ f, fuel = f + 1 := ⟨fuel - 1, by omega⟩
    have r1 := rf23_1 hr
    obtain ⟨m', e1, e2, e3, e4⟩ := ih fuel (by omega) (wI m 24 j (m.1 24 (999 * (i + 1) + j))) (j + 1) (hr.same rfl) (by omega)
    rw [Int.natCast_add] at e1
    have ei : ((999 : Int) * (i + 1) + j).toNat = 999 * (i + 1) + j := by omega
    refine ⟨m', ?_, e2, fun c k h => by rw [e3 c k h, wI_n (by omega)], fun k hk => ?_⟩
    · show nb_X10_restore_32 F s (nl_X10_restore_32 F s fuel) m 23 _ _ = _
      unfold nb_X10_restore_32
      simp (disch := omega) only [Option.bind_some, bindv, bindv0, bind2_s, bind3_s, ↓reduceIte, Bool.false_eq_true, rZM_0, rZM_1, rZP_0, rZP_1, ptZ_0, ptZ_1, c32i, c64i, ncI, Int.natCast_add, Int.natCast_mul, q32_neg, q64_neg, q32_add, q32_sub, q32_mul, q64_add, q64_sub, q64_mul, q32_64i, q64_32, q32_lt_t, q32_lt_f, q32_le_t, q32_le_f, q32_eq_t, q32_eq_f, q64_lt_t, q64_lt_f, q64_le_t, q64_le_f, q64_eq_t, q64_eq_f, rdI_i, rdL_i, rdR_i, rdN_i, stI_i, stL_i, stR_i, wI_s, wI_n, wL_s, wL_n, wI_2, wI_3, wL_1, wL_3, wR_1, wR_2, Int.toNat_natCast, r1, ei]
      exact e1
    · rw [e4 k hk]
      by_cases c : k = 73
      · rw [if_pos c, if_pos c]
      · rw [if_neg c, if_neg c]
        by_cases c2 : j + 1 ≤ k
        · rw [if_pos c2, if_pos (by omega), wI_n (by omega)]
        · rw [if_neg c2]
          by_cases c3 : k = j
          · subst c3; rw [if_pos (by omega), wI_s]
          · rw [if_neg (by omega), wI_n (by omega)]
theorem opk_restore {F : Nat} (hF : 2000 ≤ F) {s : List Sh} {m : Mem} (h : INV s m) (w : Int32) : OPK s m (n_X9_restore s m 0 w) (fun m1 => n_X10_restore F s m1 23 w) := by
  have h0 := h
  obtain ⟨hg, ow, nw, hst⟩ := h
  have hl := hst.1
  have hp := hl.hp
  have hr := hl.rf
  have hn := hl.hn
  have rn := hl.nw
  have r1 := rf23_1 hr
  have l24 := ln24 hp
  obtain ⟨v, hv, rfl⟩ := q32_of w
  have r6 := rf0_6 hr
  have r2 := rf23_2 hr
  have l12 := ln12 hp
  have l25 := ln25 hp
  by_cases c : 0 ≤ v ∧ v < 2
  · obtain ⟨i, rfl⟩ := Int.eq_ofNat_of_zero_le c.1
    have hi : i < 2 := by omega
    have rN : rdN s m 12 (q32 i) = some (m.2.2 12 i) := rdN_q (by omega) (by omega)
    rcases hst.2.2.2.1 i hi with ⟨n1, n2⟩ | ⟨n, n1, n2, n3⟩
    · rw [n1] at rN
      have n2' : m.1 25 i = q32 0 := n2
      have e1 : n_X9_restore s m 0 (q32 i) = some (q32 (-5), m) := by
        unfold n_X9_restore nb_X9_restore_0
        simp (disch := omega) only [Option.bind_some, bindv, bindv0, bind2_s, bind3_s, ↓reduceIte, Bool.false_eq_true, rZM_0, rZM_1, rZP_0, rZP_1, ptZ_0, ptZ_1, c32i, c64i, ncI, Int.natCast_add, Int.natCast_mul, q32_neg, q64_neg, q32_add, q32_sub, q32_mul, q64_add, q64_sub, q64_mul, q32_64i, q64_32, q32_lt_t, q32_lt_f, q32_le_t, q32_le_f, q32_eq_t, q32_eq_f, q64_lt_t, q64_lt_f, q64_le_t, q64_le_f, q64_eq_t, q64_eq_f, rdI_i, rdL_i, rdR_i, rdN_i, stI_i, stL_i, stR_i, wI_s, wI_n, wL_s, wL_n, wI_2, wI_3, wL_1, wL_3, wR_1, wR_2, Int.toNat_natCast, tnO, tn_add, tn_sub, tn_mul, Nat.add_sub_cancel, Nat.add_zero, Nat.zero_add, lnO, win_t, win_f, r6, rN]
      have e2 : n_X10_restore F s m 23 (q32 i) = some (q32 (-5), wI m 23 0 (q32 0)) := by
        unfold n_X10_restore nb_X10_restore_0
        simp (disch := omega) only [Option.bind_some, bindv, bindv0, bind2_s, bind3_s, ↓reduceIte, Bool.false_eq_true, rZM_0, rZM_1, rZP_0, rZP_1, ptZ_0, ptZ_1, c32i, c64i, ncI, Int.natCast_add, Int.natCast_mul, q32_neg, q64_neg, q32_add, q32_sub, q32_mul, q64_add, q64_sub, q64_mul, q32_64i, q64_32, q32_lt_t, q32_lt_f, q32_le_t, q32_le_f, q32_eq_t, q32_eq_f, q64_lt_t, q64_lt_f, q64_le_t, q64_le_f, q64_eq_t, q64_eq_f, rdI_i, rdL_i, rdR_i, rdN_i, stI_i, stL_i, stR_i, wI_s, wI_n, wL_s, wL_n, wI_2, wI_3, wL_1, wL_3, wR_1, wR_2, Int.toNat_natCast, tnO, tn_add, tn_sub, tn_mul, Nat.add_sub_cancel, Nat.add_zero, Nat.zero_add, lnO, win_t, win_f, r2, n2']
      exact opk_fin h0 e1 e2 (un_X10_restore (un_X9_restore hg (okB hp).1 e1).2 (okB hp).2 e2).2 (SC.k0 m)
    · rw [n1] at rN
      have n2' : m.1 25 i = q32 1 := n2
      obtain ⟨hbn, own, hne, h53⟩ := hl.2.2.2.2.2.2.2.2.1 i n hi n1
      have hb := hl.2.2.2.1
      have ap := apart hl.2.2.2.2.1 own (fun e => hne e.symm)
      have rR : rdR s m 12 (q32 i) = some n := by rw [rdR_q (by omega) (by omega)]; exact n1
      obtain ⟨m1, t1, t2, t3, t4, t5, t6, t7, t8, t9, t10, t11, t12⟩ := takeH hb hbn ap
      have e1 : n_X9_restore s m 0 (q32 i) = some (q32 0, wI m1 0 10 (q32 0)) := by
        unfold n_X9_restore nb_X9_restore_0
        simp (disch := omega) only [Option.bind_some, bindv, bindv0, bind2_s, bind3_s, ↓reduceIte, Bool.false_eq_true, rZM_0, rZM_1, rZP_0, rZP_1, ptZ_0, ptZ_1, c32i, c64i, ncI, Int.natCast_add, Int.natCast_mul, q32_neg, q64_neg, q32_add, q32_sub, q32_mul, q64_add, q64_sub, q64_mul, q32_64i, q64_32, q32_lt_t, q32_lt_f, q32_le_t, q32_le_f, q32_eq_t, q32_eq_f, q64_lt_t, q64_lt_f, q64_le_t, q64_le_f, q64_eq_t, q64_eq_f, rdI_i, rdL_i, rdR_i, rdN_i, stI_i, stL_i, stR_i, wI_s, wI_n, wL_s, wL_n, wI_2, wI_3, wL_1, wL_3, wR_1, wR_2, Int.toNat_natCast, tnO, tn_add, tn_sub, tn_mul, Nat.add_sub_cancel, Nat.add_zero, Nat.zero_add, lnO, win_t, win_f, r6, rN, rn, rR, t1]
        rfl
      have hrM : RF (wI (wI m1 0 10 (q32 0)) 23 0 (q32 0)) := hr.same (by show m1.2.2 = _; rw [t2])
      obtain ⟨m2, g1, g2, g3, g4⟩ := resL10 (F := F) hp hi 999 F (by omega) (wI (wI m1 0 10 (q32 0)) 23 0 (q32 0)) 0 hrM (by omega)
      have x25 : (wI (wI m1 0 10 (q32 0)) 23 0 (q32 0)).1 25 i = q32 1 := by
        rw [wI_n (by omega), wI_n (by omega), t3 _ _ (by omega)]; exact n2'
      have r2' : (wI (wI m1 0 10 (q32 0)) 23 0 (q32 0)).2.2 23 2 = some 25 := rf23_2 hrM
      have e2 : n_X10_restore F s (wI m1 0 10 (q32 0)) 23 (q32 i) = some (q32 0, m2) := by
        unfold n_X10_restore nb_X10_restore_0
        have x25' : m1.1 25 i = q32 1 := by rw [t3 _ _ (by omega)]; exact n2'
        have r2'' : m1.2.2 23 2 = some 25 := r2'
        simp (disch := omega) only [Option.bind_some, bindv, bindv0, bind2_s, bind3_s, ↓reduceIte, Bool.false_eq_true, rZM_0, rZM_1, rZP_0, rZP_1, ptZ_0, ptZ_1, c32i, c64i, ncI, Int.natCast_add, Int.natCast_mul, q32_neg, q64_neg, q32_add, q32_sub, q32_mul, q64_add, q64_sub, q64_mul, q32_64i, q64_32, q32_lt_t, q32_lt_f, q32_le_t, q32_le_f, q32_eq_t, q32_eq_f, q64_lt_t, q64_lt_f, q64_le_t, q64_le_f, q64_eq_t, q64_eq_f, rdI_i, rdL_i, rdR_i, rdN_i, stI_i, stL_i, stR_i, wI_s, wI_n, wL_s, wL_n, wI_2, wI_3, wL_1, wL_3, wR_1, wR_2, Int.toNat_natCast, tnO, tn_add, tn_sub, tn_mul, Nat.add_sub_cancel, Nat.add_zero, Nat.zero_add, lnO, win_t, win_f, r2', r2'', x25']
        exact g1
      have er : m2.2.2 = m.2.2 := by rw [g2]; show m1.2.2 = _; rw [t2]
      -- what it is now
      have o1 : ∀ c k, (c < nw ∨ nw + 10 ≤ c) → (c ≠ 0 ∨ k ≠ 10) → (c ≠ 23 ∨ k ≠ 0) → (c ≠ 24 ∨ 999 ≤ k) → m2.1 c k = m.1 c k := fun c k h1 h2 h3 h4 => by
        rw [g3 c k h4, wI_n h3, wI_n h2, t3 c k h1]
      have oN : ∀ c k, nw ≤ c → c < nw + 10 → m2.1 c k = m1.1 c k := fun c k h1 h2 => by
        rw [g3 c k (by omega), wI_n (by omega), wI_n (by omega)]
      have al : ∀ k, k < 999 → k ≠ 73 → m2.1 24 k = m.1 24 (999 * (i + 1) + k) := fun k hk h73 => by
        rw [g4 k hk, if_neg h73, if_pos (by omega), wI_n (by omega), wI_n (by omega), t3 _ _ (by omega)]
      have a73 : m2.1 24 73 = q32 0 := by rw [g4 73 (by omega), if_pos rfl]
      refine ⟨q32 0, _, m2, e1, e2, ⟨(un_X10_restore (un_X9_restore hg (okB hp).1 e1).2 (okB hp).2 e2).2, ow, nw, ?_⟩, er⟩
      refine hst.hu er (fun a ha hb hc => funext fun k => o1 a k hc (by omega) (by omega) (by omega)) (fun a ha hb => by rw [g2]; show m1.2.1 a = _; rw [t2]) (fun k hk => o1 24 k (by omega) (by omega) (by omega) (by omega)) ?_ ⟨?_, ?_⟩
      · unfold HREL at n3 ⊢
        exact HR.cp n3 (fun k hk => by rw [oN _ _ (by omega) (by omega)]; exact t4 k hk) (fun k hk => by rw [oN _ _ (by omega) (by omega)]; exact t5 k hk) (fun k hk => by rw [oN _ _ (by omega) (by omega)]; exact t6 k hk) (fun k hk => by rw [oN _ _ (by omega) (by omega)]; exact t7 k hk) (fun k hk => by rw [oN _ _ (by omega) (by omega)]; exact t8 k hk) (fun k hk => by rw [oN _ _ (by omega) (by omega)]; exact t9 k hk) (fun k hk => by rw [oN _ _ (by omega) (by omega)]; exact t10 k hk) (fun k hk => by rw [oN _ _ (by omega) (by omega)]; exact t11 k hk) (fun k hk => by rw [oN _ _ (by omega) (by omega)]; exact t12 k hk) (fun k hk h73 => al k hk (by omega))
      · have hfx := hst.2.2.1.1
        unfold TPR at hfx ⊢
        rw [o1 0 1 (by omega) (by omega) (by omega) (by omega), o1 23 5 (by omega) (by omega) (by omega) (by omega), o1 23 13 (by omega) (by omega) (by omega) (by omega), o1 23 14 (by omega) (by omega) (by omega) (by omega), o1 0 2 (by omega) (by omega) (by omega) (by omega), o1 0 3 (by omega) (by omega) (by omega) (by omega), show m2.1 1 = m.1 1 from funext fun k => o1 1 k (by omega) (by omega) (by omega) (by omega), show m2.1 26 = m.1 26 from funext fun k => o1 26 k (by omega) (by omega) (by omega) (by omega)]
        exact hfx
      · refine ⟨0, by omega, ?_, a73, fun k hk => by omega⟩
        rw [g3 0 10 (by omega), wI_n (by omega), wI_s]
        rfl
  · have e1 : n_X9_restore s m 0 (q32 v) = some (q32 (-2), m) := by
      unfold n_X9_restore nb_X9_restore_0
      by_cases c2 : v < 0
      · simp (disch := omega) only [Option.bind_some, bindv, bindv0, bind2_s, bind3_s, ↓reduceIte, Bool.false_eq_true, rZM_0, rZM_1, rZP_0, rZP_1, ptZ_0, ptZ_1, c32i, c64i, ncI, Int.natCast_add, Int.natCast_mul, q32_neg, q64_neg, q32_add, q32_sub, q32_mul, q64_add, q64_sub, q64_mul, q32_64i, q64_32, q32_lt_t, q32_lt_f, q32_le_t, q32_le_f, q32_eq_t, q32_eq_f, q64_lt_t, q64_lt_f, q64_le_t, q64_le_f, q64_eq_t, q64_eq_f, rdI_i, rdL_i, rdR_i, rdN_i, stI_i, stL_i, stR_i, wI_s, wI_n, wL_s, wL_n, wI_2, wI_3, wL_1, wL_3, wR_1, wR_2, Int.toNat_natCast, tnO, tn_add, tn_sub, tn_mul, Nat.add_sub_cancel, Nat.add_zero, Nat.zero_add, lnO, win_t, win_f]
      · simp (disch := omega) only [Option.bind_some, bindv, bindv0, bind2_s, bind3_s, ↓reduceIte, Bool.false_eq_true, rZM_0, rZM_1, rZP_0, rZP_1, ptZ_0, ptZ_1, c32i, c64i, ncI, Int.natCast_add, Int.natCast_mul, q32_neg, q64_neg, q32_add, q32_sub, q32_mul, q64_add, q64_sub, q64_mul, q32_64i, q64_32, q32_lt_t, q32_lt_f, q32_le_t, q32_le_f, q32_eq_t, q32_eq_f, q64_lt_t, q64_lt_f, q64_le_t, q64_le_f, q64_eq_t, q64_eq_f, rdI_i, rdL_i, rdR_i, rdN_i, stI_i, stL_i, stR_i, wI_s, wI_n, wL_s, wL_n, wI_2, wI_3, wL_1, wL_3, wR_1, wR_2, Int.toNat_natCast, tnO, tn_add, tn_sub, tn_mul, Nat.add_sub_cancel, Nat.add_zero, Nat.zero_add, lnO, win_t, win_f]
    have e2 : n_X10_restore F s m 23 (q32 v) = some (q32 (-2), wI m 23 0 (q32 0)) := by
      unfold n_X10_restore nb_X10_restore_0
      simp (disch := omega) only [Option.bind_some, bindv, bindv0, bind2_s, bind3_s, ↓reduceIte, Bool.false_eq_true, rZM_0, rZM_1, rZP_0, rZP_1, ptZ_0, ptZ_1, c32i, c64i, ncI, Int.natCast_add, Int.natCast_mul, q32_neg, q64_neg, q32_add, q32_sub, q32_mul, q64_add, q64_sub, q64_mul, q32_64i, q64_32, q32_lt_t, q32_lt_f, q32_le_t, q32_le_f, q32_eq_t, q32_eq_f, q64_lt_t, q64_lt_f, q64_le_t, q64_le_f, q64_eq_t, q64_eq_f, rdI_i, rdL_i, rdR_i, rdN_i, stI_i, stL_i, stR_i, wI_s, wI_n, wL_s, wL_n, wI_2, wI_3, wL_1, wL_3, wR_1, wR_2, Int.toNat_natCast, tnO, tn_add, tn_sub, tn_mul, Nat.add_sub_cancel, Nat.add_zero, Nat.zero_add, lnO, win_t, win_f]
    exact opk_fin h0 e1 e2 (un_X10_restore (un_X9_restore hg (okB hp).1 e1).2 (okB hp).2 e2).2 (SC.k0 m)
