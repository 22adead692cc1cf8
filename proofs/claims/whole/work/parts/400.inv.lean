/-! PURE: the state that class and reference share -/
def sB : List Sh := [.inl 9, .inr (0, 900), .inl 0, .inr (0, 7), .inr (0, 900), .inr (0, 8), .inr (0, 8), .inr (0, 24), .inr (0, 3), .inr (0, 8), .inr (0, 6), .inr (0, 6), .inr (3, 2), .inr (4, 4), .inr (0, 12), .inr (0, 12), .inl 4, .inr (1, 64), .inr (1, 64), .inl 2, .inl 2, .inr (1, 40), .inr (0, 201), .inl 10, .inr (0, 2997), .inr (2, 2), .inr (0, 900), .inr (0, 999), .inr (1, 900), .inr (1, 900), .inr (0, 8), .inr (0, 8192), .inr (0, 8192), .inr (0, 8192), .inr (0, 8192), .inr (0, 16384), .inr (0, 8), .inr (0, 8192), .inr (0, 8192), .inr (0, 900), .inr (0, 1400), .inr (0, 1400), .inr (0, 64), .inr (0, 64), .inr (0, 8), .inr (0, 8), .inr (0, 48), .inr (0, 300), .inr (0, 300), .inr (1, 300), .inr (0, 4), .inr (0, 4), .inr (1, 160)]
def rfB : List (Nat × Nat × Nat) := [(0, 0, 1), (0, 6, 12), (0, 7, 13), (0, 8, 14), (0, 9, 15), (0, 11, 16), (0, 12, 19), (0, 13, 20), (0, 14, 21), (0, 15, 22), (16, 2, 17), (16, 3, 18), (23, 1, 24), (23, 2, 25), (23, 3, 26), (23, 4, 27), (23, 19, 28), (23, 20, 29), (23, 23, 30), (23, 24, 31), (23, 25, 32), (23, 26, 33), (23, 27, 34), (23, 28, 35), (23, 30, 36), (23, 31, 37), (23, 32, 38), (23, 36, 39), (23, 37, 40), (23, 38, 41), (23, 41, 42), (23, 42, 43), (23, 43, 44), (23, 44, 45), (23, 45, 46), (23, 48, 47), (23, 49, 48), (23, 50, 49), (23, 52, 50), (23, 53, 51), (23, 54, 52)]
def RF (m : Mem) : Prop := ∀ q ∈ rfB, m.2.2 q.1 q.2.1 = some q.2.2
theorem RF.at {m : Mem} (h : RF m) (i : Nat) {a k b : Nat} (e : rfB[i]? = some (a, k, b)) : m.2.2 a k = some b := h (a, k, b) (List.mem_of_getElem? e)
theorem rf0_0 {m : Mem} (h : RF m) : m.2.2 0 0 = some 1 := h.at 0 rfl
theorem rf0_6 {m : Mem} (h : RF m) : m.2.2 0 6 = some 12 := h.at 1 rfl
theorem rf0_7 {m : Mem} (h : RF m) : m.2.2 0 7 = some 13 := h.at 2 rfl
theorem rf0_8 {m : Mem} (h : RF m) : m.2.2 0 8 = some 14 := h.at 3 rfl
theorem rf0_9 {m : Mem} (h : RF m) : m.2.2 0 9 = some 15 := h.at 4 rfl
theorem rf0_11 {m : Mem} (h : RF m) : m.2.2 0 11 = some 16 := h.at 5 rfl
theorem rf0_12 {m : Mem} (h : RF m) : m.2.2 0 12 = some 19 := h.at 6 rfl
theorem rf0_13 {m : Mem} (h : RF m) : m.2.2 0 13 = some 20 := h.at 7 rfl
theorem rf0_14 {m : Mem} (h : RF m) : m.2.2 0 14 = some 21 := h.at 8 rfl
theorem rf0_15 {m : Mem} (h : RF m) : m.2.2 0 15 = some 22 := h.at 9 rfl
theorem rf16_2 {m : Mem} (h : RF m) : m.2.2 16 2 = some 17 := h.at 10 rfl
theorem rf16_3 {m : Mem} (h : RF m) : m.2.2 16 3 = some 18 := h.at 11 rfl
theorem rf23_1 {m : Mem} (h : RF m) : m.2.2 23 1 = some 24 := h.at 12 rfl
theorem rf23_2 {m : Mem} (h : RF m) : m.2.2 23 2 = some 25 := h.at 13 rfl
theorem rf23_3 {m : Mem} (h : RF m) : m.2.2 23 3 = some 26 := h.at 14 rfl
theorem rf23_4 {m : Mem} (h : RF m) : m.2.2 23 4 = some 27 := h.at 15 rfl
theorem rf23_19 {m : Mem} (h : RF m) : m.2.2 23 19 = some 28 := h.at 16 rfl
theorem rf23_20 {m : Mem} (h : RF m) : m.2.2 23 20 = some 29 := h.at 17 rfl
theorem rf23_23 {m : Mem} (h : RF m) : m.2.2 23 23 = some 30 := h.at 18 rfl
theorem rf23_24 {m : Mem} (h : RF m) : m.2.2 23 24 = some 31 := h.at 19 rfl
theorem rf23_25 {m : Mem} (h : RF m) : m.2.2 23 25 = some 32 := h.at 20 rfl
theorem rf23_26 {m : Mem} (h : RF m) : m.2.2 23 26 = some 33 := h.at 21 rfl
theorem rf23_27 {m : Mem} (h : RF m) : m.2.2 23 27 = some 34 := h.at 22 rfl
theorem rf23_28 {m : Mem} (h : RF m) : m.2.2 23 28 = some 35 := h.at 23 rfl
theorem rf23_30 {m : Mem} (h : RF m) : m.2.2 23 30 = some 36 := h.at 24 rfl
theorem rf23_31 {m : Mem} (h : RF m) : m.2.2 23 31 = some 37 := h.at 25 rfl
theorem rf23_32 {m : Mem} (h : RF m) : m.2.2 23 32 = some 38 := h.at 26 rfl
theorem rf23_36 {m : Mem} (h : RF m) : m.2.2 23 36 = some 39 := h.at 27 rfl
theorem rf23_37 {m : Mem} (h : RF m) : m.2.2 23 37 = some 40 := h.at 28 rfl
theorem rf23_38 {m : Mem} (h : RF m) : m.2.2 23 38 = some 41 := h.at 29 rfl
theorem rf23_41 {m : Mem} (h : RF m) : m.2.2 23 41 = some 42 := h.at 30 rfl
theorem rf23_42 {m : Mem} (h : RF m) : m.2.2 23 42 = some 43 := h.at 31 rfl
theorem rf23_43 {m : Mem} (h : RF m) : m.2.2 23 43 = some 44 := h.at 32 rfl
theorem rf23_44 {m : Mem} (h : RF m) : m.2.2 23 44 = some 45 := h.at 33 rfl
theorem rf23_45 {m : Mem} (h : RF m) : m.2.2 23 45 = some 46 := h.at 34 rfl
theorem rf23_48 {m : Mem} (h : RF m) : m.2.2 23 48 = some 47 := h.at 35 rfl
theorem rf23_49 {m : Mem} (h : RF m) : m.2.2 23 49 = some 48 := h.at 36 rfl
theorem rf23_50 {m : Mem} (h : RF m) : m.2.2 23 50 = some 49 := h.at 37 rfl
theorem rf23_52 {m : Mem} (h : RF m) : m.2.2 23 52 = some 50 := h.at 38 rfl
theorem rf23_53 {m : Mem} (h : RF m) : m.2.2 23 53 = some 51 := h.at 39 rfl
theorem rf23_54 {m : Mem} (h : RF m) : m.2.2 23 54 = some 52 := h.at 40 rfl
theorem ln_pre {s : List Sh} (hp : ∃ t, s = sB ++ t) {a : Nat} (h : a < 53) : ln s a = ln sB a := by
  obtain ⟨t, rfl⟩ := hp
  unfold ln
  rw [List.getElem?_append_left (show a < sB.length from h)]
theorem ln1 {s : List Sh} (hp : ∃ t, s = sB ++ t) : ln s 1 = 900 := ln_pre hp (by decide)
theorem ln3 {s : List Sh} (hp : ∃ t, s = sB ++ t) : ln s 3 = 7 := ln_pre hp (by decide)
theorem ln4 {s : List Sh} (hp : ∃ t, s = sB ++ t) : ln s 4 = 900 := ln_pre hp (by decide)
theorem ln5 {s : List Sh} (hp : ∃ t, s = sB ++ t) : ln s 5 = 8 := ln_pre hp (by decide)
theorem ln6 {s : List Sh} (hp : ∃ t, s = sB ++ t) : ln s 6 = 8 := ln_pre hp (by decide)
theorem ln7 {s : List Sh} (hp : ∃ t, s = sB ++ t) : ln s 7 = 24 := ln_pre hp (by decide)
theorem ln8 {s : List Sh} (hp : ∃ t, s = sB ++ t) : ln s 8 = 3 := ln_pre hp (by decide)
theorem ln9 {s : List Sh} (hp : ∃ t, s = sB ++ t) : ln s 9 = 8 := ln_pre hp (by decide)
theorem ln10 {s : List Sh} (hp : ∃ t, s = sB ++ t) : ln s 10 = 6 := ln_pre hp (by decide)
theorem ln11 {s : List Sh} (hp : ∃ t, s = sB ++ t) : ln s 11 = 6 := ln_pre hp (by decide)
theorem ln12 {s : List Sh} (hp : ∃ t, s = sB ++ t) : ln s 12 = 2 := ln_pre hp (by decide)
theorem ln13 {s : List Sh} (hp : ∃ t, s = sB ++ t) : ln s 13 = 4 := ln_pre hp (by decide)
theorem ln14 {s : List Sh} (hp : ∃ t, s = sB ++ t) : ln s 14 = 12 := ln_pre hp (by decide)
theorem ln15 {s : List Sh} (hp : ∃ t, s = sB ++ t) : ln s 15 = 12 := ln_pre hp (by decide)
theorem ln17 {s : List Sh} (hp : ∃ t, s = sB ++ t) : ln s 17 = 64 := ln_pre hp (by decide)
theorem ln18 {s : List Sh} (hp : ∃ t, s = sB ++ t) : ln s 18 = 64 := ln_pre hp (by decide)
theorem ln21 {s : List Sh} (hp : ∃ t, s = sB ++ t) : ln s 21 = 40 := ln_pre hp (by decide)
theorem ln22 {s : List Sh} (hp : ∃ t, s = sB ++ t) : ln s 22 = 201 := ln_pre hp (by decide)
theorem ln24 {s : List Sh} (hp : ∃ t, s = sB ++ t) : ln s 24 = 2997 := ln_pre hp (by decide)
theorem ln25 {s : List Sh} (hp : ∃ t, s = sB ++ t) : ln s 25 = 2 := ln_pre hp (by decide)
theorem ln26 {s : List Sh} (hp : ∃ t, s = sB ++ t) : ln s 26 = 900 := ln_pre hp (by decide)
theorem ln27 {s : List Sh} (hp : ∃ t, s = sB ++ t) : ln s 27 = 999 := ln_pre hp (by decide)
theorem ln28 {s : List Sh} (hp : ∃ t, s = sB ++ t) : ln s 28 = 900 := ln_pre hp (by decide)
theorem ln29 {s : List Sh} (hp : ∃ t, s = sB ++ t) : ln s 29 = 900 := ln_pre hp (by decide)
theorem ln30 {s : List Sh} (hp : ∃ t, s = sB ++ t) : ln s 30 = 8 := ln_pre hp (by decide)
theorem ln31 {s : List Sh} (hp : ∃ t, s = sB ++ t) : ln s 31 = 8192 := ln_pre hp (by decide)
theorem ln32 {s : List Sh} (hp : ∃ t, s = sB ++ t) : ln s 32 = 8192 := ln_pre hp (by decide)
theorem ln33 {s : List Sh} (hp : ∃ t, s = sB ++ t) : ln s 33 = 8192 := ln_pre hp (by decide)
theorem ln34 {s : List Sh} (hp : ∃ t, s = sB ++ t) : ln s 34 = 8192 := ln_pre hp (by decide)
theorem ln35 {s : List Sh} (hp : ∃ t, s = sB ++ t) : ln s 35 = 16384 := ln_pre hp (by decide)
theorem ln36 {s : List Sh} (hp : ∃ t, s = sB ++ t) : ln s 36 = 8 := ln_pre hp (by decide)
theorem ln37 {s : List Sh} (hp : ∃ t, s = sB ++ t) : ln s 37 = 8192 := ln_pre hp (by decide)
theorem ln38 {s : List Sh} (hp : ∃ t, s = sB ++ t) : ln s 38 = 8192 := ln_pre hp (by decide)
theorem ln39 {s : List Sh} (hp : ∃ t, s = sB ++ t) : ln s 39 = 900 := ln_pre hp (by decide)
theorem ln40 {s : List Sh} (hp : ∃ t, s = sB ++ t) : ln s 40 = 1400 := ln_pre hp (by decide)
theorem ln41 {s : List Sh} (hp : ∃ t, s = sB ++ t) : ln s 41 = 1400 := ln_pre hp (by decide)
theorem ln42 {s : List Sh} (hp : ∃ t, s = sB ++ t) : ln s 42 = 64 := ln_pre hp (by decide)
theorem ln43 {s : List Sh} (hp : ∃ t, s = sB ++ t) : ln s 43 = 64 := ln_pre hp (by decide)
theorem ln44 {s : List Sh} (hp : ∃ t, s = sB ++ t) : ln s 44 = 8 := ln_pre hp (by decide)
theorem ln45 {s : List Sh} (hp : ∃ t, s = sB ++ t) : ln s 45 = 8 := ln_pre hp (by decide)
theorem ln46 {s : List Sh} (hp : ∃ t, s = sB ++ t) : ln s 46 = 48 := ln_pre hp (by decide)
theorem ln47 {s : List Sh} (hp : ∃ t, s = sB ++ t) : ln s 47 = 300 := ln_pre hp (by decide)
theorem ln48 {s : List Sh} (hp : ∃ t, s = sB ++ t) : ln s 48 = 300 := ln_pre hp (by decide)
theorem ln49 {s : List Sh} (hp : ∃ t, s = sB ++ t) : ln s 49 = 300 := ln_pre hp (by decide)
theorem ln50 {s : List Sh} (hp : ∃ t, s = sB ++ t) : ln s 50 = 4 := ln_pre hp (by decide)
theorem ln51 {s : List Sh} (hp : ∃ t, s = sB ++ t) : ln s 51 = 4 := ln_pre hp (by decide)
theorem ln52 {s : List Sh} (hp : ∃ t, s = sB ++ t) : ln s 52 = 160 := ln_pre hp (by decide)
theorem okB {s : List Sh} (hp : ∃ t, s = sB ++ t) : ok s 0 9 ∧ ok s 23 10 := by
  obtain ⟨t, rfl⟩ := hp
  exact ⟨ok_app (s := sB) (ok_i rfl (by decide)) rfl, ok_app (s := sB) (ok_i rfl (by decide)) rfl⟩
/-! reading a memory that was written -/
theorem wI_1 (m : Mem) (a k : Nat) (x : Int32) (b j : Nat) : (wI m a k x).1 b j = if b = a ∧ j = k then x else m.1 b j := rfl
theorem wI_2 (m : Mem) (a k : Nat) (x : Int32) : (wI m a k x).2.1 = m.2.1 := rfl
theorem wI_3 (m : Mem) (a k : Nat) (x : Int32) : (wI m a k x).2.2 = m.2.2 := rfl
theorem wL_1 (m : Mem) (a k : Nat) (x : Int64) : (wL m a k x).1 = m.1 := rfl
theorem wL_2 (m : Mem) (a k : Nat) (x : Int64) (b j : Nat) : (wL m a k x).2.1 b j = if b = a ∧ j = k then x else m.2.1 b j := rfl
theorem wL_3 (m : Mem) (a k : Nat) (x : Int64) : (wL m a k x).2.2 = m.2.2 := rfl
theorem wR_1 (m : Mem) (a k : Nat) (x : Option Nat) : (wR m a k x).1 = m.1 := rfl
theorem wR_2 (m : Mem) (a k : Nat) (x : Option Nat) : (wR m a k x).2.1 = m.2.1 := rfl
theorem wR_3 (m : Mem) (a k : Nat) (x : Option Nat) (b j : Nat) : (wR m a k x).2.2 b j = if b = a ∧ j = k then x else m.2.2 b j := rfl
theorem tnc {i : Nat} (h : i < 2147483648) : (q32 (i : Int)).toNatClampNeg = i := by
  show ((q32 (i : Int)).toInt).toNat = i
  rw [q32_toInt (b31n h)]
  rfl
theorem nn32 {i : Nat} (h : i < 2147483648) : (0 : Int32) ≤ q32 (i : Int) := by
  rw [q32_0]
  exact (q32_le (by decide) (b31n h)).mpr (by omega)
theorem rdI_q {s : List Sh} {m : Mem} {a i : Nat} (hl : ln s a < 2147483648) (h : i < ln s a) : rdI s m a (q32 (i : Int)) = some (m.1 a i) := by
  unfold rdI
  rw [tnc (by omega), if_pos ⟨nn32 (by omega), h⟩]
theorem rdL_q {s : List Sh} {m : Mem} {a i : Nat} (hl : ln s a < 2147483648) (h : i < ln s a) : rdL s m a (q32 (i : Int)) = some (m.2.1 a i) := by
  unfold rdL
  rw [tnc (by omega), if_pos ⟨nn32 (by omega), h⟩]
theorem rdR_q {s : List Sh} {m : Mem} {a i : Nat} (hl : ln s a < 2147483648) (h : i < ln s a) : rdR s m a (q32 (i : Int)) = m.2.2 a i := by
  unfold rdR
  rw [tnc (by omega), if_pos ⟨nn32 (by omega), h⟩]
theorem rdN_q {s : List Sh} {m : Mem} {a i : Nat} (hl : ln s a < 2147483648) (h : i < ln s a) : rdN s m a (q32 (i : Int)) = some (m.2.2 a i) := by
  unfold rdN
  rw [tnc (by omega), if_pos ⟨nn32 (by omega), h⟩]
theorem stI_q {s : List Sh} {m : Mem} {a i : Nat} {x : Int32} (hl : ln s a < 2147483648) (h : i < ln s a) : stI s m a (q32 (i : Int)) x = some (wI m a i x) := by
  unfold stI
  rw [tnc (by omega), if_pos ⟨nn32 (by omega), h⟩]
theorem stL_q {s : List Sh} {m : Mem} {a i : Nat} {x : Int64} (hl : ln s a < 2147483648) (h : i < ln s a) : stL s m a (q32 (i : Int)) x = some (wL m a i x) := by
  unfold stL
  rw [tnc (by omega), if_pos ⟨nn32 (by omega), h⟩]
theorem rdI_c {s : List Sh} {m : Mem} {a : Nat} (n : Nat) (hl : ln s a < 2147483648) (h : n < ln s a) : rdI s m a (OfNat.ofNat n) = some (m.1 a n) := by
  rw [c32]
  exact rdI_q hl h
theorem stI_c {s : List Sh} {m : Mem} {a : Nat} {x : Int32} (n : Nat) (hl : ln s a < 2147483648) (h : n < ln s a) : stI s m a (OfNat.ofNat n) x = some (wI m a n x) := by
  rw [c32]
  exact stI_q hl h
/-! what the state is -/
def FLR (tp u l : Int) : Prop := 0 ≤ u ∧ u ≤ 1000000 ∧ 1 ≤ l ∧ l ≤ 1000000 ∧ u ≤ tp * l ∧ Int.gcd u l = 1
/-- a step of a button as the class has it, as the reference has it -/
def CT (c d : Int32) : Prop := (∃ v : Nat, v < 1000 ∧ c = q32 v ∧ d = q32 v) ∨ (c = q32 (-1) ∧ d = q32 1000) ∨ (c = q32 (-2) ∧ d = q32 1001) ∨ (c = q32 (-3) ∧ d = q32 3000) ∨ (c = q32 (-4) ∧ d = q32 3001) ∨ (c = q32 (-5) ∧ d = q32 3002) ∨ (c = q32 (-6) ∧ d = q32 3003)
/-- n steps from i on, d numbers piled before: they can be done, one number is left -/
def WFC (cd : Nat → Int32) : Nat → Nat → Nat → Prop
  | 0, _, d => d = 1
  | n + 1, i, d => if -2 ≤ (cd i).toInt then d < 60 ∧ WFC cd n (i + 1) (d + 1) else 2 ≤ d ∧ WFC cd n (i + 1) (d - 1)
/-- a house: its numbers hs by field, its rows, and the reference's row al -/
def HR (hs st cd fu fl sf od tu tl : Nat → Int32) (al : Nat → Int32) : Prop :=
  ∃ (tp sk nl bc fc tc : Nat) (au aw : Int) (S : Nat → Nat) (U L : Nat → Int) (V W : Nat → Int) (X : Nat → Nat → Nat) (O : Nat → Nat),
    (1 ≤ tp ∧ tp ≤ 9 ∧ sk ≤ 9 ∧ nl ≤ 900 ∧ bc ≤ 6 ∧ fc ≤ 8 ∧ tc ≤ 6) ∧
    (hs 0 = q32 tp ∧ hs 1 = q32 sk ∧ hs 2 = q32 nl ∧ hs 4 = q32 au ∧ hs 5 = q32 aw ∧ hs 6 = q32 bc ∧ hs 9 = q32 fc ∧ hs 15 = q32 tc) ∧
    (al 0 = q32 nl ∧ al 1 = q32 tp ∧ al 2 = q32 bc ∧ al 3 = q32 fc ∧ al 4 = q32 tc ∧ al 5 = q32 sk ∧ al 6 = hs 3 ∧ al 7 = q32 au ∧ al 8 = q32 aw) ∧
    FLR tp au aw ∧
    (S 0 = 0 ∧ (∀ b, b < bc → S b ≤ S (b + 1)) ∧ S bc ≤ 900 ∧ (∀ b, b ≤ bc → 0 < bc → st b = q32 (S b)) ∧ (∀ b, b < bc → al (61 + b) = q32 (S b) ∧ al (67 + b) = q32 ((S (b + 1) - S b : Nat) : Int)) ∧ (∀ i, i < S bc → CT (cd i) (al (99 + i))) ∧ (∀ b, b < bc → WFC cd (S (b + 1) - S b) (S b) 0)) ∧
    (∀ k, k < fc → fu k = q32 (U k) ∧ fl k = q32 (L k) ∧ FLR tp (U k) (L k) ∧ L k ≤ 99 ∧ al (9 + k) = q32 (U k) ∧ al (17 + k) = q32 (L k) ∧ ∀ z, z < 3 → X k z ≤ 99 ∧ sf (3 * k + z) = q32 (X k z) ∧ al (25 + 8 * z + k) = q32 (X k z)) ∧
    ((∀ i, i < fc → O i < fc ∧ od i = q32 (O i)) ∧ ∀ i j, i < j → j < fc → U (O i) * L (O j) < U (O j) * L (O i)) ∧
    (∀ t, t < tc → tu t = q32 (V t) ∧ tl t = q32 (W t) ∧ FLR tp (V t) (W t) ∧ W t ≤ 99 ∧ al (49 + t) = q32 (V t) ∧ al (55 + t) = q32 (W t))
def HREL (m : Mem) (n : Nat) (al : Nat → Int32) : Prop := HR (m.1 n) (m.1 (n + 1)) (m.1 (n + 2)) (m.1 (n + 3)) (m.1 (n + 4)) (m.1 (n + 5)) (m.1 (n + 7)) (m.1 (n + 8)) (m.1 (n + 9)) al
/-- a House stands at n, with its rows behind it -/
def HB (s : List Sh) (m : Mem) (n : Nat) : Prop := (n = 2 ∨ 53 ≤ n) ∧ ok s n 0 ∧ (m.2.2 n 7 = some (n + 1) ∧ m.2.2 n 8 = some (n + 2) ∧ m.2.2 n 10 = some (n + 3) ∧ m.2.2 n 11 = some (n + 4) ∧ m.2.2 n 12 = some (n + 5) ∧ m.2.2 n 13 = some (n + 6) ∧ m.2.2 n 14 = some (n + 7) ∧ m.2.2 n 16 = some (n + 8) ∧ m.2.2 n 17 = some (n + 9)) ∧ ln s (n + 1) = 7 ∧ ln s (n + 2) = 900 ∧ ln s (n + 3) = 8 ∧ ln s (n + 4) = 8 ∧ ln s (n + 5) = 24 ∧ ln s (n + 6) = 3 ∧ ln s (n + 7) = 8 ∧ ln s (n + 8) = 6 ∧ ln s (n + 9) = 6
def OWN (ow : Nat → Nat) (b n : Nat) : Prop := ∀ j, j < n → ow (b + j) = b
/-- tray i stands at t -/
def TB (s : List Sh) (m : Mem) (t : Nat) : Prop := 53 ≤ t ∧ ok s t 7 ∧ m.2.2 t 2 = some (t + 1) ∧ ln s (t + 1) = 40
def TREL (m : Mem) (i t : Nat) : Prop := ∃ so sz : Nat, so ≤ 3 ∧ sz ≤ 40 ∧ m.1 t 0 = q32 so ∧ m.1 t 1 = q32 sz ∧ m.1 50 i = q32 so ∧ m.1 51 i = q32 sz ∧ ∀ k, k < sz → m.2.1 (t + 1) k = m.2.1 52 (40 * i + k)
def RB (s : List Sh) (m : Mem) (r z : Nat) : Prop := 53 ≤ r ∧ ok s r 3 ∧ m.2.2 r 0 = some z ∧ m.2.2 r 3 = some (r + 11) ∧ m.2.2 (r + 11) 1 = some (r + 12) ∧ m.2.2 (r + 11) 2 = some (r + 13) ∧ m.2.2 (r + 11) 3 = some (r + 14) ∧ m.2.2 r 11 = some (r + 15) ∧ m.2.2 r 13 = some (r + 16) ∧ ok s (r + 11) 6 ∧ ok s (r + 16) 2 ∧ ln s (r + 12) = 901 ∧ ln s (r + 13) = 901 ∧ ln s (r + 14) = 901 ∧ ln s (r + 15) = 64
def QB (s : List Sh) (m : Mem) (q : Nat) : Prop := 53 ≤ q ∧ ok s q 5 ∧ ok s (q + 1) 1 ∧ m.2.2 q 0 = some (q + 1) ∧ m.2.2 q 1 = some (q + 8) ∧ m.2.2 q 2 = some (q + 9) ∧ m.2.2 q 4 = some 16 ∧ m.2.2 (q + 1) 0 = some (q + 2) ∧ m.2.2 (q + 1) 1 = some (q + 3) ∧ m.2.2 (q + 1) 2 = some (q + 4) ∧ m.2.2 (q + 1) 6 = some (q + 5) ∧ m.2.2 (q + 1) 5 = some (q + 6) ∧ m.2.2 (q + 1) 3 = some (q + 7) ∧ ln s (q + 2) = 9331 ∧ ln s (q + 3) = 9331 ∧ ln s (q + 4) = 9331 ∧ ln s (q + 5) = 9331 ∧ ln s (q + 6) = 8192 ∧ ln s (q + 7) = 511 ∧ ln s (q + 8) = 8 ∧ ln s (q + 9) = 8
def WB (s : List Sh) (m : Mem) (w : Nat) : Prop := 53 ≤ w ∧ ok s w 8 ∧ m.2.2 w 2 = some (w + 1) ∧ m.2.2 w 3 = some (w + 2) ∧ m.2.2 w 4 = some 16 ∧ ln s (w + 1) = 8 ∧ ln s (w + 2) = 8
/-- the fixed part: numbers of both sides that are not in a house -/
def TPR (m : Mem) : Prop := ∃ tpd : Nat, tpd ≤ 900 ∧ tpd % 20 = 0 ∧ m.1 0 1 = q32 tpd ∧ m.1 23 5 = q32 tpd ∧ (∀ k, k < tpd → m.1 1 k = m.1 26 k ∧ ∃ v : Nat, v < 256 ∧ m.1 1 k = q32 v) ∧ m.1 23 13 = m.1 0 2 ∧ m.1 23 14 = m.1 0 3
/-- what may be undone -/
def US (m : Mem) (al : Nat → Int32) : Prop := ∃ ud : Nat, ud ≤ 12 ∧ m.1 0 10 = q32 ud ∧ al 73 = q32 ud ∧ ∀ k, k < ud → al (74 + k) = m.1 14 k ∧ al (86 + k) = m.1 15 k ∧ ∃ u l : Int, m.1 14 k = q32 u ∧ m.1 15 k = q32 l ∧ FLR ((al 1).toInt) u l
def FXR (m : Mem) : Prop := TPR m ∧ US m (m.1 24)
/-- where the cells are; ow: whose a cell is -/
def LAY (s : List Sh) (m : Mem) (ow : Nat → Nat) (nw : Nat) : Prop :=
  (∃ t, s = sB ++ t) ∧ RF m ∧ m.2.2 0 4 = some nw ∧ HB s m nw ∧ OWN ow nw 10 ∧
  (∀ r, m.2.2 0 5 = some r → ∃ z, RB s m r z ∧ HB s m z ∧ z ≠ nw ∧ OWN ow z 10 ∧ ow r = r ∧ (∀ j, 11 ≤ j → j < 17 → ow (r + j) = r) ∧ ∀ i n, i < 2 → m.2.2 12 i = some n → n ≠ z) ∧
  (∀ q, m.2.2 0 16 = some q → QB s m q ∧ OWN ow q 10) ∧
  (∀ w, m.2.2 0 17 = some w → WB s m w ∧ OWN ow w 3) ∧
  (∀ i n, i < 2 → m.2.2 12 i = some n → HB s m n ∧ OWN ow n 10 ∧ n ≠ nw ∧ 53 ≤ n) ∧
  (∀ n, m.2.2 12 0 = some n → m.2.2 12 1 ≠ some n) ∧
  (∀ i t, i < 4 → m.2.2 13 i = some t → TB s m t ∧ OWN ow t 2) ∧
  (∀ i j t, i < 4 → j < 4 → m.2.2 13 i = some t → m.2.2 13 j = some t → i = j)
/-- what they hold -/
def REL (m : Mem) (nw : Nat) : Prop := HREL m nw (m.1 24) ∧ FXR m ∧
  (∀ i, i < 2 → (m.2.2 12 i = none ∧ m.1 25 i = 0) ∨ ∃ n, m.2.2 12 i = some n ∧ m.1 25 i = 1 ∧ HREL m n (fun k => m.1 24 (999 * (i + 1) + k))) ∧
  (∀ i, i < 4 → (m.2.2 13 i = none ∧ m.1 50 i = q32 (-1)) ∨ ∃ t, m.2.2 13 i = some t ∧ TREL m i t)
def ST (s : List Sh) (m : Mem) (ow : Nat → Nat) (nw : Nat) : Prop := LAY s m ow nw ∧ REL m nw
def INV (s : List Sh) (m : Mem) : Prop := GS s m ∧ ∃ ow nw, ST s m ow nw
/-- cells of the fixed part that no call leaves anything in -/
def Fx (a : Nat) : Prop := (16 ≤ a ∧ a ≤ 22) ∨ (27 ≤ a ∧ a ≤ 49)
def SC (m m' : Mem) : Prop := (∀ a, ¬ Fx a → a ≠ 23 → m'.1 a = m.1 a) ∧ (m'.1 23 5 = m.1 23 5 ∧ m'.1 23 13 = m.1 23 13 ∧ m'.1 23 14 = m.1 23 14) ∧ (∀ a, ¬ Fx a → a ≠ 23 → m'.2.1 a = m.2.1 a) ∧ m'.2.2 = m.2.2
theorem SC.rf (m : Mem) : SC m m := ⟨fun _ _ _ => rfl, ⟨rfl, rfl, rfl⟩, fun _ _ _ => rfl, rfl⟩
theorem SC.tr {m m1 m2 : Mem} (h : SC m m1) (h2 : SC m1 m2) : SC m m2 := ⟨fun a p q => (h2.1 a p q).trans (h.1 a p q), ⟨h2.2.1.1.trans h.2.1.1, h2.2.1.2.1.trans h.2.1.2.1, h2.2.1.2.2.trans h.2.1.2.2⟩, fun a p q => (h2.2.2.1 a p q).trans (h.2.2.1 a p q), h2.2.2.2.trans h.2.2.2⟩
theorem SC.I {m : Mem} {a k : Nat} {x : Int32} (h : Fx a ∨ (a = 23 ∧ k ≠ 5 ∧ k ≠ 13 ∧ k ≠ 14)) : SC m (wI m a k x) := by
  refine ⟨fun b hb h23 => ?_, ⟨?_, ?_, ?_⟩, fun _ _ _ => rfl, rfl⟩
  · funext j
    rw [wI_1, if_neg]
    rintro ⟨rfl, -⟩
    exact h.elim hb (fun z => h23 z.1)
  all_goals
    rw [wI_1, if_neg]
    rintro ⟨rfl, rfl⟩
    rcases h with h | h
    · unfold Fx at h; omega
    · omega
theorem SC.L {m : Mem} {a k : Nat} {x : Int64} (h : Fx a ∨ a = 23) : SC m (wL m a k x) := by
  refine ⟨fun _ _ _ => rfl, ⟨rfl, rfl, rfl⟩, fun b hb h23 => ?_, rfl⟩
  funext j
  rw [wL_2, if_neg]
  rintro ⟨rfl, -⟩
  exact h.elim hb h23
theorem HREL.same {m m' : Mem} {n : Nat} {al al' : Nat → Int32} (h : HREL m n al) (hm : ∀ j, j < 10 → m'.1 (n + j) = m.1 (n + j)) (ha : ∀ k, k < 999 → al' k = al k) : HREL m' n al' := by
  unfold HREL at h ⊢
  have e0 : m'.1 n = m.1 n := hm 0 (by decide)
  rw [e0, hm 1 (by decide), hm 2 (by decide), hm 3 (by decide), hm 4 (by decide), hm 5 (by decide), hm 7 (by decide), hm 8 (by decide), hm 9 (by decide)]
  obtain ⟨tp, sk, nl, bc, fc, tc, au, aw, S, U, L, V, W, X, O, h1, h2, h3, h4, ⟨s1, s2, s3, s4, s5, s6, s7⟩, h6, h7, h8⟩ := h
  refine ⟨tp, sk, nl, bc, fc, tc, au, aw, S, U, L, V, W, X, O, h1, h2, ?_, h4, ⟨s1, s2, s3, s4, fun b hb => ?_, fun i hi => ?_, s7⟩, fun k hk => ?_, h7, fun t ht => ?_⟩
  · rw [ha 0 (by omega), ha 1 (by omega), ha 2 (by omega), ha 3 (by omega), ha 4 (by omega), ha 5 (by omega), ha 6 (by omega), ha 7 (by omega), ha 8 (by omega)]; exact h3
  · rw [ha _ (by omega), ha _ (by omega)]; exact s5 b hb
  · rw [ha _ (by omega)]; exact s6 i hi
  · obtain ⟨a1, a2, a3, a4, a5, a6, a7⟩ := h6 k hk
    refine ⟨a1, a2, a3, a4, by rw [ha _ (by omega)]; exact a5, by rw [ha _ (by omega)]; exact a6, fun z hz => ?_⟩
    rw [ha _ (by omega)]; exact a7 z hz
  · obtain ⟨a1, a2, a3, a4, a5, a6⟩ := h8 t ht
    exact ⟨a1, a2, a3, a4, by rw [ha _ (by omega)]; exact a5, by rw [ha _ (by omega)]; exact a6⟩
theorem HB.same {s : List Sh} {m m' : Mem} {n : Nat} (h : HB s m n) (hr : m'.2.2 = m.2.2) : HB s m' n := by
  unfold HB at h ⊢
  rw [hr]
  exact h
theorem LAY.same {s : List Sh} {m m' : Mem} {ow : Nat → Nat} {nw : Nat} (h : LAY s m ow nw) (hr : m'.2.2 = m.2.2) : LAY s m' ow nw := by
  unfold LAY RF HB RB QB WB TB at h ⊢
  rw [hr]
  exact h
theorem fx_nw {n j : Nat} (h : n = 2 ∨ 53 ≤ n) (hj : j < 10) : ¬ Fx (n + j) ∧ n + j ≠ 23 := by unfold Fx; omega
theorem ok_ne {s : List Sh} {a b c d : Nat} (h1 : ok s a c) (h2 : ok s b d) (hc : c < 100) (hd : d < 100) (h : c ≠ d) : a ≠ b := by
  rintro rfl
  unfold ok at h1 h2
  rw [if_pos hc] at h1
  rw [if_pos hd, h1] at h2
  cases h2
  exact h rfl
/-- the house that is now, and what belongs to it, is another one; all else is as it was -/
theorem ST.hu {s : List Sh} {m m' : Mem} {ow : Nat → Nat} {nw : Nat} (h : ST s m ow nw) (eR : m'.2.2 = m.2.2) (e1 : ∀ a, ¬ Fx a → (a ≠ 0 ∧ a ≠ 1 ∧ a ≠ 14 ∧ a ≠ 15 ∧ a ≠ 23 ∧ a ≠ 24 ∧ a ≠ 26) → (a < nw ∨ nw + 10 ≤ a) → m'.1 a = m.1 a) (eL : ∀ a, ¬ Fx a → a ≠ 23 → m'.2.1 a = m.2.1 a) (e24 : ∀ k, 999 ≤ k → m'.1 24 k = m.1 24 k) (hH : HREL m' nw (m'.1 24)) (hF : FXR m') : ST s m' ow nw := by
  obtain ⟨hl, hrel, hfx, him, htr⟩ := h
  have hn := hl.2.2.2.1.1
  have hon := hl.2.2.2.2.1
  have hok := hl.2.2.2.1.2.1
  have i25 : m'.1 25 = m.1 25 := e1 25 (by unfold Fx; omega) (by omega) (by omega)
  have i50 : m'.1 50 = m.1 50 := e1 50 (by unfold Fx; omega) (by omega) (by omega)
  have i51 : m'.1 51 = m.1 51 := e1 51 (by unfold Fx; omega) (by omega) (by omega)
  have l52 : m'.2.1 52 = m.2.1 52 := eL 52 (by unfold Fx; omega) (by omega)
  have hout : ∀ a, ow a ≠ nw → a < nw ∨ nw + 10 ≤ a := fun a ha => by
    by_cases h1 : a < nw
    · exact Or.inl h1
    · by_cases h2 : nw + 10 ≤ a
      · exact Or.inr h2
      · exact absurd (by have := hon (a - nw) (by omega); rwa [show nw + (a - nw) = a by omega] at this) ha
  refine ⟨hl.same eR, hH, hF, fun i hi => ?_, fun i hi => ?_⟩
  · rw [eR, i25]
    rcases him i hi with h | ⟨n, h1, h2, h3⟩
    · exact Or.inl h
    · obtain ⟨hb, hown, hne, h53⟩ := hl.2.2.2.2.2.2.2.2.1 i n hi h1
      refine Or.inr ⟨n, h1, h2, ?_⟩
      exact h3.same (fun j hj => e1 _ (fx_nw hb.1 hj).1 (by omega) (hout _ (by rw [hown j hj]; exact hne))) (fun k hk => e24 _ (by have := Nat.le_mul_of_pos_right 999 (show 0 < i + 1 by omega); omega))
  · rw [eR, i50]
    rcases htr i hi with h | ⟨t, h1, h2⟩
    · exact Or.inl h
    · obtain ⟨hb, hown⟩ := hl.2.2.2.2.2.2.2.2.2.2.1 i t hi h1
      refine Or.inr ⟨t, h1, ?_⟩
      have hne : t ≠ nw := ok_ne hb.2.1 hok (by omega) (by omega) (by omega)
      have h0 := hown 0 (by omega)
      have h53 := hb.1
      unfold TREL at h2 ⊢
      rw [e1 t (by unfold Fx; omega) (by omega) (hout _ (by rw [Nat.add_zero] at h0; rw [h0]; exact hne)), eL (t + 1) (by unfold Fx; omega) (by omega), i50, i51, l52]
      exact h2
theorem ST.sc {s : List Sh} {m m' : Mem} {ow : Nat → Nat} {nw : Nat} (h : ST s m ow nw) (e : SC m m') : ST s m' ow nw := by
  obtain ⟨e1, ⟨e5, e13, e14⟩, eL, eR⟩ := e
  have hn := h.1.2.2.2.1.1
  have i0 : m'.1 0 = m.1 0 := e1 0 (by unfold Fx; omega) (by omega)
  have i1 : m'.1 1 = m.1 1 := e1 1 (by unfold Fx; omega) (by omega)
  have i14 : m'.1 14 = m.1 14 := e1 14 (by unfold Fx; omega) (by omega)
  have i15 : m'.1 15 = m.1 15 := e1 15 (by unfold Fx; omega) (by omega)
  have i24 : m'.1 24 = m.1 24 := e1 24 (by unfold Fx; omega) (by omega)
  have i26 : m'.1 26 = m.1 26 := e1 26 (by unfold Fx; omega) (by omega)
  refine h.hu eR (fun a ha hb _ => e1 a ha hb.2.2.2.2.1) (fun a ha hb => eL a ha hb) (fun k _ => by rw [i24]) ?_ ?_
  · rw [i24]; exact h.2.1.same (fun j hj => e1 _ (fx_nw hn hj).1 (fx_nw hn hj).2) (fun _ _ => rfl)
  · have hfx := h.2.2.1
    unfold FXR TPR US at hfx ⊢
    rw [i0, i1, i14, i15, i24, i26, e5, e13, e14]
    exact hfx
theorem INV.sc {s : List Sh} {m m' : Mem} (h : INV s m) (hg : GS s m') (e : SC m m') : INV s m' := by
  obtain ⟨-, ow, nw, hst⟩ := h
  exact ⟨hg, ow, nw, ST.sc hst e⟩
/-! SC by places -/
theorem SC.i {m m' : Mem} (h : SC m m') (a k : Nat) (ha : a < 16 ∨ (23 < a ∧ a < 27) ∨ 49 < a) : m'.1 a k = m.1 a k := by rw [h.1 a (by unfold Fx; omega) (by omega)]
theorem SC.l {m m' : Mem} (h : SC m m') (a k : Nat) (ha : a < 16 ∨ (23 < a ∧ a < 27) ∨ 49 < a) : m'.2.1 a k = m.2.1 a k := by rw [h.2.2.1 a (by unfold Fx; omega) (by omega)]
theorem SC.r {m m' : Mem} (h : SC m m') : m'.2.2 = m.2.2 := h.2.2.2
theorem SC.aI {m m1 : Mem} {a k : Nat} {x : Int32} (h : SC m m1) (ha : (16 ≤ a ∧ a ≤ 22) ∨ (27 ≤ a ∧ a ≤ 49) ∨ (a = 23 ∧ k ≠ 5 ∧ k ≠ 13 ∧ k ≠ 14)) : SC m (wI m1 a k x) := h.tr (SC.I (by unfold Fx; omega))
theorem SC.aL {m m1 : Mem} {a k : Nat} {x : Int64} (h : SC m m1) (ha : (16 ≤ a ∧ a ≤ 22) ∨ (27 ≤ a ∧ a ≤ 49) ∨ a = 23) : SC m (wL m1 a k x) := h.tr (SC.L (by unfold Fx; omega))
