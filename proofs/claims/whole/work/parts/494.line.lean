/-! a house as it is told so far -/
abbrev HSS : Type := (Nat × Nat × Nat) × FR × Bool × (Nat × (Nat → Int) × (Nat → Int) × (Nat → Nat → Nat) × (Nat → Nat)) × (Nat × (Nat → Int) × (Nat → Int)) × (Nat × (Nat → Nat) × List Int)
def hTop (h : HSS) : Nat := h.1.1
def hFc (h : HSS) : Nat := h.2.2.2.1.1
def hTc (h : HSS) : Nat := h.2.2.2.2.1.1
def hBc (h : HSS) : Nat := h.2.2.2.2.2.1
def hCd (h : HSS) : List Int := h.2.2.2.2.2.2.2
def sTop (h : HSS) (v : Nat) : HSS := ((v, h.1.2.1, h.1.2.2), h.2)
def sStick (h : HSS) (v : Nat) : HSS := ((h.1.1, v, h.1.2.2), h.2)
def sLines (h : HSS) : HSS := ((h.1.1, h.1.2.1, h.1.2.2 + 1), h.2)
def sAt (h : HSS) (f : FR) : HSS := (h.1, f, true, h.2.2.2)
def sTen (h : HSS) (f : FR) : HSS := (h.1, h.2.1, h.2.2.1, h.2.2.2.1, (hTc h + 1, insI h.2.2.2.2.1.2.1 (hTc h) f.1, insI h.2.2.2.2.1.2.2 (hTc h) f.2), h.2.2.2.2.2)
def sFlo (h : HSS) (f : FR) (x : Nat → Nat) : HSS := (h.1, h.2.1, h.2.2.1, (hFc h + 1, insI h.2.2.2.1.2.1 (hFc h) f.1, insI h.2.2.2.1.2.2.1 (hFc h) f.2, insX h.2.2.2.1.2.2.2.1 (hFc h) x, insO h.2.2.2.1.2.2.2.2 (hFc h) (Sm (blw h.2.2.2.1.2.1 h.2.2.2.1.2.2.1 f.1 f.2) (hFc h))), h.2.2.2.2)
def sBut (h : HSS) (c : List Int) : HSS := (h.1, h.2.1, h.2.2.1, h.2.2.2.1, h.2.2.2.2.1, (hBc h + 1, fun b => if b = hBc h then (hCd h).length else if b = hBc h + 1 then (hCd h ++ c).length else h.2.2.2.2.2.2.1 b, hCd h ++ c))
abbrev LRZ : Type := (Nat × Nat) ⊕ (Nat × HSS)
def LINE (kd am : Nat → Int) (g i : Nat) (h : HSS) : LRZ :=
  if kd i = 4 then (if h.2.2.1 = true ∨ 0 < hFc h ∨ 0 < hTc h then .inl (csF kd i, i) else match numW kd am (i + 1) 1 9 with
    | .inl e => .inl e
    | .inr (j, v) => .inr (j, sTop h v.toNat))
  else if kd i = 5 then (if 6 ≤ hBc h then .inl (4, i) else if kd (i + 1) = 58 then (match SUMp kd am g 10 0 (i + 2) with
    | .inl e => .inl e
    | .inr (j, c) => if kd j = 59 then .inr (j, sBut h c) else .inl (csF kd j, j)) else .inl (csF kd (i + 1), i + 1))
  else if kd i = 6 then (if 8 ≤ hFc h then .inl (4, i) else match frcT kd am (i + 1) 10 (hTop h) with
    | .inl e => .inl e
    | .inr (j, f) => if FAT h.2.2.2.1.2.1 h.2.2.2.1.2.2.1 f.1 f.2 (hFc h) 0 ≠ -1 then .inl (3, j) else match numW kd am (j + 1) 0 99 with
      | .inl e => .inl e
      | .inr (j0, x0) => match numW kd am j0 0 99 with
        | .inl e => .inl e
        | .inr (j1, x1) => match numW kd am j1 0 99 with
          | .inl e => .inl e
          | .inr (j2, x2) => .inr (j2, sFlo h f (fun z => if z = 0 then x0.toNat else if z = 1 then x1.toNat else x2.toNat)))
  else if kd i = 7 then (if 6 ≤ hTc h then .inl (4, i) else match frcT kd am (i + 1) 59 (hTop h) with
    | .inl e => .inl e
    | .inr (j, f) => .inr (j, sTen h f))
  else if kd i = 8 then (match frcT kd am (i + 1) 59 (hTop h) with
    | .inl e => .inl e
    | .inr (j, f) => .inr (j, sAt h f))
  else if kd i = 9 then (match numW kd am (i + 1) 0 9 with
    | .inl e => .inl e
    | .inr (j, v) => .inr (j, sStick h v.toNat))
  else .inl (csF kd i, i)
def RDA (kd am : Nat → Int) (g : Nat) : Nat → Nat → HSS → LRZ
  | 0, i, _ => .inl (9, i)
  | n + 1, i, h => if kd i = 1 then .inr (i, h) else match LINE kd am g i h with
    | .inl e => .inl e
    | .inr (j, h') => if kd j = 59 then RDA kd am g n (j + 1) (sLines h') else .inl (csF kd j, j)
/-- the class holds it at z -/
def HCL (s : List Sh) (m : Mem) (r z : Nat) (h : HSS) : Prop := (m.1 z 0 = q32 (h.1.1 : Nat) ∧ m.1 z 1 = q32 (h.1.2.1 : Nat) ∧ m.1 z 2 = q32 (h.1.2.2 : Nat) ∧ m.1 z 3 = q32 0) ∧ (m.1 z 4 = q32 h.2.1.1 ∧ m.1 z 5 = q32 h.2.1.2) ∧ m.1 r 9 = q32 (if h.2.2.1 then 1 else 0) ∧ F9 s m z (hFc h) h.2.2.2.1.2.1 h.2.2.2.1.2.2.1 h.2.2.2.1.2.2.2.1 h.2.2.2.1.2.2.2.2 ∧ T9 s m z (hTc h) h.2.2.2.2.1.2.1 h.2.2.2.2.1.2.2 ∧ m.1 z 6 = q32 (hBc h : Nat) ∧ (∀ b, b ≤ hBc h → 0 < hBc h → m.1 (z + 1) b = q32 (h.2.2.2.2.2.2.1 b : Nat)) ∧ CDE9 m r z (hCd h)
/-- what holds of it -/
def HPP (h : HSS) : Prop := (1 ≤ hTop h ∧ hTop h ≤ 9) ∧ h.1.2.1 ≤ 9 ∧ FLR (hTop h) h.2.1.1 h.2.1.2 ∧ FD (hFc h) (hTop h) h.2.2.2.1.2.1 h.2.2.2.1.2.2.1 h.2.2.2.1.2.2.2.1 h.2.2.2.1.2.2.2.2 ∧ TN (hTc h) (hTop h) h.2.2.2.2.1.2.1 h.2.2.2.2.1.2.2 ∧ hBc h ≤ 6 ∧ (h.2.2.1 = false → h.2.1 = (0, 1))
/-- where only the reader's own numbers changed, the house stands -/
theorem HCL.k {s : List Sh} {m m' : Mem} {r z K N : Nat} {T : Nat → Int} (hx : RCX s m r z K T N) {h : HSS} (hh : HCL s m r z h) (e1 : ∀ a k, a ≠ r → m'.1 a k = m.1 a k) (e9 : m'.1 r 9 = m.1 r 9) (e10 : m'.1 r 10 = m.1 r 10) (e2 : m'.2.2 = m.2.2) : HCL s m' r z h := by
  have sp := hx.2.2.2.2.1
  have n : ∀ i, i < 10 → z + i ≠ r := fun i hi => (sp i hi).1
  have n0 : z ≠ r := n 0 (by omega)
  obtain ⟨⟨a1, a2, a3, a4⟩, ⟨b1, b2⟩, c, f, t, d1, d2, d3, d4⟩ := hh
  refine ⟨⟨by rw [e1 _ _ n0]; exact a1, by rw [e1 _ _ n0]; exact a2, by rw [e1 _ _ n0]; exact a3, by rw [e1 _ _ n0]; exact a4⟩, ⟨by rw [e1 _ _ n0]; exact b1, by rw [e1 _ _ n0]; exact b2⟩, by rw [e9]; exact c, f.k (fun a k ha => e1 a k (by have := n 3 (by omega); have := n 4 (by omega); have := n 5 (by omega); have := n 7 (by omega); omega)) e2, t.k (fun a k ha => e1 a k (by have := n (a - z) (by omega); omega)) e2, by rw [e1 _ _ n0]; exact d1, fun b hb h0 => by rw [e1 _ _ (n 1 (by omega))]; exact d2 b hb h0, by rw [e10]; exact d3, fun i hi => by rw [e1 _ _ (n 2 (by omega))]; exact d4 i hi⟩
