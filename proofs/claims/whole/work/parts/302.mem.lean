/-! PURE: the heap as a memory: what is where (s), and numbers by cell and place (m) -/
abbrev Mem : Type := (Nat → Nat → Int32) × (Nat → Nat → Int64) × (Nat → Nat → Option Nat)
abbrev Sh : Type := Nat ⊕ (Nat × Nat)
def cty : Nat → List Nat
  | 0 => [0, 0, 0, 0, 0, 0, 0, 2, 2, 0, 2, 2, 2, 2, 2, 0, 2, 2]
  | 1 => [2, 2, 2, 2, 0, 2, 2]
  | 2 => [1, 1]
  | 3 => [2, 0, 0, 2, 0, 0, 0, 0, 0, 0, 0, 2, 0, 2]
  | 4 => [0, 0, 2, 2, 0]
  | 5 => [2, 2, 2, 0, 2, 2, 0]
  | 6 => [0, 2, 2, 2, 2, 0]
  | 7 => [0, 0, 2]
  | 8 => [0, 0, 2, 2, 2, 2, 2, 0]
  | 9 => [2, 0, 0, 0, 2, 2, 2, 2, 2, 2, 0, 2, 2, 2, 2, 2, 2, 2]
  | 10 => [0, 2, 2, 2, 2, 0, 0, 0, 0, 0, 0, 0, 0, 0, 0, 1, 1, 0, 0, 2, 2, 0, 0, 2, 2, 2, 2, 2, 2, 0, 2, 2, 2, 0, 0, 0, 2, 2, 2, 0, 0, 2, 2, 2, 2, 2, 0, 0, 2, 2, 2, 0, 2, 2, 2]
  | _ => []
def fv (m : Mem) (a k t : Nat) : Value := if t = 0 then .int (m.1 a k) else if t = 1 then .long (m.2.1 a k) else va_rf (m.2.2 a k)
def cellOf (m : Mem) (a : Nat) (sh : Sh) : PE := match sh with
  | .inl c => .inr (c, (cty c).mapIdx (fun k t => fv m a k t))
  | .inr (t, n) => if t = 1 then .inl (1, n, .inr (.inl (m.2.1 a))) else if t = 0 ∨ t = 2 then .inl (t, n, .inl (m.1 a)) else .inl (t, n, .inr (.inr (.inr (.inr (m.2.2 a)))))
def bl (s : List Sh) (m : Mem) : PH := s.mapIdx (fun a sh => cellOf m a sh)
def wI (m : Mem) (a k : Nat) (x : Int32) : Mem := (fun b j => if b = a ∧ j = k then x else m.1 b j, m.2.1, m.2.2)
def wL (m : Mem) (a k : Nat) (x : Int64) : Mem := (m.1, fun b j => if b = a ∧ j = k then x else m.2.1 b j, m.2.2)
def wR (m : Mem) (a k : Nat) (x : Option Nat) : Mem := (m.1, m.2.1, fun b j => if b = a ∧ j = k then x else m.2.2 b j)
theorem bl_len (s : List Sh) (m : Mem) : (bl s m).length = s.length := by unfold bl; simp
theorem bl_get (s : List Sh) (m : Mem) (a : Nat) : (bl s m)[a]? = (s[a]?).map (cellOf m a) := by unfold bl; simp
section MM
variable {s : List Sh} {m : Mem} {a k c t n : Nat}
theorem bl_o (hs : s[a]? = some (.inl c)) : (bl s m)[a]? = some (.inr (c, (cty c).mapIdx (fun k t => fv m a k t))) := by rw [bl_get, hs]; rfl
theorem gV_bl (hs : s[a]? = some (.inl c)) (ht : (cty c)[k]? = some t) : gV c k (bl s m) a = some (fv m a k t) := by
  unfold gV
  rw [bl_o hs]
  simp [ht]
theorem gI_bl (hs : s[a]? = some (.inl c)) (ht : (cty c)[k]? = some 0) : gI c k (bl s m) a = some (m.1 a k) := by
  unfold gI
  rw [gV_bl hs ht]
  rfl
theorem gL_bl (hs : s[a]? = some (.inl c)) (ht : (cty c)[k]? = some 1) : gL c k (bl s m) a = some (m.2.1 a k) := by
  unfold gL
  rw [gV_bl hs ht]
  rfl
theorem gN_bl (hs : s[a]? = some (.inl c)) (ht : (cty c)[k]? = some 2) : gN c k (bl s m) a = some (m.2.2 a k) := by
  unfold gN
  rw [gV_bl hs ht]
  show (match some (va_rf (m.2.2 a k)) with | some (.ref x) => some (some x) | some .null => some none | _ => none) = _
  cases m.2.2 a k <;> rfl
theorem gR_bl (hs : s[a]? = some (.inl c)) (ht : (cty c)[k]? = some 2) : gR c k (bl s m) a = m.2.2 a k := by
  unfold gR
  rw [gV_bl hs ht]
  show (match some (va_rf (m.2.2 a k)) with | some (.ref x) => some x | _ => none) = _
  cases m.2.2 a k <;> rfl
theorem isO_bl (hs : s[a]? = some (.inl c)) : isO c (bl s m) a = true := by
  unfold isO
  rw [bl_o hs]
  simp
theorem cO_bl {α : Type} {x : Option α} (hs : s[a]? = some (.inl c)) : cO c (bl s m) a x = x := by
  unfold cO
  rw [if_pos (isO_bl hs)]
theorem set_bl {e : PE} {m' : Mem} {sh : Sh} (hs : s[a]? = some sh) (he : cellOf m' a sh = e) (ho : ∀ b, b ≠ a → ∀ x, cellOf m' b x = cellOf m b x) : (bl s m).set a e = bl s m' := by
  apply List.ext_getElem?
  intro b
  rw [bl_get]
  by_cases hb : b = a
  · subst hb
    have hlt : b < (bl s m).length := by rw [bl_len]; exact (List.getElem?_eq_some_iff.mp hs).1
    rw [List.getElem?_set_self hlt, hs, Option.map_some, he]
  · rw [List.getElem?_set_ne (Ne.symm hb), bl_get]
    cases s[b]? with
    | none => rfl
    | some x => rw [Option.map_some, Option.map_some, ho b hb x]
theorem cell_oth {m m' : Mem} {b : Nat} (h1 : m'.1 b = m.1 b) (h2 : m'.2.1 b = m.2.1 b) (h3 : m'.2.2 b = m.2.2 b) (x : Sh) : cellOf m' b x = cellOf m b x := by
  unfold cellOf fv
  rw [h1, h2, h3]
theorem wI_oth {x : Int32} {b : Nat} (h : b ≠ a) (y : Sh) : cellOf (wI m a k x) b y = cellOf m b y := cell_oth (m := m) (m' := wI m a k x) (by funext j; simp [wI, h]) rfl rfl y
theorem wL_oth {x : Int64} {b : Nat} (h : b ≠ a) (y : Sh) : cellOf (wL m a k x) b y = cellOf m b y := cell_oth (m := m) (m' := wL m a k x) rfl (by funext j; simp [wL, h]) rfl y
theorem wR_oth {x : Option Nat} {b : Nat} (h : b ≠ a) (y : Sh) : cellOf (wR m a k x) b y = cellOf m b y := cell_oth (m := m) (m' := wR m a k x) rfl rfl (by funext j; simp [wR, h]) y
theorem fset {l : List Nat} {f g : Nat → Nat → Value} {k : Nat} {v : Value} (hk : k < l.length) (h1 : ∀ t, l[k]? = some t → g k t = v) (h2 : ∀ j t, j ≠ k → l[j]? = some t → g j t = f j t) : (l.mapIdx f).set k v = l.mapIdx g := by
  apply List.ext_getElem?
  intro j
  by_cases hj : j = k
  · subst hj
    rw [List.getElem?_set_self (by simpa using hk)]
    simp only [List.getElem?_mapIdx]
    obtain ⟨t, ht⟩ : ∃ t, l[j]? = some t := ⟨_, List.getElem?_eq_getElem hk⟩
    rw [ht, Option.map_some, h1 t ht]
  · rw [List.getElem?_set_ne (Ne.symm hj)]
    simp only [List.getElem?_mapIdx]
    cases ht : l[j]? with
    | none => rfl
    | some t => rw [Option.map_some, Option.map_some, h2 j t hj ht]
theorem pV_bl {v : Value} {m' : Mem} (hs : s[a]? = some (.inl c)) (ht : (cty c)[k]? = some t) (hv : fv m' a k t = v) (h2 : ∀ j u, j ≠ k → fv m' a j u = fv m a j u) (ho : ∀ b, b ≠ a → ∀ x, cellOf m' b x = cellOf m b x) : pV c k v (bl s m) a = some (bl s m') := by
  unfold pV
  rw [bl_o hs]
  have hk : k < (cty c).length := (List.getElem?_eq_some_iff.mp ht).1
  have hk2 : k < ((cty c).mapIdx (fun k t => fv m a k t)).length := by simpa using hk
  simp only [true_and, hk2, if_true]
  congr 1
  refine set_bl hs ?_ ho
  show Sum.inr (c, (cty c).mapIdx (fun k t => fv m' a k t)) = _
  congr 2
  exact (fset hk (fun u hu => by rw [ht] at hu; cases hu; exact hv) (fun j u hj _ => h2 j u hj)).symm
theorem pI_bl {x : Int32} (hs : s[a]? = some (.inl c)) (ht : (cty c)[k]? = some 0) : pV c k (.int x) (bl s m) a = some (bl s (wI m a k x)) :=
  pV_bl hs ht (by simp [fv, wI]) (fun j u hj => by simp [fv, wI, hj]) (fun b hb y => wI_oth hb y)
theorem pL_bl {x : Int64} (hs : s[a]? = some (.inl c)) (ht : (cty c)[k]? = some 1) : pV c k (.long x) (bl s m) a = some (bl s (wL m a k x)) :=
  pV_bl hs ht (by simp [fv, wL]) (fun j u hj => by simp [fv, wL, hj]) (fun b hb y => wL_oth hb y)
theorem pR_bl {x : Nat} (hs : s[a]? = some (.inl c)) (ht : (cty c)[k]? = some 2) : pV c k (.ref x) (bl s m) a = some (bl s (wR m a k (some x))) :=
  pV_bl hs ht (by simp [fv, wR, va_rf]) (fun j u hj => by simp [fv, wR, hj]) (fun b hb y => wR_oth hb y)
theorem pZ_bl {x : Int32} (hx : x = 0 ∨ x = 1) (hs : s[a]? = some (.inl c)) (ht : (cty c)[k]? = some 0) : pZ c k x (bl s m) a = some (bl s (wI m a k x)) := by
  unfold pZ
  rw [if_pos hx, pI_bl hs ht]
theorem bl_i (h02 : t = 0 ∨ t = 2) (hs : s[a]? = some (.inr (t, n))) : (bl s m)[a]? = some (.inl (t, n, .inl (m.1 a))) := by
  rw [bl_get, hs]
  rcases h02 with rfl | rfl <;> rfl
theorem bl_l (hs : s[a]? = some (.inr (1, n))) : (bl s m)[a]? = some (.inl (1, n, .inr (.inl (m.2.1 a)))) := by
  rw [bl_get, hs]
  rfl
theorem bl_r (h34 : t = 3 ∨ t = 4) (hs : s[a]? = some (.inr (t, n))) : (bl s m)[a]? = some (.inl (t, n, .inr (.inr (.inr (.inr (m.2.2 a)))))) := by
  rw [bl_get, hs]
  rcases h34 with rfl | rfl <;> rfl
theorem aI_bl {i : Int32} (h02 : t = 0 ∨ t = 2) (hs : s[a]? = some (.inr (t, n))) (hi : 0 ≤ i ∧ i.toNatClampNeg < n) : aI t (bl s m) a i = some (m.1 a i.toNatClampNeg) := by
  unfold aI
  rw [bl_i h02 hs]
  simp only [true_and, hi, and_self, if_true]
theorem aL_bl {i : Int32} (hs : s[a]? = some (.inr (1, n))) (hi : 0 ≤ i ∧ i.toNatClampNeg < n) : aL (bl s m) a i = some (m.2.1 a i.toNatClampNeg) := by
  unfold aL
  rw [bl_l hs]
  simp only [true_and, hi, and_self, if_true]
theorem aN_bl {i : Int32} (h34 : t = 3 ∨ t = 4) (hs : s[a]? = some (.inr (t, n))) (hi : 0 ≤ i ∧ i.toNatClampNeg < n) : aN t (bl s m) a i = some (m.2.2 a i.toNatClampNeg) := by
  unfold aN
  rw [bl_r h34 hs]
  simp only [true_and, hi, and_self, if_true]
theorem aR_bl {i : Int32} (h34 : t = 3 ∨ t = 4) (hs : s[a]? = some (.inr (t, n))) (hi : 0 ≤ i ∧ i.toNatClampNeg < n) : aR t (bl s m) a i = m.2.2 a i.toNatClampNeg := by
  unfold aR
  rw [aN_bl h34 hs hi]
  cases m.2.2 a i.toNatClampNeg <;> rfl
theorem sI_bl {i x : Int32} (h02 : t = 0 ∨ t = 2) (hs : s[a]? = some (.inr (t, n))) (hi : 0 ≤ i ∧ i.toNatClampNeg < n) : sI t (bl s m) a i x = some (bl s (wI m a i.toNatClampNeg x)) := by
  unfold sI
  rw [bl_i h02 hs]
  simp only [true_and, hi, and_self, if_true]
  congr 1
  refine set_bl hs ?_ (fun b hb y => wI_oth hb y)
  have e : upd (m.1 a) i.toNatClampNeg x = (wI m a i.toNatClampNeg x).1 a := by funext j; simp [upd, wI]
  rcases h02 with rfl | rfl
  · show Sum.inl (0, n, Sum.inl ((wI m a i.toNatClampNeg x).1 a)) = _; rw [e]
  · show Sum.inl (2, n, Sum.inl ((wI m a i.toNatClampNeg x).1 a)) = _; rw [e]
theorem sZ_bl {i x : Int32} (hx : x = 0 ∨ x = 1) (hs : s[a]? = some (.inr (2, n))) (hi : 0 ≤ i ∧ i.toNatClampNeg < n) : sZ (bl s m) a i x = some (bl s (wI m a i.toNatClampNeg x)) := by
  unfold sZ
  rw [if_pos hx, sI_bl (Or.inr rfl) hs hi]
theorem sL_bl {i : Int32} {x : Int64} (hs : s[a]? = some (.inr (1, n))) (hi : 0 ≤ i ∧ i.toNatClampNeg < n) : sL (bl s m) a i x = some (bl s (wL m a i.toNatClampNeg x)) := by
  unfold sL
  rw [bl_l hs]
  simp only [true_and, hi, and_self, if_true]
  congr 1
  refine set_bl hs ?_ (fun b hb y => wL_oth hb y)
  have e : vp_updL (m.2.1 a) i.toNatClampNeg x = (wL m a i.toNatClampNeg x).2.1 a := by funext j; simp [vp_updL, wL]
  show Sum.inl (1, n, Sum.inr (Sum.inl ((wL m a i.toNatClampNeg x).2.1 a))) = _
  rw [e]
theorem sR_bl {i : Int32} {x : Nat} (h34 : t = 3 ∨ t = 4) (hs : s[a]? = some (.inr (t, n))) (hx : s[x]? = some (.inl c)) (hi : 0 ≤ i ∧ i.toNatClampNeg < n) : sR t c (bl s m) a i x = some (bl s (wR m a i.toNatClampNeg (some x))) := by
  unfold sR
  rw [bl_r h34 hs]
  simp only [true_and, hi, and_self, isO_bl hx, if_true]
  congr 1
  refine set_bl hs ?_ (fun b hb y => wR_oth hb y)
  have e : va_up (m.2.2 a) i.toNatClampNeg (some x) = (wR m a i.toNatClampNeg (some x)).2.2 a := by funext j; simp [va_up, wR]
  rcases h34 with rfl | rfl
  · show Sum.inl (3, n, Sum.inr (Sum.inr (Sum.inr (Sum.inr ((wR m a i.toNatClampNeg (some x)).2.2 a))))) = _; rw [e]
  · show Sum.inl (4, n, Sum.inr (Sum.inr (Sum.inr (Sum.inr ((wR m a i.toNatClampNeg (some x)).2.2 a))))) = _; rw [e]
theorem aLen_bl (ht : t < 3) (hs : s[a]? = some (.inr (t, n))) : aLen (bl s m) a = some (Int32.ofNat n) := by
  unfold aLen
  rw [bl_get, hs, Option.map_some]
  rcases (show t = 0 ∨ t = 1 ∨ t = 2 by omega) with rfl | rfl | rfl <;> rfl
/-- a row of another one comes over it -/
def wC (m : Mem) (a sp b dp n : Nat) : Mem := (fun c j => if c = b ∧ dp ≤ j ∧ j < dp + n then m.1 a (sp + (j - dp)) else m.1 c j, m.2.1, m.2.2)
theorem cpI_bl {b n0 n1 : Nat} {sp dp ln : Int32} (ha : s[a]? = some (.inr (0, n0))) (hb : s[b]? = some (.inr (0, n1))) (h1 : 0 ≤ sp ∧ 0 ≤ dp ∧ 0 ≤ ln) (h2 : sp.toNatClampNeg + ln.toNatClampNeg ≤ n0) (h3 : dp.toNatClampNeg + ln.toNatClampNeg ≤ n1) : cpI (bl s m) a sp b dp ln = some (bl s (wC m a sp.toNatClampNeg b dp.toNatClampNeg ln.toNatClampNeg)) := by
  unfold cpI
  rw [bl_i (Or.inl rfl) ha, bl_i (Or.inl rfl) hb]
  simp only [true_and, h1, h2, h3, and_self, if_true]
  congr 1
  refine set_bl hb ?_ (fun c hc y => cell_oth (m := m) (m' := wC m a sp.toNatClampNeg b dp.toNatClampNeg ln.toNatClampNeg) (by funext j; simp [wC, hc]) rfl rfl y)
  have e : va_cpy (m.1 a) (m.1 b) sp.toNatClampNeg dp.toNatClampNeg ln.toNatClampNeg = (wC m a sp.toNatClampNeg b dp.toNatClampNeg ln.toNatClampNeg).1 b := by funext j; simp [va_cpy, wC]
  show Sum.inl (0, n1, Sum.inl ((wC m a sp.toNatClampNeg b dp.toNatClampNeg ln.toNatClampNeg).1 b)) = _
  rw [e]
end MM
/-- nothing stands where no cell is yet -/
def FZ (s : List Sh) (m : Mem) : Prop := ∀ a, s.length ≤ a → (∀ k, m.1 a k = 0) ∧ (∀ k, m.2.1 a k = 0) ∧ ∀ k, m.2.2 a k = none
theorem bl_push {s : List Sh} {m : Mem} {sh : Sh} {e : PE} (h : cellOf m s.length sh = e) : bl s m ++ [e] = bl (s ++ [sh]) m := by
  unfold bl
  rw [List.mapIdx_append]
  simp [h]
