/-! the pure heap's own steps -/
def gV (c k : Nat) (h : PH) (a : Nat) : Option Value := match h[a]? with
  | some (.inr (c', fs)) => if c' = c then fs[k]? else none
  | _ => none
def gI (c k : Nat) (h : PH) (a : Nat) : Option Int32 := match gV c k h a with
  | some (.int x) => some x
  | _ => none
def gL (c k : Nat) (h : PH) (a : Nat) : Option Int64 := match gV c k h a with
  | some (.long x) => some x
  | _ => none
def gR (c k : Nat) (h : PH) (a : Nat) : Option Nat := match gV c k h a with
  | some (.ref x) => some x
  | _ => none
def gN (c k : Nat) (h : PH) (a : Nat) : Option (Option Nat) := match gV c k h a with
  | some (.ref x) => some (some x)
  | some .null => some none
  | _ => none
def pV (c k : Nat) (v : Value) (h : PH) (a : Nat) : Option PH := match h[a]? with
  | some (.inr (c', fs)) => if c' = c ∧ k < fs.length then some (h.set a (.inr (c, fs.set k v))) else none
  | _ => none
def isO (c : Nat) (h : PH) (a : Nat) : Bool := match h[a]? with
  | some (.inr (c', _)) => decide (c' = c)
  | _ => false
def cO {α : Type} (c : Nat) (h : PH) (a : Nat) (k : Option α) : Option α := if isO c h a = true then k else none
def inB (i : Int32) (n : Nat) : Prop := 0 ≤ i ∧ i.toNatClampNeg < n
theorem inB_dec (i : Int32) (n : Nat) : inB i n ∨ ¬ inB i n := Classical.em _
def aI (t : Nat) (h : PH) (a : Nat) (i : Int32) : Option Int32 := match h[a]? with
  | some (.inl (t', n, .inl f)) => if t' = t ∧ 0 ≤ i ∧ i.toNatClampNeg < n then some (f i.toNatClampNeg) else none
  | _ => none
def aL (h : PH) (a : Nat) (i : Int32) : Option Int64 := match h[a]? with
  | some (.inl (t', n, .inr (.inl f))) => if t' = 1 ∧ 0 ≤ i ∧ i.toNatClampNeg < n then some (f i.toNatClampNeg) else none
  | _ => none
def aN (t : Nat) (h : PH) (a : Nat) (i : Int32) : Option (Option Nat) := match h[a]? with
  | some (.inl (t', n, .inr (.inr (.inr (.inr f))))) => if t' = t ∧ 0 ≤ i ∧ i.toNatClampNeg < n then some (f i.toNatClampNeg) else none
  | _ => none
def aR (t : Nat) (h : PH) (a : Nat) (i : Int32) : Option Nat := match aN t h a i with
  | some (some x) => some x
  | _ => none
def sI (t : Nat) (h : PH) (a : Nat) (i x : Int32) : Option PH := match h[a]? with
  | some (.inl (t', n, .inl f)) => if t' = t ∧ 0 ≤ i ∧ i.toNatClampNeg < n then some (h.set a (.inl (t, n, .inl (upd f i.toNatClampNeg x)))) else none
  | _ => none
def sZ (h : PH) (a : Nat) (i x : Int32) : Option PH := if x = 0 ∨ x = 1 then sI 2 h a i x else none
def sL (h : PH) (a : Nat) (i : Int32) (x : Int64) : Option PH := match h[a]? with
  | some (.inl (t', n, .inr (.inl f))) => if t' = 1 ∧ 0 ≤ i ∧ i.toNatClampNeg < n then some (h.set a (.inl (1, n, .inr (.inl (vp_updL f i.toNatClampNeg x))))) else none
  | _ => none
/-- a reference to an object of class c comes into an array of references of type t -/
def sR (t c : Nat) (h : PH) (a : Nat) (i : Int32) (x : Nat) : Option PH := match h[a]? with
  | some (.inl (t', n, .inr (.inr (.inr (.inr f))))) => if t' = t ∧ isO c h x = true ∧ 0 ≤ i ∧ i.toNatClampNeg < n then some (h.set a (.inl (t, n, .inr (.inr (.inr (.inr (va_up f i.toNatClampNeg (some x)))))))) else none
  | _ => none
def aLen (h : PH) (a : Nat) : Option Int32 := match h[a]? with
  | some (.inl (t, n, _)) => if t < 3 then some (Int32.ofNat n) else none
  | _ => none
def cpI (h : PH) (a : Nat) (sp : Int32) (b : Nat) (dp n : Int32) : Option PH := match h[a]?, h[b]? with
  | some (.inl (t0, n0, .inl f)), some (.inl (t1, n1, .inl g)) => if t0 = 0 ∧ t1 = 0 ∧ 0 ≤ sp ∧ 0 ≤ dp ∧ 0 ≤ n ∧ sp.toNatClampNeg + n.toNatClampNeg ≤ n0 ∧ dp.toNatClampNeg + n.toNatClampNeg ≤ n1 then some (h.set b (.inl (0, n1, .inl (va_cpy f g sp.toNatClampNeg dp.toNatClampNeg n.toNatClampNeg)))) else none
  | _, _ => none
abbrev bindv {α β : Type} (e : α) (f : α → β) : β := bindv0 e f
def bind2 {α β γ : Type} (o : Option (α × β)) (f : α → β → Option γ) : Option γ := match o with
  | some (x, h) => f x h
  | none => none
theorem ob {α β : Type} {o : Option α} {f : α → Option β} {r : β} {P : Prop} (hf : o.bind f = some r) (k : ∀ x, o = some x → f x = some r → P) : P := by
  cases o with
  | none => cases hf
  | some x => exact k x rfl hf
theorem ob2 {α β γ : Type} {o : Option (α × β)} {f : α → β → Option γ} {r : γ} {P : Prop} (hf : bind2 o f = some r) (k : ∀ x h, o = some (x, h) → f x h = some r → P) : P := by
  cases o with
  | none => cases hf
  | some x => exact k x.1 x.2 rfl hf
theorem obv {α β : Type} {e : α} {f : α → Option β} {r : β} {P : Prop} (hf : bindv e f = some r) (k : ∀ x, x = e → f x = some r → P) : P := k e rfl hf
/-! what a step says of the heap -/
theorem gV_some {c k a : Nat} {h : PH} {v : Value} (e : gV c k h a = some v) : ∃ fs, h[a]? = some (.inr (c, fs)) ∧ fs[k]? = some v := by
  unfold gV at e
  split at e
  · rename_i c' fs hh
    split at e
    · rename_i hc
      subst hc
      exact ⟨fs, hh, e⟩
    · cases e
  · cases e
theorem gI_some {c k a : Nat} {h : PH} {x : Int32} (e : gI c k h a = some x) : gV c k h a = some (.int x) := by
  unfold gI at e
  split at e
  · rename_i hh; cases e; exact hh
  · cases e
theorem gL_some {c k a : Nat} {h : PH} {x : Int64} (e : gL c k h a = some x) : gV c k h a = some (.long x) := by
  unfold gL at e
  split at e
  · rename_i hh; cases e; exact hh
  · cases e
theorem gR_some {c k a : Nat} {h : PH} {x : Nat} (e : gR c k h a = some x) : gV c k h a = some (.ref x) := by
  unfold gR at e
  split at e
  · rename_i hh; cases e; exact hh
  · cases e
theorem gN_some {c k a : Nat} {h : PH} {x : Option Nat} (e : gN c k h a = some x) : gV c k h a = some (va_rf x) := by
  unfold gN at e
  split at e
  · rename_i hh; cases e; exact hh
  · rename_i hh; cases e; exact hh
  · cases e
theorem pV_some {c k a : Nat} {v : Value} {h h' : PH} (e : pV c k v h a = some h') : ∃ fs, h[a]? = some (.inr (c, fs)) ∧ k < fs.length ∧ h' = h.set a (.inr (c, fs.set k v)) := by
  unfold pV at e
  split at e
  · rename_i c' fs hh
    split at e
    · rename_i hc
      obtain ⟨rfl, hk⟩ := hc
      cases e
      exact ⟨fs, hh, hk, rfl⟩
    · cases e
  · cases e
theorem isO_some {c a : Nat} {h : PH} (e : isO c h a = true) : ∃ fs, h[a]? = some (.inr (c, fs)) := by
  unfold isO at e
  split at e
  · rename_i c' fs hh
    have := of_decide_eq_true e
    subst this
    exact ⟨fs, hh⟩
  · cases e
theorem cO_some {α : Type} {c a : Nat} {h : PH} {k : Option α} {r : α} (e : cO c h a k = some r) : isO c h a = true ∧ k = some r := by
  unfold cO at e
  split at e
  · rename_i hh; exact ⟨hh, e⟩
  · cases e
theorem vin_of {i : Int32} {n : Nat} (h : 0 ≤ i ∧ i.toNatClampNeg < n) : vp_in i n := by
  rintro (q | q)
  · exact absurd h.1 (Int32.not_le.mpr q)
  · omega
theorem aI_some {t a : Nat} {h : PH} {i x : Int32} (e : aI t h a i = some x) : ∃ n f, h[a]? = some (.inl (t, n, .inl f)) ∧ vp_in i n ∧ x = f i.toNatClampNeg := by
  unfold aI at e
  split at e
  · rename_i t' n f hh
    split at e
    · rename_i hc
      obtain ⟨rfl, hk⟩ := hc
      cases e
      exact ⟨n, f, hh, vin_of hk, rfl⟩
    · cases e
  · cases e
theorem aL_some {a : Nat} {h : PH} {i : Int32} {x : Int64} (e : aL h a i = some x) : ∃ n f, h[a]? = some (.inl (1, n, .inr (.inl f))) ∧ vp_in i n ∧ x = f i.toNatClampNeg := by
  unfold aL at e
  split at e
  · rename_i t' n f hh
    split at e
    · rename_i hc
      obtain ⟨rfl, hk⟩ := hc
      cases e
      exact ⟨n, f, hh, vin_of hk, rfl⟩
    · cases e
  · cases e
theorem aN_some {t a : Nat} {h : PH} {i : Int32} {x : Option Nat} (e : aN t h a i = some x) : ∃ n f, h[a]? = some (.inl (t, n, .inr (.inr (.inr (.inr f))))) ∧ vp_in i n ∧ x = f i.toNatClampNeg := by
  unfold aN at e
  split at e
  · rename_i t' n f hh
    split at e
    · rename_i hc
      obtain ⟨rfl, hk⟩ := hc
      cases e
      exact ⟨n, f, hh, vin_of hk, rfl⟩
    · cases e
  · cases e
theorem aR_some {t a : Nat} {h : PH} {i : Int32} {x : Nat} (e : aR t h a i = some x) : aN t h a i = some (some x) := by
  unfold aR at e
  split at e
  · rename_i hh; cases e; exact hh
  · cases e
theorem sI_some {t a : Nat} {h h' : PH} {i x : Int32} (e : sI t h a i x = some h') : ∃ n f, h[a]? = some (.inl (t, n, .inl f)) ∧ vp_in i n ∧ h' = h.set a (.inl (t, n, .inl (upd f i.toNatClampNeg x))) := by
  unfold sI at e
  split at e
  · rename_i t' n f hh
    split at e
    · rename_i hc
      obtain ⟨rfl, hk⟩ := hc
      cases e
      exact ⟨n, f, hh, vin_of hk, rfl⟩
    · cases e
  · cases e
theorem sL_some {a : Nat} {h h' : PH} {i : Int32} {x : Int64} (e : sL h a i x = some h') : ∃ n f, h[a]? = some (.inl (1, n, .inr (.inl f))) ∧ vp_in i n ∧ h' = h.set a (.inl (1, n, .inr (.inl (vp_updL f i.toNatClampNeg x)))) := by
  unfold sL at e
  split at e
  · rename_i t' n f hh
    split at e
    · rename_i hc
      obtain ⟨rfl, hk⟩ := hc
      cases e
      exact ⟨n, f, hh, vin_of hk, rfl⟩
    · cases e
  · cases e
theorem sR_some {t c a x : Nat} {h h' : PH} {i : Int32} (e : sR t c h a i x = some h') : ∃ n f, h[a]? = some (.inl (t, n, .inr (.inr (.inr (.inr f))))) ∧ vp_in i n ∧ isO c h x = true ∧ h' = h.set a (.inl (t, n, .inr (.inr (.inr (.inr (va_up f i.toNatClampNeg (some x))))))) := by
  unfold sR at e
  split at e
  · rename_i t' n f hh
    split at e
    · rename_i hc
      obtain ⟨rfl, ho, hk⟩ := hc
      cases e
      exact ⟨n, f, hh, vin_of hk, ho, rfl⟩
    · cases e
  · cases e
theorem aLen_some {a : Nat} {h : PH} {x : Int32} (e : aLen h a = some x) : ∃ t y, h[a]? = some (.inl (t, y)) ∧ t < 3 ∧ x = Int32.ofNat y.1 := by
  unfold aLen at e
  split at e
  · rename_i t n y hh
    split at e
    · rename_i ht
      cases e
      exact ⟨t, (n, y), hh, ht, rfl⟩
    · cases e
  · cases e
theorem cpI_some {a b : Nat} {h h' : PH} {sp dp n : Int32} (e : cpI h a sp b dp n = some h') : ∃ n0 n1 f g, h[a]? = some (.inl (0, n0, .inl f)) ∧ h[b]? = some (.inl (0, n1, .inl g)) ∧ (0 ≤ sp ∧ 0 ≤ dp ∧ 0 ≤ n ∧ sp.toNatClampNeg + n.toNatClampNeg ≤ n0 ∧ dp.toNatClampNeg + n.toNatClampNeg ≤ n1) ∧ h' = h.set b (.inl (0, n1, .inl (va_cpy f g sp.toNatClampNeg dp.toNatClampNeg n.toNatClampNeg))) := by
  unfold cpI at e
  split at e
  · rename_i t0 n0 f t1 n1 g h0 h1
    split at e
    · rename_i hc
      obtain ⟨rfl, rfl, hk⟩ := hc
      cases e
      exact ⟨n0, n1, f, g, h0, h1, hk, rfl⟩
    · cases e
  · cases e
/-! the machine's heap holds the pure one -/
theorem RP.get {X : XT} {h : PH} {H : Heap} (hP : RP X h H) {k : Nat} {e : PE} (he : h[k]? = some e) : va_at X.2.1 cls (X.1 + k, cvE X.1 X.2.2.1 e) H := hP.2.2.2 k e he
theorem RP.set {X : XT} {h : PH} {H H' : Heap} (hP : RP X h H) {k : Nat} {e0 e : PE} (he : h[k]? = some e0) (hz : H'.size = H.size) (ho : ∀ q, q ≠ X.1 + k → H'[q]? = H[q]?) (hat : va_at X.2.1 cls (X.1 + k, cvE X.1 X.2.2.1 e) H') : RP X (h.set k e) H' := by
  obtain ⟨h1, h2, h3, h4⟩ := hP
  refine ⟨by rw [hz, h1, List.length_set], h2, fun q hq => by rw [ho q (by omega)]; exact h3 q hq, fun j x hj => ?_⟩
  by_cases hjk : j = k
  · subst hjk
    have hlt : j < h.length := (List.getElem?_eq_some_iff.mp he).1
    rw [List.getElem?_set_self hlt] at hj
    cases hj
    exact hat
  · rw [List.getElem?_set_ne (Ne.symm hjk)] at hj
    exact (h4 j x hj).kept (ho _ (by show X.1 + j ≠ X.1 + k; omega))
theorem RP.push {X : XT} {h : PH} {H H' : Heap} (hP : RP X h H) {e : PE} (hz : H'.size = X.1 + h.length + 1) (ho : ∀ q, q < X.1 + h.length → H'[q]? = H[q]?) (hat : va_at X.2.1 cls (X.1 + h.length, cvE X.1 X.2.2.1 e) H') : RP X (h ++ [e]) H' := by
  obtain ⟨h1, h2, h3, h4⟩ := hP
  refine ⟨by rw [hz, List.length_append]; rfl, h2, fun q hq => by rw [ho q (by omega)]; exact h3 q hq, fun j x hj => ?_⟩
  by_cases hjk : j < h.length
  · rw [List.getElem?_append_left hjk] at hj
    exact (h4 j x hj).kept (ho _ (by show X.1 + j < X.1 + h.length; omega))
  · rw [List.getElem?_append_right (by omega)] at hj
    have hz : j - h.length < 1 := (List.getElem?_eq_some_iff.mp hj).1
    have e2 : j = h.length := by omega
    subst e2
    rw [show h.length - h.length = 0 by omega] at hj
    cases hj
    exact hat
