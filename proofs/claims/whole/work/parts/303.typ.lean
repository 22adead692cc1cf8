/-! PURE: what refers to what; rows that carry a function over the heap to one over the memory -/
def rty : Nat → Nat → Nat
  | 0, 7 => 100
  | 0, 8 => 100
  | 0, 10 => 100
  | 0, 11 => 100
  | 0, 12 => 100
  | 0, 13 => 100
  | 0, 14 => 100
  | 0, 16 => 100
  | 0, 17 => 100
  | 1, 0 => 100
  | 1, 1 => 100
  | 1, 2 => 100
  | 1, 3 => 101
  | 1, 5 => 100
  | 1, 6 => 100
  | 3, 0 => 0
  | 3, 3 => 6
  | 3, 11 => 100
  | 3, 13 => 2
  | 4, 2 => 101
  | 4, 3 => 101
  | 5, 0 => 1
  | 5, 1 => 100
  | 5, 2 => 100
  | 5, 4 => 4
  | 5, 5 => 0
  | 6, 1 => 100
  | 6, 2 => 100
  | 6, 3 => 100
  | 6, 4 => 100
  | 7, 2 => 101
  | 8, 2 => 100
  | 8, 3 => 100
  | 8, 4 => 4
  | 8, 5 => 0
  | 8, 6 => 7
  | 9, 0 => 100
  | 9, 4 => 0
  | 9, 5 => 3
  | 9, 6 => 103
  | 9, 7 => 104
  | 9, 8 => 100
  | 9, 9 => 100
  | 9, 11 => 4
  | 9, 12 => 2
  | 9, 13 => 2
  | 9, 14 => 101
  | 9, 15 => 100
  | 9, 16 => 5
  | 9, 17 => 8
  | 10, 1 => 100
  | 10, 2 => 102
  | 10, 3 => 100
  | 10, 4 => 100
  | 10, 19 => 101
  | 10, 20 => 101
  | 10, 23 => 100
  | 10, 24 => 100
  | 10, 25 => 100
  | 10, 26 => 100
  | 10, 27 => 100
  | 10, 28 => 100
  | 10, 30 => 100
  | 10, 31 => 100
  | 10, 32 => 100
  | 10, 36 => 100
  | 10, 37 => 100
  | 10, 38 => 100
  | 10, 41 => 100
  | 10, 42 => 100
  | 10, 43 => 100
  | 10, 44 => 100
  | 10, 45 => 100
  | 10, 48 => 100
  | 10, 49 => 100
  | 10, 50 => 101
  | 10, 52 => 100
  | 10, 53 => 100
  | 10, 54 => 101
  | _, _ => 0
def ok (s : List Sh) (b code : Nat) : Prop := if code < 100 then s[b]? = some (.inl code) else ∃ n, s[b]? = some (.inr (code - 100, n))
def WT (s : List Sh) (m : Mem) : Prop := (∀ a c k b, s[a]? = some (.inl c) → (cty c)[k]? = some 2 → m.2.2 a k = some b → ok s b (rty c k)) ∧ ∀ a t n i b, s[a]? = some (.inr (t, n)) → (t = 3 ∨ t = 4) → m.2.2 a i = some b → ok s b (if t = 3 then 0 else 7)
def GS (s : List Sh) (m : Mem) : Prop := WT s m ∧ FZ s m
def J3 {β : Type} (o : Option β) (v : β) (Φ : Prop) : Prop := o = some v ∧ Φ
def ln (s : List Sh) (a : Nat) : Nat := match s[a]? with
  | some (.inr (_, n)) => n
  | _ => 0
def rdI (s : List Sh) (m : Mem) (a : Nat) (i : Int32) : Option Int32 := if 0 ≤ i ∧ i.toNatClampNeg < ln s a then some (m.1 a i.toNatClampNeg) else none
def rdL (s : List Sh) (m : Mem) (a : Nat) (i : Int32) : Option Int64 := if 0 ≤ i ∧ i.toNatClampNeg < ln s a then some (m.2.1 a i.toNatClampNeg) else none
def rdN (s : List Sh) (m : Mem) (a : Nat) (i : Int32) : Option (Option Nat) := if 0 ≤ i ∧ i.toNatClampNeg < ln s a then some (m.2.2 a i.toNatClampNeg) else none
def rdR (s : List Sh) (m : Mem) (a : Nat) (i : Int32) : Option Nat := if 0 ≤ i ∧ i.toNatClampNeg < ln s a then m.2.2 a i.toNatClampNeg else none
def stI (s : List Sh) (m : Mem) (a : Nat) (i x : Int32) : Option Mem := if 0 ≤ i ∧ i.toNatClampNeg < ln s a then some (wI m a i.toNatClampNeg x) else none
def stZ (s : List Sh) (m : Mem) (a : Nat) (i x : Int32) : Option Mem := if x = 0 ∨ x = 1 then stI s m a i x else none
def stL (s : List Sh) (m : Mem) (a : Nat) (i : Int32) (x : Int64) : Option Mem := if 0 ≤ i ∧ i.toNatClampNeg < ln s a then some (wL m a i.toNatClampNeg x) else none
def stR (s : List Sh) (m : Mem) (a : Nat) (i : Int32) (x : Nat) : Option Mem := if 0 ≤ i ∧ i.toNatClampNeg < ln s a then some (wR m a i.toNatClampNeg (some x)) else none
def ptZ (m : Mem) (a k : Nat) (x : Int32) : Option Mem := if x = 0 ∨ x = 1 then some (wI m a k x) else none
def cpM (s : List Sh) (m : Mem) (a : Nat) (sp : Int32) (b : Nat) (dp n : Int32) : Option Mem := if (0 ≤ sp ∧ 0 ≤ dp ∧ 0 ≤ n) ∧ sp.toNatClampNeg + n.toNatClampNeg ≤ ln s a ∧ dp.toNatClampNeg + n.toNatClampNeg ≤ ln s b then some (wC m a sp.toNatClampNeg b dp.toNatClampNeg n.toNatClampNeg) else none
def rZM (x : Int32) (m : Mem) : Option (Int32 × Mem) := if x = 0 ∨ x = 1 then some (x, m) else none
theorem ln_of {s : List Sh} {a t n : Nat} (h : s[a]? = some (.inr (t, n))) : ln s a = n := by unfold ln; rw [h]
theorem s_lt {s : List Sh} {a : Nat} {x : Sh} (h : s[a]? = some x) : a < s.length := (List.getElem?_eq_some_iff.mp h).1
section KK
variable {s : List Sh} {m : Mem} {a b k c t n : Nat} {β γ : Type} {v : β} {Φ : Prop} {R : γ}
theorem gs_wI {x : Int32} (h : GS s m) (ha : a < s.length) : GS s (wI m a k x) := ⟨h.1, fun b hb => ⟨fun j => by
  have hne : b ≠ a := by omega
  show (if b = a ∧ j = k then x else m.1 b j) = 0
  rw [if_neg (fun z => hne z.1)]
  exact (h.2 b hb).1 j, (h.2 b hb).2⟩⟩
theorem gs_wL {x : Int64} (h : GS s m) (ha : a < s.length) : GS s (wL m a k x) := ⟨h.1, fun b hb => ⟨(h.2 b hb).1, fun j => by
  have hne : b ≠ a := by omega
  show (if b = a ∧ j = k then x else m.2.1 b j) = 0
  rw [if_neg (fun z => hne z.1)]
  exact (h.2 b hb).2.1 j, (h.2 b hb).2.2⟩⟩
theorem gs_wC {sp dp : Nat} (h : GS s m) (hb : b < s.length) : GS s (wC m a sp b dp n) := ⟨h.1, fun q hq => ⟨fun j => by
  have hne : q ≠ b := by omega
  show (if q = b ∧ dp ≤ j ∧ j < dp + n then m.1 a (sp + (j - dp)) else m.1 q j) = 0
  rw [if_neg (fun z => hne z.1)]
  exact (h.2 q hq).1 j, (h.2 q hq).2⟩⟩
theorem gs_wR {x : Nat} (h : GS s m) (hs : s[a]? = some (.inl c)) (hx : ok s x (rty c k)) : GS s (wR m a k (some x)) := by
  obtain ⟨⟨h1, h2⟩, h3⟩ := h
  refine ⟨⟨fun a' c' k' b hs' ht hb => ?_, fun a' t' n' i b hs' ht hb => ?_⟩, fun q hq => ⟨(h3 q hq).1, (h3 q hq).2.1, fun j => ?_⟩⟩
  · by_cases hh : a' = a ∧ k' = k
    · obtain ⟨rfl, rfl⟩ := hh
      rw [hs] at hs'
      cases hs'
      simp [wR] at hb
      subst hb
      exact hx
    · refine h1 a' c' k' b hs' ht ?_
      have : (wR m a k (some x)).2.2 a' k' = m.2.2 a' k' := if_neg hh
      rw [← this]
      exact hb
  · have hne : a' ≠ a := fun e => by rw [e, hs] at hs'; cases hs'
    have : (wR m a k (some x)).2.2 a' i = m.2.2 a' i := if_neg (fun z => hne z.1)
    exact h2 a' t' n' i b hs' ht (this ▸ hb)
  · have hne : q ≠ a := fun e => by have := s_lt hs; omega
    show (if q = a ∧ j = k then some x else m.2.2 q j) = none
    rw [if_neg (fun z => hne z.1)]
    exact (h3 q hq).2.2 j
theorem gs_wRa {x : Nat} (h : GS s m) (h34 : t = 3 ∨ t = 4) (hs : s[a]? = some (.inr (t, n))) (hx : ok s x (if t = 3 then 0 else 7)) : GS s (wR m a k (some x)) := by
  obtain ⟨⟨h1, h2⟩, h3⟩ := h
  refine ⟨⟨fun a' c' k' b hs' ht hb => ?_, fun a' t' n' i b hs' ht hb => ?_⟩, fun q hq => ⟨(h3 q hq).1, (h3 q hq).2.1, fun j => ?_⟩⟩
  · have hne : a' ≠ a := fun e => by rw [e, hs] at hs'; cases hs'
    have : (wR m a k (some x)).2.2 a' k' = m.2.2 a' k' := if_neg (fun z => hne z.1)
    exact h1 a' c' k' b hs' ht (this ▸ hb)
  · by_cases hh : a' = a ∧ i = k
    · obtain ⟨rfl, rfl⟩ := hh
      rw [hs] at hs'
      cases hs'
      simp [wR] at hb
      subst hb
      exact hx
    · refine h2 a' t' n' i b hs' ht ?_
      have : (wR m a k (some x)).2.2 a' i = m.2.2 a' i := if_neg hh
      rw [← this]
      exact hb
  · have hne : q ≠ a := fun e => by have := s_lt hs; omega
    show (if q = a ∧ j = k then some x else m.2.2 q j) = none
    rw [if_neg (fun z => hne z.1)]
    exact (h3 q hq).2.2 j
/-! rows -/
theorem k_gI {f : Int32 → Option β} (hs : s[a]? = some (.inl c)) (ht : (cty c)[k]? = some 0) (K : J3 (f (m.1 a k)) v Φ) : J3 ((gI c k (bl s m) a).bind f) v Φ := by rw [gI_bl hs ht]; exact K
theorem k_gL {f : Int64 → Option β} (hs : s[a]? = some (.inl c)) (ht : (cty c)[k]? = some 1) (K : J3 (f (m.2.1 a k)) v Φ) : J3 ((gL c k (bl s m) a).bind f) v Φ := by rw [gL_bl hs ht]; exact K
theorem k_gN {f : Option Nat → Option β} (hs : s[a]? = some (.inl c)) (ht : (cty c)[k]? = some 2) (K : J3 (f (m.2.2 a k)) v Φ) : J3 ((gN c k (bl s m) a).bind f) v Φ := by rw [gN_bl hs ht]; exact K
theorem k_gR {f : Nat → Option β} {g : Nat → Option γ} (hw : GS s m) (hs : s[a]? = some (.inl c)) (ht : (cty c)[k]? = some 2) (hf : (m.2.2 a k).bind g = some R) (K : ∀ x, ok s x (rty c k) → g x = some R → J3 (f x) v Φ) : J3 ((gR c k (bl s m) a).bind f) v Φ :=
  ob hf fun x ex hf => by rw [gR_bl hs ht, ex]; exact K x (hw.1.1 _ _ _ _ hs ht ex) hf
theorem k_pI {x : Int32} {f : PH → Option β} {g : Mem → Option γ} (hw : GS s m) (hs : s[a]? = some (.inl c)) (ht : (cty c)[k]? = some 0) (hf : bindv (wI m a k x) g = some R) (K : ∀ m2, GS s m2 → g m2 = some R → J3 (f (bl s m2)) v Φ) : J3 ((pV c k (.int x) (bl s m) a).bind f) v Φ := by rw [pI_bl hs ht]; exact K _ (gs_wI hw (s_lt hs)) hf
theorem k_pL {x : Int64} {f : PH → Option β} {g : Mem → Option γ} (hw : GS s m) (hs : s[a]? = some (.inl c)) (ht : (cty c)[k]? = some 1) (hf : bindv (wL m a k x) g = some R) (K : ∀ m2, GS s m2 → g m2 = some R → J3 (f (bl s m2)) v Φ) : J3 ((pV c k (.long x) (bl s m) a).bind f) v Φ := by rw [pL_bl hs ht]; exact K _ (gs_wL hw (s_lt hs)) hf
theorem k_pR {x : Nat} {f : PH → Option β} {g : Mem → Option γ} (hw : GS s m) (hs : s[a]? = some (.inl c)) (ht : (cty c)[k]? = some 2) (hx : ok s x (rty c k)) (hf : bindv (wR m a k (some x)) g = some R) (K : ∀ m2, GS s m2 → g m2 = some R → J3 (f (bl s m2)) v Φ) : J3 ((pV c k (.ref x) (bl s m) a).bind f) v Φ := by rw [pR_bl hs ht]; exact K _ (gs_wR hw hs hx) hf
theorem k_pZ {x : Int32} {f : PH → Option β} {g : Mem → Option γ} (hw : GS s m) (hs : s[a]? = some (.inl c)) (ht : (cty c)[k]? = some 0) (hf : (ptZ m a k x).bind g = some R) (K : ∀ m2, GS s m2 → g m2 = some R → J3 (f (bl s m2)) v Φ) : J3 ((pZ c k x (bl s m) a).bind f) v Φ :=
  ob hf fun m2 e2 hf => by
    unfold ptZ at e2
    split at e2
    · rename_i hx
      cases e2
      rw [pZ_bl hx hs ht]
      exact K _ (gs_wI hw (s_lt hs)) hf
    · cases e2
theorem k_aI {i : Int32} {f : Int32 → Option β} {g : Int32 → Option γ} (h02 : t = 0 ∨ t = 2) (hs : s[a]? = some (.inr (t, n))) (hf : (rdI s m a i).bind g = some R) (K : ∀ x, g x = some R → J3 (f x) v Φ) : J3 ((aI t (bl s m) a i).bind f) v Φ :=
  ob hf fun x ex hf => by
    unfold rdI at ex
    split at ex
    · rename_i hi
      rw [ln_of hs] at hi
      cases ex
      rw [aI_bl h02 hs hi]
      exact K _ hf
    · cases ex
theorem k_aL {i : Int32} {f : Int64 → Option β} {g : Int64 → Option γ} (hs : s[a]? = some (.inr (1, n))) (hf : (rdL s m a i).bind g = some R) (K : ∀ x, g x = some R → J3 (f x) v Φ) : J3 ((aL (bl s m) a i).bind f) v Φ :=
  ob hf fun x ex hf => by
    unfold rdL at ex
    split at ex
    · rename_i hi
      rw [ln_of hs] at hi
      cases ex
      rw [aL_bl hs hi]
      exact K _ hf
    · cases ex
theorem k_aN {i : Int32} {f : Option Nat → Option β} {g : Option Nat → Option γ} (h34 : t = 3 ∨ t = 4) (hs : s[a]? = some (.inr (t, n))) (hf : (rdN s m a i).bind g = some R) (K : ∀ x, g x = some R → J3 (f x) v Φ) : J3 ((aN t (bl s m) a i).bind f) v Φ :=
  ob hf fun x ex hf => by
    unfold rdN at ex
    split at ex
    · rename_i hi
      rw [ln_of hs] at hi
      cases ex
      rw [aN_bl h34 hs hi]
      exact K _ hf
    · cases ex
theorem k_aR {i : Int32} {f : Nat → Option β} {g : Nat → Option γ} (hw : GS s m) (h34 : t = 3 ∨ t = 4) (hs : s[a]? = some (.inr (t, n))) (hf : (rdR s m a i).bind g = some R) (K : ∀ x, ok s x (if t = 3 then 0 else 7) → g x = some R → J3 (f x) v Φ) : J3 ((aR t (bl s m) a i).bind f) v Φ :=
  ob hf fun x ex hf => by
    unfold rdR at ex
    split at ex
    · rename_i hi
      rw [ln_of hs] at hi
      rw [aR_bl h34 hs hi, ex]
      exact K _ (hw.1.2 _ _ _ _ _ hs h34 ex) hf
    · cases ex
theorem k_sI {i x : Int32} {f : PH → Option β} {g : Mem → Option γ} (hw : GS s m) (hs : s[a]? = some (.inr (0, n))) (hf : (stI s m a i x).bind g = some R) (K : ∀ m2, GS s m2 → g m2 = some R → J3 (f (bl s m2)) v Φ) : J3 ((sI 0 (bl s m) a i x).bind f) v Φ :=
  ob hf fun m2 e2 hf => by
    unfold stI at e2
    split at e2
    · rename_i hi
      rw [ln_of hs] at hi
      cases e2
      rw [sI_bl (Or.inl rfl) hs hi]
      exact K _ (gs_wI hw (s_lt hs)) hf
    · cases e2
theorem k_sZ {i x : Int32} {f : PH → Option β} {g : Mem → Option γ} (hw : GS s m) (hs : s[a]? = some (.inr (2, n))) (hf : (stZ s m a i x).bind g = some R) (K : ∀ m2, GS s m2 → g m2 = some R → J3 (f (bl s m2)) v Φ) : J3 ((sZ (bl s m) a i x).bind f) v Φ :=
  ob hf fun m2 e2 hf => by
    unfold stZ at e2
    split at e2
    · rename_i hx
      unfold stI at e2
      split at e2
      · rename_i hi
        rw [ln_of hs] at hi
        cases e2
        rw [sZ_bl hx hs hi]
        exact K _ (gs_wI hw (s_lt hs)) hf
      · cases e2
    · cases e2
theorem k_sL {i : Int32} {x : Int64} {f : PH → Option β} {g : Mem → Option γ} (hw : GS s m) (hs : s[a]? = some (.inr (1, n))) (hf : (stL s m a i x).bind g = some R) (K : ∀ m2, GS s m2 → g m2 = some R → J3 (f (bl s m2)) v Φ) : J3 ((sL (bl s m) a i x).bind f) v Φ :=
  ob hf fun m2 e2 hf => by
    unfold stL at e2
    split at e2
    · rename_i hi
      rw [ln_of hs] at hi
      cases e2
      rw [sL_bl hs hi]
      exact K _ (gs_wL hw (s_lt hs)) hf
    · cases e2
theorem k_sR {i : Int32} {x : Nat} {f : PH → Option β} {g : Mem → Option γ} (hw : GS s m) (h34 : t = 3 ∨ t = 4) (hs : s[a]? = some (.inr (t, n))) (hx : s[x]? = some (.inl c)) (hc : c = if t = 3 then 0 else 7) (hf : (stR s m a i x).bind g = some R) (K : ∀ m2, GS s m2 → g m2 = some R → J3 (f (bl s m2)) v Φ) : J3 ((sR t c (bl s m) a i x).bind f) v Φ :=
  ob hf fun m2 e2 hf => by
    unfold stR at e2
    split at e2
    · rename_i hi
      rw [ln_of hs] at hi
      cases e2
      rw [sR_bl h34 hs hx hi]
      refine K _ (gs_wRa hw h34 hs ?_) hf
      rw [← hc]
      unfold ok
      rw [if_pos (by rw [hc]; split <;> omega)]
      exact hx
    · cases e2
theorem k_len {f : Int32 → Option β} (ht : t < 3) (hs : s[a]? = some (.inr (t, n))) (K : J3 (f (Int32.ofNat (ln s a))) v Φ) : J3 ((aLen (bl s m) a).bind f) v Φ := by rw [aLen_bl ht hs]; rw [ln_of hs] at K; exact K
theorem k_cp {n0 n1 : Nat} {sp dp l : Int32} {f : PH → Option β} {g : Mem → Option γ} (hw : GS s m) (ha : s[a]? = some (.inr (0, n0))) (hb : s[b]? = some (.inr (0, n1))) (hf : (cpM s m a sp b dp l).bind g = some R) (K : ∀ m2, GS s m2 → g m2 = some R → J3 (f (bl s m2)) v Φ) : J3 ((cpI (bl s m) a sp b dp l).bind f) v Φ :=
  ob hf fun m2 e2 hf => by
    unfold cpM at e2
    split at e2
    · rename_i hi
      rw [ln_of ha, ln_of hb] at hi
      cases e2
      rw [cpI_bl ha hb hi.1 hi.2.1 hi.2.2]
      exact K _ (gs_wC hw (s_lt hb)) hf
    · cases e2
theorem k_cO {o : Option β} (hs : s[a]? = some (.inl c)) (K : J3 o v Φ) : J3 (cO c (bl s m) a o) v Φ := by rw [cO_bl hs]; exact K
theorem k_if {p : Prop} [Decidable p] {A B : Option γ} {A' B' : Option β} (hf : (if p then A else B) = some R) (K1 : A = some R → J3 A' v Φ) (K2 : B = some R → J3 B' v Φ) : J3 (if p then A' else B') v Φ := by
  by_cases h : p
  · rw [if_pos h] at hf ⊢; exact K1 hf
  · rw [if_neg h] at hf ⊢; exact K2 hf
theorem k_bv {τ : Type} {e : τ} {f : τ → Option β} {g : τ → Option γ} (hf : bindv e g = some R) (K : ∀ x, g x = some R → J3 (f x) v Φ) : J3 (bindv e f) v Φ := K e hf
theorem k_b1 {τ : Type} {o : Option τ} {x : τ} {f : τ → Option β} (e : J3 o x True) (K : J3 (f x) v Φ) : J3 (o.bind f) v Φ := by rw [e.1]; exact K
theorem k_b2 {τ : Type} {o : Option (τ × PH)} {x : τ} {h : PH} {Ψ : Prop} {f : τ → PH → Option β} (e : J3 o (x, h) Ψ) (K : Ψ → J3 (f x h) v Φ) : J3 (bind2 o f) v Φ := by rw [e.1]; exact K e.2
theorem k_pure {τ : Type} {o : Option τ} {f : τ → Option β} {g : τ → Option γ} (hf : o.bind g = some R) (K : ∀ x, g x = some R → J3 (f x) v Φ) : J3 (o.bind f) v Φ := ob hf fun x ex hf => by rw [ex]; exact K x hf
theorem k_sw {x : Int32} {lo : Int} {l : List (Option γ)} {D : Option γ} {l' : List (Option β)} {D' : Option β} (hf : swN x lo l D = some R) (hl : l'.length = l.length) (K : ∀ i, i < l.length → l.getD i D = some R → J3 (l'.getD i D') v Φ) (KD : D = some R → J3 D' v Φ) : J3 (swN x lo l' D') v Φ := by
  unfold swN at hf ⊢
  by_cases h1 : lo ≤ x.toInt
  · rw [if_pos h1] at hf ⊢
    by_cases h2 : (x.toInt - lo).toNat < l.length
    · exact K _ h2 hf
    · rw [List.getD_eq_getElem?_getD, List.getElem?_eq_none (by omega)] at hf ⊢
      exact KD hf
  · rw [if_neg h1] at hf ⊢
    exact KD hf
theorem gd_goal {l' : List (Option β)} {i : Nat} {D' A' : Option β} (hl : l'[i]? = some A') (K : J3 A' v Φ) : J3 (l'.getD i D') v Φ := by rw [List.getD_eq_getElem?_getD, hl]; exact K
theorem k_ret {τ : Type} {x r : τ} {m' : Mem} (hw : GS s m) (hf : some (x, m) = some (r, m')) : J3 (some (x, bl s m)) (r, bl s m') (GS s m') := by cases hf; exact ⟨rfl, hw⟩
theorem k_rZ {x r : Int32} {m' : Mem} (hw : GS s m) (hf : rZM x m = some (r, m')) : J3 (rZ x (bl s m)) (r, bl s m') (GS s m') := by
  unfold rZM at hf
  split at hf
  · rename_i h
    cases hf
    exact ⟨by unfold rZ; rw [if_pos h], hw⟩
  · cases hf
theorem k_retP {τ : Type} {x r : τ} (hf : some x = some r) : J3 (some x) r True := ⟨hf, trivial⟩
theorem k_rZP {x r : Int32} (hf : rZP x = some r) : J3 (rZP x) r True := ⟨hf, trivial⟩
end KK
theorem ok_o {s : List Sh} {a c : Nat} (o : ok s a c) (h : c < 100) : s[a]? = some (.inl c) := by
  unfold ok at o
  rw [if_pos h] at o
  exact o
theorem ok_i {s : List Sh} {a c : Nat} (o : s[a]? = some (.inl c)) (h : c < 100) : ok s a c := by
  unfold ok
  rw [if_pos h]
  exact o
theorem ka {s : List Sh} {a t c : Nat} (h : c = 100 + t) (o : ok s a c) : s[a]? = some (.inr (t, ln s a)) := by
  subst h
  unfold ok at o
  rw [if_neg (by omega)] at o
  obtain ⟨n, e⟩ := o
  rw [ln_of e, e, show 100 + t - 100 = t by omega]
theorem ka_i {s : List Sh} {a t n : Nat} (e : s[a]? = some (.inr (t, n))) : ok s a (100 + t) := by
  unfold ok
  rw [if_neg (by omega)]
  exact ⟨n, by rw [e, show 100 + t - 100 = t by omega]⟩
