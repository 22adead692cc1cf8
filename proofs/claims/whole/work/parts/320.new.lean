/-! PURE: rows for methods that make cells -/
theorem ok_app {s s2 t : List Sh} {x c : Nat} (o : ok s x c) (e : s2 = s ++ t) : ok s2 x c := by
  subst e
  unfold ok at o ⊢
  split
  · rename_i h
    rw [if_pos h] at o
    rw [List.getElem?_append_left (s_lt o)]
    exact o
  · rename_i h
    rw [if_neg h] at o
    obtain ⟨n, o⟩ := o
    exact ⟨n, by rw [List.getElem?_append_left (s_lt o)]; exact o⟩
theorem ok_pre {s s2 : List Sh} {x c : Nat} (o : ok s x c) (e : ∃ t, s2 = s ++ t) : ok s2 x c := by
  obtain ⟨t, e⟩ := e
  exact ok_app o e
theorem pr_tr {s s1 s2 : List Sh} (h : ∃ t, s1 = s ++ t) (h2 : ∃ t, s2 = s1 ++ t) : ∃ t, s2 = s ++ t := by
  obtain ⟨t, rfl⟩ := h
  obtain ⟨u, rfl⟩ := h2
  exact ⟨t ++ u, by rw [List.append_assoc]⟩
theorem j_pre {β : Type} {o : Option β} {v : β} {P : Prop} {s s2 s' : List Sh} (h : J3 o v (P ∧ ∃ t, s' = s2 ++ t)) (hp : ∃ t, s2 = s ++ t) : J3 o v (P ∧ ∃ t, s' = s ++ t) := ⟨h.1, h.2.1, pr_tr hp h.2.2⟩
def dfl (c : Nat) : List Value := (cty c).map (fun t => if t = 0 then .int 0 else if t = 1 then .long 0 else .null)
theorem cell_new {s : List Sh} {m : Mem} (h : GS s m) (c : Nat) : cellOf m s.length (.inl c) = .inr (c, dfl c) := by
  show Sum.inr (c, (cty c).mapIdx (fun k t => fv m s.length k t)) = Sum.inr (c, dfl c)
  unfold dfl
  congr 2
  apply List.ext_getElem?
  intro j
  rw [List.getElem?_mapIdx, List.getElem?_map]
  cases (cty c)[j]? with
  | none => rfl
  | some t =>
    rw [Option.map_some, Option.map_some]
    obtain ⟨h1, h2, h3⟩ := h.2 s.length (Nat.le_refl _)
    unfold fv
    rw [h1 j, h2 j, h3 j]
    rfl
theorem gs_push {s : List Sh} {m : Mem} (h : GS s m) (x : Sh) : GS (s ++ [x]) m := by
  obtain ⟨⟨h1, h2⟩, h3⟩ := h
  have hz : ∀ (a : Nat) (y : Sh), (s ++ [x])[a]? = some y → s[a]? = some y ∨ a = s.length := by
    intro a y hy
    have hlt := s_lt hy
    rw [List.length_append] at hlt
    have hlt : a < s.length + 1 := hlt
    by_cases ha : a < s.length
    · rw [List.getElem?_append_left ha] at hy; exact Or.inl hy
    · exact Or.inr (by omega)
  refine ⟨⟨fun a c k b hs ht hb => ?_, fun a t n i b hs ht hb => ?_⟩, fun q hq => h3 q (by rw [List.length_append] at hq; have : s.length + 1 ≤ q := hq; omega)⟩
  · rcases hz a _ hs with h | h
    · exact ok_app (h1 a c k b h ht hb) rfl
    · rw [h, (h3 s.length (Nat.le_refl _)).2.2 k] at hb; cases hb
  · rcases hz a _ hs with h | h
    · exact ok_app (h2 a t n i b h ht hb) rfl
    · rw [h, (h3 s.length (Nat.le_refl _)).2.2 i] at hb; cases hb
section KN
variable {s : List Sh} {m : Mem} {β γ : Type} {v : β} {Φ : Prop} {R : γ}
theorem k_new {c : Nat} {dfs : List Value} {f : Nat → PH → Option β} {g : Nat → List Sh → Option γ} (hw : GS s m) (hc : c < 100) (hdf : dfs = dfl c) (hf : bindv s.length (fun a => bindv (s ++ [.inl c]) (fun s2 => g a s2)) = some R) (K : ∀ (a : Nat) (s2 : List Sh), (∃ t, s2 = s ++ t) → GS s2 m → ok s2 a c → g a s2 = some R → J3 (f a (bl s2 m)) v Φ) : J3 (bindv (bl s m).length (fun a => bindv (bl s m ++ [.inr (c, dfs)]) (fun h' => f a h'))) v Φ := by
  have e : bl s m ++ [.inr (c, dfs)] = bl (s ++ [.inl c]) m := bl_push (by rw [cell_new hw, hdf])
  show J3 (f (bl s m).length (bl s m ++ [.inr (c, dfs)])) v Φ
  rw [e, bl_len]
  exact K s.length _ ⟨_, rfl⟩ (gs_push hw _) (ok_i (by simp) hc) hf
theorem k_newa {t n : Nat} {e0 : PE} {f : Nat → PH → Option β} {g : Nat → List Sh → Option γ} (hw : GS s m) (he : ∀ m2 : Mem, GS s m2 → cellOf m2 s.length (.inr (t, n)) = e0) (hf : bindv s.length (fun a => bindv (s ++ [.inr (t, n)]) (fun s2 => g a s2)) = some R) (K : ∀ (a : Nat) (s2 : List Sh), (∃ t, s2 = s ++ t) → GS s2 m → ok s2 a (100 + t) → g a s2 = some R → J3 (f a (bl s2 m)) v Φ) : J3 (bindv (bl s m).length (fun a => bindv (bl s m ++ [e0]) (fun h' => f a h'))) v Φ := by
  have e : bl s m ++ [e0] = bl (s ++ [.inr (t, n)]) m := bl_push (he m hw)
  show J3 (f (bl s m).length (bl s m ++ [e0])) v Φ
  rw [e, bl_len]
  exact K s.length _ ⟨_, rfl⟩ (gs_push hw _) (ka_i (n := n) (by simp)) hf
theorem na_i {n : Nat} {m2 : Mem} (h : GS s m2) : cellOf m2 s.length (.inr (0, n)) = .inl (0, n, .inl (fun _ => 0)) := by
  have : m2.1 s.length = fun _ => 0 := funext (h.2 s.length (Nat.le_refl _)).1
  show Sum.inl (0, n, Sum.inl (m2.1 s.length)) = _
  rw [this]
theorem na_z {n : Nat} {m2 : Mem} (h : GS s m2) : cellOf m2 s.length (.inr (2, n)) = .inl (2, n, .inl (fun _ => 0)) := by
  have : m2.1 s.length = fun _ => 0 := funext (h.2 s.length (Nat.le_refl _)).1
  show Sum.inl (2, n, Sum.inl (m2.1 s.length)) = _
  rw [this]
theorem na_l {n : Nat} {m2 : Mem} (h : GS s m2) : cellOf m2 s.length (.inr (1, n)) = .inl (1, n, .inr (.inl (fun _ => 0))) := by
  have : m2.2.1 s.length = fun _ => 0 := funext (h.2 s.length (Nat.le_refl _)).2.1
  show Sum.inl (1, n, Sum.inr (Sum.inl (m2.2.1 s.length))) = _
  rw [this]
theorem na_r {t n : Nat} (ht : t = 3 ∨ t = 4) {m2 : Mem} (h : GS s m2) : cellOf m2 s.length (.inr (t, n)) = .inl (t, n, .inr (.inr (.inr (.inr (fun _ => none))))) := by
  have : m2.2.2 s.length = fun _ => none := funext (h.2 s.length (Nat.le_refl _)).2.2
  rcases ht with rfl | rfl
  · show Sum.inl (3, n, Sum.inr (Sum.inr (Sum.inr (Sum.inr (m2.2.2 s.length))))) = _; rw [this]
  · show Sum.inl (4, n, Sum.inr (Sum.inr (Sum.inr (Sum.inr (m2.2.2 s.length))))) = _; rw [this]
theorem k_retA {τ : Type} {x r : τ} {s0 s' : List Sh} {m' : Mem} (hw : GS s m) (hp : ∃ t, s = s0 ++ t) (hf : some (x, s, m) = some (r, s', m')) : J3 (some (x, bl s m)) (r, bl s' m') (GS s' m' ∧ ∃ t, s' = s0 ++ t) := by cases hf; exact ⟨rfl, hw, hp⟩
end KN
def bind3 {α β δ γ : Type} (o : Option (α × β × δ)) (f : α → β → δ → Option γ) : Option γ := match o with
  | some (x, y, z) => f x y z
  | none => none
theorem ob3 {α β δ γ : Type} {o : Option (α × β × δ)} {f : α → β → δ → Option γ} {r : γ} {P : Prop} (hf : bind3 o f = some r) (k : ∀ x y z, o = some (x, y, z) → f x y z = some r → P) : P := by
  cases o with
  | none => cases hf
  | some x => exact k x.1 x.2.1 x.2.2 rfl hf
