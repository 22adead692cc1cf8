/-! odds: floors with weights -/
def addW : RPL → FR → Nat → RPL
  | [], x, w => [(x, w)]
  | p :: R, x, w => if p.1 = x then (p.1, p.2 + w) :: R else p :: addW R x w
theorem addW_len (R : RPL) (x : FR) (w : Nat) : R.length ≤ (addW R x w).length ∧ (addW R x w).length ≤ R.length + 1 := by
  induction R with
  | nil => exact ⟨Nat.zero_le _, Nat.le_refl _⟩
  | cons p R ih =>
    unfold addW
    split
    · rw [List.length_cons, List.length_cons]; omega
    · rw [List.length_cons, List.length_cons]; omega
theorem addW_new {R : RPL} {x : FR} {w : Nat} (h : ¬ x ∈ R.map Prod.fst) : addW R x w = R ++ [(x, w)] := by
  induction R with
  | nil => rfl
  | cons p R ih =>
    rw [List.map_cons, List.mem_cons] at h
    unfold addW
    rw [if_neg (fun e => h (Or.inl e.symm)), ih (fun e => h (Or.inr e))]
    rfl
theorem addW_old {R : RPL} {x : FR} {w : Nat} (nd : (R.map Prod.fst).Nodup) {j : Nat} (hj : j < R.length) (hx : (gp R j).1 = x) : (addW R x w).map Prod.fst = R.map Prod.fst ∧ (addW R x w).length = R.length ∧ ∀ i, (gp (addW R x w) i).2 = if i = j then (gp R j).2 + w else (gp R i).2 := by
  induction R generalizing j with
  | nil => exact absurd hj (Nat.not_lt_zero _)
  | cons p R ih =>
    rw [List.map_cons, List.nodup_cons] at nd
    unfold addW
    by_cases c : p.1 = x
    · rw [if_pos c]
      have hj0 : j = 0 := by
        cases j with
        | zero => rfl
        | succ j =>
          exfalso
          have hj' : j < R.length := by rw [List.length_cons] at hj; omega
          have e : gp (p :: R) (j + 1) = gp R j := rfl
          rw [e] at hx
          exact nd.1 (by rw [c, ← hx]; exact List.mem_map_of_mem (f := Prod.fst) (gp_mem hj'))
      subst hj0
      refine ⟨rfl, rfl, fun i => ?_⟩
      cases i with
      | zero => rfl
      | succ i => rfl
    · rw [if_neg c]
      cases j with
      | zero => exact absurd hx c
      | succ j =>
        have hj' : j < R.length := by rw [List.length_cons] at hj; omega
        obtain ⟨i1, i2, i3⟩ := ih nd.2 hj' hx
        refine ⟨by rw [List.map_cons, List.map_cons, i1], by rw [List.length_cons, List.length_cons, i2], fun i => ?_⟩
        cases i with
        | zero => rfl
        | succ i =>
          have := i3 i
          show (gp (addW R x w) i).2 = if i + 1 = j + 1 then (gp R j).2 + w else (gp R i).2
          rw [this]
          by_cases e : i = j
          · rw [if_pos e, if_pos (by omega)]
          · rw [if_neg e, if_neg (by omega)]
theorem addW_k {R : RPL} {x y : FR} {w : Nat} : y ∈ (addW R x w).map Prod.fst ↔ y ∈ R.map Prod.fst ∨ y = x := by
  induction R with
  | nil => show y ∈ [x] ↔ _; rw [List.mem_singleton]; exact ⟨Or.inr, fun h => h.elim (fun h => (List.not_mem_nil h).elim) id⟩
  | cons p R ih =>
    unfold addW
    split
    · next c =>
      rw [List.map_cons, List.map_cons, List.mem_cons]
      constructor
      · exact Or.inl
      · rintro (h | h)
        · exact h
        · exact Or.inl (by rw [h]; exact c.symm)
    · rw [List.map_cons, List.map_cons, List.mem_cons, List.mem_cons, ih, or_assoc]
theorem addW_nd {R : RPL} {x : FR} {w : Nat} (nd : (R.map Prod.fst).Nodup) : ((addW R x w).map Prod.fst).Nodup := by
  induction R with
  | nil => show [x].Nodup; simp
  | cons p R ih =>
    rw [List.map_cons, List.nodup_cons] at nd
    unfold addW
    split
    · rw [List.map_cons, List.nodup_cons]; exact nd
    · next c =>
      rw [List.map_cons, List.nodup_cons]
      exact ⟨fun h => (addW_k.mp h).elim nd.1 c, ih nd.2⟩
def wt (R : RPL) (y : FR) : Nat := (lk R y).getD 0
theorem wt_add (R : RPL) (x y : FR) (w : Nat) : wt (addW R x w) y = wt R y + if x = y then w else 0 := by
  unfold wt
  induction R with
  | nil =>
    show (if x = y then some w else none).getD 0 = 0 + _
    split <;> simp
  | cons p R ih =>
    unfold addW
    by_cases c : p.1 = x
    · rw [if_pos c]
      show (if p.1 = y then some (p.2 + w) else lk R y).getD 0 = (if p.1 = y then some p.2 else lk R y).getD 0 + _
      by_cases e : p.1 = y
      · rw [if_pos e, if_pos e, if_pos (by rw [← c]; exact e)]; rfl
      · rw [if_neg e, if_neg e, if_neg (by rw [← c]; exact e), Nat.add_zero]
    · rw [if_neg c]
      show (if p.1 = y then some p.2 else lk (addW R x w) y).getD 0 = (if p.1 = y then some p.2 else lk R y).getD 0 + _
      by_cases e : p.1 = y
      · rw [if_pos e, if_pos e, if_neg (fun h => c (by rw [e, h])), Nat.add_zero]
      · rw [if_neg e, if_neg e]; exact ih
def TOT : RPL → (FR → Nat) → Nat
  | [], _ => 0
  | p :: R, f => p.2 * f p.1 + TOT R f
theorem TOT_add (R : RPL) (x : FR) (w : Nat) (f : FR → Nat) : TOT (addW R x w) f = TOT R f + w * f x := by
  induction R with
  | nil => show w * f x + 0 = 0 + w * f x; omega
  | cons p R ih =>
    unfold addW
    by_cases c : p.1 = x
    · rw [if_pos c]
      show (p.2 + w) * f p.1 + TOT R f = p.2 * f p.1 + TOT R f + w * f x
      rw [Nat.add_mul, c]; omega
    · rw [if_neg c]
      show p.2 * f p.1 + TOT (addW R x w) f = p.2 * f p.1 + TOT R f + w * f x
      rw [ih]; omega
def PRB (al : Nat → Int32) (sk : Nat) (B : Nat → Nat) : Nat → Nat → FR → FR → Nat
  | 0, _, x, y => if x = y then 1 else 0
  | n + 1, k, x, y => if (LE al (B k : Nat) x).1 = 0 then sk * PRB al sk B n (k + 1) x y + (10 - sk) * PRB al sk B n (k + 1) (LE al (B k : Nat) x).2 y else 10 * PRB al sk B n (k + 1) x y
def BRN (al : Nat → Int32) (sk b : Nat) (p : FR × Nat) (R : RPL) : RPL := if (LE al (b : Nat) p.1).1 = 0 then (if 0 < sk then addW (addW R (LE al (b : Nat) p.1).2 (p.2 * (10 - sk))) p.1 (p.2 * sk) else addW R (LE al (b : Nat) p.1).2 (p.2 * (10 - sk))) else addW R p.1 (p.2 * 10)
def CHL (al : Nat → Int32) (sk b : Nat) : RPL → RPL → RPL
  | [], R => R
  | p :: P, R => CHL al sk b P (BRN al sk b p R)
def CH (al : Nat → Int32) (sk : Nat) (B : Nat → Nat) (x : FR) : Nat → RPL
  | 0 => [(x, 1)]
  | k + 1 => CHL al sk (B k) (CH al sk B x k) []
theorem TOT_brn {al : Nat → Int32} {sk : Nat} {B : Nat → Nat} {n k : Nat} {p : FR × Nat} {R : RPL} {y : FR} : TOT (BRN al sk (B k) p R) (fun z => PRB al sk B n (k + 1) z y) = TOT R (fun z => PRB al sk B n (k + 1) z y) + p.2 * PRB al sk B (n + 1) k p.1 y := by
  show _ = _ + p.2 * (if _ then _ else _)
  unfold BRN
  split
  · split
    · rw [TOT_add, TOT_add, Nat.mul_add, ← Nat.mul_assoc, ← Nat.mul_assoc]; omega
    · next c =>
      rw [TOT_add, Nat.mul_add, ← Nat.mul_assoc, ← Nat.mul_assoc, show sk = 0 by omega]; simp
  · rw [TOT_add, Nat.mul_assoc]
theorem TOT_chl {al : Nat → Int32} {sk : Nat} {B : Nat → Nat} {n k : Nat} {y : FR} : ∀ P R, TOT (CHL al sk (B k) P R) (fun z => PRB al sk B n (k + 1) z y) = TOT R (fun z => PRB al sk B n (k + 1) z y) + TOT P (fun z => PRB al sk B (n + 1) k z y) := by
  intro P
  induction P with
  | nil => intro R; rfl
  | cons p P ih =>
    intro R
    show TOT (CHL al sk (B k) P (BRN al sk (B k) p R)) _ = _ + (p.2 * PRB al sk B (n + 1) k p.1 y + TOT P _)
    rw [ih, TOT_brn]; omega
theorem TOT_ch {al : Nat → Int32} {sk : Nat} {B : Nat → Nat} {x y : FR} : ∀ k n, TOT (CH al sk B x k) (fun z => PRB al sk B n k z y) = PRB al sk B (n + k) 0 x y := by
  intro k
  induction k with
  | zero => intro n; show 1 * PRB al sk B n 0 x y + 0 = PRB al sk B n 0 x y; omega
  | succ k ih =>
    intro n
    show TOT (CHL al sk (B k) (CH al sk B x k) []) _ = _
    rw [TOT_chl, ih (n + 1), show n + 1 + k = n + (k + 1) by omega]
    exact Nat.zero_add _
theorem TOT_wt {R : RPL} (nd : (R.map Prod.fst).Nodup) (y : FR) : TOT R (fun z => if z = y then 1 else 0) = wt R y := by
  unfold wt
  induction R with
  | nil => rfl
  | cons p R ih =>
    rw [List.map_cons, List.nodup_cons] at nd
    show p.2 * (if p.1 = y then 1 else 0) + TOT R _ = (if p.1 = y then some p.2 else lk R y).getD 0
    rw [ih nd.2]
    by_cases c : p.1 = y
    · have : lk R y = none := lk_n.mpr (fun q hq e => nd.1 (by rw [c, ← e]; exact List.mem_map_of_mem (f := Prod.fst) hq))
      rw [if_pos c, if_pos c, this, Nat.mul_one]; rfl
    · rw [if_neg c, if_neg c, Nat.mul_zero, Nat.zero_add]
def GOD (al : Nat → Int32) (sk : Nat) (B : Nat → Nat) : Nat → Nat → FR → Nat → RPL → RPL
  | 0, _, x, w, R => if w = 0 then R else addW R x w
  | n + 1, k, x, w, R => if w = 0 then R else if (LE al (B k : Nat) x).1 = 0 then GOD al sk B n (k + 1) (LE al (B k : Nat) x).2 (w * (10 - sk)) (GOD al sk B n (k + 1) x (w * sk) R) else GOD al sk B n (k + 1) x (10 * w) R
theorem wt_god {al : Nat → Int32} {sk : Nat} {B : Nat → Nat} {y : FR} : ∀ n k x w R, wt (GOD al sk B n k x w R) y = wt R y + w * PRB al sk B n k x y := by
  intro n
  induction n with
  | zero =>
    intro k x w R
    unfold GOD PRB
    split
    · next c => rw [c]; omega
    · rw [wt_add]; split <;> omega
  | succ n ih =>
    intro k x w R
    unfold GOD PRB
    split
    · next c => rw [c]; omega
    · split
      · rw [ih, ih, Nat.mul_add, ← Nat.mul_assoc, ← Nat.mul_assoc]; omega
      · rw [ih, ← Nat.mul_assoc, Nat.mul_comm 10 w]
/-! which floors there are -/
def NDP (R : RPL) : Prop := (R.map Prod.fst).Nodup ∧ ∀ p ∈ R, 0 < p.2
theorem NDP.add {R : RPL} {x : FR} {w : Nat} (h : NDP R) (hw : 0 < w) : NDP (addW R x w) := by
  refine ⟨addW_nd h.1, ?_⟩
  obtain ⟨-, hp⟩ := h
  induction R with
  | nil => intro p hp; rw [List.mem_singleton.mp hp]; exact hw
  | cons p R ih =>
    unfold addW
    split
    · intro q hq
      rcases List.mem_cons.mp hq with rfl | hq
      · show 0 < p.2 + w; omega
      · exact hp q (List.mem_cons_of_mem _ hq)
    · intro q hq
      rcases List.mem_cons.mp hq with rfl | hq
      · exact hp _ List.mem_cons_self
      · exact ih (fun q hq => hp q (List.mem_cons_of_mem _ hq)) q hq
theorem NDP.brn {al : Nat → Int32} {sk b : Nat} (hs : sk ≤ 9) {p : FR × Nat} (hp : 0 < p.2) {R : RPL} (h : NDP R) : NDP (BRN al sk b p R) := by
  unfold BRN
  split
  · split
    · next c => exact (h.add (Nat.mul_pos hp (by omega))).add (Nat.mul_pos hp c)
    · exact h.add (Nat.mul_pos hp (by omega))
  · exact h.add (by omega)
theorem NDP.chl {al : Nat → Int32} {sk b : Nat} (hs : sk ≤ 9) : ∀ P R, (∀ p ∈ P, 0 < p.2) → NDP R → NDP (CHL al sk b P R) := by
  intro P
  induction P with
  | nil => intro R _ h; exact h
  | cons p P ih => intro R hP h; exact ih _ (fun q hq => hP q (List.mem_cons_of_mem _ hq)) (h.brn hs (hP p List.mem_cons_self))
theorem NDP.nil : NDP [] := ⟨List.nodup_nil, fun p hp => (List.not_mem_nil hp).elim⟩
theorem NDP.ch {al : Nat → Int32} {sk : Nat} (hs : sk ≤ 9) {B : Nat → Nat} {x : FR} : ∀ k, NDP (CH al sk B x k) := by
  intro k
  induction k with
  | zero => exact ⟨by show [x].Nodup; simp, fun p hp => by rw [List.mem_singleton.mp hp]; exact Nat.zero_lt_one⟩
  | succ k ih => exact NDP.chl hs _ _ ih.2 NDP.nil
theorem NDP.god {al : Nat → Int32} {sk : Nat} {B : Nat → Nat} : ∀ n k x w R, NDP R → NDP (GOD al sk B n k x w R) := by
  intro n
  induction n with
  | zero =>
    intro k x w R h
    unfold GOD
    split
    · exact h
    · exact h.add (by omega)
  | succ n ih =>
    intro k x w R h
    unfold GOD
    split
    · exact h
    · split
      · exact ih _ _ _ _ (ih _ _ _ _ h)
      · exact ih _ _ _ _ h
theorem NDP.kw {R : RPL} (h : NDP R) (y : FR) : y ∈ R.map Prod.fst ↔ 0 < wt R y := by
  unfold wt
  cases hl : lk R y with
  | none =>
    refine ⟨fun hm => ?_, fun h => absurd h (Nat.lt_irrefl 0)⟩
    obtain ⟨p, p1, p2⟩ := List.mem_map.mp hm
    exact absurd p2 (lk_n.mp hl p p1)
  | some c =>
    have hm := lk_mem hl
    exact ⟨fun _ => h.2 _ hm, fun _ => List.mem_map_of_mem (f := Prod.fst) hm⟩
theorem NDP.len {R T : RPL} (h : NDP R) (h2 : NDP T) (e : ∀ y, wt R y = wt T y) : R.length = T.length := by
  have a : (R.map Prod.fst).length ≤ (T.map Prod.fst).length := List.Nodup.length_le_of_subset h.1 (fun y hy => (h2.kw y).mpr (by rw [← e]; exact (h.kw y).mp hy))
  have b : (T.map Prod.fst).length ≤ (R.map Prod.fst).length := List.Nodup.length_le_of_subset h2.1 (fun y hy => (h.kw y).mpr (by rw [e]; exact (h2.kw y).mp hy))
  rw [List.length_map, List.length_map] at a b
  omega
