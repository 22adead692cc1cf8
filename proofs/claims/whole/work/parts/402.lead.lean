/-! PURE: where a button leads, both ways -/
def nrm (p q : Int) : Int × Int := if q < 0 then (-(p.tdiv (Int.gcd p q)), -(q.tdiv (Int.gcd p q))) else (p.tdiv (Int.gcd p q), q.tdiv (Int.gcd p q))
theorem tdiv_le {p : Int} {g : Nat} : (p.tdiv (g : Int)).natAbs ≤ p.natAbs := by rw [Int.natAbs_tdiv]; exact Nat.div_le_self _ _
theorem b63d {p : Int} {g : Nat} (h : p.natAbs < 9223372036854775808) : B63 (p.tdiv (g : Int)) := b63n (Nat.lt_of_le_of_lt tdiv_le h)
theorem gcd_b {p q : Int} (hq : q ≠ 0) (hb : q.natAbs < 9223372036854775808) : 0 < Int.gcd p q ∧ Int.gcd p q < 9223372036854775808 := by
  have h1 : 0 < Int.gcd p q := Int.gcd_pos_of_ne_zero_right _ hq
  have h2 : Int.gcd p q ≤ q.natAbs := Nat.le_of_dvd (by omega) (Int.gcd_dvd_natAbs_right p q)
  exact ⟨h1, by omega⟩
theorem gcd_negneg (p q : Int) : Int.gcd (-p) (-q) = Int.gcd p q := by rw [Int.gcd_neg, Int.neg_gcd]
theorem nrm_neg {p q : Int} (hq : q ≠ 0) : nrm (-p) (-q) = nrm p q := by
  unfold nrm
  rw [gcd_negneg]
  by_cases h : q < 0
  · rw [if_pos h, if_neg (by omega), Int.neg_tdiv, Int.neg_tdiv]
  · rw [if_neg h, if_pos (by omega), Int.neg_tdiv, Int.neg_tdiv, Int.neg_neg, Int.neg_neg]
/-- one memory and another that differs in three cells of the reckoner -/
def K9 (m m' : Mem) : Prop := (∀ a, a ≠ 16 → m'.1 a = m.1 a) ∧ (∀ a, a ≠ 17 → a ≠ 18 → m'.2.1 a = m.2.1 a) ∧ m'.2.2 = m.2.2
theorem K9.rf (m : Mem) : K9 m m := ⟨fun _ _ => rfl, fun _ _ _ => rfl, rfl⟩
theorem K9.tr {m m1 m2 : Mem} (h : K9 m m1) (h2 : K9 m1 m2) : K9 m m2 := ⟨fun a p => (h2.1 a p).trans (h.1 a p), fun a p q => (h2.2.1 a p q).trans (h.2.1 a p q), h2.2.2.trans h.2.2⟩
theorem K9.I {m : Mem} {k : Nat} {x : Int32} : K9 m (wI m 16 k x) := ⟨fun a p => by funext j; rw [wI_1, if_neg (fun z => p z.1)], fun _ _ _ => rfl, rfl⟩
theorem K9.L {m : Mem} {a k : Nat} {x : Int64} (h : a = 17 ∨ a = 18) : K9 m (wL m a k x) := ⟨fun _ _ => rfl, fun b p q => by funext j; rw [wL_2, if_neg (fun z => by rcases h with rfl | rfl; exact p z.1; exact q z.1)], rfl⟩
theorem K9.sc {m m' : Mem} (h : K9 m m') : SC m m' := ⟨fun a p _ => h.1 a (fun e => p (by unfold Fx; omega)), ⟨by rw [h.1 23 (by omega)], by rw [h.1 23 (by omega)], by rw [h.1 23 (by omega)]⟩, fun a p _ => h.2.1 a (fun e => p (by unfold Fx; omega)) (fun e => p (by unfold Fx; omega)), h.2.2⟩
/-- what is piled, by the class -/
def PL9 (m : Mem) (d : Nat) (P : Nat → Int × Int) : Prop := m.1 16 4 = q32 d ∧ ∀ k, k < d → m.2.1 17 k = q64 (P k).1 ∧ m.2.1 18 k = q64 (P k).2
def up2 (P : Nat → Int × Int) (k : Nat) (x : Int × Int) : Nat → Int × Int := fun j => if j = k then x else P j
theorem pile9 {s : List Sh} {m : Mem} (hp : ∃ t, s = sB ++ t) (hr : RF m) {d : Nat} (hd : d < 60) {P : Nat → Int × Int} (h : PL9 m d P) (u l : Int) : ∃ m', n_X4_pile s m 16 (q64 u) (q64 l) = some ((), m') ∧ PL9 m' (d + 1) (up2 P d (u, l)) ∧ K9 m m' := by
  obtain ⟨h1, h2⟩ := h
  have r2 := rf16_2 hr
  have r3 := rf16_3 hr
  refine ⟨wI (wL (wL m 17 d (q64 u)) 18 d (q64 l)) 16 4 (q32 ((d + 1 : Nat) : Int)), ?_, ⟨?_, fun k hk => ?_⟩, ((K9.L (Or.inl rfl)).tr (K9.L (Or.inr rfl))).tr K9.I⟩
  · unfold n_X4_pile nb_X4_pile_0
    rw [h1, if_neg (fun z => by have := (ge32 (b31n (by omega)) 64 (by omega)).mp z; omega), r2]
    show ((stL s m 17 (q32 d) (q64 u)).bind _) = _
    rw [stL_q (by rw [ln17 hp]; decide) (by rw [ln17 hp]; omega)]
    show (((wL m 17 d (q64 u)).2.2 16 3).bind _) = _
    rw [wL_3, r3]
    show ((stL s (wL m 17 d (q64 u)) 18 ((wL m 17 d (q64 u)).1 16 4) (q64 l)).bind _) = _
    rw [wL_1, h1, stL_q (by rw [ln18 hp]; decide) (by rw [ln18 hp]; omega)]
    show some ((), wI (wL (wL m 17 d (q64 u)) 18 d (q64 l)) 16 4 ((wL (wL m 17 d (q64 u)) 18 d (q64 l)).1 16 4 + 1)) = _
    rw [wL_1, wL_1, h1, show (1 : Int32) = q32 1 from rfl, q32_add]
    rfl
  · rw [wI_1, if_pos ⟨rfl, rfl⟩]
  · rw [wI_2, wL_2, wL_2]
    unfold up2
    by_cases e : k = d
    · subst e
      simp [wL_2]
    · have hk2 : k < d := by omega
      simp [wL_2, e]
      exact h2 k hk2
def big (f : Int × Int) : Bool := decide (1000000000 < f.1.natAbs ∨ 1000000000 < f.2)
theorem jabs {x : Int} (h : x.natAbs < 9223372036854775808) : jabsL (q64 x) = q64 (x.natAbs : Int) := by
  unfold jabsL
  rw [q64_0]
  by_cases h0 : 0 < x
  · rw [if_pos ((q64_lt (by decide) (b63n h)).mpr h0), show (x.natAbs : Int) = x by omega]
  · rw [if_neg (fun z => h0 ((q64_lt (by decide) (b63n h)).mp z)), q64_neg, show (x.natAbs : Int) = -x by omega]
/-- the class settles p by q, q above 0 -/
theorem settle9 {F : Nat} (hF : 200 ≤ F) {s : List Sh} {m : Mem} (hp : ∃ t, s = sB ++ t) (hr : RF m) {d : Nat} (hd : d < 60) {P : Nat → Int × Int} (h : PL9 m (d + 1) P) {p q : Int} (hq : 1 ≤ q) (bp : p.natAbs < 9223372036854775808) (bq : q.natAbs < 9223372036854775808) : ∃ m', n_X4_settle F s m 16 (q64 p) (q64 q) = some (if big (nrm p q) then 3 else 0, m') ∧ PL9 m' (d + 1) (up2 P d (nrm p q)) ∧ K9 m m' := by
  obtain ⟨h1, h2⟩ := h
  have r2 := rf16_2 hr
  have r3 := rf16_3 hr
  have hg := gcd_b (p := p) (q := q) (by omega) bq
  have hn : nrm p q = (p.tdiv (Int.gcd p q), q.tdiv (Int.gcd p q)) := if_neg (by omega)
  have hcore : n_X4_settle F s m 16 (q64 p) (q64 q) = nb_X4_settle_15 F s m 16 (q64 p) (q64 q) (q64 (Int.gcd p q : Int)) := by
    unfold n_X4_settle nb_X4_settle_0
    by_cases h1q : q = 1
    · subst h1q
      rw [if_pos rfl, Int.gcd_one_right]
      rfl
    · rw [if_neg (fun z => h1q ((e64 (b63n bq) 1 (by omega)).mp z)), m_cf hF bp bq]
      rfl
  refine ⟨wL (wL m 17 d (q64 (nrm p q).1)) 18 d (q64 (nrm p q).2), ?_, ⟨?_, fun k hk => ?_⟩, (K9.L (Or.inl rfl)).tr (K9.L (Or.inr rfl))⟩
  · rw [hcore, hn]
    unfold nb_X4_settle_15
    have bg : B63 (Int.gcd p q : Int) := b63m hg.2
    rw [if_pos ((ge64 bg 1 (by omega)).mpr (by omega)), if_neg (fun z => by have := (e64 bg 0 (by omega)).mp z; omega), q64_divU (b63n bp) bg, q64_divU (b63n bq) bg]
    show (if q64 (Int.gcd p q : Int) = 0 then none else _) = _
    rw [if_neg (fun z => by have := (e64 bg 0 (by omega)).mp z; omega)]
    show ((m.2.2 16 2).bind _) = _
    rw [r2]
    show ((stL s m 17 (m.1 16 4 - 1) (q64 (p.tdiv (Int.gcd p q)))).bind _) = _
    rw [h1, show (1 : Int32) = q32 1 from rfl, q32_sub, show ((d + 1 : Nat) : Int) - 1 = (d : Int) by omega, stL_q (by rw [ln17 hp]; decide) (by rw [ln17 hp]; omega)]
    show (((wL m 17 d (q64 (p.tdiv (Int.gcd p q)))).2.2 16 3).bind _) = _
    rw [wL_3, r3]
    show ((stL s (wL m 17 d (q64 (p.tdiv (Int.gcd p q)))) 18 ((wL m 17 d (q64 (p.tdiv (Int.gcd p q)))).1 16 4 - q32 1) (q64 (q.tdiv (Int.gcd p q)))).bind _) = _
    rw [wL_1, h1, q32_sub, show ((d + 1 : Nat) : Int) - 1 = (d : Int) by omega, stL_q (by rw [ln18 hp]; decide) (by rw [ln18 hp]; omega)]
    show (if (1000000000 : Int64) < jabsL (q64 (p.tdiv (Int.gcd p q))) then _ else _) = _
    have bu : (p.tdiv (Int.gcd p q : Int)).natAbs < 9223372036854775808 := Nat.lt_of_le_of_lt tdiv_le bp
    rw [jabs bu]
    unfold big
    by_cases c1 : 1000000000 < (p.tdiv (Int.gcd p q : Int)).natAbs
    · rw [if_pos ((gt64 (b63m bu) 1000000000 (by omega)).mpr (by omega))]
      simp [c1]
    · rw [if_neg (fun z => by have := (gt64 (b63m bu) 1000000000 (by omega)).mp z; omega)]
      by_cases c2 : 1000000000 < q.tdiv (Int.gcd p q : Int)
      · rw [if_neg (fun z => by have := (le64 (b63d bq) 1000000000 (by omega)).mp z; omega)]
        simp [c2]
      · rw [if_pos ((le64 (b63d bq) 1000000000 (by omega)).mpr (by omega))]
        simp [c1, c2]
  · rw [wL_1, wL_1]; exact h1
  · rw [wL_2, wL_2]
    unfold up2
    by_cases e : k = d
    · subst e
      simp [wL_2]
    · simp [wL_2, e]
      exact h2 k hk
