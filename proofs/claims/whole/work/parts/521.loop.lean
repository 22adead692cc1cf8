/-! the law's loop -/
def ALL1 : List (Option Int32) → Prop
  | [] => True
  | o :: l => o = some 1 ∧ ALL1 l
theorem ALL1.at {D : Option Int32} (hD : D = some 1) : ∀ (l : List (Option Int32)) (i : Nat), ALL1 l → l.getD i D = some 1 := by
  intro l
  induction l with
  | nil => intro i _; exact hD
  | cons o l ih =>
    intro i h
    cases i with
    | zero => exact h.1
    | succ i => exact ih i h.2
theorem sw1 {x : Int32} {lo : Int} {l : List (Option Int32)} {D : Option Int32} (h : ALL1 l) (hD : D = some 1) : swN x lo l D = some 1 := by
  unfold swN
  split
  · exact ALL1.at hD l _ h
  · exact hD
theorem scr_q {xs : Nat → Int32} {Ls i : Nat} (hL : Ls ≤ 3072) (h : i < Ls) : scr xs Ls (q32 (i : Nat)) = some (xs i) := by
  unfold scr
  rw [tnc (by omega), if_pos ⟨nn32 (by omega), h⟩]
theorem law_go {F : Nat} (hF : 3000000 ≤ F) {xs : Nat → Int32} {Ls : Nat} (hL : Ls ≤ 3072) : ∀ k n t cs s m, Ls ≤ 6 * (t + k) + 5 → k < n → 6 * t ≤ Ls → INV s m → BG cs k m → lawL F xs Ls n cs (bl s m) 0 23 (q32 (6 * t : Nat)) = some 1 := by
  have of : Int32.ofNat Ls = q32 (Ls : Nat) := (Int32.ofInt_eq_ofNat).symm
  intro k
  induction k with
  | zero =>
    intro n t cs s m hk hn ht h hb
    obtain ⟨n, rfl⟩ : ∃ f, n = f + 1 := ⟨n - 1, by omega⟩
    show b_law_18 F xs Ls (lawL F xs Ls n) cs (bl s m) 0 23 _ = some 1
    unfold b_law_18
    rw [if_pos (by rw [of, show (6 : Int32) = q32 6 from rfl, q32_sub, q32_lt_t (by omega)]; trivial)]
  | succ k ih =>
    intro n t cs s m hk hn ht h hb
    obtain ⟨n, rfl⟩ : ∃ f, n = f + 1 := ⟨n - 1, by omega⟩
    show b_law_18 F xs Ls (lawL F xs Ls n) cs (bl s m) 0 23 _ = some 1
    unfold b_law_18
    by_cases c : Ls < 6 * t + 6
    · rw [if_pos (by rw [of, show (6 : Int32) = q32 6 from rfl, q32_sub, q32_lt_t (by omega)]; trivial)]
    rw [if_neg (by rw [of, show (6 : Int32) = q32 6 from rfl, q32_sub, q32_lt_f (by omega)]; exact fun h => h), scr_q hL (by omega), Option.bind_some]
    have pl : ∀ j : Nat, q32 (6 * t : Nat) + q32 (j : Nat) = q32 ((6 * t + j : Nat) : Int) := fun j => by rw [q32_add, Int.natCast_add]
    have he : SCR xs Ls (q32 (6 * t : Nat)) (xs (6 * t + 1)) (xs (6 * t + 2)) (xs (6 * t + 3)) (xs (6 * t + 4)) (xs (6 * t + 5)) := by
      refine ⟨?_, ?_, ?_, ?_, ?_⟩
      · rw [show (1 : Int32) = q32 ((1 : Nat) : Int) from rfl, pl]; exact scr_q hL (by omega)
      · rw [show (2 : Int32) = q32 ((2 : Nat) : Int) from rfl, pl]; exact scr_q hL (by omega)
      · rw [show (3 : Int32) = q32 ((3 : Nat) : Int) from rfl, pl]; exact scr_q hL (by omega)
      · rw [show (4 : Int32) = q32 ((4 : Nat) : Int) from rfl, pl]; exact scr_q hL (by omega)
      · rw [show (5 : Int32) = q32 ((5 : Nat) : Int) from rfl, pl]; exact scr_q hL (by omega)
    have hN : NXT (lawL F xs Ls n) k (q32 (6 * t : Nat) + 6) := fun cs' s' m' h' hb' => by
      rw [show (6 : Int32) = q32 ((6 : Nat) : Int) from rfl, pl]
      exact ih n (t + 1) cs' s' m' (by omega) (by omega) (by omega) h' hb'
    refine sw1 ⟨c_236 hF h hb he hN, c_299 hF h hb he hN, c_322 hF h hb he hN, c_345 hF h hb he hN, c_368 hF h hb he hN, c_401 hF h hb he hN, c_434 hF h hb he hN, c_457 hF h hb he hN, c_510 hF h hb he hN, c_533 hF h hb he hN, c_556 hF h hb he hN, c_589 hF h hb he hN, c_612 hF h hb he hN, c_645 hF h hb he hN, c_699 hF h hb he hN, c_743 hF h hb he hN, c_787 hF h hb he hN, c_810 hF h hb he hN, c_843 hF h hb he hN, c_886 hF h hb he hN, c_909 hF h hb he hN, c_942 hF h hb he hN, c_965 hF h hb he hN, c_1008 hF h hb he hN, c_1041 hF h hb he hN, c_1064 hF h hb he hN, c_1133 hF h hb he hN, c_1176 hF h hb he hN, c_1255 hF h hb he hN, c_1318 hF h hb he hN, c_1341 hF h hb he hN, c_1384 hF h hb he hN, c_1427 hF h hb he hN, c_1461 hF h hb he hN, c_1474 hF h hb he hN, c_1517 hF h hb he hN, c_1551 hF h hb he hN, c_1564 hF h hb he hN, c_1597 hF h hb he hN, c_1630 hF h hb he hN, c_1674 hF h hb he hN, c_1697 hF h hb he hN, c_1740 hF h hb he hN, c_1814 hF h hb he hN, c_1837 hF h hb he hN, c_1860 hF h hb he hN, c_1883 hF h hb he hN, trivial⟩ ?_
    exact hN cs s m h (hb.k rfl)
