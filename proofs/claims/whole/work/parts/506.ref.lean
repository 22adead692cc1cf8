/-! the reference's floor -/
def FTL (F : Nat) (s : List Sh) (m : Mem) (fc : Nat) (v : Int32) : Option (Unit × Mem) := bind2 (n_X10_goesOn F s m 23 (3 : Int32) v) fun _ m4 => (nl_X10_readFloor_118 F s F m4 23 (q32 (fc : Nat)) (Int64.toInt32 (m.2.1 23 15)) (Int64.toInt32 (m.2.1 23 16)) (0 : Int32))
theorem f41f {F : Nat} {s : List Sh} (hp : ∃ t, s = sB ++ t) {m : Mem} (hr : RF m) {fc : Nat} (h8 : fc ≤ 8) : ∀ n fuel i v, n < fuel → i + n = fc → ∃ v', nl_X10_readFloor_41 F s fuel m 23 (q32 (fc : Nat)) v (q32 (i : Nat)) = FTL F s m fc v' := by
  have l27 := ln27 hp
  have r4 := rf23_4 hr
  intro n
  induction n with
  | zero =>
    intro fuel i v hf hi
    obtain ⟨fuel, rfl⟩ : ∃ f, fuel = f + 1 := ⟨fuel - 1, by omega⟩
    refine ⟨v, ?_⟩
    show nb_X10_readFloor_41 F s (nl_X10_readFloor_41 F s fuel) m 23 _ v _ = _
    unfold nb_X10_readFloor_41
    rw [if_pos (by rw [q32_le_t (by omega)]; trivial)]
    rfl
  | succ n ih =>
    intro fuel i v hf hi
    obtain ⟨fuel, rfl⟩ : ∃ f, fuel = f + 1 := ⟨fuel - 1, by omega⟩
    have e9 : (9 : Int32) + q32 (i : Nat) = q32 ((9 + i : Nat) : Int) := by rw [show (9 : Int32) = q32 9 from rfl, q32_add, Int.natCast_add]; rfl
    have e17 : (17 : Int32) + q32 (i : Nat) = q32 ((17 + i : Nat) : Int) := by rw [show (17 : Int32) = q32 17 from rfl, q32_add, Int.natCast_add]; rfl
    have e1 : q32 (i : Int) + 1 = q32 ((i + 1 : Nat) : Int) := by rw [show (1 : Int32) = q32 1 from rfl, q32_add, Int.natCast_add]; rfl
    have key : ∀ w, ∃ v', nb_X10_readFloor_88 F s (nl_X10_readFloor_41 F s fuel) m 23 (q32 (fc : Nat)) (q32 (i : Nat)) v w = FTL F s m fc v' := fun w => by
      obtain ⟨v', h⟩ := ih fuel (i + 1) (v ||| w) (by omega) (by omega)
      refine ⟨v', ?_⟩
      unfold nb_X10_readFloor_88
      rw [bindv, bindv0, bindv, bindv0, e1]
      exact h
    show ∃ v', nb_X10_readFloor_41 F s (nl_X10_readFloor_41 F s fuel) m 23 _ v _ = _
    unfold nb_X10_readFloor_41 nb_X10_readFloor_87
    rw [if_neg (by rw [q32_le_f (by omega)]; exact fun h => h), r4, Option.bind_some, e9, rdI_q (by omega) (by omega), Option.bind_some]
    split
    · rw [Option.bind_some, e17, rdI_q (by omega) (by omega), Option.bind_some]
      split
      · exact key _
      · exact key _
    · exact key _
/-- the floors told before: is it one of them? -/
theorem f41 {F : Nat} {s : List Sh} (hp : ∃ t, s = sB ++ t) {m : Mem} (hr : RF m) {fc : Nat} (h8 : fc ≤ 8) {U L : Nat → Int} {u l : Int} (hU : ∀ k, k < fc → m.1 27 (9 + k) = q32 (U k) ∧ m.1 27 (17 + k) = q32 (L k) ∧ 0 ≤ U k ∧ U k ≤ 1000000 ∧ 1 ≤ L k ∧ L k ≤ 99) (hu : 0 ≤ u ∧ u ≤ 999) (hl : 1 ≤ l ∧ l ≤ 99) (h15 : m.2.1 23 15 = q64 u) (h16 : m.2.1 23 16 = q64 l) : ∀ n fuel i (v : Int), n < fuel → i + n = fc → (v = 0 ∨ v = 1) → nl_X10_readFloor_41 F s fuel m 23 (q32 (fc : Nat)) (q32 v) (q32 (i : Nat)) = FTL F s m fc (q32 (if v = 1 ∨ FAT U L u l n i ≠ -1 then 1 else 0)) := by
  have l27 := ln27 hp
  have r4 := rf23_4 hr
  intro n
  induction n with
  | zero =>
    intro fuel i v hf hi hv
    obtain ⟨fuel, rfl⟩ : ∃ f, fuel = f + 1 := ⟨fuel - 1, by omega⟩
    show nb_X10_readFloor_41 F s (nl_X10_readFloor_41 F s fuel) m 23 _ _ _ = _
    have : (if v = 1 ∨ FAT U L u l 0 i ≠ -1 then (1 : Int) else 0) = v := by
      unfold FAT
      rcases hv with rfl | rfl <;> decide
    rw [this]
    unfold nb_X10_readFloor_41
    rw [if_pos (by rw [q32_le_t (by omega)]; trivial)]
    rfl
  | succ n ih =>
    intro fuel i v hf hi hv
    obtain ⟨fuel, rfl⟩ : ∃ f, fuel = f + 1 := ⟨fuel - 1, by omega⟩
    have e9 : (9 : Int32) + q32 (i : Nat) = q32 ((9 + i : Nat) : Int) := by rw [show (9 : Int32) = q32 9 from rfl, q32_add, Int.natCast_add]; rfl
    have e17 : (17 : Int32) + q32 (i : Nat) = q32 ((17 + i : Nat) : Int) := by rw [show (17 : Int32) = q32 17 from rfl, q32_add, Int.natCast_add]; rfl
    have e1 : q32 (i : Int) + 1 = q32 ((i + 1 : Nat) : Int) := by rw [show (1 : Int32) = q32 1 from rfl, q32_add, Int.natCast_add]; rfl
    obtain ⟨a1, a2, a3, a4, a5, a6⟩ := hU i (by omega)
    show nb_X10_readFloor_41 F s (nl_X10_readFloor_41 F s fuel) m 23 _ _ _ = _
    unfold nb_X10_readFloor_41 nb_X10_readFloor_87 nb_X10_readFloor_88
    rw [if_neg (by rw [q32_le_f (by omega)]; exact fun h => h), r4, Option.bind_some, e9, rdI_q (by omega) (by omega), Option.bind_some, a1, h15, h16, q32_64 (by unfold B31; omega)]
    unfold FAT
    by_cases c : U i = u ∧ L i = l
    · rw [if_pos c, if_pos (by rw [c.1]), Option.bind_some, e17, rdI_q (by omega) (by omega), Option.bind_some, a2, q32_64 (by unfold B31; omega), if_pos (by rw [c.2]), bindv, bindv0, bindv, bindv0, e1]
      have hv1 : q32 v ||| 1 = q32 1 := by rcases hv with rfl | rfl <;> decide
      rw [hv1, ih fuel (i + 1) 1 (by omega) (by omega) (Or.inr rfl), if_pos (Or.inl rfl), if_pos (Or.inr (by omega))]
    · have hv0 : q32 v ||| 0 = q32 v := by rcases hv with rfl | rfl <;> decide
      rw [if_neg c]
      have g : (bindv (q32 v ||| (0 : Int32)) fun x1 => (bindv (q32 (i : Nat) + (1)) fun x2 => (nl_X10_readFloor_41 F s fuel m 23 (q32 (fc : Nat)) x1 x2))) = FTL F s m fc (q32 (if v = 1 ∨ FAT U L u l n (i + 1) ≠ -1 then 1 else 0)) := by
        rw [bindv, bindv0, bindv, bindv0, e1, hv0]
        exact ih fuel (i + 1) v (by omega) (by omega) hv
      by_cases c1 : U i = u
      · rw [if_pos (by rw [c1]), Option.bind_some, e17, rdI_q (by omega) (by omega), Option.bind_some, a2, q32_64 (by unfold B31; omega), if_neg (by rw [q64_eq_f (by have : L i ≠ l := fun h => c ⟨c1, h⟩; omega)]; exact fun h => h)]
        exact g
      · rw [if_neg (by rw [q64_eq_f (by omega)]; exact fun h => h)]
        exact g
theorem f118f {F : Nat} {s : List Sh} {m : Mem} {k p : Nat} (h : FLT10 m k p) {v1 v3 v4 : Int32} : ∀ n fuel z, n < fuel → z + n = 3 → nl_X10_readFloor_118 F s fuel m 23 v1 v3 v4 (q32 (z : Nat)) = some ((), m) := by
  intro n
  induction n with
  | zero =>
    intro fuel z hf hz
    obtain ⟨fuel, rfl⟩ : ∃ f, fuel = f + 1 := ⟨fuel - 1, by omega⟩
    show nb_X10_readFloor_118 F s (nl_X10_readFloor_118 F s fuel) m 23 _ _ _ _ = _
    unfold nb_X10_readFloor_118
    rw [if_pos (by rw [show (3 : Int32) = q32 3 from rfl, q32_le_t (by omega)]; trivial), if_neg (flt_ne h)]
  | succ n ih =>
    intro fuel z hf hz
    obtain ⟨fuel, rfl⟩ : ∃ f, fuel = f + 1 := ⟨fuel - 1, by omega⟩
    show nb_X10_readFloor_118 F s (nl_X10_readFloor_118 F s fuel) m 23 _ _ _ _ = _
    unfold nb_X10_readFloor_118 nb_X10_readFloor_157
    rw [if_neg (by rw [show (3 : Int32) = q32 3 from rfl, q32_le_f (by omega)]; exact fun h => h), tak10f h, bind2_s, if_neg (flt_ne h), bindv, bindv0, show q32 (z : Int) + 1 = q32 ((z + 1 : Nat) : Int) by rw [show (1 : Int32) = q32 1 from rfl, q32_add, Int.natCast_add]; rfl]
    exact ih fuel (z + 1) (by omega) (by omega)
theorem goe10f {F : Nat} {s : List Sh} {m : Mem} {k p : Nat} (h : FLT10 m k p) (a b : Int32) : n_X10_goesOn F s m 23 a b = some ((), m) := by
  unfold n_X10_goesOn nb_X10_goesOn_0 nb_X10_goesOn_17
  rw [is10f h, Option.bind_some, if_pos rfl, eat10f h, bind2_s, if_pos rfl, fai10f h, bind2_s]
/-- three numbers of stuff -/
theorem stf10 {F : Nat} (hF : 20000 ≤ F) {s : List Sh} (hp : ∃ t, s = sB ++ t) {m : Mem} (hr : RF m) {T : Nat → Int} {N K j z fuel fc : Nat} (hK : TKE T N K) (h8 : fc < 8) (hz : z < 3) (hfu : 5 ≤ fuel) (hc : CN10 s m T N K j) {v3 v4 : Int32} : match numW (kdF T N) (amF T N) j 0 99 with
  | .inl (k, j') => j' < K ∧ ∃ m', nl_X10_readFloor_118 F s (fuel + 1) m 23 (q32 (fc : Nat)) v3 v4 (q32 (z : Nat)) = some ((), m') ∧ KL10 m m' ∧ FLT10 m' k (tpos T N j')
  | .inr (j', v) => j < j' ∧ j' < K ∧ 0 ≤ v ∧ v ≤ 999 ∧ ∃ m', KX m m' ∧ CN10 s (wI m' 27 (25 + 8 * z + fc) (q32 v)) T N K j' ∧ nl_X10_readFloor_118 F s (fuel + 1) m 23 (q32 (fc : Nat)) v3 v4 (q32 (z : Nat)) = nl_X10_readFloor_118 F s fuel (wI m' 27 (25 + 8 * z + fc) (q32 v)) 23 (q32 (fc : Nat)) v3 v4 (q32 ((z + 1 : Nat) : Int)) := by
  have l27 := ln27 hp
  have t1 := tak10 hF hK hc (lo := 0) (hh := 99) (by omega) (by omega)
  have ez : q32 (z : Int) + 1 = q32 ((z + 1 : Nat) : Int) := by rw [show (1 : Int32) = q32 1 from rfl, q32_add, Int.natCast_add]; rfl
  have ei : ((((25 : Int32) + (((8 : Int32) * q32 (z : Nat))))) + q32 (fc : Nat)) = q32 ((25 + 8 * z + fc : Nat) : Int) := by
    rw [show (25 : Int32) = q32 25 from rfl, show (8 : Int32) = q32 8 from rfl, q32_mul, q32_add, q32_add, Int.natCast_add, Int.natCast_add, Int.natCast_mul]; rfl
  have hd : nl_X10_readFloor_118 F s (fuel + 1) m 23 (q32 (fc : Nat)) v3 v4 (q32 (z : Nat)) = nb_X10_readFloor_118 F s (nl_X10_readFloor_118 F s fuel) m 23 (q32 (fc : Nat)) v3 v4 (q32 (z : Nat)) := rfl
  rw [hd]
  unfold nb_X10_readFloor_118 nb_X10_readFloor_157
  rw [if_neg (by rw [show (3 : Int32) = q32 3 from rfl, q32_le_f (by omega)]; exact fun h => h)]
  cases e1 : numW (kdF T N) (amF T N) j 0 99 with
  | inl p =>
    obtain ⟨k, j'⟩ := p
    rw [e1] at t1
    obtain ⟨a0, x, m1, a1, a2, a3⟩ := t1
    have a1' : n_X10_takes F s m 23 (0 : Int32) (99 : Int32) = some (x, m1) := a1
    refine ⟨a0, m1, ?_, a2.kl, a3⟩
    rw [a1', bind2_s, if_neg (flt_ne a3), bindv, bindv0, ez]
    exact f118f a3 (2 - z) fuel (z + 1) (by omega) (by omega)
  | inr p =>
    obtain ⟨j', v⟩ := p
    rw [e1] at t1
    obtain ⟨a0, a00, v0, v1, m1, a1, a2, a3⟩ := t1
    have a1' : n_X10_takes F s m 23 (0 : Int32) (99 : Int32) = some (q32 v, m1) := a1
    have r4 : m1.2.2 23 4 = some 27 := by rw [a2.2]; exact rf23_4 hr
    refine ⟨a0, a00, v0, v1, m1, a2, a3.I (Or.inl rfl), ?_⟩
    rw [a1', bind2_s, a3.2.1, if_pos (show q32 0 = (0 : Int32) from rfl), r4, Option.bind_some, ei, stI_q (by omega) (by omega), Option.bind_some, bindv, bindv0, ez]
