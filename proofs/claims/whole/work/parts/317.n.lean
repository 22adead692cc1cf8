/-! FractionLiftModel.ends(I)I over the memory -/
def nb_X10_ends_0 (F : Nat) (s : List Sh) (m : Mem) (v0 : Nat) (v1 : Int32) : Option (Int32 × Mem) := bindv (wI m v0 0 (0 : Int32)) fun m1 => (bind2 (n_X10_noOdds F s m1 v0 v1 (1 : Int32)) fun x2 m3 => (if x2 = 0 then (some ((m3.1 v0 51), m3)) else (some (x2, m3))))
set_option maxRecDepth 20000 in
theorem u_X10_ends_0 {F : Nat} {s : List Sh} {m m' : Mem} {r : Int32} {v0 : Nat} {v1 : Int32} (hw : GS s m) (o_v0 : ok s v0 10) (hf : nb_X10_ends_0 F s m v0 v1 = some (r, m')) : J3 (b_X10_ends_0 F (bl s m) v0 v1) (r, bl s m') (GS s m') := by
  unfold nb_X10_ends_0 at hf
  unfold b_X10_ends_0
  refine k_pI hw (ok_o o_v0 (by decide)) rfl hf fun m1 hw hf => ?_
  refine k_cO (ok_o o_v0 (by decide)) ?_
  refine ob2 hf fun x2 m3 ex hf => ?_
  refine k_b2 (un_X10_noOdds hw o_v0 ex) fun hw => ?_
  refine k_if hf (fun hf => ?_) (fun hf => ?_)
  · refine k_gI (ok_o o_v0 (by decide)) rfl ?_
    exact k_ret hw hf
  · exact k_ret hw hf
def n_X10_ends (F : Nat) (s : List Sh) (m : Mem) (p0 : Nat) (p1 : Int32) : Option (Int32 × Mem) := nb_X10_ends_0 F s m p0 p1
theorem un_X10_ends {F : Nat} {s : List Sh} {m m' : Mem} {p0 : Nat} {p1 : Int32} {r : Int32} (hw : GS s m) (o_p0 : ok s p0 10) (ex : n_X10_ends F s m p0 p1 = some (r, m')) : J3 (m_X10_ends F (bl s m) p0 p1) (r, bl s m') (GS s m') := u_X10_ends_0 hw o_p0 ex
/-! FractionLiftModel.numbers(III)I over the memory -/
def nb_X10_numbers_64 (F : Nat) (s : List Sh) (nself37 : Mem → Nat → Int32 → Int32 → Int32 → Option (Int32 × Mem)) (m : Mem) (v0 : Nat) (v1 : Int32) (v3 : Int32) (v4 : Int32) : Option (Int32 × Mem) := if v3 ≤ v4 then (some ((0 : Int32), m)) else ((m.2.2 v0 54).bind fun a1 => ((stL s m a1 (((((40 : Int32) * v1)) + v4)) (0 : Int64)).bind fun m2 => (bindv (v4 + (1)) fun x3 => (nself37 m2 v0 v1 v3 x3))))
set_option maxRecDepth 20000 in
theorem ub_X10_numbers_64 {F : Nat} {s : List Sh} {self37 : PH → Nat → Int32 → Int32 → Int32 → Option (Int32 × PH)} {nself37 : Mem → Nat → Int32 → Int32 → Int32 → Option (Int32 × Mem)} {m m' : Mem} {r : Int32} {v0 : Nat} {v1 : Int32} {v3 : Int32} {v4 : Int32} (hw : GS s m) (o_v0 : ok s v0 10) (ih37 : ∀ (m : Mem) (v0 : Nat) (v1 : Int32) (v3 : Int32) (v4 : Int32), GS s m → ok s v0 10 → nself37 m v0 v1 v3 v4 = some (r, m') → J3 (self37 (bl s m) v0 v1 v3 v4) (r, bl s m') (GS s m')) (hf : nb_X10_numbers_64 F s nself37 m v0 v1 v3 v4 = some (r, m')) : J3 (b_X10_numbers_64 F self37 (bl s m) v0 v1 v3 v4) (r, bl s m') (GS s m') := by
  unfold nb_X10_numbers_64 at hf
  unfold b_X10_numbers_64
  refine k_if hf (fun hf => ?_) (fun hf => ?_)
  · exact k_ret hw hf
  · refine k_gR hw (ok_o o_v0 (by decide)) rfl hf fun a1 o_a1 hf => ?_
    refine k_sL hw (ka rfl o_a1) hf fun m2 hw hf => ?_
    refine k_bv hf fun x3 hf => ?_
    exact ih37 _ _ _ _ _ hw o_v0 hf
def nl_X10_numbers_64 (F : Nat) (s : List Sh) : Nat → Mem → Nat → Int32 → Int32 → Int32 → Option (Int32 × Mem)
  | 0 => fun _ _ _ _ _ => none
  | n + 1 => fun m v0 v1 v3 v4 => nb_X10_numbers_64 F s (nl_X10_numbers_64 F s n) m v0 v1 v3 v4
theorem ul_X10_numbers_64 {F : Nat} {s : List Sh} {m' : Mem} {r : Int32} (n : Nat) : ∀ (m : Mem) (v0 : Nat) (v1 : Int32) (v3 : Int32) (v4 : Int32), GS s m → ok s v0 10 → nl_X10_numbers_64 F s n m v0 v1 v3 v4 = some (r, m') → J3 (l_X10_numbers_64 F n (bl s m) v0 v1 v3 v4) (r, bl s m') (GS s m') := by
  induction n with
  | zero => intro m v0 v1 v3 v4 hw o_v0 hf; cases hf
  | succ n ih => intro m v0 v1 v3 v4 hw o_v0 hf; exact ub_X10_numbers_64 (F := F) hw o_v0 ih hf
def nb_X10_numbers_0 (F : Nat) (s : List Sh) (m : Mem) (v0 : Nat) (v1 : Int32) (v2 : Int32) (v3 : Int32) : Option (Int32 × Mem) := bindv (wI m v0 0 (0 : Int32)) fun m1 => ((m_X10_within (Int32.toInt64 v1) (0 : Int64) (3 : Int64)).bind fun x2 => (if x2 = 0 then (some ((-2 : Int32), m1)) else ((m_X10_within (Int32.toInt64 v2) (0 : Int64) (3 : Int64)).bind fun x3 => (if x3 = 0 then (some ((-2 : Int32), m1)) else ((m_X10_within (Int32.toInt64 v3) (0 : Int64) (40 : Int64)).bind fun x4 => (if x4 = 0 then (some ((-3 : Int32), m1)) else ((m1.2.2 v0 52).bind fun a5 => ((stI s m1 a5 v1 v2).bind fun m6 => ((m6.2.2 v0 53).bind fun a7 => ((stI s m6 a7 v1 v3).bind fun m8 => (nl_X10_numbers_64 F s F m8 v0 v1 v3 (0 : Int32))))))))))))
set_option maxRecDepth 20000 in
theorem u_X10_numbers_0 {F : Nat} {s : List Sh} {m m' : Mem} {r : Int32} {v0 : Nat} {v1 : Int32} {v2 : Int32} {v3 : Int32} (hw : GS s m) (o_v0 : ok s v0 10) (hf : nb_X10_numbers_0 F s m v0 v1 v2 v3 = some (r, m')) : J3 (b_X10_numbers_0 F (bl s m) v0 v1 v2 v3) (r, bl s m') (GS s m') := by
  unfold nb_X10_numbers_0 at hf
  unfold b_X10_numbers_0
  refine k_pI hw (ok_o o_v0 (by decide)) rfl hf fun m1 hw hf => ?_
  refine k_pure hf fun x2 hf => ?_
  refine k_if hf (fun hf => ?_) (fun hf => ?_)
  · exact k_ret hw hf
  · refine k_pure hf fun x3 hf => ?_
    refine k_if hf (fun hf => ?_) (fun hf => ?_)
    · exact k_ret hw hf
    · refine k_pure hf fun x4 hf => ?_
      refine k_if hf (fun hf => ?_) (fun hf => ?_)
      · exact k_ret hw hf
      · refine k_gR hw (ok_o o_v0 (by decide)) rfl hf fun a5 o_a5 hf => ?_
        refine k_sI hw (ka rfl o_a5) hf fun m6 hw hf => ?_
        refine k_gR hw (ok_o o_v0 (by decide)) rfl hf fun a7 o_a7 hf => ?_
        refine k_sI hw (ka rfl o_a7) hf fun m8 hw hf => ?_
        exact ul_X10_numbers_64 F _ _ _ _ _ hw o_v0 hf
def n_X10_numbers (F : Nat) (s : List Sh) (m : Mem) (p0 : Nat) (p1 : Int32) (p2 : Int32) (p3 : Int32) : Option (Int32 × Mem) := nb_X10_numbers_0 F s m p0 p1 p2 p3
theorem un_X10_numbers {F : Nat} {s : List Sh} {m m' : Mem} {p0 : Nat} {p1 : Int32} {p2 : Int32} {p3 : Int32} {r : Int32} (hw : GS s m) (o_p0 : ok s p0 10) (ex : n_X10_numbers F s m p0 p1 p2 p3 = some (r, m')) : J3 (m_X10_numbers F (bl s m) p0 p1 p2 p3) (r, bl s m') (GS s m') := u_X10_numbers_0 hw o_p0 ex
/-! FractionLiftModel.write(IIJ)J over the memory -/
def nb_X10_write_0 (s : List Sh) (m : Mem) (v0 : Nat) (v1 : Int32) (v2 : Int32) (v3 : Int64) : Option (Int64 × Mem) := bindv (wI m v0 0 (0 : Int32)) fun m1 => ((m_X10_within (Int32.toInt64 v1) (0 : Int64) (3 : Int64)).bind fun x2 => (if x2 = 0 then (some ((-2 : Int64), m1)) else ((m1.2.2 v0 52).bind fun a3 => ((rdI s m1 a3 v1).bind fun x4 => (if x4 = (-1 : Int32) then (some ((-6 : Int64), m1)) else ((m1.2.2 v0 53).bind fun a5 => ((rdI s m1 a5 v1).bind fun x6 => ((m_X10_within (Int32.toInt64 v2) (0 : Int64) ((Int32.toInt64 ((x6 - (1 : Int32)))))).bind fun x7 => (if x7 = 0 then (some ((-7 : Int64), m1)) else ((m1.2.2 v0 54).bind fun a8 => ((m1.2.2 v0 52).bind fun a9 => ((rdI s m1 a9 v1).bind fun x10 => ((m_X10_cut v3 x10).bind fun x11 => ((stL s m1 a8 (((((40 : Int32) * v1)) + v2)) x11).bind fun m12 => ((m12.2.2 v0 54).bind fun a13 => ((rdL s m12 a13 (((((40 : Int32) * v1)) + v2))).bind fun x14 => (some (x14, m12))))))))))))))))))
set_option maxRecDepth 20000 in
theorem u_X10_write_0 {s : List Sh} {m m' : Mem} {r : Int64} {v0 : Nat} {v1 : Int32} {v2 : Int32} {v3 : Int64} (hw : GS s m) (o_v0 : ok s v0 10) (hf : nb_X10_write_0 s m v0 v1 v2 v3 = some (r, m')) : J3 (b_X10_write_0 (bl s m) v0 v1 v2 v3) (r, bl s m') (GS s m') := by
  unfold nb_X10_write_0 at hf
  unfold b_X10_write_0
  refine k_pI hw (ok_o o_v0 (by decide)) rfl hf fun m1 hw hf => ?_
  refine k_pure hf fun x2 hf => ?_
  refine k_if hf (fun hf => ?_) (fun hf => ?_)
  · exact k_ret hw hf
  · refine k_gR hw (ok_o o_v0 (by decide)) rfl hf fun a3 o_a3 hf => ?_
    refine k_aI (Or.inl rfl) (ka rfl o_a3) hf fun x4 hf => ?_
    refine k_if hf (fun hf => ?_) (fun hf => ?_)
    · exact k_ret hw hf
    · refine k_gR hw (ok_o o_v0 (by decide)) rfl hf fun a5 o_a5 hf => ?_
      refine k_aI (Or.inl rfl) (ka rfl o_a5) hf fun x6 hf => ?_
      refine k_pure hf fun x7 hf => ?_
      refine k_if hf (fun hf => ?_) (fun hf => ?_)
      · exact k_ret hw hf
      · refine k_gR hw (ok_o o_v0 (by decide)) rfl hf fun a8 o_a8 hf => ?_
        refine k_gR hw (ok_o o_v0 (by decide)) rfl hf fun a9 o_a9 hf => ?_
        refine k_aI (Or.inl rfl) (ka rfl o_a9) hf fun x10 hf => ?_
        refine k_pure hf fun x11 hf => ?_
        refine k_sL hw (ka rfl o_a8) hf fun m12 hw hf => ?_
        refine k_gR hw (ok_o o_v0 (by decide)) rfl hf fun a13 o_a13 hf => ?_
        refine k_aL (ka rfl o_a13) hf fun x14 hf => ?_
        exact k_ret hw hf
def n_X10_write (s : List Sh) (m : Mem) (p0 : Nat) (p1 : Int32) (p2 : Int32) (p3 : Int64) : Option (Int64 × Mem) := nb_X10_write_0 s m p0 p1 p2 p3
theorem un_X10_write {s : List Sh} {m m' : Mem} {p0 : Nat} {p1 : Int32} {p2 : Int32} {p3 : Int64} {r : Int64} (hw : GS s m) (o_p0 : ok s p0 10) (ex : n_X10_write s m p0 p1 p2 p3 = some (r, m')) : J3 (m_X10_write (bl s m) p0 p1 p2 p3) (r, bl s m') (GS s m') := u_X10_write_0 hw o_p0 ex
/-! FractionLiftModel.copy(I)I over the memory -/
def nb_X10_copy_78 (F : Nat) (s : List Sh) (nself47 : Mem → Nat → Int32 → Int32 → Int32 → Option (Int32 × Mem)) (m : Mem) (v0 : Nat) (v1 : Int32) (v3 : Int32) (v4 : Int32) : Option (Int32 × Mem) := if v3 ≤ v4 then (some (v3, m)) else ((m.2.2 v0 54).bind fun a1 => ((m.2.2 v0 41).bind fun a2 => ((rdI s m a2 v4).bind fun x3 => ((m.2.2 v0 52).bind fun a4 => ((rdI s m a4 v1).bind fun x5 => ((m_X10_cut (Int32.toInt64 x3) x5).bind fun x6 => ((stL s m a1 (((((40 : Int32) * v1)) + v4)) x6).bind fun m7 => (bindv (v4 + (1)) fun x8 => (nself47 m7 v0 v1 v3 x8)))))))))
set_option maxRecDepth 20000 in
theorem ub_X10_copy_78 {F : Nat} {s : List Sh} {self47 : PH → Nat → Int32 → Int32 → Int32 → Option (Int32 × PH)} {nself47 : Mem → Nat → Int32 → Int32 → Int32 → Option (Int32 × Mem)} {m m' : Mem} {r : Int32} {v0 : Nat} {v1 : Int32} {v3 : Int32} {v4 : Int32} (hw : GS s m) (o_v0 : ok s v0 10) (ih47 : ∀ (m : Mem) (v0 : Nat) (v1 : Int32) (v3 : Int32) (v4 : Int32), GS s m → ok s v0 10 → nself47 m v0 v1 v3 v4 = some (r, m') → J3 (self47 (bl s m) v0 v1 v3 v4) (r, bl s m') (GS s m')) (hf : nb_X10_copy_78 F s nself47 m v0 v1 v3 v4 = some (r, m')) : J3 (b_X10_copy_78 F self47 (bl s m) v0 v1 v3 v4) (r, bl s m') (GS s m') := by
  unfold nb_X10_copy_78 at hf
  unfold b_X10_copy_78
  refine k_if hf (fun hf => ?_) (fun hf => ?_)
  · exact k_ret hw hf
  · refine k_gR hw (ok_o o_v0 (by decide)) rfl hf fun a1 o_a1 hf => ?_
    refine k_gR hw (ok_o o_v0 (by decide)) rfl hf fun a2 o_a2 hf => ?_
    refine k_aI (Or.inl rfl) (ka rfl o_a2) hf fun x3 hf => ?_
    refine k_gR hw (ok_o o_v0 (by decide)) rfl hf fun a4 o_a4 hf => ?_
    refine k_aI (Or.inl rfl) (ka rfl o_a4) hf fun x5 hf => ?_
    refine k_pure hf fun x6 hf => ?_
    refine k_sL hw (ka rfl o_a1) hf fun m7 hw hf => ?_
    refine k_bv hf fun x8 hf => ?_
    exact ih47 _ _ _ _ _ hw o_v0 hf
def nl_X10_copy_78 (F : Nat) (s : List Sh) : Nat → Mem → Nat → Int32 → Int32 → Int32 → Option (Int32 × Mem)
  | 0 => fun _ _ _ _ _ => none
  | n + 1 => fun m v0 v1 v3 v4 => nb_X10_copy_78 F s (nl_X10_copy_78 F s n) m v0 v1 v3 v4
theorem ul_X10_copy_78 {F : Nat} {s : List Sh} {m' : Mem} {r : Int32} (n : Nat) : ∀ (m : Mem) (v0 : Nat) (v1 : Int32) (v3 : Int32) (v4 : Int32), GS s m → ok s v0 10 → nl_X10_copy_78 F s n m v0 v1 v3 v4 = some (r, m') → J3 (l_X10_copy_78 F n (bl s m) v0 v1 v3 v4) (r, bl s m') (GS s m') := by
  induction n with
  | zero => intro m v0 v1 v3 v4 hw o_v0 hf; cases hf
  | succ n ih => intro m v0 v1 v3 v4 hw o_v0 hf; exact ub_X10_copy_78 (F := F) hw o_v0 ih hf
def nb_X10_copy_74 (F : Nat) (s : List Sh) (m : Mem) (v0 : Nat) (v1 : Int32) (s0 : Int32) : Option (Int32 × Mem) := nl_X10_copy_78 F s F m v0 v1 s0 (0 : Int32)
set_option maxRecDepth 20000 in
theorem u_X10_copy_74 {F : Nat} {s : List Sh} {m m' : Mem} {r : Int32} {v0 : Nat} {v1 : Int32} {s0 : Int32} (hw : GS s m) (o_v0 : ok s v0 10) (hf : nb_X10_copy_74 F s m v0 v1 s0 = some (r, m')) : J3 (b_X10_copy_74 F (bl s m) v0 v1 s0) (r, bl s m') (GS s m') := by
  unfold nb_X10_copy_74 at hf
  unfold b_X10_copy_74
  exact ul_X10_copy_78 F _ _ _ _ _ hw o_v0 hf
def nb_X10_copy_0 (F : Nat) (s : List Sh) (m : Mem) (v0 : Nat) (v1 : Int32) : Option (Int32 × Mem) := bindv (wI m v0 0 (0 : Int32)) fun m1 => ((m_X10_within (Int32.toInt64 v1) (0 : Int64) (3 : Int64)).bind fun x2 => (if x2 = 0 then (some ((-2 : Int32), m1)) else ((m1.2.2 v0 52).bind fun a3 => ((rdI s m1 a3 v1).bind fun x4 => (if x4 = (-1 : Int32) then (some ((-6 : Int32), m1)) else ((m1.2.2 v0 1).bind fun a5 => ((rdI s m1 a5 (7 : Int32)).bind fun x6 => ((m1.2.2 v0 1).bind fun a7 => ((rdI s m1 a7 (8 : Int32)).bind fun x8 => (bind2 (n_X10_laysAddress F s m1 v0 (Int32.toInt64 x6) (Int32.toInt64 x8)) fun x9 m10 => ((m10.2.2 v0 53).bind fun a11 => ((rdI s m10 a11 v1).bind fun x12 => (if x12 ≤ x9 then ((m10.2.2 v0 53).bind fun a13 => ((rdI s m10 a13 v1).bind fun x14 => (nb_X10_copy_74 F s m10 v0 v1 x14))) else (nb_X10_copy_74 F s m10 v0 v1 x9))))))))))))))
set_option maxRecDepth 20000 in
theorem u_X10_copy_0 {F : Nat} {s : List Sh} {m m' : Mem} {r : Int32} {v0 : Nat} {v1 : Int32} (hw : GS s m) (o_v0 : ok s v0 10) (hf : nb_X10_copy_0 F s m v0 v1 = some (r, m')) : J3 (b_X10_copy_0 F (bl s m) v0 v1) (r, bl s m') (GS s m') := by
  unfold nb_X10_copy_0 at hf
  unfold b_X10_copy_0
  refine k_pI hw (ok_o o_v0 (by decide)) rfl hf fun m1 hw hf => ?_
  refine k_pure hf fun x2 hf => ?_
  refine k_if hf (fun hf => ?_) (fun hf => ?_)
  · exact k_ret hw hf
  · refine k_gR hw (ok_o o_v0 (by decide)) rfl hf fun a3 o_a3 hf => ?_
    refine k_aI (Or.inl rfl) (ka rfl o_a3) hf fun x4 hf => ?_
    refine k_if hf (fun hf => ?_) (fun hf => ?_)
    · exact k_ret hw hf
    · refine k_gR hw (ok_o o_v0 (by decide)) rfl hf fun a5 o_a5 hf => ?_
      refine k_aI (Or.inl rfl) (ka rfl o_a5) hf fun x6 hf => ?_
      refine k_gR hw (ok_o o_v0 (by decide)) rfl hf fun a7 o_a7 hf => ?_
      refine k_aI (Or.inl rfl) (ka rfl o_a7) hf fun x8 hf => ?_
      refine k_cO (ok_o o_v0 (by decide)) ?_
      refine ob2 hf fun x9 m10 ex hf => ?_
      refine k_b2 (un_X10_laysAddress hw o_v0 ex) fun hw => ?_
      refine k_gR hw (ok_o o_v0 (by decide)) rfl hf fun a11 o_a11 hf => ?_
      refine k_aI (Or.inl rfl) (ka rfl o_a11) hf fun x12 hf => ?_
      refine k_if hf (fun hf => ?_) (fun hf => ?_)
      · refine k_gR hw (ok_o o_v0 (by decide)) rfl hf fun a13 o_a13 hf => ?_
        refine k_aI (Or.inl rfl) (ka rfl o_a13) hf fun x14 hf => ?_
        exact u_X10_copy_74 hw o_v0 hf
      · exact u_X10_copy_74 hw o_v0 hf
def n_X10_copy (F : Nat) (s : List Sh) (m : Mem) (p0 : Nat) (p1 : Int32) : Option (Int32 × Mem) := nb_X10_copy_0 F s m p0 p1
theorem un_X10_copy {F : Nat} {s : List Sh} {m m' : Mem} {p0 : Nat} {p1 : Int32} {r : Int32} (hw : GS s m) (o_p0 : ok s p0 10) (ex : n_X10_copy F s m p0 p1 = some (r, m')) : J3 (m_X10_copy F (bl s m) p0 p1) (r, bl s m') (GS s m') := u_X10_copy_0 hw o_p0 ex
/-! FractionLiftModel.image(I)I over the memory -/
def nb_X10_image_20 (F : Nat) (s : List Sh) (nself13 : Mem → Nat → Int32 → Int32 → Option (Int32 × Mem)) (m : Mem) (v0 : Nat) (v1 : Int32) (v2 : Int32) : Option (Int32 × Mem) := if (999 : Int32) ≤ v2 then ((m.2.2 v0 2).bind fun a1 => ((stZ s m a1 v1 (1 : Int32)).bind fun m2 => (some ((0 : Int32), m2)))) else ((m.2.2 v0 1).bind fun a3 => ((m.2.2 v0 1).bind fun a4 => ((rdI s m a4 v2).bind fun x5 => ((stI s m a3 (((((999 : Int32) * ((v1 + (1 : Int32))))) + v2)) x5).bind fun m6 => (bindv (v2 + (1)) fun x7 => (nself13 m6 v0 v1 x7))))))
set_option maxRecDepth 20000 in
theorem ub_X10_image_20 {F : Nat} {s : List Sh} {self13 : PH → Nat → Int32 → Int32 → Option (Int32 × PH)} {nself13 : Mem → Nat → Int32 → Int32 → Option (Int32 × Mem)} {m m' : Mem} {r : Int32} {v0 : Nat} {v1 : Int32} {v2 : Int32} (hw : GS s m) (o_v0 : ok s v0 10) (ih13 : ∀ (m : Mem) (v0 : Nat) (v1 : Int32) (v2 : Int32), GS s m → ok s v0 10 → nself13 m v0 v1 v2 = some (r, m') → J3 (self13 (bl s m) v0 v1 v2) (r, bl s m') (GS s m')) (hf : nb_X10_image_20 F s nself13 m v0 v1 v2 = some (r, m')) : J3 (b_X10_image_20 F self13 (bl s m) v0 v1 v2) (r, bl s m') (GS s m') := by
  unfold nb_X10_image_20 at hf
  unfold b_X10_image_20
  refine k_if hf (fun hf => ?_) (fun hf => ?_)
  · refine k_gR hw (ok_o o_v0 (by decide)) rfl hf fun a1 o_a1 hf => ?_
    refine k_sZ hw (ka rfl o_a1) hf fun m2 hw hf => ?_
    exact k_ret hw hf
  · refine k_gR hw (ok_o o_v0 (by decide)) rfl hf fun a3 o_a3 hf => ?_
    refine k_gR hw (ok_o o_v0 (by decide)) rfl hf fun a4 o_a4 hf => ?_
    refine k_aI (Or.inl rfl) (ka rfl o_a4) hf fun x5 hf => ?_
    refine k_sI hw (ka rfl o_a3) hf fun m6 hw hf => ?_
    refine k_bv hf fun x7 hf => ?_
    exact ih13 _ _ _ _ hw o_v0 hf
def nl_X10_image_20 (F : Nat) (s : List Sh) : Nat → Mem → Nat → Int32 → Int32 → Option (Int32 × Mem)
  | 0 => fun _ _ _ _ => none
  | n + 1 => fun m v0 v1 v2 => nb_X10_image_20 F s (nl_X10_image_20 F s n) m v0 v1 v2
theorem ul_X10_image_20 {F : Nat} {s : List Sh} {m' : Mem} {r : Int32} (n : Nat) : ∀ (m : Mem) (v0 : Nat) (v1 : Int32) (v2 : Int32), GS s m → ok s v0 10 → nl_X10_image_20 F s n m v0 v1 v2 = some (r, m') → J3 (l_X10_image_20 F n (bl s m) v0 v1 v2) (r, bl s m') (GS s m') := by
  induction n with
  | zero => intro m v0 v1 v2 hw o_v0 hf; cases hf
  | succ n ih => intro m v0 v1 v2 hw o_v0 hf; exact ub_X10_image_20 (F := F) hw o_v0 ih hf
def nb_X10_image_0 (F : Nat) (s : List Sh) (m : Mem) (v0 : Nat) (v1 : Int32) : Option (Int32 × Mem) := bindv (wI m v0 0 (0 : Int32)) fun m1 => ((m_X10_within (Int32.toInt64 v1) (0 : Int64) (1 : Int64)).bind fun x2 => (if x2 = 0 then (some ((-2 : Int32), m1)) else (nl_X10_image_20 F s F m1 v0 v1 (0 : Int32))))
set_option maxRecDepth 20000 in
theorem u_X10_image_0 {F : Nat} {s : List Sh} {m m' : Mem} {r : Int32} {v0 : Nat} {v1 : Int32} (hw : GS s m) (o_v0 : ok s v0 10) (hf : nb_X10_image_0 F s m v0 v1 = some (r, m')) : J3 (b_X10_image_0 F (bl s m) v0 v1) (r, bl s m') (GS s m') := by
  unfold nb_X10_image_0 at hf
  unfold b_X10_image_0
  refine k_pI hw (ok_o o_v0 (by decide)) rfl hf fun m1 hw hf => ?_
  refine k_pure hf fun x2 hf => ?_
  refine k_if hf (fun hf => ?_) (fun hf => ?_)
  · exact k_ret hw hf
  · exact ul_X10_image_20 F _ _ _ _ hw o_v0 hf
def n_X10_image (F : Nat) (s : List Sh) (m : Mem) (p0 : Nat) (p1 : Int32) : Option (Int32 × Mem) := nb_X10_image_0 F s m p0 p1
theorem un_X10_image {F : Nat} {s : List Sh} {m m' : Mem} {p0 : Nat} {p1 : Int32} {r : Int32} (hw : GS s m) (o_p0 : ok s p0 10) (ex : n_X10_image F s m p0 p1 = some (r, m')) : J3 (m_X10_image F (bl s m) p0 p1) (r, bl s m') (GS s m') := u_X10_image_0 hw o_p0 ex
/-! FractionLiftModel.restore(I)I over the memory -/
def nb_X10_restore_32 (F : Nat) (s : List Sh) (nself20 : Mem → Nat → Int32 → Int32 → Option (Int32 × Mem)) (m : Mem) (v0 : Nat) (v1 : Int32) (v2 : Int32) : Option (Int32 × Mem) := if (999 : Int32) ≤ v2 then ((m.2.2 v0 1).bind fun a1 => ((stI s m a1 (73 : Int32) (0 : Int32)).bind fun m2 => (some ((0 : Int32), m2)))) else ((m.2.2 v0 1).bind fun a3 => ((m.2.2 v0 1).bind fun a4 => ((rdI s m a4 (((((999 : Int32) * ((v1 + (1 : Int32))))) + v2))).bind fun x5 => ((stI s m a3 v2 x5).bind fun m6 => (bindv (v2 + (1)) fun x7 => (nself20 m6 v0 v1 x7))))))
set_option maxRecDepth 20000 in
theorem ub_X10_restore_32 {F : Nat} {s : List Sh} {self20 : PH → Nat → Int32 → Int32 → Option (Int32 × PH)} {nself20 : Mem → Nat → Int32 → Int32 → Option (Int32 × Mem)} {m m' : Mem} {r : Int32} {v0 : Nat} {v1 : Int32} {v2 : Int32} (hw : GS s m) (o_v0 : ok s v0 10) (ih20 : ∀ (m : Mem) (v0 : Nat) (v1 : Int32) (v2 : Int32), GS s m → ok s v0 10 → nself20 m v0 v1 v2 = some (r, m') → J3 (self20 (bl s m) v0 v1 v2) (r, bl s m') (GS s m')) (hf : nb_X10_restore_32 F s nself20 m v0 v1 v2 = some (r, m')) : J3 (b_X10_restore_32 F self20 (bl s m) v0 v1 v2) (r, bl s m') (GS s m') := by
  unfold nb_X10_restore_32 at hf
  unfold b_X10_restore_32
  refine k_if hf (fun hf => ?_) (fun hf => ?_)
  · refine k_gR hw (ok_o o_v0 (by decide)) rfl hf fun a1 o_a1 hf => ?_
    refine k_sI hw (ka rfl o_a1) hf fun m2 hw hf => ?_
    exact k_ret hw hf
  · refine k_gR hw (ok_o o_v0 (by decide)) rfl hf fun a3 o_a3 hf => ?_
    refine k_gR hw (ok_o o_v0 (by decide)) rfl hf fun a4 o_a4 hf => ?_
    refine k_aI (Or.inl rfl) (ka rfl o_a4) hf fun x5 hf => ?_
    refine k_sI hw (ka rfl o_a3) hf fun m6 hw hf => ?_
    refine k_bv hf fun x7 hf => ?_
    exact ih20 _ _ _ _ hw o_v0 hf
def nl_X10_restore_32 (F : Nat) (s : List Sh) : Nat → Mem → Nat → Int32 → Int32 → Option (Int32 × Mem)
  | 0 => fun _ _ _ _ => none
  | n + 1 => fun m v0 v1 v2 => nb_X10_restore_32 F s (nl_X10_restore_32 F s n) m v0 v1 v2
theorem ul_X10_restore_32 {F : Nat} {s : List Sh} {m' : Mem} {r : Int32} (n : Nat) : ∀ (m : Mem) (v0 : Nat) (v1 : Int32) (v2 : Int32), GS s m → ok s v0 10 → nl_X10_restore_32 F s n m v0 v1 v2 = some (r, m') → J3 (l_X10_restore_32 F n (bl s m) v0 v1 v2) (r, bl s m') (GS s m') := by
  induction n with
  | zero => intro m v0 v1 v2 hw o_v0 hf; cases hf
  | succ n ih => intro m v0 v1 v2 hw o_v0 hf; exact ub_X10_restore_32 (F := F) hw o_v0 ih hf
def nb_X10_restore_0 (F : Nat) (s : List Sh) (m : Mem) (v0 : Nat) (v1 : Int32) : Option (Int32 × Mem) := bindv (wI m v0 0 (0 : Int32)) fun m1 => ((m_X10_within (Int32.toInt64 v1) (0 : Int64) (1 : Int64)).bind fun x2 => (if x2 = 0 then (some ((-2 : Int32), m1)) else ((m1.2.2 v0 2).bind fun a3 => ((rdI s m1 a3 v1).bind fun x4 => (if x4 = 0 then (some ((-5 : Int32), m1)) else (nl_X10_restore_32 F s F m1 v0 v1 (0 : Int32)))))))
set_option maxRecDepth 20000 in
theorem u_X10_restore_0 {F : Nat} {s : List Sh} {m m' : Mem} {r : Int32} {v0 : Nat} {v1 : Int32} (hw : GS s m) (o_v0 : ok s v0 10) (hf : nb_X10_restore_0 F s m v0 v1 = some (r, m')) : J3 (b_X10_restore_0 F (bl s m) v0 v1) (r, bl s m') (GS s m') := by
  unfold nb_X10_restore_0 at hf
  unfold b_X10_restore_0
  refine k_pI hw (ok_o o_v0 (by decide)) rfl hf fun m1 hw hf => ?_
  refine k_pure hf fun x2 hf => ?_
  refine k_if hf (fun hf => ?_) (fun hf => ?_)
  · exact k_ret hw hf
  · refine k_gR hw (ok_o o_v0 (by decide)) rfl hf fun a3 o_a3 hf => ?_
    refine k_aI (Or.inr rfl) (ka rfl o_a3) hf fun x4 hf => ?_
    refine k_if hf (fun hf => ?_) (fun hf => ?_)
    · exact k_ret hw hf
    · exact ul_X10_restore_32 F _ _ _ _ hw o_v0 hf
def n_X10_restore (F : Nat) (s : List Sh) (m : Mem) (p0 : Nat) (p1 : Int32) : Option (Int32 × Mem) := nb_X10_restore_0 F s m p0 p1
theorem un_X10_restore {F : Nat} {s : List Sh} {m m' : Mem} {p0 : Nat} {p1 : Int32} {r : Int32} (hw : GS s m) (o_p0 : ok s p0 10) (ex : n_X10_restore F s m p0 p1 = some (r, m')) : J3 (m_X10_restore F (bl s m) p0 p1) (r, bl s m') (GS s m') := u_X10_restore_0 hw o_p0 ex
/-! FractionLiftModel.count(I)I over the memory -/
def nb_X10_count_0 (s : List Sh) (m : Mem) (v0 : Nat) (v1 : Int32) : Option (Int32 × Mem) := bindv (wI m v0 0 (0 : Int32)) fun m1 => (swN v1 (0) [(m1.2.2 v0 1).bind fun a2 => ((rdI s m1 a2 (1 : Int32)).bind fun x3 => (some (x3, m1))), (m1.2.2 v0 1).bind fun a4 => ((rdI s m1 a4 (2 : Int32)).bind fun x5 => (some (x5, m1))), (m1.2.2 v0 1).bind fun a6 => ((rdI s m1 a6 (3 : Int32)).bind fun x7 => (some (x7, m1))), (m1.2.2 v0 1).bind fun a8 => ((rdI s m1 a8 (4 : Int32)).bind fun x9 => (some (x9, m1))), (m1.2.2 v0 1).bind fun a10 => ((rdI s m1 a10 (5 : Int32)).bind fun x11 => (some (x11, m1))), (m1.2.2 v0 1).bind fun a12 => ((rdI s m1 a12 (73 : Int32)).bind fun x13 => (some (x13, m1))), (m1.2.2 v0 1).bind fun a14 => ((rdI s m1 a14 (6 : Int32)).bind fun x15 => (some (x15, m1))), some ((m1.1 v0 5), m1), (m1.2.2 v0 1).bind fun a16 => ((rdI s m1 a16 (0 : Int32)).bind fun x17 => (some (x17, m1)))] (some ((-1 : Int32), m1)))
set_option maxRecDepth 20000 in
theorem u_X10_count_0 {s : List Sh} {m m' : Mem} {r : Int32} {v0 : Nat} {v1 : Int32} (hw : GS s m) (o_v0 : ok s v0 10) (hf : nb_X10_count_0 s m v0 v1 = some (r, m')) : J3 (b_X10_count_0 (bl s m) v0 v1) (r, bl s m') (GS s m') := by
  unfold nb_X10_count_0 at hf
  unfold b_X10_count_0
  refine k_pI hw (ok_o o_v0 (by decide)) rfl hf fun m1 hw hf => ?_
  refine k_sw hf rfl (fun i hi hf => ?_) (fun hf => ?_)
  · rcases (show i = 0 ∨ i = 1 ∨ i = 2 ∨ i = 3 ∨ i = 4 ∨ i = 5 ∨ i = 6 ∨ i = 7 ∨ i = 8 by simp only [List.length_cons, List.length_nil] at hi; omega) with rfl | rfl | rfl | rfl | rfl | rfl | rfl | rfl | rfl
    · have hf := gd_at hf rfl
      refine gd_goal rfl ?_
      refine k_gR hw (ok_o o_v0 (by decide)) rfl hf fun a2 o_a2 hf => ?_
      refine k_aI (Or.inl rfl) (ka rfl o_a2) hf fun x3 hf => ?_
      exact k_ret hw hf
    · have hf := gd_at hf rfl
      refine gd_goal rfl ?_
      refine k_gR hw (ok_o o_v0 (by decide)) rfl hf fun a4 o_a4 hf => ?_
      refine k_aI (Or.inl rfl) (ka rfl o_a4) hf fun x5 hf => ?_
      exact k_ret hw hf
    · have hf := gd_at hf rfl
      refine gd_goal rfl ?_
      refine k_gR hw (ok_o o_v0 (by decide)) rfl hf fun a6 o_a6 hf => ?_
      refine k_aI (Or.inl rfl) (ka rfl o_a6) hf fun x7 hf => ?_
      exact k_ret hw hf
    · have hf := gd_at hf rfl
      refine gd_goal rfl ?_
      refine k_gR hw (ok_o o_v0 (by decide)) rfl hf fun a8 o_a8 hf => ?_
      refine k_aI (Or.inl rfl) (ka rfl o_a8) hf fun x9 hf => ?_
      exact k_ret hw hf
    · have hf := gd_at hf rfl
      refine gd_goal rfl ?_
      refine k_gR hw (ok_o o_v0 (by decide)) rfl hf fun a10 o_a10 hf => ?_
      refine k_aI (Or.inl rfl) (ka rfl o_a10) hf fun x11 hf => ?_
      exact k_ret hw hf
    · have hf := gd_at hf rfl
      refine gd_goal rfl ?_
      refine k_gR hw (ok_o o_v0 (by decide)) rfl hf fun a12 o_a12 hf => ?_
      refine k_aI (Or.inl rfl) (ka rfl o_a12) hf fun x13 hf => ?_
      exact k_ret hw hf
    · have hf := gd_at hf rfl
      refine gd_goal rfl ?_
      refine k_gR hw (ok_o o_v0 (by decide)) rfl hf fun a14 o_a14 hf => ?_
      refine k_aI (Or.inl rfl) (ka rfl o_a14) hf fun x15 hf => ?_
      exact k_ret hw hf
    · have hf := gd_at hf rfl
      refine gd_goal rfl ?_
      refine k_gI (ok_o o_v0 (by decide)) rfl ?_
      exact k_ret hw hf
    · have hf := gd_at hf rfl
      refine gd_goal rfl ?_
      refine k_gR hw (ok_o o_v0 (by decide)) rfl hf fun a16 o_a16 hf => ?_
      refine k_aI (Or.inl rfl) (ka rfl o_a16) hf fun x17 hf => ?_
      exact k_ret hw hf
  · exact k_ret hw hf
def n_X10_count (s : List Sh) (m : Mem) (p0 : Nat) (p1 : Int32) : Option (Int32 × Mem) := nb_X10_count_0 s m p0 p1
theorem un_X10_count {s : List Sh} {m m' : Mem} {p0 : Nat} {p1 : Int32} {r : Int32} (hw : GS s m) (o_p0 : ok s p0 10) (ex : n_X10_count s m p0 p1 = some (r, m')) : J3 (m_X10_count (bl s m) p0 p1) (r, bl s m') (GS s m') := u_X10_count_0 hw o_p0 ex
