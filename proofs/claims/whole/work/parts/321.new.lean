def nb_X0_init_0 (s : List Sh) (m : Mem) (v0 : Nat) : Option (Unit × List Sh × Mem) := bindv (wI m v0 0 (4 : Int32)) fun m1 => (bindv (wI m1 v0 5 (1 : Int32)) fun m2 => (bindv s.length fun a3 => (bindv (s ++ [.inr (0, 7)]) fun s4 => (bindv (wR m2 v0 7 (some a3)) fun m5 => (bindv s4.length fun a6 => (bindv (s4 ++ [.inr (0, 900)]) fun s7 => (bindv (wR m5 v0 8 (some a6)) fun m8 => (bindv s7.length fun a9 => (bindv (s7 ++ [.inr (0, 8)]) fun s10 => (bindv (wR m8 v0 10 (some a9)) fun m11 => (bindv s10.length fun a12 => (bindv (s10 ++ [.inr (0, 8)]) fun s13 => (bindv (wR m11 v0 11 (some a12)) fun m14 => (bindv s13.length fun a15 => (bindv (s13 ++ [.inr (0, 24)]) fun s16 => (bindv (wR m14 v0 12 (some a15)) fun m17 => (bindv s16.length fun a18 => (bindv (s16 ++ [.inr (0, 3)]) fun s19 => (bindv (wR m17 v0 13 (some a18)) fun m20 => (bindv s19.length fun a21 => (bindv (s19 ++ [.inr (0, 8)]) fun s22 => (bindv (wR m20 v0 14 (some a21)) fun m23 => (bindv s22.length fun a24 => (bindv (s22 ++ [.inr (0, 6)]) fun s25 => (bindv (wR m23 v0 16 (some a24)) fun m26 => (bindv s25.length fun a27 => (bindv (s25 ++ [.inr (0, 6)]) fun s28 => (bindv (wR m26 v0 17 (some a27)) fun m29 => (some ((), s28, m29))))))))))))))))))))))))))))))
set_option maxRecDepth 20000 in
theorem u_X0_init_0 {s s' : List Sh} {m m' : Mem} {r : Unit} {v0 : Nat} (hw : GS s m) (o_v0 : ok s v0 0) (hf : nb_X0_init_0 s m v0 = some (r, s', m')) : J3 (b_X0_init_0 (bl s m) v0) (r, bl s' m') (GS s' m' ∧ ∃ t, s' = s ++ t) := by
  have hp : ∃ t, s = s ++ t := ⟨[], by simp⟩
  unfold nb_X0_init_0 at hf
  unfold b_X0_init_0
  refine k_pI hw (ok_o o_v0 (by decide)) rfl hf fun m1 hw hf => ?_
  refine k_pI hw (ok_o o_v0 (by decide)) rfl hf fun m2 hw hf => ?_
  refine k_newa hw (fun _ h => na_i h) hf fun a3 s4 es hw o_a3 hf => ?_
  have o_v0 := ok_pre o_v0 es
  have hp := pr_tr hp es
  refine k_pR hw (ok_o o_v0 (by decide)) rfl o_a3 hf fun m5 hw hf => ?_
  refine k_newa hw (fun _ h => na_i h) hf fun a6 s7 es hw o_a6 hf => ?_
  have o_v0 := ok_pre o_v0 es
  have hp := pr_tr hp es
  refine k_pR hw (ok_o o_v0 (by decide)) rfl o_a6 hf fun m8 hw hf => ?_
  refine k_newa hw (fun _ h => na_i h) hf fun a9 s10 es hw o_a9 hf => ?_
  have o_v0 := ok_pre o_v0 es
  have hp := pr_tr hp es
  refine k_pR hw (ok_o o_v0 (by decide)) rfl o_a9 hf fun m11 hw hf => ?_
  refine k_newa hw (fun _ h => na_i h) hf fun a12 s13 es hw o_a12 hf => ?_
  have o_v0 := ok_pre o_v0 es
  have hp := pr_tr hp es
  refine k_pR hw (ok_o o_v0 (by decide)) rfl o_a12 hf fun m14 hw hf => ?_
  refine k_newa hw (fun _ h => na_i h) hf fun a15 s16 es hw o_a15 hf => ?_
  have o_v0 := ok_pre o_v0 es
  have hp := pr_tr hp es
  refine k_pR hw (ok_o o_v0 (by decide)) rfl o_a15 hf fun m17 hw hf => ?_
  refine k_newa hw (fun _ h => na_i h) hf fun a18 s19 es hw o_a18 hf => ?_
  have o_v0 := ok_pre o_v0 es
  have hp := pr_tr hp es
  refine k_pR hw (ok_o o_v0 (by decide)) rfl o_a18 hf fun m20 hw hf => ?_
  refine k_newa hw (fun _ h => na_i h) hf fun a21 s22 es hw o_a21 hf => ?_
  have o_v0 := ok_pre o_v0 es
  have hp := pr_tr hp es
  refine k_pR hw (ok_o o_v0 (by decide)) rfl o_a21 hf fun m23 hw hf => ?_
  refine k_newa hw (fun _ h => na_i h) hf fun a24 s25 es hw o_a24 hf => ?_
  have o_v0 := ok_pre o_v0 es
  have hp := pr_tr hp es
  refine k_pR hw (ok_o o_v0 (by decide)) rfl o_a24 hf fun m26 hw hf => ?_
  refine k_newa hw (fun _ h => na_i h) hf fun a27 s28 es hw o_a27 hf => ?_
  have o_v0 := ok_pre o_v0 es
  have hp := pr_tr hp es
  refine k_pR hw (ok_o o_v0 (by decide)) rfl o_a27 hf fun m29 hw hf => ?_
  exact k_retA hw hp hf
def n_X0_init (s : List Sh) (m : Mem) (p0 : Nat) : Option (Unit × List Sh × Mem) := nb_X0_init_0 s m p0
theorem un_X0_init {s s' : List Sh} {m m' : Mem} {p0 : Nat} {r : Unit} (hw : GS s m) (o_p0 : ok s p0 0) (ex : n_X0_init s m p0 = some (r, s', m')) : J3 (m_X0_init (bl s m) p0) (r, bl s' m') (GS s' m' ∧ ∃ t, s' = s ++ t) := u_X0_init_0 hw o_p0 ex
def nb_X1_init_0 (s : List Sh) (m : Mem) (v0 : Nat) : Option (Unit × List Sh × Mem) := bindv s.length fun a1 => (bindv (s ++ [.inr (0, 9331)]) fun s2 => (bindv (wR m v0 0 (some a1)) fun m3 => (bindv s2.length fun a4 => (bindv (s2 ++ [.inr (0, 9331)]) fun s5 => (bindv (wR m3 v0 1 (some a4)) fun m6 => (bindv s5.length fun a7 => (bindv (s5 ++ [.inr (0, 9331)]) fun s8 => (bindv (wR m6 v0 2 (some a7)) fun m9 => (bindv s8.length fun a10 => (bindv (s8 ++ [.inr (0, 9331)]) fun s11 => (bindv (wR m9 v0 6 (some a10)) fun m12 => (bindv s11.length fun a13 => (bindv (s11 ++ [.inr (0, 8192)]) fun s14 => (bindv (wR m12 v0 5 (some a13)) fun m15 => (bindv s14.length fun a16 => (bindv (s14 ++ [.inr (1, 511)]) fun s17 => (bindv (wR m15 v0 3 (some a16)) fun m18 => (some ((), s17, m18)))))))))))))))))))
set_option maxRecDepth 20000 in
theorem u_X1_init_0 {s s' : List Sh} {m m' : Mem} {r : Unit} {v0 : Nat} (hw : GS s m) (o_v0 : ok s v0 1) (hf : nb_X1_init_0 s m v0 = some (r, s', m')) : J3 (b_X1_init_0 (bl s m) v0) (r, bl s' m') (GS s' m' ∧ ∃ t, s' = s ++ t) := by
  have hp : ∃ t, s = s ++ t := ⟨[], by simp⟩
  unfold nb_X1_init_0 at hf
  unfold b_X1_init_0
  refine k_newa hw (fun _ h => na_i h) hf fun a1 s2 es hw o_a1 hf => ?_
  have o_v0 := ok_pre o_v0 es
  have hp := pr_tr hp es
  refine k_pR hw (ok_o o_v0 (by decide)) rfl o_a1 hf fun m3 hw hf => ?_
  refine k_newa hw (fun _ h => na_i h) hf fun a4 s5 es hw o_a4 hf => ?_
  have o_v0 := ok_pre o_v0 es
  have hp := pr_tr hp es
  refine k_pR hw (ok_o o_v0 (by decide)) rfl o_a4 hf fun m6 hw hf => ?_
  refine k_newa hw (fun _ h => na_i h) hf fun a7 s8 es hw o_a7 hf => ?_
  have o_v0 := ok_pre o_v0 es
  have hp := pr_tr hp es
  refine k_pR hw (ok_o o_v0 (by decide)) rfl o_a7 hf fun m9 hw hf => ?_
  refine k_newa hw (fun _ h => na_i h) hf fun a10 s11 es hw o_a10 hf => ?_
  have o_v0 := ok_pre o_v0 es
  have hp := pr_tr hp es
  refine k_pR hw (ok_o o_v0 (by decide)) rfl o_a10 hf fun m12 hw hf => ?_
  refine k_newa hw (fun _ h => na_i h) hf fun a13 s14 es hw o_a13 hf => ?_
  have o_v0 := ok_pre o_v0 es
  have hp := pr_tr hp es
  refine k_pR hw (ok_o o_v0 (by decide)) rfl o_a13 hf fun m15 hw hf => ?_
  refine k_newa hw (fun _ h => na_l h) hf fun a16 s17 es hw o_a16 hf => ?_
  have o_v0 := ok_pre o_v0 es
  have hp := pr_tr hp es
  refine k_pR hw (ok_o o_v0 (by decide)) rfl o_a16 hf fun m18 hw hf => ?_
  exact k_retA hw hp hf
def n_X1_init (s : List Sh) (m : Mem) (p0 : Nat) : Option (Unit × List Sh × Mem) := nb_X1_init_0 s m p0
theorem un_X1_init {s s' : List Sh} {m m' : Mem} {p0 : Nat} {r : Unit} (hw : GS s m) (o_p0 : ok s p0 1) (ex : n_X1_init s m p0 = some (r, s', m')) : J3 (m_X1_init (bl s m) p0) (r, bl s' m') (GS s' m' ∧ ∃ t, s' = s ++ t) := u_X1_init_0 hw o_p0 ex
def nb_X2_init_0 (s : List Sh) (m : Mem) (v0 : Nat) : Option (Unit × List Sh × Mem) := bindv (wL m v0 0 (0 : Int64)) fun m1 => (bindv (wL m1 v0 1 (1 : Int64)) fun m2 => (some ((), s, m2)))
set_option maxRecDepth 20000 in
theorem u_X2_init_0 {s s' : List Sh} {m m' : Mem} {r : Unit} {v0 : Nat} (hw : GS s m) (o_v0 : ok s v0 2) (hf : nb_X2_init_0 s m v0 = some (r, s', m')) : J3 (b_X2_init_0 (bl s m) v0) (r, bl s' m') (GS s' m' ∧ ∃ t, s' = s ++ t) := by
  have hp : ∃ t, s = s ++ t := ⟨[], by simp⟩
  unfold nb_X2_init_0 at hf
  unfold b_X2_init_0
  refine k_pL hw (ok_o o_v0 (by decide)) rfl hf fun m1 hw hf => ?_
  refine k_pL hw (ok_o o_v0 (by decide)) rfl hf fun m2 hw hf => ?_
  exact k_retA hw hp hf
def n_X2_init (s : List Sh) (m : Mem) (p0 : Nat) : Option (Unit × List Sh × Mem) := nb_X2_init_0 s m p0
theorem un_X2_init {s s' : List Sh} {m m' : Mem} {p0 : Nat} {r : Unit} (hw : GS s m) (o_p0 : ok s p0 2) (ex : n_X2_init s m p0 = some (r, s', m')) : J3 (m_X2_init (bl s m) p0) (r, bl s' m') (GS s' m' ∧ ∃ t, s' = s ++ t) := u_X2_init_0 hw o_p0 ex
def nb_X6_init_0 (s : List Sh) (m : Mem) (v0 : Nat) : Option (Unit × List Sh × Mem) := bindv s.length fun a1 => (bindv (s ++ [.inr (0, 901)]) fun s2 => (bindv (wR m v0 1 (some a1)) fun m3 => (bindv s2.length fun a4 => (bindv (s2 ++ [.inr (0, 901)]) fun s5 => (bindv (wR m3 v0 2 (some a4)) fun m6 => (bindv s5.length fun a7 => (bindv (s5 ++ [.inr (0, 901)]) fun s8 => (bindv (wR m6 v0 3 (some a7)) fun m9 => (some ((), s8, m9))))))))))
set_option maxRecDepth 20000 in
theorem u_X6_init_0 {s s' : List Sh} {m m' : Mem} {r : Unit} {v0 : Nat} (hw : GS s m) (o_v0 : ok s v0 6) (hf : nb_X6_init_0 s m v0 = some (r, s', m')) : J3 (b_X6_init_0 (bl s m) v0) (r, bl s' m') (GS s' m' ∧ ∃ t, s' = s ++ t) := by
  have hp : ∃ t, s = s ++ t := ⟨[], by simp⟩
  unfold nb_X6_init_0 at hf
  unfold b_X6_init_0
  refine k_newa hw (fun _ h => na_i h) hf fun a1 s2 es hw o_a1 hf => ?_
  have o_v0 := ok_pre o_v0 es
  have hp := pr_tr hp es
  refine k_pR hw (ok_o o_v0 (by decide)) rfl o_a1 hf fun m3 hw hf => ?_
  refine k_newa hw (fun _ h => na_i h) hf fun a4 s5 es hw o_a4 hf => ?_
  have o_v0 := ok_pre o_v0 es
  have hp := pr_tr hp es
  refine k_pR hw (ok_o o_v0 (by decide)) rfl o_a4 hf fun m6 hw hf => ?_
  refine k_newa hw (fun _ h => na_i h) hf fun a7 s8 es hw o_a7 hf => ?_
  have o_v0 := ok_pre o_v0 es
  have hp := pr_tr hp es
  refine k_pR hw (ok_o o_v0 (by decide)) rfl o_a7 hf fun m9 hw hf => ?_
  exact k_retA hw hp hf
def n_X6_init (s : List Sh) (m : Mem) (p0 : Nat) : Option (Unit × List Sh × Mem) := nb_X6_init_0 s m p0
theorem un_X6_init {s s' : List Sh} {m m' : Mem} {p0 : Nat} {r : Unit} (hw : GS s m) (o_p0 : ok s p0 6) (ex : n_X6_init s m p0 = some (r, s', m')) : J3 (m_X6_init (bl s m) p0) (r, bl s' m') (GS s' m' ∧ ∃ t, s' = s ++ t) := u_X6_init_0 hw o_p0 ex
def nb_X3_init_0 (s : List Sh) (m : Mem) (v0 : Nat) : Option (Unit × List Sh × Mem) := bindv s.length fun a1 => (bindv (s ++ [.inl 0]) fun s2 => (bind3 (n_X0_init s2 m a1) fun _ s4 m5 => (bindv (wR m5 v0 0 (some a1)) fun m6 => (bindv s4.length fun a7 => (bindv (s4 ++ [.inl 6]) fun s8 => (bind3 (n_X6_init s8 m6 a7) fun _ s10 m11 => (bindv (wR m11 v0 3 (some a7)) fun m12 => (bindv s10.length fun a13 => (bindv (s10 ++ [.inr (0, 64)]) fun s14 => (bindv (wR m12 v0 11 (some a13)) fun m15 => (bindv s14.length fun a16 => (bindv (s14 ++ [.inl 2]) fun s17 => (bind3 (n_X2_init s17 m15 a16) fun _ s19 m20 => (bindv (wR m20 v0 13 (some a16)) fun m21 => (some ((), s19, m21))))))))))))))))
set_option maxRecDepth 20000 in
theorem u_X3_init_0 {s s' : List Sh} {m m' : Mem} {r : Unit} {v0 : Nat} (hw : GS s m) (o_v0 : ok s v0 3) (hf : nb_X3_init_0 s m v0 = some (r, s', m')) : J3 (b_X3_init_0 (bl s m) v0) (r, bl s' m') (GS s' m' ∧ ∃ t, s' = s ++ t) := by
  have hp : ∃ t, s = s ++ t := ⟨[], by simp⟩
  unfold nb_X3_init_0 at hf
  unfold b_X3_init_0
  refine k_new hw (by decide) rfl hf fun a1 s2 es hw o_a1 hf => ?_
  have o_v0 := ok_pre o_v0 es
  have hp := pr_tr hp es
  refine ob3 hf fun u s4 m5 ex hf => ?_
  refine k_b2 (un_X0_init hw o_a1 ex) fun hz => ?_
  have hw := hz.1
  have o_v0 := ok_pre o_v0 hz.2
  have o_a1 := ok_pre o_a1 hz.2
  have hp := pr_tr hp hz.2
  refine k_pR hw (ok_o o_v0 (by decide)) rfl o_a1 hf fun m6 hw hf => ?_
  refine k_new hw (by decide) rfl hf fun a7 s8 es hw o_a7 hf => ?_
  have o_v0 := ok_pre o_v0 es
  have hp := pr_tr hp es
  refine ob3 hf fun u s10 m11 ex hf => ?_
  refine k_b2 (un_X6_init hw o_a7 ex) fun hz => ?_
  have hw := hz.1
  have o_v0 := ok_pre o_v0 hz.2
  have o_a7 := ok_pre o_a7 hz.2
  have hp := pr_tr hp hz.2
  refine k_pR hw (ok_o o_v0 (by decide)) rfl o_a7 hf fun m12 hw hf => ?_
  refine k_newa hw (fun _ h => na_i h) hf fun a13 s14 es hw o_a13 hf => ?_
  have o_v0 := ok_pre o_v0 es
  have hp := pr_tr hp es
  refine k_pR hw (ok_o o_v0 (by decide)) rfl o_a13 hf fun m15 hw hf => ?_
  refine k_new hw (by decide) rfl hf fun a16 s17 es hw o_a16 hf => ?_
  have o_v0 := ok_pre o_v0 es
  have hp := pr_tr hp es
  refine ob3 hf fun u s19 m20 ex hf => ?_
  refine k_b2 (un_X2_init hw o_a16 ex) fun hz => ?_
  have hw := hz.1
  have o_v0 := ok_pre o_v0 hz.2
  have o_a16 := ok_pre o_a16 hz.2
  have hp := pr_tr hp hz.2
  refine k_pR hw (ok_o o_v0 (by decide)) rfl o_a16 hf fun m21 hw hf => ?_
  exact k_retA hw hp hf
def n_X3_init (s : List Sh) (m : Mem) (p0 : Nat) : Option (Unit × List Sh × Mem) := nb_X3_init_0 s m p0
theorem un_X3_init {s s' : List Sh} {m m' : Mem} {p0 : Nat} {r : Unit} (hw : GS s m) (o_p0 : ok s p0 3) (ex : n_X3_init s m p0 = some (r, s', m')) : J3 (m_X3_init (bl s m) p0) (r, bl s' m') (GS s' m' ∧ ∃ t, s' = s ++ t) := u_X3_init_0 hw o_p0 ex
def nb_X4_init_0 (s : List Sh) (m : Mem) (v0 : Nat) : Option (Unit × List Sh × Mem) := bindv s.length fun a1 => (bindv (s ++ [.inr (1, 64)]) fun s2 => (bindv (wR m v0 2 (some a1)) fun m3 => (bindv s2.length fun a4 => (bindv (s2 ++ [.inr (1, 64)]) fun s5 => (bindv (wR m3 v0 3 (some a4)) fun m6 => (some ((), s5, m6)))))))
set_option maxRecDepth 20000 in
theorem u_X4_init_0 {s s' : List Sh} {m m' : Mem} {r : Unit} {v0 : Nat} (hw : GS s m) (o_v0 : ok s v0 4) (hf : nb_X4_init_0 s m v0 = some (r, s', m')) : J3 (b_X4_init_0 (bl s m) v0) (r, bl s' m') (GS s' m' ∧ ∃ t, s' = s ++ t) := by
  have hp : ∃ t, s = s ++ t := ⟨[], by simp⟩
  unfold nb_X4_init_0 at hf
  unfold b_X4_init_0
  refine k_newa hw (fun _ h => na_l h) hf fun a1 s2 es hw o_a1 hf => ?_
  have o_v0 := ok_pre o_v0 es
  have hp := pr_tr hp es
  refine k_pR hw (ok_o o_v0 (by decide)) rfl o_a1 hf fun m3 hw hf => ?_
  refine k_newa hw (fun _ h => na_l h) hf fun a4 s5 es hw o_a4 hf => ?_
  have o_v0 := ok_pre o_v0 es
  have hp := pr_tr hp es
  refine k_pR hw (ok_o o_v0 (by decide)) rfl o_a4 hf fun m6 hw hf => ?_
  exact k_retA hw hp hf
def n_X4_init (s : List Sh) (m : Mem) (p0 : Nat) : Option (Unit × List Sh × Mem) := nb_X4_init_0 s m p0
theorem un_X4_init {s s' : List Sh} {m m' : Mem} {p0 : Nat} {r : Unit} (hw : GS s m) (o_p0 : ok s p0 4) (ex : n_X4_init s m p0 = some (r, s', m')) : J3 (m_X4_init (bl s m) p0) (r, bl s' m') (GS s' m' ∧ ∃ t, s' = s ++ t) := u_X4_init_0 hw o_p0 ex
def nb_X5_init_0 (s : List Sh) (m : Mem) (v0 : Nat) (v1 : Nat) : Option (Unit × List Sh × Mem) := bindv (wR m v0 4 (some v1)) fun m1 => (bindv s.length fun a2 => (bindv (s ++ [.inl 1]) fun s3 => (bind3 (n_X1_init s3 m1 a2) fun _ s5 m6 => (bindv (wR m6 v0 0 (some a2)) fun m7 => (bindv s5.length fun a8 => (bindv (s5 ++ [.inr (0, 8)]) fun s9 => (bindv (wR m7 v0 1 (some a8)) fun m10 => (bindv s9.length fun a11 => (bindv (s9 ++ [.inr (0, 8)]) fun s12 => (bindv (wR m10 v0 2 (some a11)) fun m13 => (some ((), s12, m13))))))))))))
set_option maxRecDepth 20000 in
theorem u_X5_init_0 {s s' : List Sh} {m m' : Mem} {r : Unit} {v0 : Nat} {v1 : Nat} (hw : GS s m) (o_v0 : ok s v0 5) (o_v1 : ok s v1 4) (hf : nb_X5_init_0 s m v0 v1 = some (r, s', m')) : J3 (b_X5_init_0 (bl s m) v0 v1) (r, bl s' m') (GS s' m' ∧ ∃ t, s' = s ++ t) := by
  have hp : ∃ t, s = s ++ t := ⟨[], by simp⟩
  unfold nb_X5_init_0 at hf
  unfold b_X5_init_0
  refine k_pR hw (ok_o o_v0 (by decide)) rfl o_v1 hf fun m1 hw hf => ?_
  refine k_new hw (by decide) rfl hf fun a2 s3 es hw o_a2 hf => ?_
  have o_v0 := ok_pre o_v0 es
  have o_v1 := ok_pre o_v1 es
  have hp := pr_tr hp es
  refine ob3 hf fun u s5 m6 ex hf => ?_
  refine k_b2 (un_X1_init hw o_a2 ex) fun hz => ?_
  have hw := hz.1
  have o_v0 := ok_pre o_v0 hz.2
  have o_v1 := ok_pre o_v1 hz.2
  have o_a2 := ok_pre o_a2 hz.2
  have hp := pr_tr hp hz.2
  refine k_pR hw (ok_o o_v0 (by decide)) rfl o_a2 hf fun m7 hw hf => ?_
  refine k_newa hw (fun _ h => na_i h) hf fun a8 s9 es hw o_a8 hf => ?_
  have o_v0 := ok_pre o_v0 es
  have o_v1 := ok_pre o_v1 es
  have hp := pr_tr hp es
  refine k_pR hw (ok_o o_v0 (by decide)) rfl o_a8 hf fun m10 hw hf => ?_
  refine k_newa hw (fun _ h => na_i h) hf fun a11 s12 es hw o_a11 hf => ?_
  have o_v0 := ok_pre o_v0 es
  have o_v1 := ok_pre o_v1 es
  have hp := pr_tr hp es
  refine k_pR hw (ok_o o_v0 (by decide)) rfl o_a11 hf fun m13 hw hf => ?_
  exact k_retA hw hp hf
def n_X5_init (s : List Sh) (m : Mem) (p0 : Nat) (p1 : Nat) : Option (Unit × List Sh × Mem) := nb_X5_init_0 s m p0 p1
theorem un_X5_init {s s' : List Sh} {m m' : Mem} {p0 : Nat} {p1 : Nat} {r : Unit} (hw : GS s m) (o_p0 : ok s p0 5) (o_p1 : ok s p1 4) (ex : n_X5_init s m p0 p1 = some (r, s', m')) : J3 (m_X5_init (bl s m) p0 p1) (r, bl s' m') (GS s' m' ∧ ∃ t, s' = s ++ t) := u_X5_init_0 hw o_p0 o_p1 ex
def nb_X7_init_0 (s : List Sh) (m : Mem) (v0 : Nat) : Option (Unit × List Sh × Mem) := bindv s.length fun a1 => (bindv (s ++ [.inr (1, 40)]) fun s2 => (bindv (wR m v0 2 (some a1)) fun m3 => (some ((), s2, m3))))
set_option maxRecDepth 20000 in
theorem u_X7_init_0 {s s' : List Sh} {m m' : Mem} {r : Unit} {v0 : Nat} (hw : GS s m) (o_v0 : ok s v0 7) (hf : nb_X7_init_0 s m v0 = some (r, s', m')) : J3 (b_X7_init_0 (bl s m) v0) (r, bl s' m') (GS s' m' ∧ ∃ t, s' = s ++ t) := by
  have hp : ∃ t, s = s ++ t := ⟨[], by simp⟩
  unfold nb_X7_init_0 at hf
  unfold b_X7_init_0
  refine k_newa hw (fun _ h => na_l h) hf fun a1 s2 es hw o_a1 hf => ?_
  have o_v0 := ok_pre o_v0 es
  have hp := pr_tr hp es
  refine k_pR hw (ok_o o_v0 (by decide)) rfl o_a1 hf fun m3 hw hf => ?_
  exact k_retA hw hp hf
def n_X7_init (s : List Sh) (m : Mem) (p0 : Nat) : Option (Unit × List Sh × Mem) := nb_X7_init_0 s m p0
theorem un_X7_init {s s' : List Sh} {m m' : Mem} {p0 : Nat} {r : Unit} (hw : GS s m) (o_p0 : ok s p0 7) (ex : n_X7_init s m p0 = some (r, s', m')) : J3 (m_X7_init (bl s m) p0) (r, bl s' m') (GS s' m' ∧ ∃ t, s' = s ++ t) := u_X7_init_0 hw o_p0 ex
def nb_X8_init_0 (s : List Sh) (m : Mem) (v0 : Nat) (v1 : Nat) : Option (Unit × List Sh × Mem) := bindv (wR m v0 4 (some v1)) fun m1 => (bindv s.length fun a2 => (bindv (s ++ [.inr (0, 8)]) fun s3 => (bindv (wR m1 v0 2 (some a2)) fun m4 => (bindv s3.length fun a5 => (bindv (s3 ++ [.inr (0, 8)]) fun s6 => (bindv (wR m4 v0 3 (some a5)) fun m7 => (some ((), s6, m7))))))))
set_option maxRecDepth 20000 in
theorem u_X8_init_0 {s s' : List Sh} {m m' : Mem} {r : Unit} {v0 : Nat} {v1 : Nat} (hw : GS s m) (o_v0 : ok s v0 8) (o_v1 : ok s v1 4) (hf : nb_X8_init_0 s m v0 v1 = some (r, s', m')) : J3 (b_X8_init_0 (bl s m) v0 v1) (r, bl s' m') (GS s' m' ∧ ∃ t, s' = s ++ t) := by
  have hp : ∃ t, s = s ++ t := ⟨[], by simp⟩
  unfold nb_X8_init_0 at hf
  unfold b_X8_init_0
  refine k_pR hw (ok_o o_v0 (by decide)) rfl o_v1 hf fun m1 hw hf => ?_
  refine k_newa hw (fun _ h => na_i h) hf fun a2 s3 es hw o_a2 hf => ?_
  have o_v0 := ok_pre o_v0 es
  have o_v1 := ok_pre o_v1 es
  have hp := pr_tr hp es
  refine k_pR hw (ok_o o_v0 (by decide)) rfl o_a2 hf fun m4 hw hf => ?_
  refine k_newa hw (fun _ h => na_i h) hf fun a5 s6 es hw o_a5 hf => ?_
  have o_v0 := ok_pre o_v0 es
  have o_v1 := ok_pre o_v1 es
  have hp := pr_tr hp es
  refine k_pR hw (ok_o o_v0 (by decide)) rfl o_a5 hf fun m7 hw hf => ?_
  exact k_retA hw hp hf
def n_X8_init (s : List Sh) (m : Mem) (p0 : Nat) (p1 : Nat) : Option (Unit × List Sh × Mem) := nb_X8_init_0 s m p0 p1
theorem un_X8_init {s s' : List Sh} {m m' : Mem} {p0 : Nat} {p1 : Nat} {r : Unit} (hw : GS s m) (o_p0 : ok s p0 8) (o_p1 : ok s p1 4) (ex : n_X8_init s m p0 p1 = some (r, s', m')) : J3 (m_X8_init (bl s m) p0 p1) (r, bl s' m') (GS s' m' ∧ ∃ t, s' = s ++ t) := u_X8_init_0 hw o_p0 o_p1 ex
def nb_X9_init_0 (s : List Sh) (m : Mem) (v0 : Nat) : Option (Unit × List Sh × Mem) := bindv s.length fun a1 => (bindv (s ++ [.inr (0, 900)]) fun s2 => (bindv (wR m v0 0 (some a1)) fun m3 => (bindv (wI m3 v0 1 (0 : Int32)) fun m4 => (bindv (wI m4 v0 2 (0 : Int32)) fun m5 => (bindv (wI m5 v0 3 (-1 : Int32)) fun m6 => (bindv s2.length fun a7 => (bindv (s2 ++ [.inl 0]) fun s8 => (bind3 (n_X0_init s8 m6 a7) fun _ s10 m11 => (bindv (wR m11 v0 4 (some a7)) fun m12 => (bindv s10.length fun a13 => (bindv (s10 ++ [.inr (3, 2)]) fun s14 => (bindv (wR m12 v0 6 (some a13)) fun m15 => (bindv s14.length fun a16 => (bindv (s14 ++ [.inr (4, 4)]) fun s17 => (bindv (wR m15 v0 7 (some a16)) fun m18 => (bindv s17.length fun a19 => (bindv (s17 ++ [.inr (0, 12)]) fun s20 => (bindv (wR m18 v0 8 (some a19)) fun m21 => (bindv s20.length fun a22 => (bindv (s20 ++ [.inr (0, 12)]) fun s23 => (bindv (wR m21 v0 9 (some a22)) fun m24 => (bindv (wI m24 v0 10 (0 : Int32)) fun m25 => (bindv s23.length fun a26 => (bindv (s23 ++ [.inl 4]) fun s27 => (bind3 (n_X4_init s27 m25 a26) fun _ s29 m30 => (bindv (wR m30 v0 11 (some a26)) fun m31 => (bindv s29.length fun a32 => (bindv (s29 ++ [.inl 2]) fun s33 => (bind3 (n_X2_init s33 m31 a32) fun _ s35 m36 => (bindv (wR m36 v0 12 (some a32)) fun m37 => (bindv s35.length fun a38 => (bindv (s35 ++ [.inl 2]) fun s39 => (bind3 (n_X2_init s39 m37 a38) fun _ s41 m42 => (bindv (wR m42 v0 13 (some a38)) fun m43 => (bindv s41.length fun a44 => (bindv (s41 ++ [.inr (1, 40)]) fun s45 => (bindv (wR m43 v0 14 (some a44)) fun m46 => (bindv s45.length fun a47 => (bindv (s45 ++ [.inr (0, 201)]) fun s48 => (bindv (wR m46 v0 15 (some a47)) fun m49 => (some ((), s48, m49))))))))))))))))))))))))))))))))))))))))))
set_option maxRecDepth 20000 in
theorem u_X9_init_0 {s s' : List Sh} {m m' : Mem} {r : Unit} {v0 : Nat} (hw : GS s m) (o_v0 : ok s v0 9) (hf : nb_X9_init_0 s m v0 = some (r, s', m')) : J3 (b_X9_init_0 (bl s m) v0) (r, bl s' m') (GS s' m' ∧ ∃ t, s' = s ++ t) := by
  have hp : ∃ t, s = s ++ t := ⟨[], by simp⟩
  unfold nb_X9_init_0 at hf
  unfold b_X9_init_0
  refine k_newa hw (fun _ h => na_i h) hf fun a1 s2 es hw o_a1 hf => ?_
  have o_v0 := ok_pre o_v0 es
  have hp := pr_tr hp es
  refine k_pR hw (ok_o o_v0 (by decide)) rfl o_a1 hf fun m3 hw hf => ?_
  refine k_pI hw (ok_o o_v0 (by decide)) rfl hf fun m4 hw hf => ?_
  refine k_pI hw (ok_o o_v0 (by decide)) rfl hf fun m5 hw hf => ?_
  refine k_pI hw (ok_o o_v0 (by decide)) rfl hf fun m6 hw hf => ?_
  refine k_new hw (by decide) rfl hf fun a7 s8 es hw o_a7 hf => ?_
  have o_v0 := ok_pre o_v0 es
  have hp := pr_tr hp es
  refine ob3 hf fun u s10 m11 ex hf => ?_
  refine k_b2 (un_X0_init hw o_a7 ex) fun hz => ?_
  have hw := hz.1
  have o_v0 := ok_pre o_v0 hz.2
  have o_a7 := ok_pre o_a7 hz.2
  have hp := pr_tr hp hz.2
  refine k_pR hw (ok_o o_v0 (by decide)) rfl o_a7 hf fun m12 hw hf => ?_
  refine k_newa hw (fun _ h => na_r (Or.inl rfl) h) hf fun a13 s14 es hw o_a13 hf => ?_
  have o_v0 := ok_pre o_v0 es
  have hp := pr_tr hp es
  refine k_pR hw (ok_o o_v0 (by decide)) rfl o_a13 hf fun m15 hw hf => ?_
  refine k_newa hw (fun _ h => na_r (Or.inr rfl) h) hf fun a16 s17 es hw o_a16 hf => ?_
  have o_v0 := ok_pre o_v0 es
  have hp := pr_tr hp es
  refine k_pR hw (ok_o o_v0 (by decide)) rfl o_a16 hf fun m18 hw hf => ?_
  refine k_newa hw (fun _ h => na_i h) hf fun a19 s20 es hw o_a19 hf => ?_
  have o_v0 := ok_pre o_v0 es
  have hp := pr_tr hp es
  refine k_pR hw (ok_o o_v0 (by decide)) rfl o_a19 hf fun m21 hw hf => ?_
  refine k_newa hw (fun _ h => na_i h) hf fun a22 s23 es hw o_a22 hf => ?_
  have o_v0 := ok_pre o_v0 es
  have hp := pr_tr hp es
  refine k_pR hw (ok_o o_v0 (by decide)) rfl o_a22 hf fun m24 hw hf => ?_
  refine k_pI hw (ok_o o_v0 (by decide)) rfl hf fun m25 hw hf => ?_
  refine k_new hw (by decide) rfl hf fun a26 s27 es hw o_a26 hf => ?_
  have o_v0 := ok_pre o_v0 es
  have hp := pr_tr hp es
  refine ob3 hf fun u s29 m30 ex hf => ?_
  refine k_b2 (un_X4_init hw o_a26 ex) fun hz => ?_
  have hw := hz.1
  have o_v0 := ok_pre o_v0 hz.2
  have o_a26 := ok_pre o_a26 hz.2
  have hp := pr_tr hp hz.2
  refine k_pR hw (ok_o o_v0 (by decide)) rfl o_a26 hf fun m31 hw hf => ?_
  refine k_new hw (by decide) rfl hf fun a32 s33 es hw o_a32 hf => ?_
  have o_v0 := ok_pre o_v0 es
  have hp := pr_tr hp es
  refine ob3 hf fun u s35 m36 ex hf => ?_
  refine k_b2 (un_X2_init hw o_a32 ex) fun hz => ?_
  have hw := hz.1
  have o_v0 := ok_pre o_v0 hz.2
  have o_a32 := ok_pre o_a32 hz.2
  have hp := pr_tr hp hz.2
  refine k_pR hw (ok_o o_v0 (by decide)) rfl o_a32 hf fun m37 hw hf => ?_
  refine k_new hw (by decide) rfl hf fun a38 s39 es hw o_a38 hf => ?_
  have o_v0 := ok_pre o_v0 es
  have hp := pr_tr hp es
  refine ob3 hf fun u s41 m42 ex hf => ?_
  refine k_b2 (un_X2_init hw o_a38 ex) fun hz => ?_
  have hw := hz.1
  have o_v0 := ok_pre o_v0 hz.2
  have o_a38 := ok_pre o_a38 hz.2
  have hp := pr_tr hp hz.2
  refine k_pR hw (ok_o o_v0 (by decide)) rfl o_a38 hf fun m43 hw hf => ?_
  refine k_newa hw (fun _ h => na_l h) hf fun a44 s45 es hw o_a44 hf => ?_
  have o_v0 := ok_pre o_v0 es
  have hp := pr_tr hp es
  refine k_pR hw (ok_o o_v0 (by decide)) rfl o_a44 hf fun m46 hw hf => ?_
  refine k_newa hw (fun _ h => na_i h) hf fun a47 s48 es hw o_a47 hf => ?_
  have o_v0 := ok_pre o_v0 es
  have hp := pr_tr hp es
  refine k_pR hw (ok_o o_v0 (by decide)) rfl o_a47 hf fun m49 hw hf => ?_
  exact k_retA hw hp hf
def n_X9_init (s : List Sh) (m : Mem) (p0 : Nat) : Option (Unit × List Sh × Mem) := nb_X9_init_0 s m p0
theorem un_X9_init {s s' : List Sh} {m m' : Mem} {p0 : Nat} {r : Unit} (hw : GS s m) (o_p0 : ok s p0 9) (ex : n_X9_init s m p0 = some (r, s', m')) : J3 (m_X9_init (bl s m) p0) (r, bl s' m') (GS s' m' ∧ ∃ t, s' = s ++ t) := u_X9_init_0 hw o_p0 ex
def nb_X9_house_33 (F : Nat) (s : List Sh) (m : Mem) (v0 : Nat) (v1 : Int32) : Option (Int32 × List Sh × Mem) := (m.2.2 v0 5).bind fun a1 => ((m.2.2 v0 0).bind fun a2 => (bind2 (n_X3_readAll F s m a1 a2 v1) fun _ m4 => (bindv (wI m4 v0 1 (0 : Int32)) fun m5 => ((m5.2.2 v0 5).bind fun a6 => (bindv (wI m5 v0 2 (m5.1 a6 1)) fun m7 => ((m7.2.2 v0 5).bind fun a8 => (bindv (wI m7 v0 3 (m7.1 a8 2)) fun m9 => (if (m9.1 v0 2) = 0 then ((m9.2.2 v0 5).bind fun a10 => ((m9.2.2 a10 0).bind fun a11 => ((m9.2.2 v0 5).bind fun a12 => ((m9.2.2 v0 4).bind fun a13 => (bindv (wR m9 a12 0 (some a13)) fun m14 => (bindv (wR m14 v0 4 (some a11)) fun m15 => (bindv (wI m15 v0 10 (0 : Int32)) fun m16 => ((m16.2.2 v0 4).bind fun a17 => (some ((m16.1 a17 2), s, m16)))))))))) else (some ((((-30 : Int32) - (m9.1 v0 2))), s, m9))))))))))
set_option maxRecDepth 20000 in
theorem u_X9_house_33 {F : Nat} {s s' : List Sh} {m m' : Mem} {r : Int32} {v0 : Nat} {v1 : Int32} (hw : GS s m) (o_v0 : ok s v0 9) (hf : nb_X9_house_33 F s m v0 v1 = some (r, s', m')) : J3 (b_X9_house_33 F (bl s m) v0 v1) (r, bl s' m') (GS s' m' ∧ ∃ t, s' = s ++ t) := by
  have hp : ∃ t, s = s ++ t := ⟨[], by simp⟩
  unfold nb_X9_house_33 at hf
  unfold b_X9_house_33
  refine k_gR hw (ok_o o_v0 (by decide)) rfl hf fun a1 o_a1 hf => ?_
  refine k_gR hw (ok_o o_v0 (by decide)) rfl hf fun a2 o_a2 hf => ?_
  refine k_cO (ok_o o_a1 (by decide)) ?_
  refine ob2 hf fun u m4 ex hf => ?_
  refine k_b2 (un_X3_readAll hw o_a1 o_a2 ex) fun hw => ?_
  refine k_pI hw (ok_o o_v0 (by decide)) rfl hf fun m5 hw hf => ?_
  refine k_gR hw (ok_o o_v0 (by decide)) rfl hf fun a6 o_a6 hf => ?_
  refine k_gI (ok_o o_a6 (by decide)) rfl ?_
  refine k_pI hw (ok_o o_v0 (by decide)) rfl hf fun m7 hw hf => ?_
  refine k_gR hw (ok_o o_v0 (by decide)) rfl hf fun a8 o_a8 hf => ?_
  refine k_gI (ok_o o_a8 (by decide)) rfl ?_
  refine k_pI hw (ok_o o_v0 (by decide)) rfl hf fun m9 hw hf => ?_
  refine k_gI (ok_o o_v0 (by decide)) rfl ?_
  refine k_if hf (fun hf => ?_) (fun hf => ?_)
  · refine k_gR hw (ok_o o_v0 (by decide)) rfl hf fun a10 o_a10 hf => ?_
    refine k_gR hw (ok_o o_a10 (by decide)) rfl hf fun a11 o_a11 hf => ?_
    refine k_gR hw (ok_o o_v0 (by decide)) rfl hf fun a12 o_a12 hf => ?_
    refine k_gR hw (ok_o o_v0 (by decide)) rfl hf fun a13 o_a13 hf => ?_
    refine k_pR hw (ok_o o_a12 (by decide)) rfl o_a13 hf fun m14 hw hf => ?_
    refine k_pR hw (ok_o o_v0 (by decide)) rfl o_a11 hf fun m15 hw hf => ?_
    refine k_pI hw (ok_o o_v0 (by decide)) rfl hf fun m16 hw hf => ?_
    refine k_gR hw (ok_o o_v0 (by decide)) rfl hf fun a17 o_a17 hf => ?_
    refine k_gI (ok_o o_a17 (by decide)) rfl ?_
    exact k_retA hw hp hf
  · refine k_gI (ok_o o_v0 (by decide)) rfl ?_
    exact k_retA hw hp hf
def nb_X9_house_0 (F : Nat) (s : List Sh) (m : Mem) (v0 : Nat) (v1 : Int32) : Option (Int32 × List Sh × Mem) := if v1 < 0 then (some ((-3 : Int32), s, m)) else (if v1 ≤ (m.1 v0 1) then (if (m.2.2 v0 5) = none then (bindv s.length fun a1 => (bindv (s ++ [.inl 3]) fun s2 => (bind3 (n_X3_init s2 m a1) fun _ s4 m5 => (bindv (wR m5 v0 5 (some a1)) fun m6 => (nb_X9_house_33 F s4 m6 v0 v1))))) else (nb_X9_house_33 F s m v0 v1)) else (some ((-3 : Int32), s, m)))
set_option maxRecDepth 20000 in
theorem u_X9_house_0 {F : Nat} {s s' : List Sh} {m m' : Mem} {r : Int32} {v0 : Nat} {v1 : Int32} (hw : GS s m) (o_v0 : ok s v0 9) (hf : nb_X9_house_0 F s m v0 v1 = some (r, s', m')) : J3 (b_X9_house_0 F (bl s m) v0 v1) (r, bl s' m') (GS s' m' ∧ ∃ t, s' = s ++ t) := by
  have hp : ∃ t, s = s ++ t := ⟨[], by simp⟩
  unfold nb_X9_house_0 at hf
  unfold b_X9_house_0
  refine k_if hf (fun hf => ?_) (fun hf => ?_)
  · exact k_retA hw hp hf
  · refine k_gI (ok_o o_v0 (by decide)) rfl ?_
    refine k_if hf (fun hf => ?_) (fun hf => ?_)
    · refine k_gN (ok_o o_v0 (by decide)) rfl ?_
      refine k_if hf (fun hf => ?_) (fun hf => ?_)
      · refine k_new hw (by decide) rfl hf fun a1 s2 es hw o_a1 hf => ?_
        have o_v0 := ok_pre o_v0 es
        have hp := pr_tr hp es
        refine ob3 hf fun u s4 m5 ex hf => ?_
        refine k_b2 (un_X3_init hw o_a1 ex) fun hz => ?_
        have hw := hz.1
        have o_v0 := ok_pre o_v0 hz.2
        have o_a1 := ok_pre o_a1 hz.2
        have hp := pr_tr hp hz.2
        refine k_pR hw (ok_o o_v0 (by decide)) rfl o_a1 hf fun m6 hw hf => ?_
        exact j_pre (u_X9_house_33 hw o_v0 hf) hp
      · exact j_pre (u_X9_house_33 hw o_v0 hf) hp
    · exact k_retA hw hp hf
def n_X9_house (F : Nat) (s : List Sh) (m : Mem) (p0 : Nat) (p1 : Int32) : Option (Int32 × List Sh × Mem) := nb_X9_house_0 F s m p0 p1
theorem un_X9_house {F : Nat} {s s' : List Sh} {m m' : Mem} {p0 : Nat} {p1 : Int32} {r : Int32} (hw : GS s m) (o_p0 : ok s p0 9) (ex : n_X9_house F s m p0 p1 = some (r, s', m')) : J3 (m_X9_house F (bl s m) p0 p1) (r, bl s' m') (GS s' m' ∧ ∃ t, s' = s ++ t) := u_X9_house_0 hw o_p0 ex
def nb_X9_routesFromHere_22 (F : Nat) (s : List Sh) (m : Mem) (v0 : Nat) : Option (Nat × List Sh × Mem) := (m.2.2 v0 16).bind fun a1 => ((m.2.2 v0 4).bind fun a2 => (bind2 (n_X5_begin F s m a1 a2) fun _ m4 => ((m4.2.2 v0 16).bind fun a5 => (some (a5, s, m4)))))
set_option maxRecDepth 20000 in
theorem u_X9_routesFromHere_22 {F : Nat} {s s' : List Sh} {m m' : Mem} {r : Nat} {v0 : Nat} (hw : GS s m) (o_v0 : ok s v0 9) (hf : nb_X9_routesFromHere_22 F s m v0 = some (r, s', m')) : J3 (b_X9_routesFromHere_22 F (bl s m) v0) (r, bl s' m') (GS s' m' ∧ ∃ t, s' = s ++ t) := by
  have hp : ∃ t, s = s ++ t := ⟨[], by simp⟩
  unfold nb_X9_routesFromHere_22 at hf
  unfold b_X9_routesFromHere_22
  refine k_gR hw (ok_o o_v0 (by decide)) rfl hf fun a1 o_a1 hf => ?_
  refine k_gR hw (ok_o o_v0 (by decide)) rfl hf fun a2 o_a2 hf => ?_
  refine k_cO (ok_o o_a1 (by decide)) ?_
  refine ob2 hf fun u m4 ex hf => ?_
  refine k_b2 (un_X5_begin hw o_a1 o_a2 ex) fun hw => ?_
  refine k_gR hw (ok_o o_v0 (by decide)) rfl hf fun a5 o_a5 hf => ?_
  exact k_retA hw hp hf
def nb_X9_routesFromHere_0 (F : Nat) (s : List Sh) (m : Mem) (v0 : Nat) : Option (Nat × List Sh × Mem) := if (m.2.2 v0 16) = none then (bindv s.length fun a1 => (bindv (s ++ [.inl 5]) fun s2 => ((m.2.2 v0 11).bind fun a3 => (bind3 (n_X5_init s2 m a1 a3) fun _ s5 m6 => (bindv (wR m6 v0 16 (some a1)) fun m7 => (nb_X9_routesFromHere_22 F s5 m7 v0)))))) else (nb_X9_routesFromHere_22 F s m v0)
set_option maxRecDepth 20000 in
theorem u_X9_routesFromHere_0 {F : Nat} {s s' : List Sh} {m m' : Mem} {r : Nat} {v0 : Nat} (hw : GS s m) (o_v0 : ok s v0 9) (hf : nb_X9_routesFromHere_0 F s m v0 = some (r, s', m')) : J3 (b_X9_routesFromHere_0 F (bl s m) v0) (r, bl s' m') (GS s' m' ∧ ∃ t, s' = s ++ t) := by
  have hp : ∃ t, s = s ++ t := ⟨[], by simp⟩
  unfold nb_X9_routesFromHere_0 at hf
  unfold b_X9_routesFromHere_0
  refine k_gN (ok_o o_v0 (by decide)) rfl ?_
  refine k_if hf (fun hf => ?_) (fun hf => ?_)
  · refine k_new hw (by decide) rfl hf fun a1 s2 es hw o_a1 hf => ?_
    have o_v0 := ok_pre o_v0 es
    have hp := pr_tr hp es
    refine k_gR hw (ok_o o_v0 (by decide)) rfl hf fun a3 o_a3 hf => ?_
    refine ob3 hf fun u s5 m6 ex hf => ?_
    refine k_b2 (un_X5_init hw o_a1 o_a3 ex) fun hz => ?_
    have hw := hz.1
    have o_v0 := ok_pre o_v0 hz.2
    have o_a1 := ok_pre o_a1 hz.2
    have hp := pr_tr hp hz.2
    refine k_pR hw (ok_o o_v0 (by decide)) rfl o_a1 hf fun m7 hw hf => ?_
    exact j_pre (u_X9_routesFromHere_22 hw o_v0 hf) hp
  · exact j_pre (u_X9_routesFromHere_22 hw o_v0 hf) hp
def n_X9_routesFromHere (F : Nat) (s : List Sh) (m : Mem) (p0 : Nat) : Option (Nat × List Sh × Mem) := nb_X9_routesFromHere_0 F s m p0
theorem un_X9_routesFromHere {F : Nat} {s s' : List Sh} {m m' : Mem} {p0 : Nat} {r : Nat} (hw : GS s m) (o_p0 : ok s p0 9) (ex : n_X9_routesFromHere F s m p0 = some (r, s', m')) : J3 (m_X9_routesFromHere F (bl s m) p0) (r, bl s' m') (GS s' m' ∧ ∃ t, s' = s ++ t) := u_X9_routesFromHere_0 hw o_p0 ex
theorem ur_routes22 {F : Nat} {s s' : List Sh} {m m' : Mem} {v0 r : Nat} (hf : nb_X9_routesFromHere_22 F s m v0 = some (r, s', m')) : m'.2.2 v0 16 = some r := by
  unfold nb_X9_routesFromHere_22 at hf
  refine ob hf fun a1 _ hf => ?_
  refine ob hf fun a2 _ hf => ?_
  refine ob2 hf fun u m4 _ hf => ?_
  refine ob hf fun a5 e5 hf => ?_
  cases hf
  exact e5
theorem ur_X9_routesFromHere {F : Nat} {s s' : List Sh} {m m' : Mem} {p0 r : Nat} (hw : GS s m) (o_p0 : ok s p0 9) (ex : n_X9_routesFromHere F s m p0 = some (r, s', m')) : ok s' r 5 := by
  obtain ⟨-, hg, hp⟩ := un_X9_routesFromHere hw o_p0 ex
  have h : m'.2.2 p0 16 = some r := by
    unfold n_X9_routesFromHere nb_X9_routesFromHere_0 at ex
    split at ex
    · refine obv ex fun a1 _ ex => ?_
      refine obv ex fun s2 _ ex => ?_
      refine ob ex fun a3 _ ex => ?_
      refine ob3 ex fun u s5 m6 _ ex => ?_
      exact obv ex fun m7 _ ex => ur_routes22 ex
    · exact ur_routes22 ex
  exact hg.1.1 _ _ _ _ (ok_o (ok_pre o_p0 hp) (by decide)) rfl h

def nb_X9_fewest_19 (F : Nat) (s : List Sh) (m : Mem) (v0 : Nat) (v1 : Int32) (v2 : Int32) (v3 : Int32) : Option (Int32 × List Sh × Mem) := bind2 (n_X9_asksFloor F s m v0 v1 v2) fun x1 m2 => (if x1 = 0 then (some ((-3 : Int32), s, m2)) else (bind3 (n_X9_routesFromHere F s m2 v0) fun a3 s4 m5 => ((m5.2.2 v0 12).bind fun a6 => ((m5.2.2 v0 12).bind fun a7 => (bind2 (n_X5_seekFewest F s4 m5 a3 ((Int64.toInt32 (m5.2.1 a6 0))) ((Int64.toInt32 (m5.2.1 a7 1)))) fun x8 m9 => (if x8 < 0 then (some (x8, s4, m9)) else (if v3 = 0 then (some (x8, s4, m9)) else (if x8 ≤ ((v3 - (10 : Int32))) then (some ((-1 : Int32), s4, m9)) else ((m9.2.2 a3 1).bind fun a10 => ((rdI s4 m9 a10 ((v3 - (10 : Int32)))).bind fun x11 => (some (x11, s4, m9))))))))))))
set_option maxRecDepth 20000 in
theorem u_X9_fewest_19 {F : Nat} {s s' : List Sh} {m m' : Mem} {r : Int32} {v0 : Nat} {v1 : Int32} {v2 : Int32} {v3 : Int32} (hw : GS s m) (o_v0 : ok s v0 9) (hf : nb_X9_fewest_19 F s m v0 v1 v2 v3 = some (r, s', m')) : J3 (b_X9_fewest_19 F (bl s m) v0 v1 v2 v3) (r, bl s' m') (GS s' m' ∧ ∃ t, s' = s ++ t) := by
  have hp : ∃ t, s = s ++ t := ⟨[], by simp⟩
  unfold nb_X9_fewest_19 at hf
  unfold b_X9_fewest_19
  refine k_cO (ok_o o_v0 (by decide)) ?_
  refine ob2 hf fun x1 m2 ex hf => ?_
  refine k_b2 (un_X9_asksFloor hw o_v0 ex) fun hw => ?_
  refine k_if hf (fun hf => ?_) (fun hf => ?_)
  · exact k_retA hw hp hf
  · refine k_cO (ok_o o_v0 (by decide)) ?_
    refine ob3 hf fun a3 s4 m5 ex hf => ?_
    have o_a3 := ur_X9_routesFromHere hw o_v0 ex
    refine k_b2 (un_X9_routesFromHere hw o_v0 ex) fun hz => ?_
    have hw := hz.1
    have o_v0 := ok_pre o_v0 hz.2
    have hp := pr_tr hp hz.2
    refine k_gR hw (ok_o o_v0 (by decide)) rfl hf fun a6 o_a6 hf => ?_
    refine k_gL (ok_o o_a6 (by decide)) rfl ?_
    refine k_gR hw (ok_o o_v0 (by decide)) rfl hf fun a7 o_a7 hf => ?_
    refine k_gL (ok_o o_a7 (by decide)) rfl ?_
    refine k_cO (ok_o o_a3 (by decide)) ?_
    refine ob2 hf fun x8 m9 ex hf => ?_
    refine k_b2 (un_X5_seekFewest hw o_a3 ex) fun hw => ?_
    refine k_if hf (fun hf => ?_) (fun hf => ?_)
    · exact k_retA hw hp hf
    · refine k_if hf (fun hf => ?_) (fun hf => ?_)
      · exact k_retA hw hp hf
      · refine k_if hf (fun hf => ?_) (fun hf => ?_)
        · exact k_retA hw hp hf
        · refine k_gR hw (ok_o o_a3 (by decide)) rfl hf fun a10 o_a10 hf => ?_
          refine k_aI (Or.inl rfl) (ka rfl o_a10) hf fun x11 hf => ?_
          exact k_retA hw hp hf
def nb_X9_fewest_0 (F : Nat) (s : List Sh) (m : Mem) (v0 : Nat) (v1 : Int32) (v2 : Int32) (v3 : Int32) : Option (Int32 × List Sh × Mem) := if v3 = 0 then (nb_X9_fewest_19 F s m v0 v1 v2 v3) else (if v3 < (10 : Int32) then (some ((-2 : Int32), s, m)) else (if v3 ≤ (17 : Int32) then (nb_X9_fewest_19 F s m v0 v1 v2 v3) else (some ((-2 : Int32), s, m))))
set_option maxRecDepth 20000 in
theorem u_X9_fewest_0 {F : Nat} {s s' : List Sh} {m m' : Mem} {r : Int32} {v0 : Nat} {v1 : Int32} {v2 : Int32} {v3 : Int32} (hw : GS s m) (o_v0 : ok s v0 9) (hf : nb_X9_fewest_0 F s m v0 v1 v2 v3 = some (r, s', m')) : J3 (b_X9_fewest_0 F (bl s m) v0 v1 v2 v3) (r, bl s' m') (GS s' m' ∧ ∃ t, s' = s ++ t) := by
  have hp : ∃ t, s = s ++ t := ⟨[], by simp⟩
  unfold nb_X9_fewest_0 at hf
  unfold b_X9_fewest_0
  refine k_if hf (fun hf => ?_) (fun hf => ?_)
  · exact j_pre (u_X9_fewest_19 hw o_v0 hf) hp
  · refine k_if hf (fun hf => ?_) (fun hf => ?_)
    · exact k_retA hw hp hf
    · refine k_if hf (fun hf => ?_) (fun hf => ?_)
      · exact j_pre (u_X9_fewest_19 hw o_v0 hf) hp
      · exact k_retA hw hp hf
def n_X9_fewest (F : Nat) (s : List Sh) (m : Mem) (p0 : Nat) (p1 : Int32) (p2 : Int32) (p3 : Int32) : Option (Int32 × List Sh × Mem) := nb_X9_fewest_0 F s m p0 p1 p2 p3
theorem un_X9_fewest {F : Nat} {s s' : List Sh} {m m' : Mem} {p0 : Nat} {p1 : Int32} {p2 : Int32} {p3 : Int32} {r : Int32} (hw : GS s m) (o_p0 : ok s p0 9) (ex : n_X9_fewest F s m p0 p1 p2 p3 = some (r, s', m')) : J3 (m_X9_fewest F (bl s m) p0 p1 p2 p3) (r, bl s' m') (GS s' m' ∧ ∃ t, s' = s ++ t) := u_X9_fewest_0 hw o_p0 ex
def nb_X9_reach_0 (F : Nat) (s : List Sh) (m : Mem) (v0 : Nat) (v1 : Int32) : Option (Int32 × List Sh × Mem) := if v1 < 0 then (some ((-3 : Int32), s, m)) else (if v1 ≤ (5 : Int32) then (bind3 (n_X9_routesFromHere F s m v0) fun a1 s2 m3 => (bind2 (n_X5_layFloors F s2 m3 a1 v1) fun x4 m5 => ((m5.2.2 a1 0).bind fun a6 => (some ((((m5.1 a6 4) - x4)), s2, m5))))) else (some ((-3 : Int32), s, m)))
set_option maxRecDepth 20000 in
theorem u_X9_reach_0 {F : Nat} {s s' : List Sh} {m m' : Mem} {r : Int32} {v0 : Nat} {v1 : Int32} (hw : GS s m) (o_v0 : ok s v0 9) (hf : nb_X9_reach_0 F s m v0 v1 = some (r, s', m')) : J3 (b_X9_reach_0 F (bl s m) v0 v1) (r, bl s' m') (GS s' m' ∧ ∃ t, s' = s ++ t) := by
  have hp : ∃ t, s = s ++ t := ⟨[], by simp⟩
  unfold nb_X9_reach_0 at hf
  unfold b_X9_reach_0
  refine k_if hf (fun hf => ?_) (fun hf => ?_)
  · exact k_retA hw hp hf
  · refine k_if hf (fun hf => ?_) (fun hf => ?_)
    · refine k_cO (ok_o o_v0 (by decide)) ?_
      refine ob3 hf fun a1 s2 m3 ex hf => ?_
      have o_a1 := ur_X9_routesFromHere hw o_v0 ex
      refine k_b2 (un_X9_routesFromHere hw o_v0 ex) fun hz => ?_
      have hw := hz.1
      have o_v0 := ok_pre o_v0 hz.2
      have hp := pr_tr hp hz.2
      refine k_cO (ok_o o_a1 (by decide)) ?_
      refine ob2 hf fun x4 m5 ex hf => ?_
      refine k_b2 (un_X5_layFloors hw o_a1 ex) fun hw => ?_
      refine k_gR hw (ok_o o_a1 (by decide)) rfl hf fun a6 o_a6 hf => ?_
      refine k_gI (ok_o o_a6 (by decide)) rfl ?_
      exact k_retA hw hp hf
    · exact k_retA hw hp hf
def n_X9_reach (F : Nat) (s : List Sh) (m : Mem) (p0 : Nat) (p1 : Int32) : Option (Int32 × List Sh × Mem) := nb_X9_reach_0 F s m p0 p1
theorem un_X9_reach {F : Nat} {s s' : List Sh} {m m' : Mem} {p0 : Nat} {p1 : Int32} {r : Int32} (hw : GS s m) (o_p0 : ok s p0 9) (ex : n_X9_reach F s m p0 p1 = some (r, s', m')) : J3 (m_X9_reach F (bl s m) p0 p1) (r, bl s' m') (GS s' m' ∧ ∃ t, s' = s ++ t) := u_X9_reach_0 hw o_p0 ex
def nb_X9_highest_0 (F : Nat) (s : List Sh) (m : Mem) (v0 : Nat) (v1 : Int32) (v2 : Int32) : Option (Int32 × List Sh × Mem) := if v2 < 0 then (some ((-2 : Int32), s, m)) else (if v2 ≤ (1 : Int32) then (if v1 < 0 then (some ((-3 : Int32), s, m)) else (if v1 ≤ (5 : Int32) then (bind3 (n_X9_routesFromHere F s m v0) fun a1 s2 m3 => (bind2 (n_X5_layFloors F s2 m3 a1 v1) fun x4 m5 => ((n_X5_greatestFrom F s2 m5 a1 x4).bind fun x6 => (if x6 = (-1 : Int32) then (some ((-1 : Int32), s2, m5)) else (if v2 = 0 then ((m5.2.2 a1 0).bind fun a10 => ((m5.2.2 a10 0).bind fun a11 => ((rdI s2 m5 a11 x6).bind fun x12 => (some (x12, s2, m5))))) else ((m5.2.2 a1 0).bind fun a7 => ((m5.2.2 a7 1).bind fun a8 => ((rdI s2 m5 a8 x6).bind fun x9 => (some (x9, s2, m5)))))))))) else (some ((-3 : Int32), s, m)))) else (some ((-2 : Int32), s, m)))
set_option maxRecDepth 20000 in
theorem u_X9_highest_0 {F : Nat} {s s' : List Sh} {m m' : Mem} {r : Int32} {v0 : Nat} {v1 : Int32} {v2 : Int32} (hw : GS s m) (o_v0 : ok s v0 9) (hf : nb_X9_highest_0 F s m v0 v1 v2 = some (r, s', m')) : J3 (b_X9_highest_0 F (bl s m) v0 v1 v2) (r, bl s' m') (GS s' m' ∧ ∃ t, s' = s ++ t) := by
  have hp : ∃ t, s = s ++ t := ⟨[], by simp⟩
  unfold nb_X9_highest_0 at hf
  unfold b_X9_highest_0
  refine k_if hf (fun hf => ?_) (fun hf => ?_)
  · exact k_retA hw hp hf
  · refine k_if hf (fun hf => ?_) (fun hf => ?_)
    · refine k_if hf (fun hf => ?_) (fun hf => ?_)
      · exact k_retA hw hp hf
      · refine k_if hf (fun hf => ?_) (fun hf => ?_)
        · refine k_cO (ok_o o_v0 (by decide)) ?_
          refine ob3 hf fun a1 s2 m3 ex hf => ?_
          have o_a1 := ur_X9_routesFromHere hw o_v0 ex
          refine k_b2 (un_X9_routesFromHere hw o_v0 ex) fun hz => ?_
          have hw := hz.1
          have o_v0 := ok_pre o_v0 hz.2
          have hp := pr_tr hp hz.2
          refine k_cO (ok_o o_a1 (by decide)) ?_
          refine ob2 hf fun x4 m5 ex hf => ?_
          refine k_b2 (un_X5_layFloors hw o_a1 ex) fun hw => ?_
          refine k_cO (ok_o o_a1 (by decide)) ?_
          refine ob hf fun x6 ex hf => ?_
          refine k_b1 (un_X5_greatestFrom hw o_a1 ex) ?_
          refine k_if hf (fun hf => ?_) (fun hf => ?_)
          · exact k_retA hw hp hf
          · refine k_if hf (fun hf => ?_) (fun hf => ?_)
            · refine k_gR hw (ok_o o_a1 (by decide)) rfl hf fun a10 o_a10 hf => ?_
              refine k_gR hw (ok_o o_a10 (by decide)) rfl hf fun a11 o_a11 hf => ?_
              refine k_aI (Or.inl rfl) (ka rfl o_a11) hf fun x12 hf => ?_
              exact k_retA hw hp hf
            · refine k_gR hw (ok_o o_a1 (by decide)) rfl hf fun a7 o_a7 hf => ?_
              refine k_gR hw (ok_o o_a7 (by decide)) rfl hf fun a8 o_a8 hf => ?_
              refine k_aI (Or.inl rfl) (ka rfl o_a8) hf fun x9 hf => ?_
              exact k_retA hw hp hf
        · exact k_retA hw hp hf
    · exact k_retA hw hp hf
def n_X9_highest (F : Nat) (s : List Sh) (m : Mem) (p0 : Nat) (p1 : Int32) (p2 : Int32) : Option (Int32 × List Sh × Mem) := nb_X9_highest_0 F s m p0 p1 p2
theorem un_X9_highest {F : Nat} {s s' : List Sh} {m m' : Mem} {p0 : Nat} {p1 : Int32} {p2 : Int32} {r : Int32} (hw : GS s m) (o_p0 : ok s p0 9) (ex : n_X9_highest F s m p0 p1 p2 = some (r, s', m')) : J3 (m_X9_highest F (bl s m) p0 p1 p2) (r, bl s' m') (GS s' m' ∧ ∃ t, s' = s ++ t) := u_X9_highest_0 hw o_p0 ex
def nb_X9_twins_51 (F : Nat) (s : List Sh) (m : Mem) (v0 : Nat) (v1 : Int32) (v2 : Int32) : Option (Int32 × List Sh × Mem) := bind3 (n_X9_routesFromHere F s m v0) fun a1 s2 m3 => (bind2 (n_X5_seekTwins F s2 m3 a1) fun x4 m5 => (if x4 = (-1 : Int32) then (some (x4, s2, m5)) else (if v1 = 0 then (some (x4, s2, m5)) else (if (10 : Int32) = 0 then none else (bindv ((remI v1 (10 : Int32))) fun x6 => (if x6 < x4 then (if v2 = 0 then ((m5.2.2 a1 2).bind fun a7 => ((rdI s2 m5 a7 x6).bind fun x8 => (some (x8, s2, m5)))) else ((m5.2.2 a1 1).bind fun a9 => ((rdI s2 m5 a9 x6).bind fun x10 => (some (x10, s2, m5))))) else (some ((-1 : Int32), s2, m5))))))))
set_option maxRecDepth 20000 in
theorem u_X9_twins_51 {F : Nat} {s s' : List Sh} {m m' : Mem} {r : Int32} {v0 : Nat} {v1 : Int32} {v2 : Int32} (hw : GS s m) (o_v0 : ok s v0 9) (hf : nb_X9_twins_51 F s m v0 v1 v2 = some (r, s', m')) : J3 (b_X9_twins_51 F (bl s m) v0 v1 v2) (r, bl s' m') (GS s' m' ∧ ∃ t, s' = s ++ t) := by
  have hp : ∃ t, s = s ++ t := ⟨[], by simp⟩
  unfold nb_X9_twins_51 at hf
  unfold b_X9_twins_51
  refine k_cO (ok_o o_v0 (by decide)) ?_
  refine ob3 hf fun a1 s2 m3 ex hf => ?_
  have o_a1 := ur_X9_routesFromHere hw o_v0 ex
  refine k_b2 (un_X9_routesFromHere hw o_v0 ex) fun hz => ?_
  have hw := hz.1
  have o_v0 := ok_pre o_v0 hz.2
  have hp := pr_tr hp hz.2
  refine k_cO (ok_o o_a1 (by decide)) ?_
  refine ob2 hf fun x4 m5 ex hf => ?_
  refine k_b2 (un_X5_seekTwins hw o_a1 ex) fun hw => ?_
  refine k_if hf (fun hf => ?_) (fun hf => ?_)
  · exact k_retA hw hp hf
  · refine k_if hf (fun hf => ?_) (fun hf => ?_)
    · exact k_retA hw hp hf
    · refine k_if hf (fun hf => by cases hf) (fun hf => ?_)
      refine k_bv hf fun x6 hf => ?_
      refine k_if hf (fun hf => ?_) (fun hf => ?_)
      · refine k_if hf (fun hf => ?_) (fun hf => ?_)
        · refine k_gR hw (ok_o o_a1 (by decide)) rfl hf fun a7 o_a7 hf => ?_
          refine k_aI (Or.inl rfl) (ka rfl o_a7) hf fun x8 hf => ?_
          exact k_retA hw hp hf
        · refine k_gR hw (ok_o o_a1 (by decide)) rfl hf fun a9 o_a9 hf => ?_
          refine k_aI (Or.inl rfl) (ka rfl o_a9) hf fun x10 hf => ?_
          exact k_retA hw hp hf
      · exact k_retA hw hp hf
def nb_X9_twins_35 (F : Nat) (s : List Sh) (m : Mem) (v0 : Nat) (v1 : Int32) (v2 : Int32) (s0 : Int32) : Option (Int32 × List Sh × Mem) := if v1 = 0 then (nb_X9_twins_51 F s m v0 v1 v2) else (if v2 = 0 then (if s0 = 0 then (some ((-2 : Int32), s, m)) else (nb_X9_twins_51 F s m v0 v1 v2)) else (nb_X9_twins_51 F s m v0 v1 v2))
set_option maxRecDepth 20000 in
theorem u_X9_twins_35 {F : Nat} {s s' : List Sh} {m m' : Mem} {r : Int32} {v0 : Nat} {v1 : Int32} {v2 : Int32} {s0 : Int32} (hw : GS s m) (o_v0 : ok s v0 9) (hf : nb_X9_twins_35 F s m v0 v1 v2 s0 = some (r, s', m')) : J3 (b_X9_twins_35 F (bl s m) v0 v1 v2 s0) (r, bl s' m') (GS s' m' ∧ ∃ t, s' = s ++ t) := by
  have hp : ∃ t, s = s ++ t := ⟨[], by simp⟩
  unfold nb_X9_twins_35 at hf
  unfold b_X9_twins_35
  refine k_if hf (fun hf => ?_) (fun hf => ?_)
  · exact j_pre (u_X9_twins_51 hw o_v0 hf) hp
  · refine k_if hf (fun hf => ?_) (fun hf => ?_)
    · refine k_if hf (fun hf => ?_) (fun hf => ?_)
      · exact k_retA hw hp hf
      · exact j_pre (u_X9_twins_51 hw o_v0 hf) hp
    · exact j_pre (u_X9_twins_51 hw o_v0 hf) hp
def nb_X9_twins_34 (F : Nat) (s : List Sh) (m : Mem) (v0 : Nat) (v1 : Int32) (v2 : Int32) : Option (Int32 × List Sh × Mem) := nb_X9_twins_35 F s m v0 v1 v2 (0 : Int32)
set_option maxRecDepth 20000 in
theorem u_X9_twins_34 {F : Nat} {s s' : List Sh} {m m' : Mem} {r : Int32} {v0 : Nat} {v1 : Int32} {v2 : Int32} (hw : GS s m) (o_v0 : ok s v0 9) (hf : nb_X9_twins_34 F s m v0 v1 v2 = some (r, s', m')) : J3 (b_X9_twins_34 F (bl s m) v0 v1 v2) (r, bl s' m') (GS s' m' ∧ ∃ t, s' = s ++ t) := by
  have hp : ∃ t, s = s ++ t := ⟨[], by simp⟩
  unfold nb_X9_twins_34 at hf
  unfold b_X9_twins_34
  exact j_pre (u_X9_twins_35 hw o_v0 hf) hp
def nb_X9_twins_17 (F : Nat) (s : List Sh) (m : Mem) (v0 : Nat) (v1 : Int32) (s0 : Int32) : Option (Int32 × List Sh × Mem) := if v1 < (20 : Int32) then (nb_X9_twins_34 F s m v0 v1 s0) else (if (24 : Int32) < v1 then (nb_X9_twins_34 F s m v0 v1 s0) else (nb_X9_twins_35 F s m v0 v1 s0 (1 : Int32)))
set_option maxRecDepth 20000 in
theorem u_X9_twins_17 {F : Nat} {s s' : List Sh} {m m' : Mem} {r : Int32} {v0 : Nat} {v1 : Int32} {s0 : Int32} (hw : GS s m) (o_v0 : ok s v0 9) (hf : nb_X9_twins_17 F s m v0 v1 s0 = some (r, s', m')) : J3 (b_X9_twins_17 F (bl s m) v0 v1 s0) (r, bl s' m') (GS s' m' ∧ ∃ t, s' = s ++ t) := by
  have hp : ∃ t, s = s ++ t := ⟨[], by simp⟩
  unfold nb_X9_twins_17 at hf
  unfold b_X9_twins_17
  refine k_if hf (fun hf => ?_) (fun hf => ?_)
  · exact j_pre (u_X9_twins_34 hw o_v0 hf) hp
  · refine k_if hf (fun hf => ?_) (fun hf => ?_)
    · exact j_pre (u_X9_twins_34 hw o_v0 hf) hp
    · exact j_pre (u_X9_twins_35 hw o_v0 hf) hp
def nb_X9_twins_16 (F : Nat) (s : List Sh) (m : Mem) (v0 : Nat) (v1 : Int32) : Option (Int32 × List Sh × Mem) := nb_X9_twins_17 F s m v0 v1 (0 : Int32)
set_option maxRecDepth 20000 in
theorem u_X9_twins_16 {F : Nat} {s s' : List Sh} {m m' : Mem} {r : Int32} {v0 : Nat} {v1 : Int32} (hw : GS s m) (o_v0 : ok s v0 9) (hf : nb_X9_twins_16 F s m v0 v1 = some (r, s', m')) : J3 (b_X9_twins_16 F (bl s m) v0 v1) (r, bl s' m') (GS s' m' ∧ ∃ t, s' = s ++ t) := by
  have hp : ∃ t, s = s ++ t := ⟨[], by simp⟩
  unfold nb_X9_twins_16 at hf
  unfold b_X9_twins_16
  exact j_pre (u_X9_twins_17 hw o_v0 hf) hp
def nb_X9_twins_0 (F : Nat) (s : List Sh) (m : Mem) (v0 : Nat) (v1 : Int32) : Option (Int32 × List Sh × Mem) := if v1 < (10 : Int32) then (nb_X9_twins_16 F s m v0 v1) else (if (14 : Int32) < v1 then (nb_X9_twins_16 F s m v0 v1) else (nb_X9_twins_17 F s m v0 v1 (1 : Int32)))
set_option maxRecDepth 20000 in
theorem u_X9_twins_0 {F : Nat} {s s' : List Sh} {m m' : Mem} {r : Int32} {v0 : Nat} {v1 : Int32} (hw : GS s m) (o_v0 : ok s v0 9) (hf : nb_X9_twins_0 F s m v0 v1 = some (r, s', m')) : J3 (b_X9_twins_0 F (bl s m) v0 v1) (r, bl s' m') (GS s' m' ∧ ∃ t, s' = s ++ t) := by
  have hp : ∃ t, s = s ++ t := ⟨[], by simp⟩
  unfold nb_X9_twins_0 at hf
  unfold b_X9_twins_0
  refine k_if hf (fun hf => ?_) (fun hf => ?_)
  · exact j_pre (u_X9_twins_16 hw o_v0 hf) hp
  · refine k_if hf (fun hf => ?_) (fun hf => ?_)
    · exact j_pre (u_X9_twins_16 hw o_v0 hf) hp
    · exact j_pre (u_X9_twins_17 hw o_v0 hf) hp
def n_X9_twins (F : Nat) (s : List Sh) (m : Mem) (p0 : Nat) (p1 : Int32) : Option (Int32 × List Sh × Mem) := nb_X9_twins_0 F s m p0 p1
theorem un_X9_twins {F : Nat} {s s' : List Sh} {m m' : Mem} {p0 : Nat} {p1 : Int32} {r : Int32} (hw : GS s m) (o_p0 : ok s p0 9) (ex : n_X9_twins F s m p0 p1 = some (r, s', m')) : J3 (m_X9_twins F (bl s m) p0 p1) (r, bl s' m') (GS s' m' ∧ ∃ t, s' = s ++ t) := u_X9_twins_0 hw o_p0 ex
def nb_X9_meet_0 (F : Nat) (s : List Sh) (m : Mem) (v0 : Nat) (v1 : Int32) (v2 : Int32) (v3 : Int32) (v4 : Int32) : Option (Int32 × List Sh × Mem) := (m.2.2 v0 4).bind fun a1 => (if v1 < 0 then (some ((-2 : Int32), s, m)) else (if (m.1 a1 15) ≤ v1 then (some ((-2 : Int32), s, m)) else (if v2 < 0 then (some ((-2 : Int32), s, m)) else (if (m.1 a1 15) ≤ v2 then (some ((-2 : Int32), s, m)) else (if v1 = v2 then (some ((-2 : Int32), s, m)) else (if v4 < 0 then (some ((-2 : Int32), s, m)) else (if v4 ≤ (2 : Int32) then (bind3 (n_X9_routesFromHere F s m v0) fun a2 s3 m4 => (bind2 (n_X5_seekMeeting F s3 m4 a2 v1 v2 v3) fun x5 m6 => (if x5 = (-1 : Int32) then (some (x5, s3, m6)) else (if v4 = 0 then (some (x5, s3, m6)) else (if v4 = (1 : Int32) then ((m6.2.2 a2 0).bind fun a10 => ((m6.2.2 a10 0).bind fun a11 => ((rdI s3 m6 a11 (m6.1 a2 3)).bind fun x12 => (some (x12, s3, m6))))) else ((m6.2.2 a2 0).bind fun a7 => ((m6.2.2 a7 1).bind fun a8 => ((rdI s3 m6 a8 (m6.1 a2 3)).bind fun x9 => (some (x9, s3, m6)))))))))) else (some ((-2 : Int32), s, m)))))))))
set_option maxRecDepth 20000 in
theorem u_X9_meet_0 {F : Nat} {s s' : List Sh} {m m' : Mem} {r : Int32} {v0 : Nat} {v1 : Int32} {v2 : Int32} {v3 : Int32} {v4 : Int32} (hw : GS s m) (o_v0 : ok s v0 9) (hf : nb_X9_meet_0 F s m v0 v1 v2 v3 v4 = some (r, s', m')) : J3 (b_X9_meet_0 F (bl s m) v0 v1 v2 v3 v4) (r, bl s' m') (GS s' m' ∧ ∃ t, s' = s ++ t) := by
  have hp : ∃ t, s = s ++ t := ⟨[], by simp⟩
  unfold nb_X9_meet_0 at hf
  unfold b_X9_meet_0
  refine k_gR hw (ok_o o_v0 (by decide)) rfl hf fun a1 o_a1 hf => ?_
  refine k_gI (ok_o o_a1 (by decide)) rfl ?_
  refine k_if hf (fun hf => ?_) (fun hf => ?_)
  · exact k_retA hw hp hf
  · refine k_if hf (fun hf => ?_) (fun hf => ?_)
    · exact k_retA hw hp hf
    · refine k_if hf (fun hf => ?_) (fun hf => ?_)
      · exact k_retA hw hp hf
      · refine k_if hf (fun hf => ?_) (fun hf => ?_)
        · exact k_retA hw hp hf
        · refine k_if hf (fun hf => ?_) (fun hf => ?_)
          · exact k_retA hw hp hf
          · refine k_if hf (fun hf => ?_) (fun hf => ?_)
            · exact k_retA hw hp hf
            · refine k_if hf (fun hf => ?_) (fun hf => ?_)
              · refine k_cO (ok_o o_v0 (by decide)) ?_
                refine ob3 hf fun a2 s3 m4 ex hf => ?_
                have o_a2 := ur_X9_routesFromHere hw o_v0 ex
                refine k_b2 (un_X9_routesFromHere hw o_v0 ex) fun hz => ?_
                have hw := hz.1
                have o_v0 := ok_pre o_v0 hz.2
                have hp := pr_tr hp hz.2
                refine k_cO (ok_o o_a2 (by decide)) ?_
                refine ob2 hf fun x5 m6 ex hf => ?_
                refine k_b2 (un_X5_seekMeeting hw o_a2 ex) fun hw => ?_
                refine k_if hf (fun hf => ?_) (fun hf => ?_)
                · exact k_retA hw hp hf
                · refine k_if hf (fun hf => ?_) (fun hf => ?_)
                  · exact k_retA hw hp hf
                  · refine k_if hf (fun hf => ?_) (fun hf => ?_)
                    · refine k_gR hw (ok_o o_a2 (by decide)) rfl hf fun a10 o_a10 hf => ?_
                      refine k_gR hw (ok_o o_a10 (by decide)) rfl hf fun a11 o_a11 hf => ?_
                      refine k_gI (ok_o o_a2 (by decide)) rfl ?_
                      refine k_aI (Or.inl rfl) (ka rfl o_a11) hf fun x12 hf => ?_
                      exact k_retA hw hp hf
                    · refine k_gR hw (ok_o o_a2 (by decide)) rfl hf fun a7 o_a7 hf => ?_
                      refine k_gR hw (ok_o o_a7 (by decide)) rfl hf fun a8 o_a8 hf => ?_
                      refine k_gI (ok_o o_a2 (by decide)) rfl ?_
                      refine k_aI (Or.inl rfl) (ka rfl o_a8) hf fun x9 hf => ?_
                      exact k_retA hw hp hf
              · exact k_retA hw hp hf
def n_X9_meet (F : Nat) (s : List Sh) (m : Mem) (p0 : Nat) (p1 : Int32) (p2 : Int32) (p3 : Int32) (p4 : Int32) : Option (Int32 × List Sh × Mem) := nb_X9_meet_0 F s m p0 p1 p2 p3 p4
theorem un_X9_meet {F : Nat} {s s' : List Sh} {m m' : Mem} {p0 : Nat} {p1 : Int32} {p2 : Int32} {p3 : Int32} {p4 : Int32} {r : Int32} (hw : GS s m) (o_p0 : ok s p0 9) (ex : n_X9_meet F s m p0 p1 p2 p3 p4 = some (r, s', m')) : J3 (m_X9_meet F (bl s m) p0 p1 p2 p3 p4) (r, bl s' m') (GS s' m' ∧ ∃ t, s' = s ++ t) := u_X9_meet_0 hw o_p0 ex
def nb_X9_watcherHere_0 (s : List Sh) (m : Mem) (v0 : Nat) : Option (Nat × List Sh × Mem) := if (m.2.2 v0 17) = none then (bindv s.length fun a2 => (bindv (s ++ [.inl 8]) fun s3 => ((m.2.2 v0 11).bind fun a4 => (bind3 (n_X8_init s3 m a2 a4) fun _ s6 m7 => (bindv (wR m7 v0 17 (some a2)) fun m8 => ((m8.2.2 v0 17).bind fun a9 => (some (a9, s6, m8)))))))) else ((m.2.2 v0 17).bind fun a1 => (some (a1, s, m)))
set_option maxRecDepth 20000 in
theorem u_X9_watcherHere_0 {s s' : List Sh} {m m' : Mem} {r : Nat} {v0 : Nat} (hw : GS s m) (o_v0 : ok s v0 9) (hf : nb_X9_watcherHere_0 s m v0 = some (r, s', m')) : J3 (b_X9_watcherHere_0 (bl s m) v0) (r, bl s' m') (GS s' m' ∧ ∃ t, s' = s ++ t) := by
  have hp : ∃ t, s = s ++ t := ⟨[], by simp⟩
  unfold nb_X9_watcherHere_0 at hf
  unfold b_X9_watcherHere_0
  refine k_gN (ok_o o_v0 (by decide)) rfl ?_
  refine k_if hf (fun hf => ?_) (fun hf => ?_)
  · refine k_new hw (by decide) rfl hf fun a2 s3 es hw o_a2 hf => ?_
    have o_v0 := ok_pre o_v0 es
    have hp := pr_tr hp es
    refine k_gR hw (ok_o o_v0 (by decide)) rfl hf fun a4 o_a4 hf => ?_
    refine ob3 hf fun u s6 m7 ex hf => ?_
    refine k_b2 (un_X8_init hw o_a2 o_a4 ex) fun hz => ?_
    have hw := hz.1
    have o_v0 := ok_pre o_v0 hz.2
    have o_a2 := ok_pre o_a2 hz.2
    have hp := pr_tr hp hz.2
    refine k_pR hw (ok_o o_v0 (by decide)) rfl o_a2 hf fun m8 hw hf => ?_
    refine k_gR hw (ok_o o_v0 (by decide)) rfl hf fun a9 o_a9 hf => ?_
    exact k_retA hw hp hf
  · refine k_gR hw (ok_o o_v0 (by decide)) rfl hf fun a1 o_a1 hf => ?_
    exact k_retA hw hp hf
def n_X9_watcherHere (s : List Sh) (m : Mem) (p0 : Nat) : Option (Nat × List Sh × Mem) := nb_X9_watcherHere_0 s m p0
theorem un_X9_watcherHere {s s' : List Sh} {m m' : Mem} {p0 : Nat} {r : Nat} (hw : GS s m) (o_p0 : ok s p0 9) (ex : n_X9_watcherHere s m p0 = some (r, s', m')) : J3 (m_X9_watcherHere (bl s m) p0) (r, bl s' m') (GS s' m' ∧ ∃ t, s' = s ++ t) := u_X9_watcherHere_0 hw o_p0 ex
theorem ur_X9_watcherHere {s s' : List Sh} {m m' : Mem} {p0 r : Nat} (hw : GS s m) (o_p0 : ok s p0 9) (ex : n_X9_watcherHere s m p0 = some (r, s', m')) : ok s' r 8 := by
  obtain ⟨-, hg, hp⟩ := un_X9_watcherHere hw o_p0 ex
  have h : m'.2.2 p0 17 = some r := by
    unfold n_X9_watcherHere nb_X9_watcherHere_0 at ex
    split at ex
    · refine obv ex fun a1 _ ex => ?_
      refine obv ex fun s2 _ ex => ?_
      refine ob ex fun a3 _ ex => ?_
      refine ob3 ex fun u s5 m6 _ ex => ?_
      refine obv ex fun m7 _ ex => ?_
      refine ob ex fun a8 e8 ex => ?_
      cases ex
      exact e8
    · refine ob ex fun a8 e8 ex => ?_
      cases ex
      exact e8
  exact hg.1.1 _ _ _ _ (ok_o (ok_pre o_p0 hp) (by decide)) rfl h

def nb_X9_fits_0 (F : Nat) (s : List Sh) (m : Mem) (v0 : Nat) (v1 : Int32) (v2 : Int32) : Option (Int32 × List Sh × Mem) := (n_X9_refusedSeen F s m v0 v1).bind fun x1 => (if x1 = 0 then ((m.2.2 v0 7).bind fun a2 => ((rdR s m a2 v1).bind fun a3 => ((n_X9_fewRows F s m v0 (m.1 a3 1)).bind fun x4 => (if x4 = 0 then (some ((-1000 : Int32), s, m)) else (bind3 (n_X9_watcherHere s m v0) fun a5 s6 m7 => ((m7.2.2 v0 4).bind fun a8 => ((m7.2.2 v0 7).bind fun a9 => ((rdR s6 m7 a9 v1).bind fun a10 => (bind2 (n_X8_watchAll F s6 m7 a5 a8 a10 v2) fun _ m12 => (if v2 = (-1 : Int32) then (some ((m12.1 a5 0), s6, m12)) else (some ((m12.1 a5 1), s6, m12)))))))))))) else (some (x1, s, m)))
set_option maxRecDepth 20000 in
theorem u_X9_fits_0 {F : Nat} {s s' : List Sh} {m m' : Mem} {r : Int32} {v0 : Nat} {v1 : Int32} {v2 : Int32} (hw : GS s m) (o_v0 : ok s v0 9) (hf : nb_X9_fits_0 F s m v0 v1 v2 = some (r, s', m')) : J3 (b_X9_fits_0 F (bl s m) v0 v1 v2) (r, bl s' m') (GS s' m' ∧ ∃ t, s' = s ++ t) := by
  have hp : ∃ t, s = s ++ t := ⟨[], by simp⟩
  unfold nb_X9_fits_0 at hf
  unfold b_X9_fits_0
  refine k_cO (ok_o o_v0 (by decide)) ?_
  refine ob hf fun x1 ex hf => ?_
  refine k_b1 (un_X9_refusedSeen hw o_v0 ex) ?_
  refine k_if hf (fun hf => ?_) (fun hf => ?_)
  · refine k_gR hw (ok_o o_v0 (by decide)) rfl hf fun a2 o_a2 hf => ?_
    refine k_aR hw (Or.inr rfl) (ka rfl o_a2) hf fun a3 o_a3 hf => ?_
    refine k_gI (ok_o o_a3 (by decide)) rfl ?_
    refine k_cO (ok_o o_v0 (by decide)) ?_
    refine ob hf fun x4 ex hf => ?_
    refine k_b1 (un_X9_fewRows hw o_v0 ex) ?_
    refine k_if hf (fun hf => ?_) (fun hf => ?_)
    · exact k_retA hw hp hf
    · refine k_cO (ok_o o_v0 (by decide)) ?_
      refine ob3 hf fun a5 s6 m7 ex hf => ?_
      have o_a5 := ur_X9_watcherHere hw o_v0 ex
      refine k_b2 (un_X9_watcherHere hw o_v0 ex) fun hz => ?_
      have hw := hz.1
      have o_v0 := ok_pre o_v0 hz.2
      have hp := pr_tr hp hz.2
      refine k_gR hw (ok_o o_v0 (by decide)) rfl hf fun a8 o_a8 hf => ?_
      refine k_gR hw (ok_o o_v0 (by decide)) rfl hf fun a9 o_a9 hf => ?_
      refine k_aR hw (Or.inr rfl) (ka rfl o_a9) hf fun a10 o_a10 hf => ?_
      refine k_cO (ok_o o_a5 (by decide)) ?_
      refine ob2 hf fun u m12 ex hf => ?_
      refine k_b2 (un_X8_watchAll hw o_a5 o_a8 o_a10 ex) fun hw => ?_
      refine k_if hf (fun hf => ?_) (fun hf => ?_)
      · refine k_gI (ok_o o_a5 (by decide)) rfl ?_
        exact k_retA hw hp hf
      · refine k_gI (ok_o o_a5 (by decide)) rfl ?_
        exact k_retA hw hp hf
  · exact k_retA hw hp hf
def n_X9_fits (F : Nat) (s : List Sh) (m : Mem) (p0 : Nat) (p1 : Int32) (p2 : Int32) : Option (Int32 × List Sh × Mem) := nb_X9_fits_0 F s m p0 p1 p2
theorem un_X9_fits {F : Nat} {s s' : List Sh} {m m' : Mem} {p0 : Nat} {p1 : Int32} {p2 : Int32} {r : Int32} (hw : GS s m) (o_p0 : ok s p0 9) (ex : n_X9_fits F s m p0 p1 p2 = some (r, s', m')) : J3 (m_X9_fits F (bl s m) p0 p1 p2) (r, bl s' m') (GS s' m' ∧ ∃ t, s' = s ++ t) := u_X9_fits_0 hw o_p0 ex
def nb_X9_sure_0 (F : Nat) (s : List Sh) (m : Mem) (v0 : Nat) (v1 : Int32) (v2 : Int32) : Option (Int32 × List Sh × Mem) := (n_X9_refusedSeen F s m v0 v1).bind fun x1 => (if x1 = 0 then (if v2 < 0 then (some ((-3 : Int32), s, m)) else ((m.2.2 v0 7).bind fun a2 => ((rdR s m a2 v1).bind fun a3 => (if v2 < (m.1 a3 1) then ((m.2.2 v0 7).bind fun a4 => ((rdR s m a4 v1).bind fun a5 => ((n_X9_fewRows F s m v0 (m.1 a5 1)).bind fun x6 => (if x6 = 0 then (some ((-1000 : Int32), s, m)) else (bind3 (n_X9_watcherHere s m v0) fun a7 s8 m9 => ((m9.2.2 v0 4).bind fun a10 => ((m9.2.2 v0 7).bind fun a11 => ((rdR s8 m9 a11 v1).bind fun a12 => (bind2 (n_X8_watchAll F s8 m9 a7 a10 a12 (-1 : Int32)) fun _ m14 => (if (m14.1 a7 0) ≤ 0 then (some ((-1 : Int32), s8, m14)) else ((m14.2.2 a7 2).bind fun a15 => ((rdI s8 m14 a15 v2).bind fun x16 => (some (x16, s8, m14)))))))))))))) else (some ((-3 : Int32), s, m)))))) else (some (x1, s, m)))
set_option maxRecDepth 20000 in
theorem u_X9_sure_0 {F : Nat} {s s' : List Sh} {m m' : Mem} {r : Int32} {v0 : Nat} {v1 : Int32} {v2 : Int32} (hw : GS s m) (o_v0 : ok s v0 9) (hf : nb_X9_sure_0 F s m v0 v1 v2 = some (r, s', m')) : J3 (b_X9_sure_0 F (bl s m) v0 v1 v2) (r, bl s' m') (GS s' m' ∧ ∃ t, s' = s ++ t) := by
  have hp : ∃ t, s = s ++ t := ⟨[], by simp⟩
  unfold nb_X9_sure_0 at hf
  unfold b_X9_sure_0
  refine k_cO (ok_o o_v0 (by decide)) ?_
  refine ob hf fun x1 ex hf => ?_
  refine k_b1 (un_X9_refusedSeen hw o_v0 ex) ?_
  refine k_if hf (fun hf => ?_) (fun hf => ?_)
  · refine k_if hf (fun hf => ?_) (fun hf => ?_)
    · exact k_retA hw hp hf
    · refine k_gR hw (ok_o o_v0 (by decide)) rfl hf fun a2 o_a2 hf => ?_
      refine k_aR hw (Or.inr rfl) (ka rfl o_a2) hf fun a3 o_a3 hf => ?_
      refine k_gI (ok_o o_a3 (by decide)) rfl ?_
      refine k_if hf (fun hf => ?_) (fun hf => ?_)
      · refine k_gR hw (ok_o o_v0 (by decide)) rfl hf fun a4 o_a4 hf => ?_
        refine k_aR hw (Or.inr rfl) (ka rfl o_a4) hf fun a5 o_a5 hf => ?_
        refine k_gI (ok_o o_a5 (by decide)) rfl ?_
        refine k_cO (ok_o o_v0 (by decide)) ?_
        refine ob hf fun x6 ex hf => ?_
        refine k_b1 (un_X9_fewRows hw o_v0 ex) ?_
        refine k_if hf (fun hf => ?_) (fun hf => ?_)
        · exact k_retA hw hp hf
        · refine k_cO (ok_o o_v0 (by decide)) ?_
          refine ob3 hf fun a7 s8 m9 ex hf => ?_
          have o_a7 := ur_X9_watcherHere hw o_v0 ex
          refine k_b2 (un_X9_watcherHere hw o_v0 ex) fun hz => ?_
          have hw := hz.1
          have o_v0 := ok_pre o_v0 hz.2
          have hp := pr_tr hp hz.2
          refine k_gR hw (ok_o o_v0 (by decide)) rfl hf fun a10 o_a10 hf => ?_
          refine k_gR hw (ok_o o_v0 (by decide)) rfl hf fun a11 o_a11 hf => ?_
          refine k_aR hw (Or.inr rfl) (ka rfl o_a11) hf fun a12 o_a12 hf => ?_
          refine k_cO (ok_o o_a7 (by decide)) ?_
          refine ob2 hf fun u m14 ex hf => ?_
          refine k_b2 (un_X8_watchAll hw o_a7 o_a10 o_a12 ex) fun hw => ?_
          refine k_gI (ok_o o_a7 (by decide)) rfl ?_
          refine k_if hf (fun hf => ?_) (fun hf => ?_)
          · exact k_retA hw hp hf
          · refine k_gR hw (ok_o o_a7 (by decide)) rfl hf fun a15 o_a15 hf => ?_
            refine k_aI (Or.inl rfl) (ka rfl o_a15) hf fun x16 hf => ?_
            exact k_retA hw hp hf
      · exact k_retA hw hp hf
  · exact k_retA hw hp hf
def n_X9_sure (F : Nat) (s : List Sh) (m : Mem) (p0 : Nat) (p1 : Int32) (p2 : Int32) : Option (Int32 × List Sh × Mem) := nb_X9_sure_0 F s m p0 p1 p2
theorem un_X9_sure {F : Nat} {s s' : List Sh} {m m' : Mem} {p0 : Nat} {p1 : Int32} {p2 : Int32} {r : Int32} (hw : GS s m) (o_p0 : ok s p0 9) (ex : n_X9_sure F s m p0 p1 p2 = some (r, s', m')) : J3 (m_X9_sure F (bl s m) p0 p1 p2) (r, bl s' m') (GS s' m' ∧ ∃ t, s' = s ++ t) := u_X9_sure_0 hw o_p0 ex
def nb_X9_odds_0 (F : Nat) (s : List Sh) (m : Mem) (v0 : Nat) (v1 : Int32) (v2 : Int32) (v3 : Int32) : Option (Int64 × List Sh × Mem) := (n_X9_refusedRow s m v0 v1 (1 : Int32)).bind fun x1 => (if x1 = 0 then (bind2 (n_X9_asksFloor F s m v0 v2 v3) fun x2 m3 => (if x2 = 0 then (some ((-3 : Int64), s, m3)) else ((m3.2.2 v0 7).bind fun a4 => ((rdR s m3 a4 v1).bind fun a5 => ((n_X9_hasButtonsAlone F s m3 v0 a5).bind fun x6 => (if x6 = 0 then (some ((-3 : Int64), s, m3)) else (bind3 (n_X9_routesFromHere F s m3 v0) fun a7 s8 m9 => ((m9.2.2 v0 7).bind fun a10 => ((rdR s8 m9 a10 v1).bind fun a11 => (bind2 (n_X5_layChances F s8 m9 a7 a11) fun x12 m13 => ((m13.2.2 a7 0).bind fun a14 => ((m13.2.2 v0 12).bind fun a15 => ((m13.2.2 v0 12).bind fun a16 => ((n_X1_weightOf F s8 m13 a14 ((Int64.toInt32 (m13.2.1 a15 0))) ((Int64.toInt32 (m13.2.1 a16 1))) x12).bind fun x17 => (some (x17, s8, m13)))))))))))))))) else (some ((Int32.toInt64 x1), s, m)))
set_option maxRecDepth 20000 in
theorem u_X9_odds_0 {F : Nat} {s s' : List Sh} {m m' : Mem} {r : Int64} {v0 : Nat} {v1 : Int32} {v2 : Int32} {v3 : Int32} (hw : GS s m) (o_v0 : ok s v0 9) (hf : nb_X9_odds_0 F s m v0 v1 v2 v3 = some (r, s', m')) : J3 (b_X9_odds_0 F (bl s m) v0 v1 v2 v3) (r, bl s' m') (GS s' m' ∧ ∃ t, s' = s ++ t) := by
  have hp : ∃ t, s = s ++ t := ⟨[], by simp⟩
  unfold nb_X9_odds_0 at hf
  unfold b_X9_odds_0
  refine k_cO (ok_o o_v0 (by decide)) ?_
  refine ob hf fun x1 ex hf => ?_
  refine k_b1 (un_X9_refusedRow hw o_v0 ex) ?_
  refine k_if hf (fun hf => ?_) (fun hf => ?_)
  · refine k_cO (ok_o o_v0 (by decide)) ?_
    refine ob2 hf fun x2 m3 ex hf => ?_
    refine k_b2 (un_X9_asksFloor hw o_v0 ex) fun hw => ?_
    refine k_if hf (fun hf => ?_) (fun hf => ?_)
    · exact k_retA hw hp hf
    · refine k_gR hw (ok_o o_v0 (by decide)) rfl hf fun a4 o_a4 hf => ?_
      refine k_aR hw (Or.inr rfl) (ka rfl o_a4) hf fun a5 o_a5 hf => ?_
      refine k_cO (ok_o o_v0 (by decide)) ?_
      refine ob hf fun x6 ex hf => ?_
      refine k_b1 (un_X9_hasButtonsAlone hw o_v0 o_a5 ex) ?_
      refine k_if hf (fun hf => ?_) (fun hf => ?_)
      · exact k_retA hw hp hf
      · refine k_cO (ok_o o_v0 (by decide)) ?_
        refine ob3 hf fun a7 s8 m9 ex hf => ?_
        have o_a7 := ur_X9_routesFromHere hw o_v0 ex
        refine k_b2 (un_X9_routesFromHere hw o_v0 ex) fun hz => ?_
        have hw := hz.1
        have o_v0 := ok_pre o_v0 hz.2
        have hp := pr_tr hp hz.2
        refine k_gR hw (ok_o o_v0 (by decide)) rfl hf fun a10 o_a10 hf => ?_
        refine k_aR hw (Or.inr rfl) (ka rfl o_a10) hf fun a11 o_a11 hf => ?_
        refine k_cO (ok_o o_a7 (by decide)) ?_
        refine ob2 hf fun x12 m13 ex hf => ?_
        refine k_b2 (un_X5_layChances hw o_a7 o_a11 ex) fun hw => ?_
        refine k_gR hw (ok_o o_a7 (by decide)) rfl hf fun a14 o_a14 hf => ?_
        refine k_gR hw (ok_o o_v0 (by decide)) rfl hf fun a15 o_a15 hf => ?_
        refine k_gL (ok_o o_a15 (by decide)) rfl ?_
        refine k_gR hw (ok_o o_v0 (by decide)) rfl hf fun a16 o_a16 hf => ?_
        refine k_gL (ok_o o_a16 (by decide)) rfl ?_
        refine k_cO (ok_o o_a14 (by decide)) ?_
        refine ob hf fun x17 ex hf => ?_
        refine k_b1 (un_X1_weightOf hw o_a14 ex) ?_
        exact k_retA hw hp hf
  · exact k_retA hw hp hf
def n_X9_odds (F : Nat) (s : List Sh) (m : Mem) (p0 : Nat) (p1 : Int32) (p2 : Int32) (p3 : Int32) : Option (Int64 × List Sh × Mem) := nb_X9_odds_0 F s m p0 p1 p2 p3
theorem un_X9_odds {F : Nat} {s s' : List Sh} {m m' : Mem} {p0 : Nat} {p1 : Int32} {p2 : Int32} {p3 : Int32} {r : Int64} (hw : GS s m) (o_p0 : ok s p0 9) (ex : n_X9_odds F s m p0 p1 p2 p3 = some (r, s', m')) : J3 (m_X9_odds F (bl s m) p0 p1 p2 p3) (r, bl s' m') (GS s' m' ∧ ∃ t, s' = s ++ t) := u_X9_odds_0 hw o_p0 ex
def nb_X9_ends_0 (F : Nat) (s : List Sh) (m : Mem) (v0 : Nat) (v1 : Int32) : Option (Int32 × List Sh × Mem) := (n_X9_refusedRow s m v0 v1 (1 : Int32)).bind fun x1 => (if x1 = 0 then ((m.2.2 v0 7).bind fun a2 => ((rdR s m a2 v1).bind fun a3 => ((n_X9_hasButtonsAlone F s m v0 a3).bind fun x4 => (if x4 = 0 then (some ((-3 : Int32), s, m)) else (bind3 (n_X9_routesFromHere F s m v0) fun a5 s6 m7 => ((m7.2.2 v0 7).bind fun a8 => ((rdR s6 m7 a8 v1).bind fun a9 => (bind2 (n_X5_layChances F s6 m7 a5 a9) fun x10 m11 => ((m11.2.2 a5 0).bind fun a12 => (some ((((m11.1 a12 4) - x10)), s6, m11))))))))))) else (some (x1, s, m)))
set_option maxRecDepth 20000 in
theorem u_X9_ends_0 {F : Nat} {s s' : List Sh} {m m' : Mem} {r : Int32} {v0 : Nat} {v1 : Int32} (hw : GS s m) (o_v0 : ok s v0 9) (hf : nb_X9_ends_0 F s m v0 v1 = some (r, s', m')) : J3 (b_X9_ends_0 F (bl s m) v0 v1) (r, bl s' m') (GS s' m' ∧ ∃ t, s' = s ++ t) := by
  have hp : ∃ t, s = s ++ t := ⟨[], by simp⟩
  unfold nb_X9_ends_0 at hf
  unfold b_X9_ends_0
  refine k_cO (ok_o o_v0 (by decide)) ?_
  refine ob hf fun x1 ex hf => ?_
  refine k_b1 (un_X9_refusedRow hw o_v0 ex) ?_
  refine k_if hf (fun hf => ?_) (fun hf => ?_)
  · refine k_gR hw (ok_o o_v0 (by decide)) rfl hf fun a2 o_a2 hf => ?_
    refine k_aR hw (Or.inr rfl) (ka rfl o_a2) hf fun a3 o_a3 hf => ?_
    refine k_cO (ok_o o_v0 (by decide)) ?_
    refine ob hf fun x4 ex hf => ?_
    refine k_b1 (un_X9_hasButtonsAlone hw o_v0 o_a3 ex) ?_
    refine k_if hf (fun hf => ?_) (fun hf => ?_)
    · exact k_retA hw hp hf
    · refine k_cO (ok_o o_v0 (by decide)) ?_
      refine ob3 hf fun a5 s6 m7 ex hf => ?_
      have o_a5 := ur_X9_routesFromHere hw o_v0 ex
      refine k_b2 (un_X9_routesFromHere hw o_v0 ex) fun hz => ?_
      have hw := hz.1
      have o_v0 := ok_pre o_v0 hz.2
      have hp := pr_tr hp hz.2
      refine k_gR hw (ok_o o_v0 (by decide)) rfl hf fun a8 o_a8 hf => ?_
      refine k_aR hw (Or.inr rfl) (ka rfl o_a8) hf fun a9 o_a9 hf => ?_
      refine k_cO (ok_o o_a5 (by decide)) ?_
      refine ob2 hf fun x10 m11 ex hf => ?_
      refine k_b2 (un_X5_layChances hw o_a5 o_a9 ex) fun hw => ?_
      refine k_gR hw (ok_o o_a5 (by decide)) rfl hf fun a12 o_a12 hf => ?_
      refine k_gI (ok_o o_a12 (by decide)) rfl ?_
      exact k_retA hw hp hf
  · exact k_retA hw hp hf
def n_X9_ends (F : Nat) (s : List Sh) (m : Mem) (p0 : Nat) (p1 : Int32) : Option (Int32 × List Sh × Mem) := nb_X9_ends_0 F s m p0 p1
theorem un_X9_ends {F : Nat} {s s' : List Sh} {m m' : Mem} {p0 : Nat} {p1 : Int32} {r : Int32} (hw : GS s m) (o_p0 : ok s p0 9) (ex : n_X9_ends F s m p0 p1 = some (r, s', m')) : J3 (m_X9_ends F (bl s m) p0 p1) (r, bl s' m') (GS s' m' ∧ ∃ t, s' = s ++ t) := u_X9_ends_0 hw o_p0 ex
def nb_X9_numbers_56 (F : Nat) (s : List Sh) (m : Mem) (v0 : Nat) (v1 : Int32) (v2 : Int32) (v3 : Int32) : Option (Int32 × List Sh × Mem) := (m.2.2 v0 7).bind fun a1 => ((rdR s m a1 v1).bind fun a2 => (bind2 (n_X7_layOut F s m a2 v2 v3) fun _ m4 => (some ((0 : Int32), s, m4))))
set_option maxRecDepth 20000 in
theorem u_X9_numbers_56 {F : Nat} {s s' : List Sh} {m m' : Mem} {r : Int32} {v0 : Nat} {v1 : Int32} {v2 : Int32} {v3 : Int32} (hw : GS s m) (o_v0 : ok s v0 9) (hf : nb_X9_numbers_56 F s m v0 v1 v2 v3 = some (r, s', m')) : J3 (b_X9_numbers_56 F (bl s m) v0 v1 v2 v3) (r, bl s' m') (GS s' m' ∧ ∃ t, s' = s ++ t) := by
  have hp : ∃ t, s = s ++ t := ⟨[], by simp⟩
  unfold nb_X9_numbers_56 at hf
  unfold b_X9_numbers_56
  refine k_gR hw (ok_o o_v0 (by decide)) rfl hf fun a1 o_a1 hf => ?_
  refine k_aR hw (Or.inr rfl) (ka rfl o_a1) hf fun a2 o_a2 hf => ?_
  refine k_cO (ok_o o_a2 (by decide)) ?_
  refine ob2 hf fun u m4 ex hf => ?_
  refine k_b2 (un_X7_layOut hw o_a2 ex) fun hw => ?_
  exact k_retA hw hp hf
def nb_X9_numbers_0 (F : Nat) (s : List Sh) (m : Mem) (v0 : Nat) (v1 : Int32) (v2 : Int32) (v3 : Int32) : Option (Int32 × List Sh × Mem) := if v1 < 0 then (some ((-2 : Int32), s, m)) else (if (4 : Int32) ≤ v1 then (some ((-2 : Int32), s, m)) else (if v2 < 0 then (some ((-2 : Int32), s, m)) else (if v2 ≤ (3 : Int32) then (if v3 < 0 then (some ((-3 : Int32), s, m)) else (if v3 ≤ (40 : Int32) then ((m.2.2 v0 7).bind fun a1 => ((rdN s m a1 v1).bind fun q2 => (if q2 = none then ((m.2.2 v0 7).bind fun a3 => (bindv s.length fun a4 => (bindv (s ++ [.inl 7]) fun s5 => (bind3 (n_X7_init s5 m a4) fun _ s7 m8 => ((stR s7 m8 a3 v1 a4).bind fun m9 => (nb_X9_numbers_56 F s7 m9 v0 v1 v2 v3)))))) else (nb_X9_numbers_56 F s m v0 v1 v2 v3)))) else (some ((-3 : Int32), s, m)))) else (some ((-2 : Int32), s, m)))))
set_option maxRecDepth 20000 in
theorem u_X9_numbers_0 {F : Nat} {s s' : List Sh} {m m' : Mem} {r : Int32} {v0 : Nat} {v1 : Int32} {v2 : Int32} {v3 : Int32} (hw : GS s m) (o_v0 : ok s v0 9) (hf : nb_X9_numbers_0 F s m v0 v1 v2 v3 = some (r, s', m')) : J3 (b_X9_numbers_0 F (bl s m) v0 v1 v2 v3) (r, bl s' m') (GS s' m' ∧ ∃ t, s' = s ++ t) := by
  have hp : ∃ t, s = s ++ t := ⟨[], by simp⟩
  unfold nb_X9_numbers_0 at hf
  unfold b_X9_numbers_0
  refine k_if hf (fun hf => ?_) (fun hf => ?_)
  · exact k_retA hw hp hf
  · refine k_if hf (fun hf => ?_) (fun hf => ?_)
    · exact k_retA hw hp hf
    · refine k_if hf (fun hf => ?_) (fun hf => ?_)
      · exact k_retA hw hp hf
      · refine k_if hf (fun hf => ?_) (fun hf => ?_)
        · refine k_if hf (fun hf => ?_) (fun hf => ?_)
          · exact k_retA hw hp hf
          · refine k_if hf (fun hf => ?_) (fun hf => ?_)
            · refine k_gR hw (ok_o o_v0 (by decide)) rfl hf fun a1 o_a1 hf => ?_
              refine k_aN (Or.inr rfl) (ka rfl o_a1) hf fun q2 hf => ?_
              refine k_if hf (fun hf => ?_) (fun hf => ?_)
              · refine k_gR hw (ok_o o_v0 (by decide)) rfl hf fun a3 o_a3 hf => ?_
                refine k_new hw (by decide) rfl hf fun a4 s5 es hw o_a4 hf => ?_
                have o_v0 := ok_pre o_v0 es
                have o_a3 := ok_pre o_a3 es
                have hp := pr_tr hp es
                refine ob3 hf fun u s7 m8 ex hf => ?_
                refine k_b2 (un_X7_init hw o_a4 ex) fun hz => ?_
                have hw := hz.1
                have o_v0 := ok_pre o_v0 hz.2
                have o_a3 := ok_pre o_a3 hz.2
                have o_a4 := ok_pre o_a4 hz.2
                have hp := pr_tr hp hz.2
                refine k_sR hw (Or.inr rfl) (ka rfl o_a3) (ok_o o_a4 (by decide)) rfl hf fun m9 hw hf => ?_
                exact j_pre (u_X9_numbers_56 hw o_v0 hf) hp
              · exact j_pre (u_X9_numbers_56 hw o_v0 hf) hp
            · exact k_retA hw hp hf
        · exact k_retA hw hp hf
def n_X9_numbers (F : Nat) (s : List Sh) (m : Mem) (p0 : Nat) (p1 : Int32) (p2 : Int32) (p3 : Int32) : Option (Int32 × List Sh × Mem) := nb_X9_numbers_0 F s m p0 p1 p2 p3
theorem un_X9_numbers {F : Nat} {s s' : List Sh} {m m' : Mem} {p0 : Nat} {p1 : Int32} {p2 : Int32} {p3 : Int32} {r : Int32} (hw : GS s m) (o_p0 : ok s p0 9) (ex : n_X9_numbers F s m p0 p1 p2 p3 = some (r, s', m')) : J3 (m_X9_numbers F (bl s m) p0 p1 p2 p3) (r, bl s' m') (GS s' m' ∧ ∃ t, s' = s ++ t) := u_X9_numbers_0 hw o_p0 ex
def nb_X9_image_34 (s : List Sh) (m : Mem) (v0 : Nat) (v1 : Int32) : Option (Int32 × List Sh × Mem) := (m.2.2 v0 6).bind fun a1 => ((rdR s m a1 v1).bind fun a2 => ((m.2.2 v0 4).bind fun a3 => (bind2 (n_X0_takeFrom s m a2 a3) fun _ m5 => (some ((0 : Int32), s, m5)))))
set_option maxRecDepth 20000 in
theorem u_X9_image_34 {s s' : List Sh} {m m' : Mem} {r : Int32} {v0 : Nat} {v1 : Int32} (hw : GS s m) (o_v0 : ok s v0 9) (hf : nb_X9_image_34 s m v0 v1 = some (r, s', m')) : J3 (b_X9_image_34 (bl s m) v0 v1) (r, bl s' m') (GS s' m' ∧ ∃ t, s' = s ++ t) := by
  have hp : ∃ t, s = s ++ t := ⟨[], by simp⟩
  unfold nb_X9_image_34 at hf
  unfold b_X9_image_34
  refine k_gR hw (ok_o o_v0 (by decide)) rfl hf fun a1 o_a1 hf => ?_
  refine k_aR hw (Or.inl rfl) (ka rfl o_a1) hf fun a2 o_a2 hf => ?_
  refine k_gR hw (ok_o o_v0 (by decide)) rfl hf fun a3 o_a3 hf => ?_
  refine k_cO (ok_o o_a2 (by decide)) ?_
  refine ob2 hf fun u m5 ex hf => ?_
  refine k_b2 (un_X0_takeFrom hw o_a2 o_a3 ex) fun hw => ?_
  exact k_retA hw hp hf
def nb_X9_image_0 (s : List Sh) (m : Mem) (v0 : Nat) (v1 : Int32) : Option (Int32 × List Sh × Mem) := if v1 < 0 then (some ((-2 : Int32), s, m)) else (if v1 < (2 : Int32) then ((m.2.2 v0 6).bind fun a1 => ((rdN s m a1 v1).bind fun q2 => (if q2 = none then ((m.2.2 v0 6).bind fun a3 => (bindv s.length fun a4 => (bindv (s ++ [.inl 0]) fun s5 => (bind3 (n_X0_init s5 m a4) fun _ s7 m8 => ((stR s7 m8 a3 v1 a4).bind fun m9 => (nb_X9_image_34 s7 m9 v0 v1)))))) else (nb_X9_image_34 s m v0 v1)))) else (some ((-2 : Int32), s, m)))
set_option maxRecDepth 20000 in
theorem u_X9_image_0 {s s' : List Sh} {m m' : Mem} {r : Int32} {v0 : Nat} {v1 : Int32} (hw : GS s m) (o_v0 : ok s v0 9) (hf : nb_X9_image_0 s m v0 v1 = some (r, s', m')) : J3 (b_X9_image_0 (bl s m) v0 v1) (r, bl s' m') (GS s' m' ∧ ∃ t, s' = s ++ t) := by
  have hp : ∃ t, s = s ++ t := ⟨[], by simp⟩
  unfold nb_X9_image_0 at hf
  unfold b_X9_image_0
  refine k_if hf (fun hf => ?_) (fun hf => ?_)
  · exact k_retA hw hp hf
  · refine k_if hf (fun hf => ?_) (fun hf => ?_)
    · refine k_gR hw (ok_o o_v0 (by decide)) rfl hf fun a1 o_a1 hf => ?_
      refine k_aN (Or.inl rfl) (ka rfl o_a1) hf fun q2 hf => ?_
      refine k_if hf (fun hf => ?_) (fun hf => ?_)
      · refine k_gR hw (ok_o o_v0 (by decide)) rfl hf fun a3 o_a3 hf => ?_
        refine k_new hw (by decide) rfl hf fun a4 s5 es hw o_a4 hf => ?_
        have o_v0 := ok_pre o_v0 es
        have o_a3 := ok_pre o_a3 es
        have hp := pr_tr hp es
        refine ob3 hf fun u s7 m8 ex hf => ?_
        refine k_b2 (un_X0_init hw o_a4 ex) fun hz => ?_
        have hw := hz.1
        have o_v0 := ok_pre o_v0 hz.2
        have o_a3 := ok_pre o_a3 hz.2
        have o_a4 := ok_pre o_a4 hz.2
        have hp := pr_tr hp hz.2
        refine k_sR hw (Or.inl rfl) (ka rfl o_a3) (ok_o o_a4 (by decide)) rfl hf fun m9 hw hf => ?_
        exact j_pre (u_X9_image_34 hw o_v0 hf) hp
      · exact j_pre (u_X9_image_34 hw o_v0 hf) hp
    · exact k_retA hw hp hf
def n_X9_image (s : List Sh) (m : Mem) (p0 : Nat) (p1 : Int32) : Option (Int32 × List Sh × Mem) := nb_X9_image_0 s m p0 p1
theorem un_X9_image {s s' : List Sh} {m m' : Mem} {p0 : Nat} {p1 : Int32} {r : Int32} (hw : GS s m) (o_p0 : ok s p0 9) (ex : n_X9_image s m p0 p1 = some (r, s', m')) : J3 (m_X9_image (bl s m) p0 p1) (r, bl s' m') (GS s' m' ∧ ∃ t, s' = s ++ t) := u_X9_image_0 hw o_p0 ex
def nb_X10_init_0 (F : Nat) (s : List Sh) (m : Mem) (v0 : Nat) : Option (Unit × List Sh × Mem) := bindv s.length fun a1 => (bindv (s ++ [.inr (0, 2997)]) fun s2 => (bindv (wR m v0 1 (some a1)) fun m3 => (bindv s2.length fun a4 => (bindv (s2 ++ [.inr (2, 2)]) fun s5 => (bindv (wR m3 v0 2 (some a4)) fun m6 => (bindv s5.length fun a7 => (bindv (s5 ++ [.inr (0, 900)]) fun s8 => (bindv (wR m6 v0 3 (some a7)) fun m9 => (bindv s8.length fun a10 => (bindv (s8 ++ [.inr (0, 999)]) fun s11 => (bindv (wR m9 v0 4 (some a10)) fun m12 => (bindv (wI m12 v0 14 (-1 : Int32)) fun m13 => (bindv s11.length fun a14 => (bindv (s11 ++ [.inr (1, 900)]) fun s15 => (bindv (wR m13 v0 19 (some a14)) fun m16 => (bindv s15.length fun a17 => (bindv (s15 ++ [.inr (1, 900)]) fun s18 => (bindv (wR m16 v0 20 (some a17)) fun m19 => (bindv s18.length fun a20 => (bindv (s18 ++ [.inr (0, 8)]) fun s21 => (bindv (wR m19 v0 23 (some a20)) fun m22 => (bindv s21.length fun a23 => (bindv (s21 ++ [.inr (0, 8192)]) fun s24 => (bindv (wR m22 v0 24 (some a23)) fun m25 => (bindv s24.length fun a26 => (bindv (s24 ++ [.inr (0, 8192)]) fun s27 => (bindv (wR m25 v0 25 (some a26)) fun m28 => (bindv s27.length fun a29 => (bindv (s27 ++ [.inr (0, 8192)]) fun s30 => (bindv (wR m28 v0 26 (some a29)) fun m31 => (bindv s30.length fun a32 => (bindv (s30 ++ [.inr (0, 8192)]) fun s33 => (bindv (wR m31 v0 27 (some a32)) fun m34 => (bindv s33.length fun a35 => (bindv (s33 ++ [.inr (0, 16384)]) fun s36 => (bindv (wR m34 v0 28 (some a35)) fun m37 => (bindv s36.length fun a38 => (bindv (s36 ++ [.inr (0, 8)]) fun s39 => (bindv (wR m37 v0 30 (some a38)) fun m40 => (bindv s39.length fun a41 => (bindv (s39 ++ [.inr (0, 8192)]) fun s42 => (bindv (wR m40 v0 31 (some a41)) fun m43 => (bindv s42.length fun a44 => (bindv (s42 ++ [.inr (0, 8192)]) fun s45 => (bindv (wR m43 v0 32 (some a44)) fun m46 => (bindv s45.length fun a47 => (bindv (s45 ++ [.inr (0, 900)]) fun s48 => (bindv (wR m46 v0 36 (some a47)) fun m49 => (bindv s48.length fun a50 => (bindv (s48 ++ [.inr (0, 1400)]) fun s51 => (bindv (wR m49 v0 37 (some a50)) fun m52 => (bindv s51.length fun a53 => (bindv (s51 ++ [.inr (0, 1400)]) fun s54 => (bindv (wR m52 v0 38 (some a53)) fun m55 => (bindv s54.length fun a56 => (bindv (s54 ++ [.inr (0, 64)]) fun s57 => (bindv (wR m55 v0 41 (some a56)) fun m58 => (bindv s57.length fun a59 => (bindv (s57 ++ [.inr (0, 64)]) fun s60 => (bindv (wR m58 v0 42 (some a59)) fun m61 => (bindv s60.length fun a62 => (bindv (s60 ++ [.inr (0, 8)]) fun s63 => (bindv (wR m61 v0 43 (some a62)) fun m64 => (bindv s63.length fun a65 => (bindv (s63 ++ [.inr (0, 8)]) fun s66 => (bindv (wR m64 v0 44 (some a65)) fun m67 => (bindv s66.length fun a68 => (bindv (s66 ++ [.inr (0, 48)]) fun s69 => (bindv (wR m67 v0 45 (some a68)) fun m70 => (bindv s69.length fun a71 => (bindv (s69 ++ [.inr (0, 300)]) fun s72 => (bindv (wR m70 v0 48 (some a71)) fun m73 => (bindv s72.length fun a74 => (bindv (s72 ++ [.inr (0, 300)]) fun s75 => (bindv (wR m73 v0 49 (some a74)) fun m76 => (bindv s75.length fun a77 => (bindv (s75 ++ [.inr (1, 300)]) fun s78 => (bindv (wR m76 v0 50 (some a77)) fun m79 => (bindv s78.length fun a80 => (bindv (s78 ++ [.inr (0, 4)]) fun s81 => ((stI s81 m79 a80 (0 : Int32) (-1 : Int32)).bind fun m82 => ((stI s81 m82 a80 (1 : Int32) (-1 : Int32)).bind fun m83 => ((stI s81 m83 a80 (2 : Int32) (-1 : Int32)).bind fun m84 => ((stI s81 m84 a80 (3 : Int32) (-1 : Int32)).bind fun m85 => (bindv (wR m85 v0 52 (some a80)) fun m86 => (bindv s81.length fun a87 => (bindv (s81 ++ [.inr (0, 4)]) fun s88 => (bindv (wR m86 v0 53 (some a87)) fun m89 => (bindv s88.length fun a90 => (bindv (s88 ++ [.inr (1, 160)]) fun s91 => (bindv (wR m89 v0 54 (some a90)) fun m92 => ((m92.2.2 v0 1).bind fun a93 => (bind2 (n_X10_plain F s91 m92 a93) fun _ m95 => (some ((), s91, m95)))))))))))))))))))))))))))))))))))))))))))))))))))))))))))))))))))))))))))))))))))))))))))))))
set_option maxRecDepth 20000 in
theorem u_X10_init_0 {F : Nat} {s s' : List Sh} {m m' : Mem} {r : Unit} {v0 : Nat} (hw : GS s m) (o_v0 : ok s v0 10) (hf : nb_X10_init_0 F s m v0 = some (r, s', m')) : J3 (b_X10_init_0 F (bl s m) v0) (r, bl s' m') (GS s' m' ∧ ∃ t, s' = s ++ t) := by
  have hp : ∃ t, s = s ++ t := ⟨[], by simp⟩
  unfold nb_X10_init_0 at hf
  unfold b_X10_init_0
  refine k_newa hw (fun _ h => na_i h) hf fun a1 s2 es hw o_a1 hf => ?_
  have o_v0 := ok_pre o_v0 es
  have hp := pr_tr hp es
  refine k_pR hw (ok_o o_v0 (by decide)) rfl o_a1 hf fun m3 hw hf => ?_
  refine k_newa hw (fun _ h => na_z h) hf fun a4 s5 es hw o_a4 hf => ?_
  have o_v0 := ok_pre o_v0 es
  have hp := pr_tr hp es
  refine k_pR hw (ok_o o_v0 (by decide)) rfl o_a4 hf fun m6 hw hf => ?_
  refine k_newa hw (fun _ h => na_i h) hf fun a7 s8 es hw o_a7 hf => ?_
  have o_v0 := ok_pre o_v0 es
  have hp := pr_tr hp es
  refine k_pR hw (ok_o o_v0 (by decide)) rfl o_a7 hf fun m9 hw hf => ?_
  refine k_newa hw (fun _ h => na_i h) hf fun a10 s11 es hw o_a10 hf => ?_
  have o_v0 := ok_pre o_v0 es
  have hp := pr_tr hp es
  refine k_pR hw (ok_o o_v0 (by decide)) rfl o_a10 hf fun m12 hw hf => ?_
  refine k_pI hw (ok_o o_v0 (by decide)) rfl hf fun m13 hw hf => ?_
  refine k_newa hw (fun _ h => na_l h) hf fun a14 s15 es hw o_a14 hf => ?_
  have o_v0 := ok_pre o_v0 es
  have hp := pr_tr hp es
  refine k_pR hw (ok_o o_v0 (by decide)) rfl o_a14 hf fun m16 hw hf => ?_
  refine k_newa hw (fun _ h => na_l h) hf fun a17 s18 es hw o_a17 hf => ?_
  have o_v0 := ok_pre o_v0 es
  have hp := pr_tr hp es
  refine k_pR hw (ok_o o_v0 (by decide)) rfl o_a17 hf fun m19 hw hf => ?_
  refine k_newa hw (fun _ h => na_i h) hf fun a20 s21 es hw o_a20 hf => ?_
  have o_v0 := ok_pre o_v0 es
  have hp := pr_tr hp es
  refine k_pR hw (ok_o o_v0 (by decide)) rfl o_a20 hf fun m22 hw hf => ?_
  refine k_newa hw (fun _ h => na_i h) hf fun a23 s24 es hw o_a23 hf => ?_
  have o_v0 := ok_pre o_v0 es
  have hp := pr_tr hp es
  refine k_pR hw (ok_o o_v0 (by decide)) rfl o_a23 hf fun m25 hw hf => ?_
  refine k_newa hw (fun _ h => na_i h) hf fun a26 s27 es hw o_a26 hf => ?_
  have o_v0 := ok_pre o_v0 es
  have hp := pr_tr hp es
  refine k_pR hw (ok_o o_v0 (by decide)) rfl o_a26 hf fun m28 hw hf => ?_
  refine k_newa hw (fun _ h => na_i h) hf fun a29 s30 es hw o_a29 hf => ?_
  have o_v0 := ok_pre o_v0 es
  have hp := pr_tr hp es
  refine k_pR hw (ok_o o_v0 (by decide)) rfl o_a29 hf fun m31 hw hf => ?_
  refine k_newa hw (fun _ h => na_i h) hf fun a32 s33 es hw o_a32 hf => ?_
  have o_v0 := ok_pre o_v0 es
  have hp := pr_tr hp es
  refine k_pR hw (ok_o o_v0 (by decide)) rfl o_a32 hf fun m34 hw hf => ?_
  refine k_newa hw (fun _ h => na_i h) hf fun a35 s36 es hw o_a35 hf => ?_
  have o_v0 := ok_pre o_v0 es
  have hp := pr_tr hp es
  refine k_pR hw (ok_o o_v0 (by decide)) rfl o_a35 hf fun m37 hw hf => ?_
  refine k_newa hw (fun _ h => na_i h) hf fun a38 s39 es hw o_a38 hf => ?_
  have o_v0 := ok_pre o_v0 es
  have hp := pr_tr hp es
  refine k_pR hw (ok_o o_v0 (by decide)) rfl o_a38 hf fun m40 hw hf => ?_
  refine k_newa hw (fun _ h => na_i h) hf fun a41 s42 es hw o_a41 hf => ?_
  have o_v0 := ok_pre o_v0 es
  have hp := pr_tr hp es
  refine k_pR hw (ok_o o_v0 (by decide)) rfl o_a41 hf fun m43 hw hf => ?_
  refine k_newa hw (fun _ h => na_i h) hf fun a44 s45 es hw o_a44 hf => ?_
  have o_v0 := ok_pre o_v0 es
  have hp := pr_tr hp es
  refine k_pR hw (ok_o o_v0 (by decide)) rfl o_a44 hf fun m46 hw hf => ?_
  refine k_newa hw (fun _ h => na_i h) hf fun a47 s48 es hw o_a47 hf => ?_
  have o_v0 := ok_pre o_v0 es
  have hp := pr_tr hp es
  refine k_pR hw (ok_o o_v0 (by decide)) rfl o_a47 hf fun m49 hw hf => ?_
  refine k_newa hw (fun _ h => na_i h) hf fun a50 s51 es hw o_a50 hf => ?_
  have o_v0 := ok_pre o_v0 es
  have hp := pr_tr hp es
  refine k_pR hw (ok_o o_v0 (by decide)) rfl o_a50 hf fun m52 hw hf => ?_
  refine k_newa hw (fun _ h => na_i h) hf fun a53 s54 es hw o_a53 hf => ?_
  have o_v0 := ok_pre o_v0 es
  have hp := pr_tr hp es
  refine k_pR hw (ok_o o_v0 (by decide)) rfl o_a53 hf fun m55 hw hf => ?_
  refine k_newa hw (fun _ h => na_i h) hf fun a56 s57 es hw o_a56 hf => ?_
  have o_v0 := ok_pre o_v0 es
  have hp := pr_tr hp es
  refine k_pR hw (ok_o o_v0 (by decide)) rfl o_a56 hf fun m58 hw hf => ?_
  refine k_newa hw (fun _ h => na_i h) hf fun a59 s60 es hw o_a59 hf => ?_
  have o_v0 := ok_pre o_v0 es
  have hp := pr_tr hp es
  refine k_pR hw (ok_o o_v0 (by decide)) rfl o_a59 hf fun m61 hw hf => ?_
  refine k_newa hw (fun _ h => na_i h) hf fun a62 s63 es hw o_a62 hf => ?_
  have o_v0 := ok_pre o_v0 es
  have hp := pr_tr hp es
  refine k_pR hw (ok_o o_v0 (by decide)) rfl o_a62 hf fun m64 hw hf => ?_
  refine k_newa hw (fun _ h => na_i h) hf fun a65 s66 es hw o_a65 hf => ?_
  have o_v0 := ok_pre o_v0 es
  have hp := pr_tr hp es
  refine k_pR hw (ok_o o_v0 (by decide)) rfl o_a65 hf fun m67 hw hf => ?_
  refine k_newa hw (fun _ h => na_i h) hf fun a68 s69 es hw o_a68 hf => ?_
  have o_v0 := ok_pre o_v0 es
  have hp := pr_tr hp es
  refine k_pR hw (ok_o o_v0 (by decide)) rfl o_a68 hf fun m70 hw hf => ?_
  refine k_newa hw (fun _ h => na_i h) hf fun a71 s72 es hw o_a71 hf => ?_
  have o_v0 := ok_pre o_v0 es
  have hp := pr_tr hp es
  refine k_pR hw (ok_o o_v0 (by decide)) rfl o_a71 hf fun m73 hw hf => ?_
  refine k_newa hw (fun _ h => na_i h) hf fun a74 s75 es hw o_a74 hf => ?_
  have o_v0 := ok_pre o_v0 es
  have hp := pr_tr hp es
  refine k_pR hw (ok_o o_v0 (by decide)) rfl o_a74 hf fun m76 hw hf => ?_
  refine k_newa hw (fun _ h => na_l h) hf fun a77 s78 es hw o_a77 hf => ?_
  have o_v0 := ok_pre o_v0 es
  have hp := pr_tr hp es
  refine k_pR hw (ok_o o_v0 (by decide)) rfl o_a77 hf fun m79 hw hf => ?_
  refine k_newa hw (fun _ h => na_i h) hf fun a80 s81 es hw o_a80 hf => ?_
  have o_v0 := ok_pre o_v0 es
  have hp := pr_tr hp es
  refine k_sI hw (ka rfl o_a80) hf fun m82 hw hf => ?_
  refine k_sI hw (ka rfl o_a80) hf fun m83 hw hf => ?_
  refine k_sI hw (ka rfl o_a80) hf fun m84 hw hf => ?_
  refine k_sI hw (ka rfl o_a80) hf fun m85 hw hf => ?_
  refine k_pR hw (ok_o o_v0 (by decide)) rfl o_a80 hf fun m86 hw hf => ?_
  refine k_newa hw (fun _ h => na_i h) hf fun a87 s88 es hw o_a87 hf => ?_
  have o_v0 := ok_pre o_v0 es
  have hp := pr_tr hp es
  refine k_pR hw (ok_o o_v0 (by decide)) rfl o_a87 hf fun m89 hw hf => ?_
  refine k_newa hw (fun _ h => na_l h) hf fun a90 s91 es hw o_a90 hf => ?_
  have o_v0 := ok_pre o_v0 es
  have hp := pr_tr hp es
  refine k_pR hw (ok_o o_v0 (by decide)) rfl o_a90 hf fun m92 hw hf => ?_
  refine k_gR hw (ok_o o_v0 (by decide)) rfl hf fun a93 o_a93 hf => ?_
  refine ob2 hf fun u m95 ex hf => ?_
  refine k_b2 (un_X10_plain hw o_a93 ex) fun hw => ?_
  exact k_retA hw hp hf
def n_X10_init (F : Nat) (s : List Sh) (m : Mem) (p0 : Nat) : Option (Unit × List Sh × Mem) := nb_X10_init_0 F s m p0
theorem un_X10_init {F : Nat} {s s' : List Sh} {m m' : Mem} {p0 : Nat} {r : Unit} (hw : GS s m) (o_p0 : ok s p0 10) (ex : n_X10_init F s m p0 = some (r, s', m')) : J3 (m_X10_init F (bl s m) p0) (r, bl s' m') (GS s' m' ∧ ∃ t, s' = s ++ t) := u_X10_init_0 hw o_p0 ex
