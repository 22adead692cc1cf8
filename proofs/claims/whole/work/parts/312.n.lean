/-! java/util/Arrays.fill([JJ)V over the memory -/
def nb_J7_fill_d0a16_6 (F : Nat) (s : List Sh) (nself5 : Mem → Nat → Int64 → Int32 → Int32 → Option (Unit × Mem)) (m : Mem) (v0 : Nat) (v1 : Int64) (v3 : Int32) (v4 : Int32) : Option (Unit × Mem) := if v4 ≤ v3 then (some ((), m)) else ((stL s m v0 v3 v1).bind fun m1 => (bindv (v3 + (1)) fun x2 => (nself5 m1 v0 v1 x2 v4)))
set_option maxRecDepth 20000 in
theorem ub_J7_fill_d0a16_6 {F : Nat} {s : List Sh} {self5 : PH → Nat → Int64 → Int32 → Int32 → Option (Unit × PH)} {nself5 : Mem → Nat → Int64 → Int32 → Int32 → Option (Unit × Mem)} {m m' : Mem} {r : Unit} {v0 : Nat} {v1 : Int64} {v3 : Int32} {v4 : Int32} (hw : GS s m) (o_v0 : ok s v0 101) (ih5 : ∀ (m : Mem) (v0 : Nat) (v1 : Int64) (v3 : Int32) (v4 : Int32), GS s m → ok s v0 101 → nself5 m v0 v1 v3 v4 = some (r, m') → J3 (self5 (bl s m) v0 v1 v3 v4) (r, bl s m') (GS s m')) (hf : nb_J7_fill_d0a16_6 F s nself5 m v0 v1 v3 v4 = some (r, m')) : J3 (b_J7_fill_d0a16_6 F self5 (bl s m) v0 v1 v3 v4) (r, bl s m') (GS s m') := by
  unfold nb_J7_fill_d0a16_6 at hf
  unfold b_J7_fill_d0a16_6
  refine k_if hf (fun hf => ?_) (fun hf => ?_)
  · exact k_ret hw hf
  · refine k_sL hw (ka rfl o_v0) hf fun m1 hw hf => ?_
    refine k_bv hf fun x2 hf => ?_
    exact ih5 _ _ _ _ _ hw o_v0 hf
def nl_J7_fill_d0a16_6 (F : Nat) (s : List Sh) : Nat → Mem → Nat → Int64 → Int32 → Int32 → Option (Unit × Mem)
  | 0 => fun _ _ _ _ _ => none
  | n + 1 => fun m v0 v1 v3 v4 => nb_J7_fill_d0a16_6 F s (nl_J7_fill_d0a16_6 F s n) m v0 v1 v3 v4
theorem ul_J7_fill_d0a16_6 {F : Nat} {s : List Sh} {m' : Mem} {r : Unit} (n : Nat) : ∀ (m : Mem) (v0 : Nat) (v1 : Int64) (v3 : Int32) (v4 : Int32), GS s m → ok s v0 101 → nl_J7_fill_d0a16_6 F s n m v0 v1 v3 v4 = some (r, m') → J3 (l_J7_fill_d0a16_6 F n (bl s m) v0 v1 v3 v4) (r, bl s m') (GS s m') := by
  induction n with
  | zero => intro m v0 v1 v3 v4 hw o_v0 hf; cases hf
  | succ n ih => intro m v0 v1 v3 v4 hw o_v0 hf; exact ub_J7_fill_d0a16_6 (F := F) hw o_v0 ih hf
def nb_J7_fill_d0a16_0 (F : Nat) (s : List Sh) (m : Mem) (v0 : Nat) (v1 : Int64) : Option (Unit × Mem) := nl_J7_fill_d0a16_6 F s F m v0 v1 (0 : Int32) ((Int32.ofNat (ln s v0)))
set_option maxRecDepth 20000 in
theorem u_J7_fill_d0a16_0 {F : Nat} {s : List Sh} {m m' : Mem} {r : Unit} {v0 : Nat} {v1 : Int64} (hw : GS s m) (o_v0 : ok s v0 101) (hf : nb_J7_fill_d0a16_0 F s m v0 v1 = some (r, m')) : J3 (b_J7_fill_d0a16_0 F (bl s m) v0 v1) (r, bl s m') (GS s m') := by
  unfold nb_J7_fill_d0a16_0 at hf
  unfold b_J7_fill_d0a16_0
  refine k_len (t := 1) (by decide) (ka rfl o_v0) ?_
  exact ul_J7_fill_d0a16_6 F _ _ _ _ _ hw o_v0 hf
def n_J7_fill_d0a16 (F : Nat) (s : List Sh) (m : Mem) (p0 : Nat) (p1 : Int64) : Option (Unit × Mem) := nb_J7_fill_d0a16_0 F s m p0 p1
theorem un_J7_fill_d0a16 {F : Nat} {s : List Sh} {m m' : Mem} {p0 : Nat} {p1 : Int64} {r : Unit} (hw : GS s m) (o_p0 : ok s p0 101) (ex : n_J7_fill_d0a16 F s m p0 p1 = some (r, m')) : J3 (m_J7_fill_d0a16 F (bl s m) p0 p1) (r, bl s m') (GS s m') := u_J7_fill_d0a16_0 hw o_p0 ex
/-! FractionLift$Tray.layOut(II)V over the memory -/
def nb_X7_layOut_0 (F : Nat) (s : List Sh) (m : Mem) (v0 : Nat) (v1 : Int32) (v2 : Int32) : Option (Unit × Mem) := bindv (wI m v0 0 v1) fun m1 => (bindv (wI m1 v0 1 ((jmin v2 (40 : Int32)))) fun m2 => ((m2.2.2 v0 2).bind fun a3 => (bind2 (n_J7_fill_d0a16 F s m2 a3 (0 : Int64)) fun _ m5 => (some ((), m5)))))
set_option maxRecDepth 20000 in
theorem u_X7_layOut_0 {F : Nat} {s : List Sh} {m m' : Mem} {r : Unit} {v0 : Nat} {v1 : Int32} {v2 : Int32} (hw : GS s m) (o_v0 : ok s v0 7) (hf : nb_X7_layOut_0 F s m v0 v1 v2 = some (r, m')) : J3 (b_X7_layOut_0 F (bl s m) v0 v1 v2) (r, bl s m') (GS s m') := by
  unfold nb_X7_layOut_0 at hf
  unfold b_X7_layOut_0
  refine k_pI hw (ok_o o_v0 (by decide)) rfl hf fun m1 hw hf => ?_
  refine k_pI hw (ok_o o_v0 (by decide)) rfl hf fun m2 hw hf => ?_
  refine k_gR hw (ok_o o_v0 (by decide)) rfl hf fun a3 o_a3 hf => ?_
  refine ob2 hf fun u m5 ex hf => ?_
  refine k_b2 (un_J7_fill_d0a16 hw o_a3 ex) fun hw => ?_
  exact k_ret hw hf
def n_X7_layOut (F : Nat) (s : List Sh) (m : Mem) (p0 : Nat) (p1 : Int32) (p2 : Int32) : Option (Unit × Mem) := nb_X7_layOut_0 F s m p0 p1 p2
theorem un_X7_layOut {F : Nat} {s : List Sh} {m m' : Mem} {p0 : Nat} {p1 : Int32} {p2 : Int32} {r : Unit} (hw : GS s m) (o_p0 : ok s p0 7) (ex : n_X7_layOut F s m p0 p1 p2 = some (r, m')) : J3 (m_X7_layOut F (bl s m) p0 p1 p2) (r, bl s m') (GS s m') := u_X7_layOut_0 hw o_p0 ex
/-! FractionLift$Tray.cut(J)J over the memory -/
def nb_X7_cut_0 (s : List Sh) (m : Mem) (v0 : Nat) (v1 : Int64) : Option Int64 := swN (m.1 v0 0) (0) [some ((Int32.toInt64 (((Int32.toInt8 (Int64.toInt32 v1)).toInt32)))), some ((Int32.toInt64 (((Int32.toInt16 (Int64.toInt32 v1)).toInt32)))), some ((Int32.toInt64 (Int64.toInt32 v1)))] (some v1)
set_option maxRecDepth 20000 in
theorem u_X7_cut_0 {s : List Sh} {m : Mem} {r : Int64} {v0 : Nat} {v1 : Int64} (hw : GS s m) (o_v0 : ok s v0 7) (hf : nb_X7_cut_0 s m v0 v1 = some r) : J3 (b_X7_cut_0 (bl s m) v0 v1) r True := by
  unfold nb_X7_cut_0 at hf
  unfold b_X7_cut_0
  refine k_gI (ok_o o_v0 (by decide)) rfl ?_
  refine k_sw hf rfl (fun i hi hf => ?_) (fun hf => ?_)
  · rcases (show i = 0 ∨ i = 1 ∨ i = 2 by simp only [List.length_cons, List.length_nil] at hi; omega) with rfl | rfl | rfl
    · have hf := gd_at hf rfl
      refine gd_goal rfl ?_
      exact k_retP hf
    · have hf := gd_at hf rfl
      refine gd_goal rfl ?_
      exact k_retP hf
    · have hf := gd_at hf rfl
      refine gd_goal rfl ?_
      exact k_retP hf
  · exact k_retP hf
def n_X7_cut (s : List Sh) (m : Mem) (p0 : Nat) (p1 : Int64) : Option Int64 := nb_X7_cut_0 s m p0 p1
theorem un_X7_cut {s : List Sh} {m : Mem} {p0 : Nat} {p1 : Int64} {r : Int64} (hw : GS s m) (o_p0 : ok s p0 7) (ex : n_X7_cut s m p0 p1 = some r) : J3 (m_X7_cut (bl s m) p0 p1) r True := u_X7_cut_0 hw o_p0 ex
/-! FractionLift$Tray.lay(IJ)J over the memory -/
def nb_X7_lay_0 (s : List Sh) (m : Mem) (v0 : Nat) (v1 : Int32) (v2 : Int64) : Option (Int64 × Mem) := if v1 < 0 then (some ((-7 : Int64), m)) else (if v1 < (m.1 v0 1) then ((m.2.2 v0 2).bind fun a1 => ((n_X7_cut s m v0 v2).bind fun x2 => ((stL s m a1 v1 x2).bind fun m3 => ((m3.2.2 v0 2).bind fun a4 => ((rdL s m3 a4 v1).bind fun x5 => (some (x5, m3))))))) else (some ((-7 : Int64), m)))
set_option maxRecDepth 20000 in
theorem u_X7_lay_0 {s : List Sh} {m m' : Mem} {r : Int64} {v0 : Nat} {v1 : Int32} {v2 : Int64} (hw : GS s m) (o_v0 : ok s v0 7) (hf : nb_X7_lay_0 s m v0 v1 v2 = some (r, m')) : J3 (b_X7_lay_0 (bl s m) v0 v1 v2) (r, bl s m') (GS s m') := by
  unfold nb_X7_lay_0 at hf
  unfold b_X7_lay_0
  refine k_if hf (fun hf => ?_) (fun hf => ?_)
  · exact k_ret hw hf
  · refine k_gI (ok_o o_v0 (by decide)) rfl ?_
    refine k_if hf (fun hf => ?_) (fun hf => ?_)
    · refine k_gR hw (ok_o o_v0 (by decide)) rfl hf fun a1 o_a1 hf => ?_
      refine k_cO (ok_o o_v0 (by decide)) ?_
      refine ob hf fun x2 ex hf => ?_
      refine k_b1 (un_X7_cut hw o_v0 ex) ?_
      refine k_sL hw (ka rfl o_a1) hf fun m3 hw hf => ?_
      refine k_gR hw (ok_o o_v0 (by decide)) rfl hf fun a4 o_a4 hf => ?_
      refine k_aL (ka rfl o_a4) hf fun x5 hf => ?_
      exact k_ret hw hf
    · exact k_ret hw hf
def n_X7_lay (s : List Sh) (m : Mem) (p0 : Nat) (p1 : Int32) (p2 : Int64) : Option (Int64 × Mem) := nb_X7_lay_0 s m p0 p1 p2
theorem un_X7_lay {s : List Sh} {m m' : Mem} {p0 : Nat} {p1 : Int32} {p2 : Int64} {r : Int64} (hw : GS s m) (o_p0 : ok s p0 7) (ex : n_X7_lay s m p0 p1 p2 = some (r, m')) : J3 (m_X7_lay (bl s m) p0 p1 p2) (r, bl s m') (GS s m') := u_X7_lay_0 hw o_p0 ex
/-! FractionLift$Watcher.takeRow(I)V over the memory -/
def nb_X8_takeRow_65 (F : Nat) (s : List Sh) (nself4 : Mem → Nat → Int32 → Int32 → Int32 → Option (Unit × Mem)) (m : Mem) (v0 : Nat) (v1 : Int32) (v2 : Int32) (v3 : Int32) : Option (Unit × Mem) := bindv (v3 + (1)) fun x1 => (nself4 m v0 v1 v2 x1)
set_option maxRecDepth 20000 in
theorem u_X8_takeRow_65 {F : Nat} {s : List Sh} {self4 : PH → Nat → Int32 → Int32 → Int32 → Option (Unit × PH)} {nself4 : Mem → Nat → Int32 → Int32 → Int32 → Option (Unit × Mem)} {m m' : Mem} {r : Unit} {v0 : Nat} {v1 : Int32} {v2 : Int32} {v3 : Int32} (hw : GS s m) (o_v0 : ok s v0 8) (ih4 : ∀ (m : Mem) (v0 : Nat) (v1 : Int32) (v2 : Int32) (v3 : Int32), GS s m → ok s v0 8 → nself4 m v0 v1 v2 v3 = some (r, m') → J3 (self4 (bl s m) v0 v1 v2 v3) (r, bl s m') (GS s m')) (hf : nb_X8_takeRow_65 F s nself4 m v0 v1 v2 v3 = some (r, m')) : J3 (b_X8_takeRow_65 F self4 (bl s m) v0 v1 v2 v3) (r, bl s m') (GS s m') := by
  unfold nb_X8_takeRow_65 at hf
  unfold b_X8_takeRow_65
  refine k_bv hf fun x1 hf => ?_
  exact ih4 _ _ _ _ _ hw o_v0 hf
def nb_X8_takeRow_87 (F : Nat) (s : List Sh) (m : Mem) (v0 : Nat) : Option (Unit × Mem) := bindv (wI m v0 0 (((m.1 v0 0) + (1 : Int32)))) fun m1 => (some ((), m1))
set_option maxRecDepth 20000 in
theorem u_X8_takeRow_87 {F : Nat} {s : List Sh} {m m' : Mem} {r : Unit} {v0 : Nat} (hw : GS s m) (o_v0 : ok s v0 8) (hf : nb_X8_takeRow_87 F s m v0 = some (r, m')) : J3 (b_X8_takeRow_87 F (bl s m) v0) (r, bl s m') (GS s m') := by
  unfold nb_X8_takeRow_87 at hf
  unfold b_X8_takeRow_87
  refine k_gI (ok_o o_v0 (by decide)) rfl ?_
  refine k_pI hw (ok_o o_v0 (by decide)) rfl hf fun m1 hw hf => ?_
  exact k_ret hw hf
def nb_X8_takeRow_4 (F : Nat) (s : List Sh) (nself4 : Mem → Nat → Int32 → Int32 → Int32 → Option (Unit × Mem)) (m : Mem) (v0 : Nat) (v1 : Int32) (v2 : Int32) (v3 : Int32) : Option (Unit × Mem) := if v1 ≤ v3 then (if (m.1 v0 0) = (m.1 v0 7) then (bindv (wI m v0 1 v2) fun m1 => (nb_X8_takeRow_87 F s m1 v0)) else (nb_X8_takeRow_87 F s m v0)) else ((m.2.2 v0 3).bind fun a2 => ((rdI s m a2 v3).bind fun x3 => (bindv ((((v2 * (6 : Int32))) + x3)) fun x4 => (if (m.1 v0 0) = 0 then ((m.2.2 v0 2).bind fun a11 => ((m.2.2 v0 3).bind fun a12 => ((rdI s m a12 v3).bind fun x13 => ((stI s m a11 v3 x13).bind fun m14 => (nb_X8_takeRow_65 F s nself4 m14 v0 v1 x4 v3))))) else ((m.2.2 v0 2).bind fun a5 => ((rdI s m a5 v3).bind fun x6 => ((m.2.2 v0 3).bind fun a7 => ((rdI s m a7 v3).bind fun x8 => (if x6 = x8 then (nb_X8_takeRow_65 F s nself4 m v0 v1 x4 v3) else ((m.2.2 v0 2).bind fun a9 => ((stI s m a9 v3 (-1 : Int32)).bind fun m10 => (nb_X8_takeRow_65 F s nself4 m10 v0 v1 x4 v3))))))))))))
set_option maxRecDepth 20000 in
theorem ub_X8_takeRow_4 {F : Nat} {s : List Sh} {self4 : PH → Nat → Int32 → Int32 → Int32 → Option (Unit × PH)} {nself4 : Mem → Nat → Int32 → Int32 → Int32 → Option (Unit × Mem)} {m m' : Mem} {r : Unit} {v0 : Nat} {v1 : Int32} {v2 : Int32} {v3 : Int32} (hw : GS s m) (o_v0 : ok s v0 8) (ih4 : ∀ (m : Mem) (v0 : Nat) (v1 : Int32) (v2 : Int32) (v3 : Int32), GS s m → ok s v0 8 → nself4 m v0 v1 v2 v3 = some (r, m') → J3 (self4 (bl s m) v0 v1 v2 v3) (r, bl s m') (GS s m')) (hf : nb_X8_takeRow_4 F s nself4 m v0 v1 v2 v3 = some (r, m')) : J3 (b_X8_takeRow_4 F self4 (bl s m) v0 v1 v2 v3) (r, bl s m') (GS s m') := by
  unfold nb_X8_takeRow_4 at hf
  unfold b_X8_takeRow_4
  refine k_if hf (fun hf => ?_) (fun hf => ?_)
  · refine k_gI (ok_o o_v0 (by decide)) rfl ?_
    refine k_gI (ok_o o_v0 (by decide)) rfl ?_
    refine k_if hf (fun hf => ?_) (fun hf => ?_)
    · refine k_pI hw (ok_o o_v0 (by decide)) rfl hf fun m1 hw hf => ?_
      exact u_X8_takeRow_87 hw o_v0 hf
    · exact u_X8_takeRow_87 hw o_v0 hf
  · refine k_gR hw (ok_o o_v0 (by decide)) rfl hf fun a2 o_a2 hf => ?_
    refine k_aI (Or.inl rfl) (ka rfl o_a2) hf fun x3 hf => ?_
    refine k_bv hf fun x4 hf => ?_
    refine k_gI (ok_o o_v0 (by decide)) rfl ?_
    refine k_if hf (fun hf => ?_) (fun hf => ?_)
    · refine k_gR hw (ok_o o_v0 (by decide)) rfl hf fun a11 o_a11 hf => ?_
      refine k_gR hw (ok_o o_v0 (by decide)) rfl hf fun a12 o_a12 hf => ?_
      refine k_aI (Or.inl rfl) (ka rfl o_a12) hf fun x13 hf => ?_
      refine k_sI hw (ka rfl o_a11) hf fun m14 hw hf => ?_
      exact u_X8_takeRow_65 hw o_v0 ih4 hf
    · refine k_gR hw (ok_o o_v0 (by decide)) rfl hf fun a5 o_a5 hf => ?_
      refine k_aI (Or.inl rfl) (ka rfl o_a5) hf fun x6 hf => ?_
      refine k_gR hw (ok_o o_v0 (by decide)) rfl hf fun a7 o_a7 hf => ?_
      refine k_aI (Or.inl rfl) (ka rfl o_a7) hf fun x8 hf => ?_
      refine k_if hf (fun hf => ?_) (fun hf => ?_)
      · exact u_X8_takeRow_65 hw o_v0 ih4 hf
      · refine k_gR hw (ok_o o_v0 (by decide)) rfl hf fun a9 o_a9 hf => ?_
        refine k_sI hw (ka rfl o_a9) hf fun m10 hw hf => ?_
        exact u_X8_takeRow_65 hw o_v0 ih4 hf
def nl_X8_takeRow_4 (F : Nat) (s : List Sh) : Nat → Mem → Nat → Int32 → Int32 → Int32 → Option (Unit × Mem)
  | 0 => fun _ _ _ _ _ => none
  | n + 1 => fun m v0 v1 v2 v3 => nb_X8_takeRow_4 F s (nl_X8_takeRow_4 F s n) m v0 v1 v2 v3
theorem ul_X8_takeRow_4 {F : Nat} {s : List Sh} {m' : Mem} {r : Unit} (n : Nat) : ∀ (m : Mem) (v0 : Nat) (v1 : Int32) (v2 : Int32) (v3 : Int32), GS s m → ok s v0 8 → nl_X8_takeRow_4 F s n m v0 v1 v2 v3 = some (r, m') → J3 (l_X8_takeRow_4 F n (bl s m) v0 v1 v2 v3) (r, bl s m') (GS s m') := by
  induction n with
  | zero => intro m v0 v1 v2 v3 hw o_v0 hf; cases hf
  | succ n ih => intro m v0 v1 v2 v3 hw o_v0 hf; exact ub_X8_takeRow_4 (F := F) hw o_v0 ih hf
def nb_X8_takeRow_0 (F : Nat) (s : List Sh) (m : Mem) (v0 : Nat) (v1 : Int32) : Option (Unit × Mem) := nl_X8_takeRow_4 F s F m v0 v1 (0 : Int32) (0 : Int32)
set_option maxRecDepth 20000 in
theorem u_X8_takeRow_0 {F : Nat} {s : List Sh} {m m' : Mem} {r : Unit} {v0 : Nat} {v1 : Int32} (hw : GS s m) (o_v0 : ok s v0 8) (hf : nb_X8_takeRow_0 F s m v0 v1 = some (r, m')) : J3 (b_X8_takeRow_0 F (bl s m) v0 v1) (r, bl s m') (GS s m') := by
  unfold nb_X8_takeRow_0 at hf
  unfold b_X8_takeRow_0
  exact ul_X8_takeRow_4 F _ _ _ _ _ hw o_v0 hf
def n_X8_takeRow (F : Nat) (s : List Sh) (m : Mem) (p0 : Nat) (p1 : Int32) : Option (Unit × Mem) := nb_X8_takeRow_0 F s m p0 p1
theorem un_X8_takeRow {F : Nat} {s : List Sh} {m m' : Mem} {p0 : Nat} {p1 : Int32} {r : Unit} (hw : GS s m) (o_p0 : ok s p0 8) (ex : n_X8_takeRow F s m p0 p1 = some (r, m')) : J3 (m_X8_takeRow F (bl s m) p0 p1) (r, bl s m') (GS s m') := u_X8_takeRow_0 hw o_p0 ex
/-! FractionLift$Watcher.isSeenAt(I)Z over the memory -/
def nb_X8_isSeenAt_0 (s : List Sh) (m : Mem) (v0 : Nat) (v1 : Int32) : Option Int32 := if v1 < 0 then (rZP (1 : Int32)) else ((m.2.2 v0 5).bind fun a1 => (if v1 < (m.1 a1 9) then ((m.2.2 v0 5).bind fun a2 => ((m.2.2 a2 10).bind fun a3 => ((rdI s m a3 v1).bind fun x4 => ((m.2.2 v0 4).bind fun a5 => (if x4 = (m.1 a5 0) then ((m.2.2 v0 5).bind fun a6 => ((m.2.2 a6 11).bind fun a7 => ((rdI s m a7 v1).bind fun x8 => ((m.2.2 v0 4).bind fun a9 => (if x8 = (m.1 a9 1) then (rZP (1 : Int32)) else (rZP (0 : Int32))))))) else (rZP (0 : Int32))))))) else (rZP (1 : Int32))))
set_option maxRecDepth 20000 in
theorem u_X8_isSeenAt_0 {s : List Sh} {m : Mem} {r : Int32} {v0 : Nat} {v1 : Int32} (hw : GS s m) (o_v0 : ok s v0 8) (hf : nb_X8_isSeenAt_0 s m v0 v1 = some r) : J3 (b_X8_isSeenAt_0 (bl s m) v0 v1) r True := by
  unfold nb_X8_isSeenAt_0 at hf
  unfold b_X8_isSeenAt_0
  refine k_if hf (fun hf => ?_) (fun hf => ?_)
  · exact k_rZP hf
  · refine k_gR hw (ok_o o_v0 (by decide)) rfl hf fun a1 o_a1 hf => ?_
    refine k_gI (ok_o o_a1 (by decide)) rfl ?_
    refine k_if hf (fun hf => ?_) (fun hf => ?_)
    · refine k_gR hw (ok_o o_v0 (by decide)) rfl hf fun a2 o_a2 hf => ?_
      refine k_gR hw (ok_o o_a2 (by decide)) rfl hf fun a3 o_a3 hf => ?_
      refine k_aI (Or.inl rfl) (ka rfl o_a3) hf fun x4 hf => ?_
      refine k_gR hw (ok_o o_v0 (by decide)) rfl hf fun a5 o_a5 hf => ?_
      refine k_gI (ok_o o_a5 (by decide)) rfl ?_
      refine k_if hf (fun hf => ?_) (fun hf => ?_)
      · refine k_gR hw (ok_o o_v0 (by decide)) rfl hf fun a6 o_a6 hf => ?_
        refine k_gR hw (ok_o o_a6 (by decide)) rfl hf fun a7 o_a7 hf => ?_
        refine k_aI (Or.inl rfl) (ka rfl o_a7) hf fun x8 hf => ?_
        refine k_gR hw (ok_o o_v0 (by decide)) rfl hf fun a9 o_a9 hf => ?_
        refine k_gI (ok_o o_a9 (by decide)) rfl ?_
        refine k_if hf (fun hf => ?_) (fun hf => ?_)
        · exact k_rZP hf
        · exact k_rZP hf
      · exact k_rZP hf
    · exact k_rZP hf
def n_X8_isSeenAt (s : List Sh) (m : Mem) (p0 : Nat) (p1 : Int32) : Option Int32 := nb_X8_isSeenAt_0 s m p0 p1
theorem un_X8_isSeenAt {s : List Sh} {m : Mem} {p0 : Nat} {p1 : Int32} {r : Int32} (hw : GS s m) (o_p0 : ok s p0 8) (ex : n_X8_isSeenAt s m p0 p1 = some r) : J3 (m_X8_isSeenAt (bl s m) p0 p1) r True := u_X8_isSeenAt_0 hw o_p0 ex
/-! FractionLift$Watcher.goOn(III)V over the memory -/
def nb_X8_goOn_17 (nrc : Mem → Nat → Int32 → Int32 → Int32 → Option (Unit × Mem)) (F : Nat) (s : List Sh) (m : Mem) (v0 : Nat) (v1 : Int32) : Option (Unit × Mem) := bind2 (n_X8_takeRow F s m v0 v1) fun _ m2 => (some ((), m2))
set_option maxRecDepth 20000 in
theorem u_X8_goOn_17 {rc : PH → Nat → Int32 → Int32 → Int32 → Option (Unit × PH)} {nrc : Mem → Nat → Int32 → Int32 → Int32 → Option (Unit × Mem)} {F : Nat} {s : List Sh} {m m' : Mem} {r : Unit} {v0 : Nat} {v1 : Int32} (hw : GS s m) (o_v0 : ok s v0 8) (hrc : ∀ {m m' : Mem} {p0 : Nat} {p1 : Int32} {p2 : Int32} {p3 : Int32} {r : Unit}, GS s m → ok s p0 8 → nrc m p0 p1 p2 p3 = some (r, m') → J3 (rc (bl s m) p0 p1 p2 p3) (r, bl s m') (GS s m')) (hf : nb_X8_goOn_17 nrc F s m v0 v1 = some (r, m')) : J3 (b_X8_goOn_17 rc F (bl s m) v0 v1) (r, bl s m') (GS s m') := by
  unfold nb_X8_goOn_17 at hf
  unfold b_X8_goOn_17
  refine k_cO (ok_o o_v0 (by decide)) ?_
  refine ob2 hf fun u m2 ex hf => ?_
  refine k_b2 (un_X8_takeRow hw o_v0 ex) fun hw => ?_
  exact k_ret hw hf
def nb_X8_goOn_106 (nrc : Mem → Nat → Int32 → Int32 → Int32 → Option (Unit × Mem)) (F : Nat) (s : List Sh) (nself19 : Mem → Nat → Int32 → Int32 → Int32 → Int32 → Int32 → Option (Unit × Mem)) (m : Mem) (v0 : Nat) (v1 : Int32) (v2 : Int32) (v3 : Int32) (v4 : Int32) (v5 : Int32) : Option (Unit × Mem) := bindv (v5 + (1)) fun x1 => (nself19 m v0 v1 v2 v3 v4 x1)
set_option maxRecDepth 20000 in
theorem u_X8_goOn_106 {rc : PH → Nat → Int32 → Int32 → Int32 → Option (Unit × PH)} {nrc : Mem → Nat → Int32 → Int32 → Int32 → Option (Unit × Mem)} {F : Nat} {s : List Sh} {self19 : PH → Nat → Int32 → Int32 → Int32 → Int32 → Int32 → Option (Unit × PH)} {nself19 : Mem → Nat → Int32 → Int32 → Int32 → Int32 → Int32 → Option (Unit × Mem)} {m m' : Mem} {r : Unit} {v0 : Nat} {v1 : Int32} {v2 : Int32} {v3 : Int32} {v4 : Int32} {v5 : Int32} (hw : GS s m) (o_v0 : ok s v0 8) (hrc : ∀ {m m' : Mem} {p0 : Nat} {p1 : Int32} {p2 : Int32} {p3 : Int32} {r : Unit}, GS s m → ok s p0 8 → nrc m p0 p1 p2 p3 = some (r, m') → J3 (rc (bl s m) p0 p1 p2 p3) (r, bl s m') (GS s m')) (ih19 : ∀ (m : Mem) (v0 : Nat) (v1 : Int32) (v2 : Int32) (v3 : Int32) (v4 : Int32) (v5 : Int32), GS s m → ok s v0 8 → nself19 m v0 v1 v2 v3 v4 v5 = some (r, m') → J3 (self19 (bl s m) v0 v1 v2 v3 v4 v5) (r, bl s m') (GS s m')) (hf : nb_X8_goOn_106 nrc F s nself19 m v0 v1 v2 v3 v4 v5 = some (r, m')) : J3 (b_X8_goOn_106 rc F self19 (bl s m) v0 v1 v2 v3 v4 v5) (r, bl s m') (GS s m') := by
  unfold nb_X8_goOn_106 at hf
  unfold b_X8_goOn_106
  refine k_bv hf fun x1 hf => ?_
  exact ih19 _ _ _ _ _ _ _ hw o_v0 hf
def nb_X8_goOn_36 (nrc : Mem → Nat → Int32 → Int32 → Int32 → Option (Unit × Mem)) (F : Nat) (s : List Sh) (nself19 : Mem → Nat → Int32 → Int32 → Int32 → Int32 → Int32 → Option (Unit × Mem)) (m : Mem) (v0 : Nat) (v1 : Int32) (v2 : Int32) (v3 : Int32) (v4 : Int32) (v5 : Int32) : Option (Unit × Mem) := (m.2.2 v0 5).bind fun a1 => (if (m.1 a1 6) ≤ v5 then (some ((), m)) else ((m.2.2 v0 4).bind fun a2 => ((m.2.2 v0 5).bind fun a3 => (bind2 (n_X4_lead F s m a2 a3 v5 (Int32.toInt64 v2) (Int32.toInt64 v3)) fun x4 m5 => (if x4 = 0 then ((n_X8_isSeenAt s m5 v0 v4).bind fun x6 => (if x6 = 0 then (nb_X8_goOn_106 nrc F s nself19 m5 v0 v1 v2 v3 v4 v5) else ((m5.2.2 v0 3).bind fun a7 => ((stI s m5 a7 v1 v5).bind fun m8 => ((m8.2.2 v0 4).bind fun a9 => ((m8.2.2 v0 4).bind fun a10 => (bind2 (nrc m8 v0 ((v1 + (1 : Int32))) (m8.1 a9 0) (m8.1 a10 1)) fun _ m12 => (nb_X8_goOn_106 nrc F s nself19 m12 v0 v1 v2 v3 v4 v5)))))))) else (nb_X8_goOn_106 nrc F s nself19 m5 v0 v1 v2 v3 v4 v5))))))
set_option maxRecDepth 20000 in
theorem ub_X8_goOn_36 {rc : PH → Nat → Int32 → Int32 → Int32 → Option (Unit × PH)} {nrc : Mem → Nat → Int32 → Int32 → Int32 → Option (Unit × Mem)} {F : Nat} {s : List Sh} {self19 : PH → Nat → Int32 → Int32 → Int32 → Int32 → Int32 → Option (Unit × PH)} {nself19 : Mem → Nat → Int32 → Int32 → Int32 → Int32 → Int32 → Option (Unit × Mem)} {m m' : Mem} {r : Unit} {v0 : Nat} {v1 : Int32} {v2 : Int32} {v3 : Int32} {v4 : Int32} {v5 : Int32} (hw : GS s m) (o_v0 : ok s v0 8) (hrc : ∀ {m m' : Mem} {p0 : Nat} {p1 : Int32} {p2 : Int32} {p3 : Int32} {r : Unit}, GS s m → ok s p0 8 → nrc m p0 p1 p2 p3 = some (r, m') → J3 (rc (bl s m) p0 p1 p2 p3) (r, bl s m') (GS s m')) (ih19 : ∀ (m : Mem) (v0 : Nat) (v1 : Int32) (v2 : Int32) (v3 : Int32) (v4 : Int32) (v5 : Int32), GS s m → ok s v0 8 → nself19 m v0 v1 v2 v3 v4 v5 = some (r, m') → J3 (self19 (bl s m) v0 v1 v2 v3 v4 v5) (r, bl s m') (GS s m')) (hf : nb_X8_goOn_36 nrc F s nself19 m v0 v1 v2 v3 v4 v5 = some (r, m')) : J3 (b_X8_goOn_36 rc F self19 (bl s m) v0 v1 v2 v3 v4 v5) (r, bl s m') (GS s m') := by
  unfold nb_X8_goOn_36 at hf
  unfold b_X8_goOn_36
  refine k_gR hw (ok_o o_v0 (by decide)) rfl hf fun a1 o_a1 hf => ?_
  refine k_gI (ok_o o_a1 (by decide)) rfl ?_
  refine k_if hf (fun hf => ?_) (fun hf => ?_)
  · exact k_ret hw hf
  · refine k_gR hw (ok_o o_v0 (by decide)) rfl hf fun a2 o_a2 hf => ?_
    refine k_gR hw (ok_o o_v0 (by decide)) rfl hf fun a3 o_a3 hf => ?_
    refine k_cO (ok_o o_a2 (by decide)) ?_
    refine ob2 hf fun x4 m5 ex hf => ?_
    refine k_b2 (un_X4_lead hw o_a2 o_a3 ex) fun hw => ?_
    refine k_if hf (fun hf => ?_) (fun hf => ?_)
    · refine k_cO (ok_o o_v0 (by decide)) ?_
      refine ob hf fun x6 ex hf => ?_
      refine k_b1 (un_X8_isSeenAt hw o_v0 ex) ?_
      refine k_if hf (fun hf => ?_) (fun hf => ?_)
      · exact u_X8_goOn_106 hw o_v0 hrc ih19 hf
      · refine k_gR hw (ok_o o_v0 (by decide)) rfl hf fun a7 o_a7 hf => ?_
        refine k_sI hw (ka rfl o_a7) hf fun m8 hw hf => ?_
        refine k_gR hw (ok_o o_v0 (by decide)) rfl hf fun a9 o_a9 hf => ?_
        refine k_gI (ok_o o_a9 (by decide)) rfl ?_
        refine k_gR hw (ok_o o_v0 (by decide)) rfl hf fun a10 o_a10 hf => ?_
        refine k_gI (ok_o o_a10 (by decide)) rfl ?_
        refine k_cO (ok_o o_v0 (by decide)) ?_
        refine ob2 hf fun u m12 ex hf => ?_
        refine k_b2 (hrc hw o_v0 ex) fun hw => ?_
        exact u_X8_goOn_106 hw o_v0 hrc ih19 hf
    · exact u_X8_goOn_106 hw o_v0 hrc ih19 hf
def nl_X8_goOn_36 (nrc : Mem → Nat → Int32 → Int32 → Int32 → Option (Unit × Mem)) (F : Nat) (s : List Sh) : Nat → Mem → Nat → Int32 → Int32 → Int32 → Int32 → Int32 → Option (Unit × Mem)
  | 0 => fun _ _ _ _ _ _ _ => none
  | n + 1 => fun m v0 v1 v2 v3 v4 v5 => nb_X8_goOn_36 nrc F s (nl_X8_goOn_36 nrc F s n) m v0 v1 v2 v3 v4 v5
theorem ul_X8_goOn_36 {rc : PH → Nat → Int32 → Int32 → Int32 → Option (Unit × PH)} {nrc : Mem → Nat → Int32 → Int32 → Int32 → Option (Unit × Mem)} {F : Nat} {s : List Sh} {m' : Mem} {r : Unit} (hrc : ∀ {m m' : Mem} {p0 : Nat} {p1 : Int32} {p2 : Int32} {p3 : Int32} {r : Unit}, GS s m → ok s p0 8 → nrc m p0 p1 p2 p3 = some (r, m') → J3 (rc (bl s m) p0 p1 p2 p3) (r, bl s m') (GS s m')) (n : Nat) : ∀ (m : Mem) (v0 : Nat) (v1 : Int32) (v2 : Int32) (v3 : Int32) (v4 : Int32) (v5 : Int32), GS s m → ok s v0 8 → nl_X8_goOn_36 nrc F s n m v0 v1 v2 v3 v4 v5 = some (r, m') → J3 (l_X8_goOn_36 rc F n (bl s m) v0 v1 v2 v3 v4 v5) (r, bl s m') (GS s m') := by
  induction n with
  | zero => intro m v0 v1 v2 v3 v4 v5 hw o_v0 hf; cases hf
  | succ n ih => intro m v0 v1 v2 v3 v4 v5 hw o_v0 hf; exact ub_X8_goOn_36 (F := F) hw o_v0 hrc ih hf
def nb_X8_goOn_0 (nrc : Mem → Nat → Int32 → Int32 → Int32 → Option (Unit × Mem)) (F : Nat) (s : List Sh) (m : Mem) (v0 : Nat) (v1 : Int32) (v2 : Int32) (v3 : Int32) : Option (Unit × Mem) := (m.2.2 v0 6).bind fun a1 => (if (m.1 a1 1) ≤ v1 then (nb_X8_goOn_17 nrc F s m v0 v1) else (if v1 < (8 : Int32) then ((m.2.2 v0 6).bind fun a2 => ((n_X7_smallAt s m a2 v1).bind fun x3 => (nl_X8_goOn_36 nrc F s F m v0 v1 v2 v3 x3 (0 : Int32)))) else (nb_X8_goOn_17 nrc F s m v0 v1)))
set_option maxRecDepth 20000 in
theorem u_X8_goOn_0 {rc : PH → Nat → Int32 → Int32 → Int32 → Option (Unit × PH)} {nrc : Mem → Nat → Int32 → Int32 → Int32 → Option (Unit × Mem)} {F : Nat} {s : List Sh} {m m' : Mem} {r : Unit} {v0 : Nat} {v1 : Int32} {v2 : Int32} {v3 : Int32} (hw : GS s m) (o_v0 : ok s v0 8) (hrc : ∀ {m m' : Mem} {p0 : Nat} {p1 : Int32} {p2 : Int32} {p3 : Int32} {r : Unit}, GS s m → ok s p0 8 → nrc m p0 p1 p2 p3 = some (r, m') → J3 (rc (bl s m) p0 p1 p2 p3) (r, bl s m') (GS s m')) (hf : nb_X8_goOn_0 nrc F s m v0 v1 v2 v3 = some (r, m')) : J3 (b_X8_goOn_0 rc F (bl s m) v0 v1 v2 v3) (r, bl s m') (GS s m') := by
  unfold nb_X8_goOn_0 at hf
  unfold b_X8_goOn_0
  refine k_gR hw (ok_o o_v0 (by decide)) rfl hf fun a1 o_a1 hf => ?_
  refine k_gI (ok_o o_a1 (by decide)) rfl ?_
  refine k_if hf (fun hf => ?_) (fun hf => ?_)
  · exact u_X8_goOn_17 hw o_v0 hrc hf
  · refine k_if hf (fun hf => ?_) (fun hf => ?_)
    · refine k_gR hw (ok_o o_v0 (by decide)) rfl hf fun a2 o_a2 hf => ?_
      refine k_cO (ok_o o_a2 (by decide)) ?_
      refine ob hf fun x3 ex hf => ?_
      refine k_b1 (un_X7_smallAt hw o_a2 ex) ?_
      exact ul_X8_goOn_36 hrc F _ _ _ _ _ _ _ hw o_v0 hf
    · exact u_X8_goOn_17 hw o_v0 hrc hf
def ng_X8_goOn (nrc : Mem → Nat → Int32 → Int32 → Int32 → Option (Unit × Mem)) (F : Nat) (s : List Sh) (m : Mem) (p0 : Nat) (p1 : Int32) (p2 : Int32) (p3 : Int32) : Option (Unit × Mem) := nb_X8_goOn_0 nrc F s m p0 p1 p2 p3
theorem ug_X8_goOn {rc : PH → Nat → Int32 → Int32 → Int32 → Option (Unit × PH)} {nrc : Mem → Nat → Int32 → Int32 → Int32 → Option (Unit × Mem)} {F : Nat} {s : List Sh} {m m' : Mem} {p0 : Nat} {p1 : Int32} {p2 : Int32} {p3 : Int32} {r : Unit} (hrc : ∀ {m m' : Mem} {p0 : Nat} {p1 : Int32} {p2 : Int32} {p3 : Int32} {r : Unit}, GS s m → ok s p0 8 → nrc m p0 p1 p2 p3 = some (r, m') → J3 (rc (bl s m) p0 p1 p2 p3) (r, bl s m') (GS s m')) (hw : GS s m) (o_p0 : ok s p0 8) (ex : ng_X8_goOn nrc F s m p0 p1 p2 p3 = some (r, m')) : J3 (g_X8_goOn rc F (bl s m) p0 p1 p2 p3) (r, bl s m') (GS s m') := u_X8_goOn_0 hw o_p0 hrc ex
def nd_X8_goOn (F : Nat) (s : List Sh) : Nat → Mem → Nat → Int32 → Int32 → Int32 → Option (Unit × Mem)
  | 0 => fun _ _ _ _ _ => none
  | d + 1 => fun m p0 p1 p2 p3 => ng_X8_goOn (nd_X8_goOn F s d) F s m p0 p1 p2 p3
def n_X8_goOn (F : Nat) (d : Nat) (s : List Sh) (m : Mem) (p0 : Nat) (p1 : Int32) (p2 : Int32) (p3 : Int32) : Option (Unit × Mem) := nd_X8_goOn F s d m p0 p1 p2 p3
theorem ud_X8_goOn {F : Nat} {s : List Sh} (d : Nat) : ∀ {m m' : Mem} {p0 : Nat} {p1 : Int32} {p2 : Int32} {p3 : Int32} {r : Unit}, GS s m → ok s p0 8 → nd_X8_goOn F s d m p0 p1 p2 p3 = some (r, m') → J3 (m_X8_goOn F d (bl s m) p0 p1 p2 p3) (r, bl s m') (GS s m') := by
  induction d with
  | zero => intro _ _ _ _ _ _ _ hw o_p0 hf; cases hf
  | succ d ih => intro _ _ _ _ _ _ _ hw o_p0 hf; exact ug_X8_goOn ih hw o_p0 hf
theorem un_X8_goOn {F : Nat} {d : Nat} {s : List Sh} {m m' : Mem} {p0 : Nat} {p1 : Int32} {p2 : Int32} {p3 : Int32} {r : Unit} (hw : GS s m) (o_p0 : ok s p0 8) (ex : n_X8_goOn F d s m p0 p1 p2 p3 = some (r, m')) : J3 (m_X8_goOn F d (bl s m) p0 p1 p2 p3) (r, bl s m') (GS s m') := ud_X8_goOn d hw o_p0 ex
/-! FractionLift$Watcher.watchAll(LFractionLift$House;LFractionLift$Tray;I)V over the memory -/
def nb_X8_watchAll_0 (F : Nat) (s : List Sh) (m : Mem) (v0 : Nat) (v1 : Nat) (v2 : Nat) (v3 : Int32) : Option (Unit × Mem) := bindv (wR m v0 5 (some v1)) fun m1 => (bindv (wR m1 v0 6 (some v2)) fun m2 => (bindv (wI m2 v0 7 v3) fun m3 => (bindv (wI m3 v0 0 (0 : Int32)) fun m4 => (bindv (wI m4 v0 1 (-1 : Int32)) fun m5 => (bind2 (n_X8_goOn F 10 s m5 v0 (0 : Int32) (m5.1 v1 4) (m5.1 v1 5)) fun _ m7 => (some ((), m7)))))))
set_option maxRecDepth 20000 in
theorem u_X8_watchAll_0 {F : Nat} {s : List Sh} {m m' : Mem} {r : Unit} {v0 : Nat} {v1 : Nat} {v2 : Nat} {v3 : Int32} (hw : GS s m) (o_v0 : ok s v0 8) (o_v1 : ok s v1 0) (o_v2 : ok s v2 7) (hf : nb_X8_watchAll_0 F s m v0 v1 v2 v3 = some (r, m')) : J3 (b_X8_watchAll_0 F (bl s m) v0 v1 v2 v3) (r, bl s m') (GS s m') := by
  unfold nb_X8_watchAll_0 at hf
  unfold b_X8_watchAll_0
  refine k_pR hw (ok_o o_v0 (by decide)) rfl o_v1 hf fun m1 hw hf => ?_
  refine k_pR hw (ok_o o_v0 (by decide)) rfl o_v2 hf fun m2 hw hf => ?_
  refine k_pI hw (ok_o o_v0 (by decide)) rfl hf fun m3 hw hf => ?_
  refine k_pI hw (ok_o o_v0 (by decide)) rfl hf fun m4 hw hf => ?_
  refine k_pI hw (ok_o o_v0 (by decide)) rfl hf fun m5 hw hf => ?_
  refine k_gI (ok_o o_v1 (by decide)) rfl ?_
  refine k_gI (ok_o o_v1 (by decide)) rfl ?_
  refine k_cO (ok_o o_v0 (by decide)) ?_
  refine ob2 hf fun u m7 ex hf => ?_
  refine k_b2 (un_X8_goOn hw o_v0 ex) fun hw => ?_
  exact k_ret hw hf
def n_X8_watchAll (F : Nat) (s : List Sh) (m : Mem) (p0 : Nat) (p1 : Nat) (p2 : Nat) (p3 : Int32) : Option (Unit × Mem) := nb_X8_watchAll_0 F s m p0 p1 p2 p3
theorem un_X8_watchAll {F : Nat} {s : List Sh} {m m' : Mem} {p0 : Nat} {p1 : Nat} {p2 : Nat} {p3 : Int32} {r : Unit} (hw : GS s m) (o_p0 : ok s p0 8) (o_p1 : ok s p1 0) (o_p2 : ok s p2 7) (ex : n_X8_watchAll F s m p0 p1 p2 p3 = some (r, m')) : J3 (m_X8_watchAll F (bl s m) p0 p1 p2 p3) (r, bl s m') (GS s m') := u_X8_watchAll_0 hw o_p0 o_p1 o_p2 ex
/-! FractionLift.tapeInt(I)V over the memory -/
def nb_X9_tapeInt_45 (F : Nat) (s : List Sh) (nself2 : Mem → Nat → Int32 → Int32 → Option (Unit × Mem)) (m : Mem) (v0 : Nat) (v1 : Int32) (v2 : Int32) : Option (Unit × Mem) := bindv (v2 + (-8)) fun x1 => (nself2 m v0 v1 x1)
set_option maxRecDepth 20000 in
theorem u_X9_tapeInt_45 {F : Nat} {s : List Sh} {self2 : PH → Nat → Int32 → Int32 → Option (Unit × PH)} {nself2 : Mem → Nat → Int32 → Int32 → Option (Unit × Mem)} {m m' : Mem} {r : Unit} {v0 : Nat} {v1 : Int32} {v2 : Int32} (hw : GS s m) (o_v0 : ok s v0 9) (ih2 : ∀ (m : Mem) (v0 : Nat) (v1 : Int32) (v2 : Int32), GS s m → ok s v0 9 → nself2 m v0 v1 v2 = some (r, m') → J3 (self2 (bl s m) v0 v1 v2) (r, bl s m') (GS s m')) (hf : nb_X9_tapeInt_45 F s nself2 m v0 v1 v2 = some (r, m')) : J3 (b_X9_tapeInt_45 F self2 (bl s m) v0 v1 v2) (r, bl s m') (GS s m') := by
  unfold nb_X9_tapeInt_45 at hf
  unfold b_X9_tapeInt_45
  refine k_bv hf fun x1 hf => ?_
  exact ih2 _ _ _ _ hw o_v0 hf
def nb_X9_tapeInt_3 (F : Nat) (s : List Sh) (nself2 : Mem → Nat → Int32 → Int32 → Option (Unit × Mem)) (m : Mem) (v0 : Nat) (v1 : Int32) (v2 : Int32) : Option (Unit × Mem) := if v2 < 0 then (some ((), m)) else ((m.2.2 v0 0).bind fun a1 => (if ((Int32.ofNat (ln s a1))) ≤ (m.1 v0 1) then (nb_X9_tapeInt_45 F s nself2 m v0 v1 v2) else ((m.2.2 v0 0).bind fun a2 => ((stI s m a2 (m.1 v0 1) (((ushr v1 v2) &&& (255 : Int32)))).bind fun m3 => (bindv (wI m3 v0 1 (((m3.1 v0 1) + (1 : Int32)))) fun m4 => (nb_X9_tapeInt_45 F s nself2 m4 v0 v1 v2))))))
set_option maxRecDepth 20000 in
theorem ub_X9_tapeInt_3 {F : Nat} {s : List Sh} {self2 : PH → Nat → Int32 → Int32 → Option (Unit × PH)} {nself2 : Mem → Nat → Int32 → Int32 → Option (Unit × Mem)} {m m' : Mem} {r : Unit} {v0 : Nat} {v1 : Int32} {v2 : Int32} (hw : GS s m) (o_v0 : ok s v0 9) (ih2 : ∀ (m : Mem) (v0 : Nat) (v1 : Int32) (v2 : Int32), GS s m → ok s v0 9 → nself2 m v0 v1 v2 = some (r, m') → J3 (self2 (bl s m) v0 v1 v2) (r, bl s m') (GS s m')) (hf : nb_X9_tapeInt_3 F s nself2 m v0 v1 v2 = some (r, m')) : J3 (b_X9_tapeInt_3 F self2 (bl s m) v0 v1 v2) (r, bl s m') (GS s m') := by
  unfold nb_X9_tapeInt_3 at hf
  unfold b_X9_tapeInt_3
  refine k_if hf (fun hf => ?_) (fun hf => ?_)
  · exact k_ret hw hf
  · refine k_gI (ok_o o_v0 (by decide)) rfl ?_
    refine k_gR hw (ok_o o_v0 (by decide)) rfl hf fun a1 o_a1 hf => ?_
    refine k_len (t := 0) (by decide) (ka rfl o_a1) ?_
    refine k_if hf (fun hf => ?_) (fun hf => ?_)
    · exact u_X9_tapeInt_45 hw o_v0 ih2 hf
    · refine k_gR hw (ok_o o_v0 (by decide)) rfl hf fun a2 o_a2 hf => ?_
      refine k_gI (ok_o o_v0 (by decide)) rfl ?_
      refine k_sI hw (ka rfl o_a2) hf fun m3 hw hf => ?_
      refine k_gI (ok_o o_v0 (by decide)) rfl ?_
      refine k_pI hw (ok_o o_v0 (by decide)) rfl hf fun m4 hw hf => ?_
      exact u_X9_tapeInt_45 hw o_v0 ih2 hf
def nl_X9_tapeInt_3 (F : Nat) (s : List Sh) : Nat → Mem → Nat → Int32 → Int32 → Option (Unit × Mem)
  | 0 => fun _ _ _ _ => none
  | n + 1 => fun m v0 v1 v2 => nb_X9_tapeInt_3 F s (nl_X9_tapeInt_3 F s n) m v0 v1 v2
theorem ul_X9_tapeInt_3 {F : Nat} {s : List Sh} {m' : Mem} {r : Unit} (n : Nat) : ∀ (m : Mem) (v0 : Nat) (v1 : Int32) (v2 : Int32), GS s m → ok s v0 9 → nl_X9_tapeInt_3 F s n m v0 v1 v2 = some (r, m') → J3 (l_X9_tapeInt_3 F n (bl s m) v0 v1 v2) (r, bl s m') (GS s m') := by
  induction n with
  | zero => intro m v0 v1 v2 hw o_v0 hf; cases hf
  | succ n ih => intro m v0 v1 v2 hw o_v0 hf; exact ub_X9_tapeInt_3 (F := F) hw o_v0 ih hf
def nb_X9_tapeInt_0 (F : Nat) (s : List Sh) (m : Mem) (v0 : Nat) (v1 : Int32) : Option (Unit × Mem) := nl_X9_tapeInt_3 F s F m v0 v1 (24 : Int32)
set_option maxRecDepth 20000 in
theorem u_X9_tapeInt_0 {F : Nat} {s : List Sh} {m m' : Mem} {r : Unit} {v0 : Nat} {v1 : Int32} (hw : GS s m) (o_v0 : ok s v0 9) (hf : nb_X9_tapeInt_0 F s m v0 v1 = some (r, m')) : J3 (b_X9_tapeInt_0 F (bl s m) v0 v1) (r, bl s m') (GS s m') := by
  unfold nb_X9_tapeInt_0 at hf
  unfold b_X9_tapeInt_0
  exact ul_X9_tapeInt_3 F _ _ _ _ hw o_v0 hf
def n_X9_tapeInt (F : Nat) (s : List Sh) (m : Mem) (p0 : Nat) (p1 : Int32) : Option (Unit × Mem) := nb_X9_tapeInt_0 F s m p0 p1
theorem un_X9_tapeInt {F : Nat} {s : List Sh} {m m' : Mem} {p0 : Nat} {p1 : Int32} {r : Unit} (hw : GS s m) (o_p0 : ok s p0 9) (ex : n_X9_tapeInt F s m p0 p1 = some (r, m')) : J3 (m_X9_tapeInt F (bl s m) p0 p1) (r, bl s m') (GS s m') := u_X9_tapeInt_0 hw o_p0 ex
/-! FractionLift.feed(IIIII)I over the memory -/
def nb_X9_feed_0 (F : Nat) (s : List Sh) (m : Mem) (v0 : Nat) (v1 : Int32) (v2 : Int32) (v3 : Int32) (v4 : Int32) (v5 : Int32) : Option (Int32 × Mem) := if (((m.1 v0 1) + (20 : Int32))) ≤ (900 : Int32) then (bind2 (n_X9_tapeInt F s m v0 v1) fun _ m2 => (bind2 (n_X9_tapeInt F s m2 v0 v2) fun _ m4 => (bind2 (n_X9_tapeInt F s m4 v0 v3) fun _ m6 => (bind2 (n_X9_tapeInt F s m6 v0 v4) fun _ m8 => (bind2 (n_X9_tapeInt F s m8 v0 v5) fun _ m10 => (some ((m10.1 v0 1), m10))))))) else (some ((-5 : Int32), m))
set_option maxRecDepth 20000 in
theorem u_X9_feed_0 {F : Nat} {s : List Sh} {m m' : Mem} {r : Int32} {v0 : Nat} {v1 : Int32} {v2 : Int32} {v3 : Int32} {v4 : Int32} {v5 : Int32} (hw : GS s m) (o_v0 : ok s v0 9) (hf : nb_X9_feed_0 F s m v0 v1 v2 v3 v4 v5 = some (r, m')) : J3 (b_X9_feed_0 F (bl s m) v0 v1 v2 v3 v4 v5) (r, bl s m') (GS s m') := by
  unfold nb_X9_feed_0 at hf
  unfold b_X9_feed_0
  refine k_gI (ok_o o_v0 (by decide)) rfl ?_
  refine k_if hf (fun hf => ?_) (fun hf => ?_)
  · refine k_cO (ok_o o_v0 (by decide)) ?_
    refine ob2 hf fun u m2 ex hf => ?_
    refine k_b2 (un_X9_tapeInt hw o_v0 ex) fun hw => ?_
    refine k_cO (ok_o o_v0 (by decide)) ?_
    refine ob2 hf fun u m4 ex hf => ?_
    refine k_b2 (un_X9_tapeInt hw o_v0 ex) fun hw => ?_
    refine k_cO (ok_o o_v0 (by decide)) ?_
    refine ob2 hf fun u m6 ex hf => ?_
    refine k_b2 (un_X9_tapeInt hw o_v0 ex) fun hw => ?_
    refine k_cO (ok_o o_v0 (by decide)) ?_
    refine ob2 hf fun u m8 ex hf => ?_
    refine k_b2 (un_X9_tapeInt hw o_v0 ex) fun hw => ?_
    refine k_cO (ok_o o_v0 (by decide)) ?_
    refine ob2 hf fun u m10 ex hf => ?_
    refine k_b2 (un_X9_tapeInt hw o_v0 ex) fun hw => ?_
    refine k_gI (ok_o o_v0 (by decide)) rfl ?_
    exact k_ret hw hf
  · exact k_ret hw hf
def n_X9_feed (F : Nat) (s : List Sh) (m : Mem) (p0 : Nat) (p1 : Int32) (p2 : Int32) (p3 : Int32) (p4 : Int32) (p5 : Int32) : Option (Int32 × Mem) := nb_X9_feed_0 F s m p0 p1 p2 p3 p4 p5
theorem un_X9_feed {F : Nat} {s : List Sh} {m m' : Mem} {p0 : Nat} {p1 : Int32} {p2 : Int32} {p3 : Int32} {p4 : Int32} {p5 : Int32} {r : Int32} (hw : GS s m) (o_p0 : ok s p0 9) (ex : n_X9_feed F s m p0 p1 p2 p3 p4 p5 = some (r, m')) : J3 (m_X9_feed F (bl s m) p0 p1 p2 p3 p4 p5) (r, bl s m') (GS s m') := u_X9_feed_0 hw o_p0 ex
/-! FractionLift.fault(I)I over the memory -/
def nb_X9_fault_0 (s : List Sh) (m : Mem) (v0 : Nat) (v1 : Int32) : Option Int32 := if v1 = 0 then (some (m.1 v0 2)) else (if v1 = (1 : Int32) then (some (m.1 v0 3)) else (some (-1 : Int32)))
set_option maxRecDepth 20000 in
theorem u_X9_fault_0 {s : List Sh} {m : Mem} {r : Int32} {v0 : Nat} {v1 : Int32} (hw : GS s m) (o_v0 : ok s v0 9) (hf : nb_X9_fault_0 s m v0 v1 = some r) : J3 (b_X9_fault_0 (bl s m) v0 v1) r True := by
  unfold nb_X9_fault_0 at hf
  unfold b_X9_fault_0
  refine k_if hf (fun hf => ?_) (fun hf => ?_)
  · refine k_gI (ok_o o_v0 (by decide)) rfl ?_
    exact k_retP hf
  · refine k_if hf (fun hf => ?_) (fun hf => ?_)
    · refine k_gI (ok_o o_v0 (by decide)) rfl ?_
      exact k_retP hf
    · exact k_retP hf
def n_X9_fault (s : List Sh) (m : Mem) (p0 : Nat) (p1 : Int32) : Option Int32 := nb_X9_fault_0 s m p0 p1
theorem un_X9_fault {s : List Sh} {m : Mem} {p0 : Nat} {p1 : Int32} {r : Int32} (hw : GS s m) (o_p0 : ok s p0 9) (ex : n_X9_fault s m p0 p1 = some r) : J3 (m_X9_fault (bl s m) p0 p1) r True := u_X9_fault_0 hw o_p0 ex
/-! FractionLift.at(I)I over the memory -/
def nb_X9_at_0 (s : List Sh) (m : Mem) (v0 : Nat) (v1 : Int32) : Option Int32 := if v1 = 0 then ((m.2.2 v0 4).bind fun a2 => (some (m.1 a2 4))) else (if v1 = (1 : Int32) then ((m.2.2 v0 4).bind fun a1 => (some (m.1 a1 5))) else (some (-2 : Int32)))
set_option maxRecDepth 20000 in
theorem u_X9_at_0 {s : List Sh} {m : Mem} {r : Int32} {v0 : Nat} {v1 : Int32} (hw : GS s m) (o_v0 : ok s v0 9) (hf : nb_X9_at_0 s m v0 v1 = some r) : J3 (b_X9_at_0 (bl s m) v0 v1) r True := by
  unfold nb_X9_at_0 at hf
  unfold b_X9_at_0
  refine k_if hf (fun hf => ?_) (fun hf => ?_)
  · refine k_gR hw (ok_o o_v0 (by decide)) rfl hf fun a2 o_a2 hf => ?_
    refine k_gI (ok_o o_a2 (by decide)) rfl ?_
    exact k_retP hf
  · refine k_if hf (fun hf => ?_) (fun hf => ?_)
    · refine k_gR hw (ok_o o_v0 (by decide)) rfl hf fun a1 o_a1 hf => ?_
      refine k_gI (ok_o o_a1 (by decide)) rfl ?_
      exact k_retP hf
    · exact k_retP hf
def n_X9_at (s : List Sh) (m : Mem) (p0 : Nat) (p1 : Int32) : Option Int32 := nb_X9_at_0 s m p0 p1
theorem un_X9_at {s : List Sh} {m : Mem} {p0 : Nat} {p1 : Int32} {r : Int32} (hw : GS s m) (o_p0 : ok s p0 9) (ex : n_X9_at s m p0 p1 = some r) : J3 (m_X9_at (bl s m) p0 p1) r True := u_X9_at_0 hw o_p0 ex
/-! FractionLift.floor(II)I over the memory -/
def nb_X9_floor_76 (F : Nat) (s : List Sh) (m : Mem) (v0 : Nat) (v1 : Int32) (v2 : Int32) : Option Int32 := (m.2.2 v0 4).bind fun a1 => ((n_X0_stuffOf s m a1 v1 ((v2 - (2 : Int32)))).bind fun x2 => (some x2))
set_option maxRecDepth 20000 in
theorem u_X9_floor_76 {F : Nat} {s : List Sh} {m : Mem} {r : Int32} {v0 : Nat} {v1 : Int32} {v2 : Int32} (hw : GS s m) (o_v0 : ok s v0 9) (hf : nb_X9_floor_76 F s m v0 v1 v2 = some r) : J3 (b_X9_floor_76 F (bl s m) v0 v1 v2) r True := by
  unfold nb_X9_floor_76 at hf
  unfold b_X9_floor_76
  refine k_gR hw (ok_o o_v0 (by decide)) rfl hf fun a1 o_a1 hf => ?_
  refine k_cO (ok_o o_a1 (by decide)) ?_
  refine ob hf fun x2 ex hf => ?_
  refine k_b1 (un_X0_stuffOf hw o_a1 ex) ?_
  exact k_retP hf
def nb_X9_floor_0 (F : Nat) (s : List Sh) (m : Mem) (v0 : Nat) (v1 : Int32) (v2 : Int32) : Option Int32 := if v1 < 0 then (some (-2 : Int32)) else ((m.2.2 v0 4).bind fun a1 => (if v1 < (m.1 a1 9) then (swN v2 (0) [(m.2.2 v0 4).bind fun a2 => ((m.2.2 a2 10).bind fun a3 => ((rdI s m a3 v1).bind fun x4 => (some x4))), (m.2.2 v0 4).bind fun a5 => ((m.2.2 a5 11).bind fun a6 => ((rdI s m a6 v1).bind fun x7 => (some x7))), nb_X9_floor_76 F s m v0 v1 v2, nb_X9_floor_76 F s m v0 v1 v2, nb_X9_floor_76 F s m v0 v1 v2, (m.2.2 v0 4).bind fun a8 => ((n_X0_placeFromBelow F s m a8 v1).bind fun x9 => (some x9))] (some (-2 : Int32))) else (some (-2 : Int32))))
set_option maxRecDepth 20000 in
theorem u_X9_floor_0 {F : Nat} {s : List Sh} {m : Mem} {r : Int32} {v0 : Nat} {v1 : Int32} {v2 : Int32} (hw : GS s m) (o_v0 : ok s v0 9) (hf : nb_X9_floor_0 F s m v0 v1 v2 = some r) : J3 (b_X9_floor_0 F (bl s m) v0 v1 v2) r True := by
  unfold nb_X9_floor_0 at hf
  unfold b_X9_floor_0
  refine k_if hf (fun hf => ?_) (fun hf => ?_)
  · exact k_retP hf
  · refine k_gR hw (ok_o o_v0 (by decide)) rfl hf fun a1 o_a1 hf => ?_
    refine k_gI (ok_o o_a1 (by decide)) rfl ?_
    refine k_if hf (fun hf => ?_) (fun hf => ?_)
    · refine k_sw hf rfl (fun i hi hf => ?_) (fun hf => ?_)
      · rcases (show i = 0 ∨ i = 1 ∨ i = 2 ∨ i = 3 ∨ i = 4 ∨ i = 5 by simp only [List.length_cons, List.length_nil] at hi; omega) with rfl | rfl | rfl | rfl | rfl | rfl
        · have hf := gd_at hf rfl
          refine gd_goal rfl ?_
          refine k_gR hw (ok_o o_v0 (by decide)) rfl hf fun a2 o_a2 hf => ?_
          refine k_gR hw (ok_o o_a2 (by decide)) rfl hf fun a3 o_a3 hf => ?_
          refine k_aI (Or.inl rfl) (ka rfl o_a3) hf fun x4 hf => ?_
          exact k_retP hf
        · have hf := gd_at hf rfl
          refine gd_goal rfl ?_
          refine k_gR hw (ok_o o_v0 (by decide)) rfl hf fun a5 o_a5 hf => ?_
          refine k_gR hw (ok_o o_a5 (by decide)) rfl hf fun a6 o_a6 hf => ?_
          refine k_aI (Or.inl rfl) (ka rfl o_a6) hf fun x7 hf => ?_
          exact k_retP hf
        · have hf := gd_at hf rfl
          refine gd_goal rfl ?_
          exact u_X9_floor_76 hw o_v0 hf
        · have hf := gd_at hf rfl
          refine gd_goal rfl ?_
          exact u_X9_floor_76 hw o_v0 hf
        · have hf := gd_at hf rfl
          refine gd_goal rfl ?_
          exact u_X9_floor_76 hw o_v0 hf
        · have hf := gd_at hf rfl
          refine gd_goal rfl ?_
          refine k_gR hw (ok_o o_v0 (by decide)) rfl hf fun a8 o_a8 hf => ?_
          refine k_cO (ok_o o_a8 (by decide)) ?_
          refine ob hf fun x9 ex hf => ?_
          refine k_b1 (un_X0_placeFromBelow hw o_a8 ex) ?_
          exact k_retP hf
      · exact k_retP hf
    · exact k_retP hf
def n_X9_floor (F : Nat) (s : List Sh) (m : Mem) (p0 : Nat) (p1 : Int32) (p2 : Int32) : Option Int32 := nb_X9_floor_0 F s m p0 p1 p2
theorem un_X9_floor {F : Nat} {s : List Sh} {m : Mem} {p0 : Nat} {p1 : Int32} {p2 : Int32} {r : Int32} (hw : GS s m) (o_p0 : ok s p0 9) (ex : n_X9_floor F s m p0 p1 p2 = some r) : J3 (m_X9_floor F (bl s m) p0 p1 p2) r True := u_X9_floor_0 hw o_p0 ex
/-! FractionLift.tenant(II)I over the memory -/
def nb_X9_tenant_0 (s : List Sh) (m : Mem) (v0 : Nat) (v1 : Int32) (v2 : Int32) : Option Int32 := if v1 < 0 then (some (-2 : Int32)) else ((m.2.2 v0 4).bind fun a1 => (if v1 < (m.1 a1 15) then (if v2 = 0 then ((m.2.2 v0 4).bind fun a5 => ((m.2.2 a5 16).bind fun a6 => ((rdI s m a6 v1).bind fun x7 => (some x7)))) else (if v2 = (1 : Int32) then ((m.2.2 v0 4).bind fun a2 => ((m.2.2 a2 17).bind fun a3 => ((rdI s m a3 v1).bind fun x4 => (some x4)))) else (some (-2 : Int32)))) else (some (-2 : Int32))))
set_option maxRecDepth 20000 in
theorem u_X9_tenant_0 {s : List Sh} {m : Mem} {r : Int32} {v0 : Nat} {v1 : Int32} {v2 : Int32} (hw : GS s m) (o_v0 : ok s v0 9) (hf : nb_X9_tenant_0 s m v0 v1 v2 = some r) : J3 (b_X9_tenant_0 (bl s m) v0 v1 v2) r True := by
  unfold nb_X9_tenant_0 at hf
  unfold b_X9_tenant_0
  refine k_if hf (fun hf => ?_) (fun hf => ?_)
  · exact k_retP hf
  · refine k_gR hw (ok_o o_v0 (by decide)) rfl hf fun a1 o_a1 hf => ?_
    refine k_gI (ok_o o_a1 (by decide)) rfl ?_
    refine k_if hf (fun hf => ?_) (fun hf => ?_)
    · refine k_if hf (fun hf => ?_) (fun hf => ?_)
      · refine k_gR hw (ok_o o_v0 (by decide)) rfl hf fun a5 o_a5 hf => ?_
        refine k_gR hw (ok_o o_a5 (by decide)) rfl hf fun a6 o_a6 hf => ?_
        refine k_aI (Or.inl rfl) (ka rfl o_a6) hf fun x7 hf => ?_
        exact k_retP hf
      · refine k_if hf (fun hf => ?_) (fun hf => ?_)
        · refine k_gR hw (ok_o o_v0 (by decide)) rfl hf fun a2 o_a2 hf => ?_
          refine k_gR hw (ok_o o_a2 (by decide)) rfl hf fun a3 o_a3 hf => ?_
          refine k_aI (Or.inl rfl) (ka rfl o_a3) hf fun x4 hf => ?_
          exact k_retP hf
        · exact k_retP hf
    · exact k_retP hf
def n_X9_tenant (s : List Sh) (m : Mem) (p0 : Nat) (p1 : Int32) (p2 : Int32) : Option Int32 := nb_X9_tenant_0 s m p0 p1 p2
theorem un_X9_tenant {s : List Sh} {m : Mem} {p0 : Nat} {p1 : Int32} {p2 : Int32} {r : Int32} (hw : GS s m) (o_p0 : ok s p0 9) (ex : n_X9_tenant s m p0 p1 p2 = some r) : J3 (m_X9_tenant (bl s m) p0 p1 p2) r True := u_X9_tenant_0 hw o_p0 ex
/-! FractionLift.why(I)I over the memory -/
def nb_X9_why_0 (F : Nat) (s : List Sh) (m : Mem) (v0 : Nat) (v1 : Int32) : Option (Int32 × Mem) := (m.2.2 v0 11).bind fun a1 => ((m.2.2 v0 4).bind fun a2 => ((m.2.2 v0 4).bind fun a3 => ((m.2.2 v0 4).bind fun a4 => (bind2 (n_X4_lead F s m a1 a2 v1 ((Int32.toInt64 (m.1 a3 4))) ((Int32.toInt64 (m.1 a4 5)))) fun x5 m6 => (some (x5, m6))))))
set_option maxRecDepth 20000 in
theorem u_X9_why_0 {F : Nat} {s : List Sh} {m m' : Mem} {r : Int32} {v0 : Nat} {v1 : Int32} (hw : GS s m) (o_v0 : ok s v0 9) (hf : nb_X9_why_0 F s m v0 v1 = some (r, m')) : J3 (b_X9_why_0 F (bl s m) v0 v1) (r, bl s m') (GS s m') := by
  unfold nb_X9_why_0 at hf
  unfold b_X9_why_0
  refine k_gR hw (ok_o o_v0 (by decide)) rfl hf fun a1 o_a1 hf => ?_
  refine k_gR hw (ok_o o_v0 (by decide)) rfl hf fun a2 o_a2 hf => ?_
  refine k_gR hw (ok_o o_v0 (by decide)) rfl hf fun a3 o_a3 hf => ?_
  refine k_gI (ok_o o_a3 (by decide)) rfl ?_
  refine k_gR hw (ok_o o_v0 (by decide)) rfl hf fun a4 o_a4 hf => ?_
  refine k_gI (ok_o o_a4 (by decide)) rfl ?_
  refine k_cO (ok_o o_a1 (by decide)) ?_
  refine ob2 hf fun x5 m6 ex hf => ?_
  refine k_b2 (un_X4_lead hw o_a1 o_a2 ex) fun hw => ?_
  exact k_ret hw hf
def n_X9_why (F : Nat) (s : List Sh) (m : Mem) (p0 : Nat) (p1 : Int32) : Option (Int32 × Mem) := nb_X9_why_0 F s m p0 p1
theorem un_X9_why {F : Nat} {s : List Sh} {m m' : Mem} {p0 : Nat} {p1 : Int32} {r : Int32} (hw : GS s m) (o_p0 : ok s p0 9) (ex : n_X9_why F s m p0 p1 = some (r, m')) : J3 (m_X9_why F (bl s m) p0 p1) (r, bl s m') (GS s m') := u_X9_why_0 hw o_p0 ex
/-! FractionLift.asksFloor(II)Z over the memory -/
def nb_X9_asksFloor_0 (F : Nat) (s : List Sh) (m : Mem) (v0 : Nat) (v1 : Int32) (v2 : Int32) : Option (Int32 × Mem) := if v1 < 0 then (rZM (0 : Int32) m) else (if (1 : Int32) ≤ v2 then ((m.2.2 v0 12).bind fun a1 => (bind2 (n_X2_put F s m a1 (Int32.toInt64 v1) (Int32.toInt64 v2)) fun _ m3 => ((m3.2.2 v0 4).bind fun a4 => ((m3.2.2 v0 12).bind fun a5 => ((m3.2.2 v0 12).bind fun a6 => ((n_X0_isFloor s m3 a4 (m3.2.1 a5 0) (m3.2.1 a6 1)).bind fun x7 => (rZM x7 m3))))))) else (rZM (0 : Int32) m))
set_option maxRecDepth 20000 in
theorem u_X9_asksFloor_0 {F : Nat} {s : List Sh} {m m' : Mem} {r : Int32} {v0 : Nat} {v1 : Int32} {v2 : Int32} (hw : GS s m) (o_v0 : ok s v0 9) (hf : nb_X9_asksFloor_0 F s m v0 v1 v2 = some (r, m')) : J3 (b_X9_asksFloor_0 F (bl s m) v0 v1 v2) (r, bl s m') (GS s m') := by
  unfold nb_X9_asksFloor_0 at hf
  unfold b_X9_asksFloor_0
  refine k_if hf (fun hf => ?_) (fun hf => ?_)
  · exact k_rZ hw hf
  · refine k_if hf (fun hf => ?_) (fun hf => ?_)
    · refine k_gR hw (ok_o o_v0 (by decide)) rfl hf fun a1 o_a1 hf => ?_
      refine k_cO (ok_o o_a1 (by decide)) ?_
      refine ob2 hf fun u m3 ex hf => ?_
      refine k_b2 (un_X2_put hw o_a1 ex) fun hw => ?_
      refine k_gR hw (ok_o o_v0 (by decide)) rfl hf fun a4 o_a4 hf => ?_
      refine k_gR hw (ok_o o_v0 (by decide)) rfl hf fun a5 o_a5 hf => ?_
      refine k_gL (ok_o o_a5 (by decide)) rfl ?_
      refine k_gR hw (ok_o o_v0 (by decide)) rfl hf fun a6 o_a6 hf => ?_
      refine k_gL (ok_o o_a6 (by decide)) rfl ?_
      refine k_cO (ok_o o_a4 (by decide)) ?_
      refine ob hf fun x7 ex hf => ?_
      refine k_b1 (un_X0_isFloor hw o_a4 ex) ?_
      exact k_rZ hw hf
    · exact k_rZ hw hf
def n_X9_asksFloor (F : Nat) (s : List Sh) (m : Mem) (p0 : Nat) (p1 : Int32) (p2 : Int32) : Option (Int32 × Mem) := nb_X9_asksFloor_0 F s m p0 p1 p2
theorem un_X9_asksFloor {F : Nat} {s : List Sh} {m m' : Mem} {p0 : Nat} {p1 : Int32} {p2 : Int32} {r : Int32} (hw : GS s m) (o_p0 : ok s p0 9) (ex : n_X9_asksFloor F s m p0 p1 p2 = some (r, m')) : J3 (m_X9_asksFloor F (bl s m) p0 p1 p2) (r, bl s m') (GS s m') := u_X9_asksFloor_0 hw o_p0 ex
/-! FractionLift.leads(IIII)I over the memory -/
def nb_X9_leads_0 (F : Nat) (s : List Sh) (m : Mem) (v0 : Nat) (v1 : Int32) (v2 : Int32) (v3 : Int32) (v4 : Int32) : Option (Int32 × Mem) := if v4 < 0 then (some ((-2 : Int32), m)) else (if v4 ≤ (1 : Int32) then (bind2 (n_X9_asksFloor F s m v0 v2 v3) fun x1 m2 => (if x1 = 0 then (some ((-3 : Int32), m2)) else ((m2.2.2 v0 11).bind fun a3 => ((m2.2.2 v0 4).bind fun a4 => ((m2.2.2 v0 12).bind fun a5 => ((m2.2.2 v0 12).bind fun a6 => (bind2 (n_X4_lead F s m2 a3 a4 v1 (m2.2.1 a5 0) (m2.2.1 a6 1)) fun x7 m8 => (if x7 = 0 then (if v4 = 0 then ((m8.2.2 v0 11).bind fun a10 => (some ((m8.1 a10 0), m8))) else ((m8.2.2 v0 11).bind fun a9 => (some ((m8.1 a9 1), m8)))) else (some ((((-10 : Int32) - x7)), m8)))))))))) else (some ((-2 : Int32), m)))
set_option maxRecDepth 20000 in
theorem u_X9_leads_0 {F : Nat} {s : List Sh} {m m' : Mem} {r : Int32} {v0 : Nat} {v1 : Int32} {v2 : Int32} {v3 : Int32} {v4 : Int32} (hw : GS s m) (o_v0 : ok s v0 9) (hf : nb_X9_leads_0 F s m v0 v1 v2 v3 v4 = some (r, m')) : J3 (b_X9_leads_0 F (bl s m) v0 v1 v2 v3 v4) (r, bl s m') (GS s m') := by
  unfold nb_X9_leads_0 at hf
  unfold b_X9_leads_0
  refine k_if hf (fun hf => ?_) (fun hf => ?_)
  · exact k_ret hw hf
  · refine k_if hf (fun hf => ?_) (fun hf => ?_)
    · refine k_cO (ok_o o_v0 (by decide)) ?_
      refine ob2 hf fun x1 m2 ex hf => ?_
      refine k_b2 (un_X9_asksFloor hw o_v0 ex) fun hw => ?_
      refine k_if hf (fun hf => ?_) (fun hf => ?_)
      · exact k_ret hw hf
      · refine k_gR hw (ok_o o_v0 (by decide)) rfl hf fun a3 o_a3 hf => ?_
        refine k_gR hw (ok_o o_v0 (by decide)) rfl hf fun a4 o_a4 hf => ?_
        refine k_gR hw (ok_o o_v0 (by decide)) rfl hf fun a5 o_a5 hf => ?_
        refine k_gL (ok_o o_a5 (by decide)) rfl ?_
        refine k_gR hw (ok_o o_v0 (by decide)) rfl hf fun a6 o_a6 hf => ?_
        refine k_gL (ok_o o_a6 (by decide)) rfl ?_
        refine k_cO (ok_o o_a3 (by decide)) ?_
        refine ob2 hf fun x7 m8 ex hf => ?_
        refine k_b2 (un_X4_lead hw o_a3 o_a4 ex) fun hw => ?_
        refine k_if hf (fun hf => ?_) (fun hf => ?_)
        · refine k_if hf (fun hf => ?_) (fun hf => ?_)
          · refine k_gR hw (ok_o o_v0 (by decide)) rfl hf fun a10 o_a10 hf => ?_
            refine k_gI (ok_o o_a10 (by decide)) rfl ?_
            exact k_ret hw hf
          · refine k_gR hw (ok_o o_v0 (by decide)) rfl hf fun a9 o_a9 hf => ?_
            refine k_gI (ok_o o_a9 (by decide)) rfl ?_
            exact k_ret hw hf
        · exact k_ret hw hf
    · exact k_ret hw hf
def n_X9_leads (F : Nat) (s : List Sh) (m : Mem) (p0 : Nat) (p1 : Int32) (p2 : Int32) (p3 : Int32) (p4 : Int32) : Option (Int32 × Mem) := nb_X9_leads_0 F s m p0 p1 p2 p3 p4
theorem un_X9_leads {F : Nat} {s : List Sh} {m m' : Mem} {p0 : Nat} {p1 : Int32} {p2 : Int32} {p3 : Int32} {p4 : Int32} {r : Int32} (hw : GS s m) (o_p0 : ok s p0 9) (ex : n_X9_leads F s m p0 p1 p2 p3 p4 = some (r, m')) : J3 (m_X9_leads F (bl s m) p0 p1 p2 p3 p4) (r, bl s m') (GS s m') := u_X9_leads_0 hw o_p0 ex
/-! FractionLift.forgetEldest()V over the memory -/
def nb_X9_forgetEldest_2 (F : Nat) (s : List Sh) (nself2 : Mem → Nat → Int32 → Option (Unit × Mem)) (m : Mem) (v0 : Nat) (v1 : Int32) : Option (Unit × Mem) := if (12 : Int32) ≤ v1 then (bindv (wI m v0 10 (11 : Int32)) fun m1 => (some ((), m1))) else ((m.2.2 v0 8).bind fun a2 => ((m.2.2 v0 8).bind fun a3 => ((rdI s m a3 v1).bind fun x4 => ((stI s m a2 ((v1 - (1 : Int32))) x4).bind fun m5 => ((m5.2.2 v0 9).bind fun a6 => ((m5.2.2 v0 9).bind fun a7 => ((rdI s m5 a7 v1).bind fun x8 => ((stI s m5 a6 ((v1 - (1 : Int32))) x8).bind fun m9 => (bindv (v1 + (1)) fun x10 => (nself2 m9 v0 x10))))))))))
set_option maxRecDepth 20000 in
theorem ub_X9_forgetEldest_2 {F : Nat} {s : List Sh} {self2 : PH → Nat → Int32 → Option (Unit × PH)} {nself2 : Mem → Nat → Int32 → Option (Unit × Mem)} {m m' : Mem} {r : Unit} {v0 : Nat} {v1 : Int32} (hw : GS s m) (o_v0 : ok s v0 9) (ih2 : ∀ (m : Mem) (v0 : Nat) (v1 : Int32), GS s m → ok s v0 9 → nself2 m v0 v1 = some (r, m') → J3 (self2 (bl s m) v0 v1) (r, bl s m') (GS s m')) (hf : nb_X9_forgetEldest_2 F s nself2 m v0 v1 = some (r, m')) : J3 (b_X9_forgetEldest_2 F self2 (bl s m) v0 v1) (r, bl s m') (GS s m') := by
  unfold nb_X9_forgetEldest_2 at hf
  unfold b_X9_forgetEldest_2
  refine k_if hf (fun hf => ?_) (fun hf => ?_)
  · refine k_pI hw (ok_o o_v0 (by decide)) rfl hf fun m1 hw hf => ?_
    exact k_ret hw hf
  · refine k_gR hw (ok_o o_v0 (by decide)) rfl hf fun a2 o_a2 hf => ?_
    refine k_gR hw (ok_o o_v0 (by decide)) rfl hf fun a3 o_a3 hf => ?_
    refine k_aI (Or.inl rfl) (ka rfl o_a3) hf fun x4 hf => ?_
    refine k_sI hw (ka rfl o_a2) hf fun m5 hw hf => ?_
    refine k_gR hw (ok_o o_v0 (by decide)) rfl hf fun a6 o_a6 hf => ?_
    refine k_gR hw (ok_o o_v0 (by decide)) rfl hf fun a7 o_a7 hf => ?_
    refine k_aI (Or.inl rfl) (ka rfl o_a7) hf fun x8 hf => ?_
    refine k_sI hw (ka rfl o_a6) hf fun m9 hw hf => ?_
    refine k_bv hf fun x10 hf => ?_
    exact ih2 _ _ _ hw o_v0 hf
def nl_X9_forgetEldest_2 (F : Nat) (s : List Sh) : Nat → Mem → Nat → Int32 → Option (Unit × Mem)
  | 0 => fun _ _ _ => none
  | n + 1 => fun m v0 v1 => nb_X9_forgetEldest_2 F s (nl_X9_forgetEldest_2 F s n) m v0 v1
theorem ul_X9_forgetEldest_2 {F : Nat} {s : List Sh} {m' : Mem} {r : Unit} (n : Nat) : ∀ (m : Mem) (v0 : Nat) (v1 : Int32), GS s m → ok s v0 9 → nl_X9_forgetEldest_2 F s n m v0 v1 = some (r, m') → J3 (l_X9_forgetEldest_2 F n (bl s m) v0 v1) (r, bl s m') (GS s m') := by
  induction n with
  | zero => intro m v0 v1 hw o_v0 hf; cases hf
  | succ n ih => intro m v0 v1 hw o_v0 hf; exact ub_X9_forgetEldest_2 (F := F) hw o_v0 ih hf
def nb_X9_forgetEldest_0 (F : Nat) (s : List Sh) (m : Mem) (v0 : Nat) : Option (Unit × Mem) := nl_X9_forgetEldest_2 F s F m v0 (1 : Int32)
set_option maxRecDepth 20000 in
theorem u_X9_forgetEldest_0 {F : Nat} {s : List Sh} {m m' : Mem} {r : Unit} {v0 : Nat} (hw : GS s m) (o_v0 : ok s v0 9) (hf : nb_X9_forgetEldest_0 F s m v0 = some (r, m')) : J3 (b_X9_forgetEldest_0 F (bl s m) v0) (r, bl s m') (GS s m') := by
  unfold nb_X9_forgetEldest_0 at hf
  unfold b_X9_forgetEldest_0
  exact ul_X9_forgetEldest_2 F _ _ _ hw o_v0 hf
def n_X9_forgetEldest (F : Nat) (s : List Sh) (m : Mem) (p0 : Nat) : Option (Unit × Mem) := nb_X9_forgetEldest_0 F s m p0
theorem un_X9_forgetEldest {F : Nat} {s : List Sh} {m m' : Mem} {p0 : Nat} {r : Unit} (hw : GS s m) (o_p0 : ok s p0 9) (ex : n_X9_forgetEldest F s m p0 = some (r, m')) : J3 (m_X9_forgetEldest F (bl s m) p0) (r, bl s m') (GS s m') := u_X9_forgetEldest_0 hw o_p0 ex
/-! FractionLift.pressOne(I)I over the memory -/
def nb_X9_pressOne_48 (F : Nat) (s : List Sh) (m : Mem) (v0 : Nat) : Option (Int32 × Mem) := (m.2.2 v0 8).bind fun a1 => ((m.2.2 v0 4).bind fun a2 => ((stI s m a1 (m.1 v0 10) (m.1 a2 4)).bind fun m3 => ((m3.2.2 v0 9).bind fun a4 => ((m3.2.2 v0 4).bind fun a5 => ((stI s m3 a4 (m3.1 v0 10) (m3.1 a5 5)).bind fun m6 => (bindv (wI m6 v0 10 (((m6.1 v0 10) + (1 : Int32)))) fun m7 => ((m7.2.2 v0 4).bind fun a8 => ((m7.2.2 v0 11).bind fun a9 => (bindv (wI m7 a8 4 (m7.1 a9 0)) fun m10 => ((m10.2.2 v0 4).bind fun a11 => ((m10.2.2 v0 11).bind fun a12 => (bindv (wI m10 a11 5 (m10.1 a12 1)) fun m13 => ((m13.2.2 v0 4).bind fun a14 => (bindv (wI m13 a14 3 (((m13.1 a14 3) + (1 : Int32)))) fun m15 => (some ((0 : Int32), m15))))))))))))))))
set_option maxRecDepth 20000 in
theorem u_X9_pressOne_48 {F : Nat} {s : List Sh} {m m' : Mem} {r : Int32} {v0 : Nat} (hw : GS s m) (o_v0 : ok s v0 9) (hf : nb_X9_pressOne_48 F s m v0 = some (r, m')) : J3 (b_X9_pressOne_48 F (bl s m) v0) (r, bl s m') (GS s m') := by
  unfold nb_X9_pressOne_48 at hf
  unfold b_X9_pressOne_48
  refine k_gR hw (ok_o o_v0 (by decide)) rfl hf fun a1 o_a1 hf => ?_
  refine k_gI (ok_o o_v0 (by decide)) rfl ?_
  refine k_gR hw (ok_o o_v0 (by decide)) rfl hf fun a2 o_a2 hf => ?_
  refine k_gI (ok_o o_a2 (by decide)) rfl ?_
  refine k_sI hw (ka rfl o_a1) hf fun m3 hw hf => ?_
  refine k_gR hw (ok_o o_v0 (by decide)) rfl hf fun a4 o_a4 hf => ?_
  refine k_gI (ok_o o_v0 (by decide)) rfl ?_
  refine k_gR hw (ok_o o_v0 (by decide)) rfl hf fun a5 o_a5 hf => ?_
  refine k_gI (ok_o o_a5 (by decide)) rfl ?_
  refine k_sI hw (ka rfl o_a4) hf fun m6 hw hf => ?_
  refine k_gI (ok_o o_v0 (by decide)) rfl ?_
  refine k_pI hw (ok_o o_v0 (by decide)) rfl hf fun m7 hw hf => ?_
  refine k_gR hw (ok_o o_v0 (by decide)) rfl hf fun a8 o_a8 hf => ?_
  refine k_gR hw (ok_o o_v0 (by decide)) rfl hf fun a9 o_a9 hf => ?_
  refine k_gI (ok_o o_a9 (by decide)) rfl ?_
  refine k_pI hw (ok_o o_a8 (by decide)) rfl hf fun m10 hw hf => ?_
  refine k_gR hw (ok_o o_v0 (by decide)) rfl hf fun a11 o_a11 hf => ?_
  refine k_gR hw (ok_o o_v0 (by decide)) rfl hf fun a12 o_a12 hf => ?_
  refine k_gI (ok_o o_a12 (by decide)) rfl ?_
  refine k_pI hw (ok_o o_a11 (by decide)) rfl hf fun m13 hw hf => ?_
  refine k_gR hw (ok_o o_v0 (by decide)) rfl hf fun a14 o_a14 hf => ?_
  refine k_gI (ok_o o_a14 (by decide)) rfl ?_
  refine k_pI hw (ok_o o_a14 (by decide)) rfl hf fun m15 hw hf => ?_
  exact k_ret hw hf
def nb_X9_pressOne_0 (F : Nat) (s : List Sh) (m : Mem) (v0 : Nat) (v1 : Int32) : Option (Int32 × Mem) := (m.2.2 v0 11).bind fun a1 => ((m.2.2 v0 4).bind fun a2 => ((m.2.2 v0 4).bind fun a3 => ((m.2.2 v0 4).bind fun a4 => (bind2 (n_X4_lead F s m a1 a2 v1 ((Int32.toInt64 (m.1 a3 4))) ((Int32.toInt64 (m.1 a4 5)))) fun x5 m6 => (if x5 = 0 then (if (m6.1 v0 10) < (12 : Int32) then (nb_X9_pressOne_48 F s m6 v0) else (bind2 (n_X9_forgetEldest F s m6 v0) fun _ m8 => (nb_X9_pressOne_48 F s m8 v0))) else (some (x5, m6)))))))
set_option maxRecDepth 20000 in
theorem u_X9_pressOne_0 {F : Nat} {s : List Sh} {m m' : Mem} {r : Int32} {v0 : Nat} {v1 : Int32} (hw : GS s m) (o_v0 : ok s v0 9) (hf : nb_X9_pressOne_0 F s m v0 v1 = some (r, m')) : J3 (b_X9_pressOne_0 F (bl s m) v0 v1) (r, bl s m') (GS s m') := by
  unfold nb_X9_pressOne_0 at hf
  unfold b_X9_pressOne_0
  refine k_gR hw (ok_o o_v0 (by decide)) rfl hf fun a1 o_a1 hf => ?_
  refine k_gR hw (ok_o o_v0 (by decide)) rfl hf fun a2 o_a2 hf => ?_
  refine k_gR hw (ok_o o_v0 (by decide)) rfl hf fun a3 o_a3 hf => ?_
  refine k_gI (ok_o o_a3 (by decide)) rfl ?_
  refine k_gR hw (ok_o o_v0 (by decide)) rfl hf fun a4 o_a4 hf => ?_
  refine k_gI (ok_o o_a4 (by decide)) rfl ?_
  refine k_cO (ok_o o_a1 (by decide)) ?_
  refine ob2 hf fun x5 m6 ex hf => ?_
  refine k_b2 (un_X4_lead hw o_a1 o_a2 ex) fun hw => ?_
  refine k_if hf (fun hf => ?_) (fun hf => ?_)
  · refine k_gI (ok_o o_v0 (by decide)) rfl ?_
    refine k_if hf (fun hf => ?_) (fun hf => ?_)
    · exact u_X9_pressOne_48 hw o_v0 hf
    · refine k_cO (ok_o o_v0 (by decide)) ?_
      refine ob2 hf fun u m8 ex hf => ?_
      refine k_b2 (un_X9_forgetEldest hw o_v0 ex) fun hw => ?_
      exact u_X9_pressOne_48 hw o_v0 hf
  · exact k_ret hw hf
def n_X9_pressOne (F : Nat) (s : List Sh) (m : Mem) (p0 : Nat) (p1 : Int32) : Option (Int32 × Mem) := nb_X9_pressOne_0 F s m p0 p1
theorem un_X9_pressOne {F : Nat} {s : List Sh} {m m' : Mem} {p0 : Nat} {p1 : Int32} {r : Int32} (hw : GS s m) (o_p0 : ok s p0 9) (ex : n_X9_pressOne F s m p0 p1 = some (r, m')) : J3 (m_X9_pressOne F (bl s m) p0 p1) (r, bl s m') (GS s m') := u_X9_pressOne_0 hw o_p0 ex
/-! FractionLift.press(I)I over the memory -/
def nb_X9_press_0 (F : Nat) (s : List Sh) (m : Mem) (v0 : Nat) (v1 : Int32) : Option (Int32 × Mem) := bind2 (n_X9_pressOne F s m v0 v1) fun x1 m2 => (if x1 = 0 then (some ((m2.1 v0 10), m2)) else (some ((((-10 : Int32) - x1)), m2)))
set_option maxRecDepth 20000 in
theorem u_X9_press_0 {F : Nat} {s : List Sh} {m m' : Mem} {r : Int32} {v0 : Nat} {v1 : Int32} (hw : GS s m) (o_v0 : ok s v0 9) (hf : nb_X9_press_0 F s m v0 v1 = some (r, m')) : J3 (b_X9_press_0 F (bl s m) v0 v1) (r, bl s m') (GS s m') := by
  unfold nb_X9_press_0 at hf
  unfold b_X9_press_0
  refine k_cO (ok_o o_v0 (by decide)) ?_
  refine ob2 hf fun x1 m2 ex hf => ?_
  refine k_b2 (un_X9_pressOne hw o_v0 ex) fun hw => ?_
  refine k_if hf (fun hf => ?_) (fun hf => ?_)
  · refine k_gI (ok_o o_v0 (by decide)) rfl ?_
    exact k_ret hw hf
  · exact k_ret hw hf
def n_X9_press (F : Nat) (s : List Sh) (m : Mem) (p0 : Nat) (p1 : Int32) : Option (Int32 × Mem) := nb_X9_press_0 F s m p0 p1
theorem un_X9_press {F : Nat} {s : List Sh} {m m' : Mem} {p0 : Nat} {p1 : Int32} {r : Int32} (hw : GS s m) (o_p0 : ok s p0 9) (ex : n_X9_press F s m p0 p1 = some (r, m')) : J3 (m_X9_press F (bl s m) p0 p1) (r, bl s m') (GS s m') := u_X9_press_0 hw o_p0 ex
/-! FractionLift.undo(I)I over the memory -/
def nb_X9_undo_0 (s : List Sh) (m : Mem) (v0 : Nat) (v1 : Int32) : Option (Int32 × Mem) := if v1 < (1 : Int32) then (some ((-3 : Int32), m)) else (if v1 ≤ (m.1 v0 10) then (bindv (wI m v0 10 (((m.1 v0 10) - v1))) fun m1 => ((m1.2.2 v0 4).bind fun a2 => ((m1.2.2 v0 8).bind fun a3 => ((rdI s m1 a3 (m1.1 v0 10)).bind fun x4 => (bindv (wI m1 a2 4 x4) fun m5 => ((m5.2.2 v0 4).bind fun a6 => ((m5.2.2 v0 9).bind fun a7 => ((rdI s m5 a7 (m5.1 v0 10)).bind fun x8 => (bindv (wI m5 a6 5 x8) fun m9 => (some ((m9.1 v0 10), m9))))))))))) else (some ((-3 : Int32), m)))
set_option maxRecDepth 20000 in
theorem u_X9_undo_0 {s : List Sh} {m m' : Mem} {r : Int32} {v0 : Nat} {v1 : Int32} (hw : GS s m) (o_v0 : ok s v0 9) (hf : nb_X9_undo_0 s m v0 v1 = some (r, m')) : J3 (b_X9_undo_0 (bl s m) v0 v1) (r, bl s m') (GS s m') := by
  unfold nb_X9_undo_0 at hf
  unfold b_X9_undo_0
  refine k_if hf (fun hf => ?_) (fun hf => ?_)
  · exact k_ret hw hf
  · refine k_gI (ok_o o_v0 (by decide)) rfl ?_
    refine k_if hf (fun hf => ?_) (fun hf => ?_)
    · refine k_gI (ok_o o_v0 (by decide)) rfl ?_
      refine k_pI hw (ok_o o_v0 (by decide)) rfl hf fun m1 hw hf => ?_
      refine k_gR hw (ok_o o_v0 (by decide)) rfl hf fun a2 o_a2 hf => ?_
      refine k_gR hw (ok_o o_v0 (by decide)) rfl hf fun a3 o_a3 hf => ?_
      refine k_gI (ok_o o_v0 (by decide)) rfl ?_
      refine k_aI (Or.inl rfl) (ka rfl o_a3) hf fun x4 hf => ?_
      refine k_pI hw (ok_o o_a2 (by decide)) rfl hf fun m5 hw hf => ?_
      refine k_gR hw (ok_o o_v0 (by decide)) rfl hf fun a6 o_a6 hf => ?_
      refine k_gR hw (ok_o o_v0 (by decide)) rfl hf fun a7 o_a7 hf => ?_
      refine k_gI (ok_o o_v0 (by decide)) rfl ?_
      refine k_aI (Or.inl rfl) (ka rfl o_a7) hf fun x8 hf => ?_
      refine k_pI hw (ok_o o_a6 (by decide)) rfl hf fun m9 hw hf => ?_
      refine k_gI (ok_o o_v0 (by decide)) rfl ?_
      exact k_ret hw hf
    · exact k_ret hw hf
def n_X9_undo (s : List Sh) (m : Mem) (p0 : Nat) (p1 : Int32) : Option (Int32 × Mem) := nb_X9_undo_0 s m p0 p1
theorem un_X9_undo {s : List Sh} {m m' : Mem} {p0 : Nat} {p1 : Int32} {r : Int32} (hw : GS s m) (o_p0 : ok s p0 9) (ex : n_X9_undo s m p0 p1 = some (r, m')) : J3 (m_X9_undo (bl s m) p0 p1) (r, bl s m') (GS s m') := u_X9_undo_0 hw o_p0 ex
/-! FractionLift.refusedTray(I)I over the memory -/
def nb_X9_refusedTray_0 (s : List Sh) (m : Mem) (v0 : Nat) (v1 : Int32) : Option Int32 := if v1 < 0 then (some (-2 : Int32)) else (if v1 < (4 : Int32) then ((m.2.2 v0 7).bind fun a1 => ((rdN s m a1 v1).bind fun q2 => (if q2 = none then (some (-6 : Int32)) else (some (0 : Int32))))) else (some (-2 : Int32)))
set_option maxRecDepth 20000 in
theorem u_X9_refusedTray_0 {s : List Sh} {m : Mem} {r : Int32} {v0 : Nat} {v1 : Int32} (hw : GS s m) (o_v0 : ok s v0 9) (hf : nb_X9_refusedTray_0 s m v0 v1 = some r) : J3 (b_X9_refusedTray_0 (bl s m) v0 v1) r True := by
  unfold nb_X9_refusedTray_0 at hf
  unfold b_X9_refusedTray_0
  refine k_if hf (fun hf => ?_) (fun hf => ?_)
  · exact k_retP hf
  · refine k_if hf (fun hf => ?_) (fun hf => ?_)
    · refine k_gR hw (ok_o o_v0 (by decide)) rfl hf fun a1 o_a1 hf => ?_
      refine k_aN (Or.inr rfl) (ka rfl o_a1) hf fun q2 hf => ?_
      refine k_if hf (fun hf => ?_) (fun hf => ?_)
      · exact k_retP hf
      · exact k_retP hf
    · exact k_retP hf
def n_X9_refusedTray (s : List Sh) (m : Mem) (p0 : Nat) (p1 : Int32) : Option Int32 := nb_X9_refusedTray_0 s m p0 p1
theorem un_X9_refusedTray {s : List Sh} {m : Mem} {p0 : Nat} {p1 : Int32} {r : Int32} (hw : GS s m) (o_p0 : ok s p0 9) (ex : n_X9_refusedTray s m p0 p1 = some r) : J3 (m_X9_refusedTray (bl s m) p0 p1) r True := u_X9_refusedTray_0 hw o_p0 ex
/-! FractionLift.refusedRow(II)I over the memory -/
def nb_X9_refusedRow_0 (s : List Sh) (m : Mem) (v0 : Nat) (v1 : Int32) (v2 : Int32) : Option Int32 := (n_X9_refusedTray s m v0 v1).bind fun x1 => (if x1 = 0 then ((m.2.2 v0 7).bind fun a2 => ((rdR s m a2 v1).bind fun a3 => (if (m.1 a3 1) < v2 then (some (-4 : Int32)) else (if (m.1 a3 1) ≤ (8 : Int32) then (some (0 : Int32)) else (some (-4 : Int32)))))) else (some x1))
set_option maxRecDepth 20000 in
theorem u_X9_refusedRow_0 {s : List Sh} {m : Mem} {r : Int32} {v0 : Nat} {v1 : Int32} {v2 : Int32} (hw : GS s m) (o_v0 : ok s v0 9) (hf : nb_X9_refusedRow_0 s m v0 v1 v2 = some r) : J3 (b_X9_refusedRow_0 (bl s m) v0 v1 v2) r True := by
  unfold nb_X9_refusedRow_0 at hf
  unfold b_X9_refusedRow_0
  refine k_cO (ok_o o_v0 (by decide)) ?_
  refine ob hf fun x1 ex hf => ?_
  refine k_b1 (un_X9_refusedTray hw o_v0 ex) ?_
  refine k_if hf (fun hf => ?_) (fun hf => ?_)
  · refine k_gR hw (ok_o o_v0 (by decide)) rfl hf fun a2 o_a2 hf => ?_
    refine k_aR hw (Or.inr rfl) (ka rfl o_a2) hf fun a3 o_a3 hf => ?_
    refine k_gI (ok_o o_a3 (by decide)) rfl ?_
    refine k_if hf (fun hf => ?_) (fun hf => ?_)
    · exact k_retP hf
    · refine k_if hf (fun hf => ?_) (fun hf => ?_)
      · exact k_retP hf
      · exact k_retP hf
  · exact k_retP hf
def n_X9_refusedRow (s : List Sh) (m : Mem) (p0 : Nat) (p1 : Int32) (p2 : Int32) : Option Int32 := nb_X9_refusedRow_0 s m p0 p1 p2
theorem un_X9_refusedRow {s : List Sh} {m : Mem} {p0 : Nat} {p1 : Int32} {p2 : Int32} {r : Int32} (hw : GS s m) (o_p0 : ok s p0 9) (ex : n_X9_refusedRow s m p0 p1 p2 = some r) : J3 (m_X9_refusedRow (bl s m) p0 p1 p2) r True := u_X9_refusedRow_0 hw o_p0 ex
/-! FractionLift.judge(II)I over the memory -/
def nb_X9_judge_127 (F : Nat) (s : List Sh) (nself35 : Mem → Nat → Int32 → Nat → Int32 → Int32 → Int32 → Int32 → Int32 → Option (Int32 × Mem)) (m : Mem) (v0 : Nat) (v2 : Int32) (v4 : Nat) (v5 : Int32) (v6 : Int32) (v7 : Int32) (v8 : Int32) (v9 : Int32) : Option (Int32 × Mem) := bindv (v9 + (1)) fun x1 => (nself35 m v0 v2 v4 v5 v6 v7 v8 x1)
set_option maxRecDepth 20000 in
theorem u_X9_judge_127 {F : Nat} {s : List Sh} {self35 : PH → Nat → Int32 → Nat → Int32 → Int32 → Int32 → Int32 → Int32 → Option (Int32 × PH)} {nself35 : Mem → Nat → Int32 → Nat → Int32 → Int32 → Int32 → Int32 → Int32 → Option (Int32 × Mem)} {m m' : Mem} {r : Int32} {v0 : Nat} {v2 : Int32} {v4 : Nat} {v5 : Int32} {v6 : Int32} {v7 : Int32} {v8 : Int32} {v9 : Int32} (hw : GS s m) (o_v0 : ok s v0 9) (o_v4 : ok s v4 7) (ih35 : ∀ (m : Mem) (v0 : Nat) (v2 : Int32) (v4 : Nat) (v5 : Int32) (v6 : Int32) (v7 : Int32) (v8 : Int32) (v9 : Int32), GS s m → ok s v0 9 → ok s v4 7 → nself35 m v0 v2 v4 v5 v6 v7 v8 v9 = some (r, m') → J3 (self35 (bl s m) v0 v2 v4 v5 v6 v7 v8 v9) (r, bl s m') (GS s m')) (hf : nb_X9_judge_127 F s nself35 m v0 v2 v4 v5 v6 v7 v8 v9 = some (r, m')) : J3 (b_X9_judge_127 F self35 (bl s m) v0 v2 v4 v5 v6 v7 v8 v9) (r, bl s m') (GS s m') := by
  unfold nb_X9_judge_127 at hf
  unfold b_X9_judge_127
  refine k_bv hf fun x1 hf => ?_
  exact ih35 _ _ _ _ _ _ _ _ _ hw o_v0 o_v4 hf
def nb_X9_judge_133 (F : Nat) (s : List Sh) (m : Mem) (v2 : Int32) (v5 : Int32) (v6 : Int32) (v7 : Int32) (v8 : Int32) : Option (Int32 × Mem) := swN v2 (0) [if v8 = 0 then (some ((-1 : Int32), m)) else (some (v7, m)), some (v8, m), some (v5, m)] (some (v6, m))
set_option maxRecDepth 20000 in
theorem u_X9_judge_133 {F : Nat} {s : List Sh} {m m' : Mem} {r : Int32} {v2 : Int32} {v5 : Int32} {v6 : Int32} {v7 : Int32} {v8 : Int32} (hw : GS s m) (hf : nb_X9_judge_133 F s m v2 v5 v6 v7 v8 = some (r, m')) : J3 (b_X9_judge_133 F (bl s m) v2 v5 v6 v7 v8) (r, bl s m') (GS s m') := by
  unfold nb_X9_judge_133 at hf
  unfold b_X9_judge_133
  refine k_sw hf rfl (fun i hi hf => ?_) (fun hf => ?_)
  · rcases (show i = 0 ∨ i = 1 ∨ i = 2 by simp only [List.length_cons, List.length_nil] at hi; omega) with rfl | rfl | rfl
    · have hf := gd_at hf rfl
      refine gd_goal rfl ?_
      refine k_if hf (fun hf => ?_) (fun hf => ?_)
      · exact k_ret hw hf
      · exact k_ret hw hf
    · have hf := gd_at hf rfl
      refine gd_goal rfl ?_
      exact k_ret hw hf
    · have hf := gd_at hf rfl
      refine gd_goal rfl ?_
      exact k_ret hw hf
  · exact k_ret hw hf
def nb_X9_judge_60 (F : Nat) (s : List Sh) (nself35 : Mem → Nat → Int32 → Nat → Int32 → Int32 → Int32 → Int32 → Int32 → Option (Int32 × Mem)) (m : Mem) (v0 : Nat) (v2 : Int32) (v4 : Nat) (v5 : Int32) (v6 : Int32) (v7 : Int32) (v8 : Int32) (v9 : Int32) : Option (Int32 × Mem) := if (m.1 v4 1) ≤ v9 then (nb_X9_judge_133 F s m v2 v5 v6 v7 v8) else (if v8 = 0 then ((m.2.2 v0 11).bind fun a1 => ((m.2.2 v0 4).bind fun a2 => ((n_X7_smallAt s m v4 v9).bind fun x3 => (bind2 (n_X4_lead F s m a1 a2 x3 (Int32.toInt64 v5) (Int32.toInt64 v6)) fun x4 m5 => (if x4 = 0 then ((m5.2.2 v0 11).bind fun a6 => ((m5.2.2 v0 11).bind fun a7 => (bindv (v7 + (1)) fun x8 => (nb_X9_judge_127 F s nself35 m5 v0 v2 v4 (m5.1 a6 0) (m5.1 a7 1) x8 x4 v9)))) else (nb_X9_judge_127 F s nself35 m5 v0 v2 v4 v5 v6 v7 x4 v9)))))) else (nb_X9_judge_133 F s m v2 v5 v6 v7 v8))
set_option maxRecDepth 20000 in
theorem ub_X9_judge_60 {F : Nat} {s : List Sh} {self35 : PH → Nat → Int32 → Nat → Int32 → Int32 → Int32 → Int32 → Int32 → Option (Int32 × PH)} {nself35 : Mem → Nat → Int32 → Nat → Int32 → Int32 → Int32 → Int32 → Int32 → Option (Int32 × Mem)} {m m' : Mem} {r : Int32} {v0 : Nat} {v2 : Int32} {v4 : Nat} {v5 : Int32} {v6 : Int32} {v7 : Int32} {v8 : Int32} {v9 : Int32} (hw : GS s m) (o_v0 : ok s v0 9) (o_v4 : ok s v4 7) (ih35 : ∀ (m : Mem) (v0 : Nat) (v2 : Int32) (v4 : Nat) (v5 : Int32) (v6 : Int32) (v7 : Int32) (v8 : Int32) (v9 : Int32), GS s m → ok s v0 9 → ok s v4 7 → nself35 m v0 v2 v4 v5 v6 v7 v8 v9 = some (r, m') → J3 (self35 (bl s m) v0 v2 v4 v5 v6 v7 v8 v9) (r, bl s m') (GS s m')) (hf : nb_X9_judge_60 F s nself35 m v0 v2 v4 v5 v6 v7 v8 v9 = some (r, m')) : J3 (b_X9_judge_60 F self35 (bl s m) v0 v2 v4 v5 v6 v7 v8 v9) (r, bl s m') (GS s m') := by
  unfold nb_X9_judge_60 at hf
  unfold b_X9_judge_60
  refine k_gI (ok_o o_v4 (by decide)) rfl ?_
  refine k_if hf (fun hf => ?_) (fun hf => ?_)
  · exact u_X9_judge_133 hw hf
  · refine k_if hf (fun hf => ?_) (fun hf => ?_)
    · refine k_gR hw (ok_o o_v0 (by decide)) rfl hf fun a1 o_a1 hf => ?_
      refine k_gR hw (ok_o o_v0 (by decide)) rfl hf fun a2 o_a2 hf => ?_
      refine k_cO (ok_o o_v4 (by decide)) ?_
      refine ob hf fun x3 ex hf => ?_
      refine k_b1 (un_X7_smallAt hw o_v4 ex) ?_
      refine k_cO (ok_o o_a1 (by decide)) ?_
      refine ob2 hf fun x4 m5 ex hf => ?_
      refine k_b2 (un_X4_lead hw o_a1 o_a2 ex) fun hw => ?_
      refine k_if hf (fun hf => ?_) (fun hf => ?_)
      · refine k_gR hw (ok_o o_v0 (by decide)) rfl hf fun a6 o_a6 hf => ?_
        refine k_gI (ok_o o_a6 (by decide)) rfl ?_
        refine k_gR hw (ok_o o_v0 (by decide)) rfl hf fun a7 o_a7 hf => ?_
        refine k_gI (ok_o o_a7 (by decide)) rfl ?_
        refine k_bv hf fun x8 hf => ?_
        exact u_X9_judge_127 hw o_v0 o_v4 ih35 hf
      · exact u_X9_judge_127 hw o_v0 o_v4 ih35 hf
    · exact u_X9_judge_133 hw hf
def nl_X9_judge_60 (F : Nat) (s : List Sh) : Nat → Mem → Nat → Int32 → Nat → Int32 → Int32 → Int32 → Int32 → Int32 → Option (Int32 × Mem)
  | 0 => fun _ _ _ _ _ _ _ _ _ => none
  | n + 1 => fun m v0 v2 v4 v5 v6 v7 v8 v9 => nb_X9_judge_60 F s (nl_X9_judge_60 F s n) m v0 v2 v4 v5 v6 v7 v8 v9
theorem ul_X9_judge_60 {F : Nat} {s : List Sh} {m' : Mem} {r : Int32} (n : Nat) : ∀ (m : Mem) (v0 : Nat) (v2 : Int32) (v4 : Nat) (v5 : Int32) (v6 : Int32) (v7 : Int32) (v8 : Int32) (v9 : Int32), GS s m → ok s v0 9 → ok s v4 7 → nl_X9_judge_60 F s n m v0 v2 v4 v5 v6 v7 v8 v9 = some (r, m') → J3 (l_X9_judge_60 F n (bl s m) v0 v2 v4 v5 v6 v7 v8 v9) (r, bl s m') (GS s m') := by
  induction n with
  | zero => intro m v0 v2 v4 v5 v6 v7 v8 v9 hw o_v0 o_v4 hf; cases hf
  | succ n ih => intro m v0 v2 v4 v5 v6 v7 v8 v9 hw o_v0 o_v4 hf; exact ub_X9_judge_60 (F := F) hw o_v0 o_v4 ih hf
def nb_X9_judge_0 (F : Nat) (s : List Sh) (m : Mem) (v0 : Nat) (v1 : Int32) (v2 : Int32) : Option (Int32 × Mem) := if v2 < 0 then (some ((-2 : Int32), m)) else (if v2 ≤ (3 : Int32) then ((n_X9_refusedRow s m v0 v1 (1 : Int32)).bind fun x1 => (if x1 = 0 then ((m.2.2 v0 7).bind fun a2 => ((rdR s m a2 v1).bind fun a3 => ((m.2.2 v0 4).bind fun a4 => ((m.2.2 v0 4).bind fun a5 => (nl_X9_judge_60 F s F m v0 v2 a3 (m.1 a4 4) (m.1 a5 5) (0 : Int32) (0 : Int32) (0 : Int32)))))) else (some (x1, m)))) else (some ((-2 : Int32), m)))
set_option maxRecDepth 20000 in
theorem u_X9_judge_0 {F : Nat} {s : List Sh} {m m' : Mem} {r : Int32} {v0 : Nat} {v1 : Int32} {v2 : Int32} (hw : GS s m) (o_v0 : ok s v0 9) (hf : nb_X9_judge_0 F s m v0 v1 v2 = some (r, m')) : J3 (b_X9_judge_0 F (bl s m) v0 v1 v2) (r, bl s m') (GS s m') := by
  unfold nb_X9_judge_0 at hf
  unfold b_X9_judge_0
  refine k_if hf (fun hf => ?_) (fun hf => ?_)
  · exact k_ret hw hf
  · refine k_if hf (fun hf => ?_) (fun hf => ?_)
    · refine k_cO (ok_o o_v0 (by decide)) ?_
      refine ob hf fun x1 ex hf => ?_
      refine k_b1 (un_X9_refusedRow hw o_v0 ex) ?_
      refine k_if hf (fun hf => ?_) (fun hf => ?_)
      · refine k_gR hw (ok_o o_v0 (by decide)) rfl hf fun a2 o_a2 hf => ?_
        refine k_aR hw (Or.inr rfl) (ka rfl o_a2) hf fun a3 o_a3 hf => ?_
        refine k_gR hw (ok_o o_v0 (by decide)) rfl hf fun a4 o_a4 hf => ?_
        refine k_gI (ok_o o_a4 (by decide)) rfl ?_
        refine k_gR hw (ok_o o_v0 (by decide)) rfl hf fun a5 o_a5 hf => ?_
        refine k_gI (ok_o o_a5 (by decide)) rfl ?_
        exact ul_X9_judge_60 F _ _ _ _ _ _ _ _ _ hw o_v0 o_a3 hf
      · exact k_ret hw hf
    · exact k_ret hw hf
def n_X9_judge (F : Nat) (s : List Sh) (m : Mem) (p0 : Nat) (p1 : Int32) (p2 : Int32) : Option (Int32 × Mem) := nb_X9_judge_0 F s m p0 p1 p2
theorem un_X9_judge {F : Nat} {s : List Sh} {m m' : Mem} {p0 : Nat} {p1 : Int32} {p2 : Int32} {r : Int32} (hw : GS s m) (o_p0 : ok s p0 9) (ex : n_X9_judge F s m p0 p1 p2 = some (r, m')) : J3 (m_X9_judge F (bl s m) p0 p1 p2) (r, bl s m') (GS s m') := u_X9_judge_0 hw o_p0 ex
/-! FractionLift.perform(I)I over the memory -/
def nb_X9_perform_26 (F : Nat) (s : List Sh) (nself18 : Mem → Nat → Nat → Int32 → Int32 → Option (Int32 × Mem)) (m : Mem) (v0 : Nat) (v3 : Nat) (v4 : Int32) (v5 : Int32) : Option (Int32 × Mem) := if (m.1 v3 1) ≤ v5 then (some (v4, m)) else ((n_X7_smallAt s m v3 v5).bind fun x1 => (bind2 (n_X9_pressOne F s m v0 x1) fun x2 m3 => (if x2 = 0 then (bindv (v4 + (1)) fun x4 => (bindv (v5 + (1)) fun x5 => (nself18 m3 v0 v3 x4 x5))) else (some (v4, m3)))))
set_option maxRecDepth 20000 in
theorem ub_X9_perform_26 {F : Nat} {s : List Sh} {self18 : PH → Nat → Nat → Int32 → Int32 → Option (Int32 × PH)} {nself18 : Mem → Nat → Nat → Int32 → Int32 → Option (Int32 × Mem)} {m m' : Mem} {r : Int32} {v0 : Nat} {v3 : Nat} {v4 : Int32} {v5 : Int32} (hw : GS s m) (o_v0 : ok s v0 9) (o_v3 : ok s v3 7) (ih18 : ∀ (m : Mem) (v0 : Nat) (v3 : Nat) (v4 : Int32) (v5 : Int32), GS s m → ok s v0 9 → ok s v3 7 → nself18 m v0 v3 v4 v5 = some (r, m') → J3 (self18 (bl s m) v0 v3 v4 v5) (r, bl s m') (GS s m')) (hf : nb_X9_perform_26 F s nself18 m v0 v3 v4 v5 = some (r, m')) : J3 (b_X9_perform_26 F self18 (bl s m) v0 v3 v4 v5) (r, bl s m') (GS s m') := by
  unfold nb_X9_perform_26 at hf
  unfold b_X9_perform_26
  refine k_gI (ok_o o_v3 (by decide)) rfl ?_
  refine k_if hf (fun hf => ?_) (fun hf => ?_)
  · exact k_ret hw hf
  · refine k_cO (ok_o o_v3 (by decide)) ?_
    refine ob hf fun x1 ex hf => ?_
    refine k_b1 (un_X7_smallAt hw o_v3 ex) ?_
    refine k_cO (ok_o o_v0 (by decide)) ?_
    refine ob2 hf fun x2 m3 ex hf => ?_
    refine k_b2 (un_X9_pressOne hw o_v0 ex) fun hw => ?_
    refine k_if hf (fun hf => ?_) (fun hf => ?_)
    · refine k_bv hf fun x4 hf => ?_
      refine k_bv hf fun x5 hf => ?_
      exact ih18 _ _ _ _ _ hw o_v0 o_v3 hf
    · exact k_ret hw hf
def nl_X9_perform_26 (F : Nat) (s : List Sh) : Nat → Mem → Nat → Nat → Int32 → Int32 → Option (Int32 × Mem)
  | 0 => fun _ _ _ _ _ => none
  | n + 1 => fun m v0 v3 v4 v5 => nb_X9_perform_26 F s (nl_X9_perform_26 F s n) m v0 v3 v4 v5
theorem ul_X9_perform_26 {F : Nat} {s : List Sh} {m' : Mem} {r : Int32} (n : Nat) : ∀ (m : Mem) (v0 : Nat) (v3 : Nat) (v4 : Int32) (v5 : Int32), GS s m → ok s v0 9 → ok s v3 7 → nl_X9_perform_26 F s n m v0 v3 v4 v5 = some (r, m') → J3 (l_X9_perform_26 F n (bl s m) v0 v3 v4 v5) (r, bl s m') (GS s m') := by
  induction n with
  | zero => intro m v0 v3 v4 v5 hw o_v0 o_v3 hf; cases hf
  | succ n ih => intro m v0 v3 v4 v5 hw o_v0 o_v3 hf; exact ub_X9_perform_26 (F := F) hw o_v0 o_v3 ih hf
def nb_X9_perform_0 (F : Nat) (s : List Sh) (m : Mem) (v0 : Nat) (v1 : Int32) : Option (Int32 × Mem) := (n_X9_refusedRow s m v0 v1 (1 : Int32)).bind fun x1 => (if x1 = 0 then ((m.2.2 v0 7).bind fun a2 => ((rdR s m a2 v1).bind fun a3 => (nl_X9_perform_26 F s F m v0 a3 (0 : Int32) (0 : Int32)))) else (some (x1, m)))
set_option maxRecDepth 20000 in
theorem u_X9_perform_0 {F : Nat} {s : List Sh} {m m' : Mem} {r : Int32} {v0 : Nat} {v1 : Int32} (hw : GS s m) (o_v0 : ok s v0 9) (hf : nb_X9_perform_0 F s m v0 v1 = some (r, m')) : J3 (b_X9_perform_0 F (bl s m) v0 v1) (r, bl s m') (GS s m') := by
  unfold nb_X9_perform_0 at hf
  unfold b_X9_perform_0
  refine k_cO (ok_o o_v0 (by decide)) ?_
  refine ob hf fun x1 ex hf => ?_
  refine k_b1 (un_X9_refusedRow hw o_v0 ex) ?_
  refine k_if hf (fun hf => ?_) (fun hf => ?_)
  · refine k_gR hw (ok_o o_v0 (by decide)) rfl hf fun a2 o_a2 hf => ?_
    refine k_aR hw (Or.inr rfl) (ka rfl o_a2) hf fun a3 o_a3 hf => ?_
    exact ul_X9_perform_26 F _ _ _ _ _ hw o_v0 o_a3 hf
  · exact k_ret hw hf
def n_X9_perform (F : Nat) (s : List Sh) (m : Mem) (p0 : Nat) (p1 : Int32) : Option (Int32 × Mem) := nb_X9_perform_0 F s m p0 p1
theorem un_X9_perform {F : Nat} {s : List Sh} {m m' : Mem} {p0 : Nat} {p1 : Int32} {r : Int32} (hw : GS s m) (o_p0 : ok s p0 9) (ex : n_X9_perform F s m p0 p1 = some (r, m')) : J3 (m_X9_perform F (bl s m) p0 p1) (r, bl s m') (GS s m') := u_X9_perform_0 hw o_p0 ex
/-! FractionLift.day(II)I over the memory -/
def nb_X9_day_110 (F : Nat) (s : List Sh) (nself23 : Mem → Nat → Int32 → Int32 → Int32 → Int32 → Int32 → Option (Int32 × Mem)) (m : Mem) (v0 : Nat) (v2 : Int32) (v3 : Int32) (v4 : Int32) (v5 : Int32) (v6 : Int32) : Option (Int32 × Mem) := bindv (v6 + (1)) fun x1 => (nself23 m v0 v2 v3 v4 v5 x1)
set_option maxRecDepth 20000 in
theorem u_X9_day_110 {F : Nat} {s : List Sh} {self23 : PH → Nat → Int32 → Int32 → Int32 → Int32 → Int32 → Option (Int32 × PH)} {nself23 : Mem → Nat → Int32 → Int32 → Int32 → Int32 → Int32 → Option (Int32 × Mem)} {m m' : Mem} {r : Int32} {v0 : Nat} {v2 : Int32} {v3 : Int32} {v4 : Int32} {v5 : Int32} {v6 : Int32} (hw : GS s m) (o_v0 : ok s v0 9) (ih23 : ∀ (m : Mem) (v0 : Nat) (v2 : Int32) (v3 : Int32) (v4 : Int32) (v5 : Int32) (v6 : Int32), GS s m → ok s v0 9 → nself23 m v0 v2 v3 v4 v5 v6 = some (r, m') → J3 (self23 (bl s m) v0 v2 v3 v4 v5 v6) (r, bl s m') (GS s m')) (hf : nb_X9_day_110 F s nself23 m v0 v2 v3 v4 v5 v6 = some (r, m')) : J3 (b_X9_day_110 F self23 (bl s m) v0 v2 v3 v4 v5 v6) (r, bl s m') (GS s m') := by
  unfold nb_X9_day_110 at hf
  unfold b_X9_day_110
  refine k_bv hf fun x1 hf => ?_
  exact ih23 _ _ _ _ _ _ _ hw o_v0 hf
def nb_X9_day_91 (F : Nat) (s : List Sh) (nself23 : Mem → Nat → Int32 → Int32 → Int32 → Int32 → Int32 → Option (Int32 × Mem)) (m : Mem) (v0 : Nat) (v2 : Int32) (v3 : Int32) (v4 : Int32) (v5 : Int32) (v6 : Int32) (v7 : Int32) (s0 : Int32) : Option (Int32 × Mem) := if s0 = 0 then (bind2 (n_X9_pressOne F s m v0 v7) fun x1 m2 => (if x1 = 0 then (bindv (v5 + (1)) fun x3 => (nb_X9_day_110 F s nself23 m2 v0 v2 v3 v4 x3 v6)) else (nb_X9_day_110 F s nself23 m2 v0 v2 v3 v4 v5 v6))) else (nb_X9_day_110 F s nself23 m v0 v2 v3 v4 v5 v6)
set_option maxRecDepth 20000 in
theorem u_X9_day_91 {F : Nat} {s : List Sh} {self23 : PH → Nat → Int32 → Int32 → Int32 → Int32 → Int32 → Option (Int32 × PH)} {nself23 : Mem → Nat → Int32 → Int32 → Int32 → Int32 → Int32 → Option (Int32 × Mem)} {m m' : Mem} {r : Int32} {v0 : Nat} {v2 : Int32} {v3 : Int32} {v4 : Int32} {v5 : Int32} {v6 : Int32} {v7 : Int32} {s0 : Int32} (hw : GS s m) (o_v0 : ok s v0 9) (ih23 : ∀ (m : Mem) (v0 : Nat) (v2 : Int32) (v3 : Int32) (v4 : Int32) (v5 : Int32) (v6 : Int32), GS s m → ok s v0 9 → nself23 m v0 v2 v3 v4 v5 v6 = some (r, m') → J3 (self23 (bl s m) v0 v2 v3 v4 v5 v6) (r, bl s m') (GS s m')) (hf : nb_X9_day_91 F s nself23 m v0 v2 v3 v4 v5 v6 v7 s0 = some (r, m')) : J3 (b_X9_day_91 F self23 (bl s m) v0 v2 v3 v4 v5 v6 v7 s0) (r, bl s m') (GS s m') := by
  unfold nb_X9_day_91 at hf
  unfold b_X9_day_91
  refine k_if hf (fun hf => ?_) (fun hf => ?_)
  · refine k_cO (ok_o o_v0 (by decide)) ?_
    refine ob2 hf fun x1 m2 ex hf => ?_
    refine k_b2 (un_X9_pressOne hw o_v0 ex) fun hw => ?_
    refine k_if hf (fun hf => ?_) (fun hf => ?_)
    · refine k_bv hf fun x3 hf => ?_
      exact u_X9_day_110 hw o_v0 ih23 hf
    · exact u_X9_day_110 hw o_v0 ih23 hf
  · exact u_X9_day_110 hw o_v0 ih23 hf
def nb_X9_day_39 (F : Nat) (s : List Sh) (nself23 : Mem → Nat → Int32 → Int32 → Int32 → Int32 → Int32 → Option (Int32 × Mem)) (m : Mem) (v0 : Nat) (v2 : Int32) (v3 : Int32) (v4 : Int32) (v5 : Int32) (v6 : Int32) : Option (Int32 × Mem) := if v2 ≤ v6 then (some (v5, m)) else ((m_X9_nextDraw v4).bind fun x1 => (if v3 = 0 then none else (bindv ((remI ((ushr x1 (16 : Int32))) v3)) fun x2 => ((m_X9_nextDraw x1).bind fun x3 => (if (10 : Int32) = 0 then none else ((m.2.2 v0 4).bind fun a4 => (if (m.1 a4 1) ≤ ((remI ((ushr x3 (16 : Int32))) (10 : Int32))) then (nb_X9_day_91 F s nself23 m v0 v2 v3 x3 v5 v6 x2 (0 : Int32)) else (nb_X9_day_91 F s nself23 m v0 v2 v3 x3 v5 v6 x2 (1 : Int32)))))))))
set_option maxRecDepth 20000 in
theorem ub_X9_day_39 {F : Nat} {s : List Sh} {self23 : PH → Nat → Int32 → Int32 → Int32 → Int32 → Int32 → Option (Int32 × PH)} {nself23 : Mem → Nat → Int32 → Int32 → Int32 → Int32 → Int32 → Option (Int32 × Mem)} {m m' : Mem} {r : Int32} {v0 : Nat} {v2 : Int32} {v3 : Int32} {v4 : Int32} {v5 : Int32} {v6 : Int32} (hw : GS s m) (o_v0 : ok s v0 9) (ih23 : ∀ (m : Mem) (v0 : Nat) (v2 : Int32) (v3 : Int32) (v4 : Int32) (v5 : Int32) (v6 : Int32), GS s m → ok s v0 9 → nself23 m v0 v2 v3 v4 v5 v6 = some (r, m') → J3 (self23 (bl s m) v0 v2 v3 v4 v5 v6) (r, bl s m') (GS s m')) (hf : nb_X9_day_39 F s nself23 m v0 v2 v3 v4 v5 v6 = some (r, m')) : J3 (b_X9_day_39 F self23 (bl s m) v0 v2 v3 v4 v5 v6) (r, bl s m') (GS s m') := by
  unfold nb_X9_day_39 at hf
  unfold b_X9_day_39
  refine k_if hf (fun hf => ?_) (fun hf => ?_)
  · exact k_ret hw hf
  · refine k_pure hf fun x1 hf => ?_
    refine k_if hf (fun hf => by cases hf) (fun hf => ?_)
    refine k_bv hf fun x2 hf => ?_
    refine k_pure hf fun x3 hf => ?_
    refine k_if hf (fun hf => by cases hf) (fun hf => ?_)
    refine k_gR hw (ok_o o_v0 (by decide)) rfl hf fun a4 o_a4 hf => ?_
    refine k_gI (ok_o o_a4 (by decide)) rfl ?_
    refine k_if hf (fun hf => ?_) (fun hf => ?_)
    · exact u_X9_day_91 hw o_v0 ih23 hf
    · exact u_X9_day_91 hw o_v0 ih23 hf
def nl_X9_day_39 (F : Nat) (s : List Sh) : Nat → Mem → Nat → Int32 → Int32 → Int32 → Int32 → Int32 → Option (Int32 × Mem)
  | 0 => fun _ _ _ _ _ _ _ => none
  | n + 1 => fun m v0 v2 v3 v4 v5 v6 => nb_X9_day_39 F s (nl_X9_day_39 F s n) m v0 v2 v3 v4 v5 v6
theorem ul_X9_day_39 {F : Nat} {s : List Sh} {m' : Mem} {r : Int32} (n : Nat) : ∀ (m : Mem) (v0 : Nat) (v2 : Int32) (v3 : Int32) (v4 : Int32) (v5 : Int32) (v6 : Int32), GS s m → ok s v0 9 → nl_X9_day_39 F s n m v0 v2 v3 v4 v5 v6 = some (r, m') → J3 (l_X9_day_39 F n (bl s m) v0 v2 v3 v4 v5 v6) (r, bl s m') (GS s m') := by
  induction n with
  | zero => intro m v0 v2 v3 v4 v5 v6 hw o_v0 hf; cases hf
  | succ n ih => intro m v0 v2 v3 v4 v5 v6 hw o_v0 hf; exact ub_X9_day_39 (F := F) hw o_v0 ih hf
def nb_X9_day_0 (F : Nat) (s : List Sh) (m : Mem) (v0 : Nat) (v1 : Int32) (v2 : Int32) : Option (Int32 × Mem) := if v2 < (1 : Int32) then (some ((-3 : Int32), m)) else (if v2 ≤ (60 : Int32) then ((m.2.2 v0 4).bind fun a1 => (if (1 : Int32) ≤ (m.1 a1 6) then (nl_X9_day_39 F s F m v0 v2 (m.1 a1 6) v1 (0 : Int32) (0 : Int32)) else (some ((-5 : Int32), m)))) else (some ((-3 : Int32), m)))
set_option maxRecDepth 20000 in
theorem u_X9_day_0 {F : Nat} {s : List Sh} {m m' : Mem} {r : Int32} {v0 : Nat} {v1 : Int32} {v2 : Int32} (hw : GS s m) (o_v0 : ok s v0 9) (hf : nb_X9_day_0 F s m v0 v1 v2 = some (r, m')) : J3 (b_X9_day_0 F (bl s m) v0 v1 v2) (r, bl s m') (GS s m') := by
  unfold nb_X9_day_0 at hf
  unfold b_X9_day_0
  refine k_if hf (fun hf => ?_) (fun hf => ?_)
  · exact k_ret hw hf
  · refine k_if hf (fun hf => ?_) (fun hf => ?_)
    · refine k_gR hw (ok_o o_v0 (by decide)) rfl hf fun a1 o_a1 hf => ?_
      refine k_gI (ok_o o_a1 (by decide)) rfl ?_
      refine k_if hf (fun hf => ?_) (fun hf => ?_)
      · exact ul_X9_day_39 F _ _ _ _ _ _ _ hw o_v0 hf
      · exact k_ret hw hf
    · exact k_ret hw hf
def n_X9_day (F : Nat) (s : List Sh) (m : Mem) (p0 : Nat) (p1 : Int32) (p2 : Int32) : Option (Int32 × Mem) := nb_X9_day_0 F s m p0 p1 p2
theorem un_X9_day {F : Nat} {s : List Sh} {m m' : Mem} {p0 : Nat} {p1 : Int32} {p2 : Int32} {r : Int32} (hw : GS s m) (o_p0 : ok s p0 9) (ex : n_X9_day F s m p0 p1 p2 = some (r, m')) : J3 (m_X9_day F (bl s m) p0 p1 p2) (r, bl s m') (GS s m') := u_X9_day_0 hw o_p0 ex
/-! FractionLift.has(IIII)J over the memory -/
def nb_X9_has_0 (F : Nat) (s : List Sh) (m : Mem) (v0 : Nat) (v1 : Int32) (v2 : Int32) (v3 : Int32) (v4 : Int32) : Option (Int64 × Mem) := (m_X9_isStuff v1).bind fun x1 => (if x1 = 0 then (some ((-2 : Int64), m)) else (if v4 < 0 then (some ((-2 : Int64), m)) else (if v4 ≤ (1 : Int32) then (bind2 (n_X9_asksFloor F s m v0 v2 v3) fun x2 m3 => (if x2 = 0 then (some ((-3 : Int64), m3)) else ((m3.2.2 v0 4).bind fun a4 => ((m3.2.2 v0 12).bind fun a5 => ((m3.2.2 v0 12).bind fun a6 => ((m3.2.2 v0 13).bind fun a7 => (bind2 (n_X0_stuffAt F s m3 a4 v1 (m3.2.1 a5 0) (m3.2.1 a6 1) a7) fun _ m9 => ((m9.2.2 v0 13).bind fun a10 => ((n_X2_part s m9 a10 v4).bind fun x11 => (some (x11, m9))))))))))) else (some ((-2 : Int64), m)))))
set_option maxRecDepth 20000 in
theorem u_X9_has_0 {F : Nat} {s : List Sh} {m m' : Mem} {r : Int64} {v0 : Nat} {v1 : Int32} {v2 : Int32} {v3 : Int32} {v4 : Int32} (hw : GS s m) (o_v0 : ok s v0 9) (hf : nb_X9_has_0 F s m v0 v1 v2 v3 v4 = some (r, m')) : J3 (b_X9_has_0 F (bl s m) v0 v1 v2 v3 v4) (r, bl s m') (GS s m') := by
  unfold nb_X9_has_0 at hf
  unfold b_X9_has_0
  refine k_pure hf fun x1 hf => ?_
  refine k_if hf (fun hf => ?_) (fun hf => ?_)
  · exact k_ret hw hf
  · refine k_if hf (fun hf => ?_) (fun hf => ?_)
    · exact k_ret hw hf
    · refine k_if hf (fun hf => ?_) (fun hf => ?_)
      · refine k_cO (ok_o o_v0 (by decide)) ?_
        refine ob2 hf fun x2 m3 ex hf => ?_
        refine k_b2 (un_X9_asksFloor hw o_v0 ex) fun hw => ?_
        refine k_if hf (fun hf => ?_) (fun hf => ?_)
        · exact k_ret hw hf
        · refine k_gR hw (ok_o o_v0 (by decide)) rfl hf fun a4 o_a4 hf => ?_
          refine k_gR hw (ok_o o_v0 (by decide)) rfl hf fun a5 o_a5 hf => ?_
          refine k_gL (ok_o o_a5 (by decide)) rfl ?_
          refine k_gR hw (ok_o o_v0 (by decide)) rfl hf fun a6 o_a6 hf => ?_
          refine k_gL (ok_o o_a6 (by decide)) rfl ?_
          refine k_gR hw (ok_o o_v0 (by decide)) rfl hf fun a7 o_a7 hf => ?_
          refine k_cO (ok_o o_a4 (by decide)) ?_
          refine ob2 hf fun u m9 ex hf => ?_
          refine k_b2 (un_X0_stuffAt hw o_a4 o_a7 ex) fun hw => ?_
          refine k_gR hw (ok_o o_v0 (by decide)) rfl hf fun a10 o_a10 hf => ?_
          refine k_cO (ok_o o_a10 (by decide)) ?_
          refine ob hf fun x11 ex hf => ?_
          refine k_b1 (un_X2_part hw o_a10 ex) ?_
          exact k_ret hw hf
      · exact k_ret hw hf
def n_X9_has (F : Nat) (s : List Sh) (m : Mem) (p0 : Nat) (p1 : Int32) (p2 : Int32) (p3 : Int32) (p4 : Int32) : Option (Int64 × Mem) := nb_X9_has_0 F s m p0 p1 p2 p3 p4
theorem un_X9_has {F : Nat} {s : List Sh} {m m' : Mem} {p0 : Nat} {p1 : Int32} {p2 : Int32} {p3 : Int32} {p4 : Int32} {r : Int64} (hw : GS s m) (o_p0 : ok s p0 9) (ex : n_X9_has F s m p0 p1 p2 p3 p4 = some (r, m')) : J3 (m_X9_has F (bl s m) p0 p1 p2 p3 p4) (r, bl s m') (GS s m') := u_X9_has_0 hw o_p0 ex
/-! FractionLift.where(III)J over the memory -/
def nb_X9_where_0 (F : Nat) (s : List Sh) (m : Mem) (v0 : Nat) (v1 : Int32) (v2 : Int32) (v3 : Int32) : Option (Int64 × Mem) := (m_X9_isStuff v1).bind fun x1 => (if x1 = 0 then (some ((-2 : Int64), m)) else (if v3 < 0 then (some ((-2 : Int64), m)) else (if v3 ≤ (1 : Int32) then (if v2 < 0 then (some ((-3 : Int64), m)) else (if v2 ≤ (99 : Int32) then ((m.2.2 v0 4).bind fun a2 => ((m.2.2 v0 13).bind fun a3 => (bind2 (n_X0_leastLevel F s m a2 v1 (-1 : Int32) v2 a3) fun x4 m5 => (if x4 = 0 then (some ((-1 : Int64), m5)) else ((m5.2.2 v0 13).bind fun a6 => ((n_X2_part s m5 a6 v3).bind fun x7 => (some (x7, m5)))))))) else (some ((-3 : Int64), m)))) else (some ((-2 : Int64), m)))))
set_option maxRecDepth 20000 in
theorem u_X9_where_0 {F : Nat} {s : List Sh} {m m' : Mem} {r : Int64} {v0 : Nat} {v1 : Int32} {v2 : Int32} {v3 : Int32} (hw : GS s m) (o_v0 : ok s v0 9) (hf : nb_X9_where_0 F s m v0 v1 v2 v3 = some (r, m')) : J3 (b_X9_where_0 F (bl s m) v0 v1 v2 v3) (r, bl s m') (GS s m') := by
  unfold nb_X9_where_0 at hf
  unfold b_X9_where_0
  refine k_pure hf fun x1 hf => ?_
  refine k_if hf (fun hf => ?_) (fun hf => ?_)
  · exact k_ret hw hf
  · refine k_if hf (fun hf => ?_) (fun hf => ?_)
    · exact k_ret hw hf
    · refine k_if hf (fun hf => ?_) (fun hf => ?_)
      · refine k_if hf (fun hf => ?_) (fun hf => ?_)
        · exact k_ret hw hf
        · refine k_if hf (fun hf => ?_) (fun hf => ?_)
          · refine k_gR hw (ok_o o_v0 (by decide)) rfl hf fun a2 o_a2 hf => ?_
            refine k_gR hw (ok_o o_v0 (by decide)) rfl hf fun a3 o_a3 hf => ?_
            refine k_cO (ok_o o_a2 (by decide)) ?_
            refine ob2 hf fun x4 m5 ex hf => ?_
            refine k_b2 (un_X0_leastLevel hw o_a2 o_a3 ex) fun hw => ?_
            refine k_if hf (fun hf => ?_) (fun hf => ?_)
            · exact k_ret hw hf
            · refine k_gR hw (ok_o o_v0 (by decide)) rfl hf fun a6 o_a6 hf => ?_
              refine k_cO (ok_o o_a6 (by decide)) ?_
              refine ob hf fun x7 ex hf => ?_
              refine k_b1 (un_X2_part hw o_a6 ex) ?_
              exact k_ret hw hf
          · exact k_ret hw hf
      · exact k_ret hw hf
def n_X9_where (F : Nat) (s : List Sh) (m : Mem) (p0 : Nat) (p1 : Int32) (p2 : Int32) (p3 : Int32) : Option (Int64 × Mem) := nb_X9_where_0 F s m p0 p1 p2 p3
theorem un_X9_where {F : Nat} {s : List Sh} {m m' : Mem} {p0 : Nat} {p1 : Int32} {p2 : Int32} {p3 : Int32} {r : Int64} (hw : GS s m) (o_p0 : ok s p0 9) (ex : n_X9_where F s m p0 p1 p2 p3 = some (r, m')) : J3 (m_X9_where F (bl s m) p0 p1 p2 p3) (r, bl s m') (GS s m') := u_X9_where_0 hw o_p0 ex
/-! FractionLift.alike(III)J over the memory -/
def nb_X9_alike_0 (F : Nat) (s : List Sh) (m : Mem) (v0 : Nat) (v1 : Int32) (v2 : Int32) (v3 : Int32) : Option (Int64 × Mem) := (m_X9_isStuff v1).bind fun x1 => (if x1 = 0 then (some ((-2 : Int64), m)) else ((m_X9_isStuff v2).bind fun x2 => (if x2 = 0 then (some ((-2 : Int64), m)) else (if v1 = v2 then (some ((-2 : Int64), m)) else (if v3 < 0 then (some ((-2 : Int64), m)) else (if v3 ≤ (1 : Int32) then ((m.2.2 v0 4).bind fun a3 => ((m.2.2 v0 13).bind fun a4 => (bind2 (n_X0_leastLevel F s m a3 v1 v2 (0 : Int32) a4) fun x5 m6 => (if x5 = 0 then (some ((-1 : Int64), m6)) else ((m6.2.2 v0 13).bind fun a7 => ((n_X2_part s m6 a7 v3).bind fun x8 => (some (x8, m6)))))))) else (some ((-2 : Int64), m))))))))
set_option maxRecDepth 20000 in
theorem u_X9_alike_0 {F : Nat} {s : List Sh} {m m' : Mem} {r : Int64} {v0 : Nat} {v1 : Int32} {v2 : Int32} {v3 : Int32} (hw : GS s m) (o_v0 : ok s v0 9) (hf : nb_X9_alike_0 F s m v0 v1 v2 v3 = some (r, m')) : J3 (b_X9_alike_0 F (bl s m) v0 v1 v2 v3) (r, bl s m') (GS s m') := by
  unfold nb_X9_alike_0 at hf
  unfold b_X9_alike_0
  refine k_pure hf fun x1 hf => ?_
  refine k_if hf (fun hf => ?_) (fun hf => ?_)
  · exact k_ret hw hf
  · refine k_pure hf fun x2 hf => ?_
    refine k_if hf (fun hf => ?_) (fun hf => ?_)
    · exact k_ret hw hf
    · refine k_if hf (fun hf => ?_) (fun hf => ?_)
      · exact k_ret hw hf
      · refine k_if hf (fun hf => ?_) (fun hf => ?_)
        · exact k_ret hw hf
        · refine k_if hf (fun hf => ?_) (fun hf => ?_)
          · refine k_gR hw (ok_o o_v0 (by decide)) rfl hf fun a3 o_a3 hf => ?_
            refine k_gR hw (ok_o o_v0 (by decide)) rfl hf fun a4 o_a4 hf => ?_
            refine k_cO (ok_o o_a3 (by decide)) ?_
            refine ob2 hf fun x5 m6 ex hf => ?_
            refine k_b2 (un_X0_leastLevel hw o_a3 o_a4 ex) fun hw => ?_
            refine k_if hf (fun hf => ?_) (fun hf => ?_)
            · exact k_ret hw hf
            · refine k_gR hw (ok_o o_v0 (by decide)) rfl hf fun a7 o_a7 hf => ?_
              refine k_cO (ok_o o_a7 (by decide)) ?_
              refine ob hf fun x8 ex hf => ?_
              refine k_b1 (un_X2_part hw o_a7 ex) ?_
              exact k_ret hw hf
          · exact k_ret hw hf
def n_X9_alike (F : Nat) (s : List Sh) (m : Mem) (p0 : Nat) (p1 : Int32) (p2 : Int32) (p3 : Int32) : Option (Int64 × Mem) := nb_X9_alike_0 F s m p0 p1 p2 p3
theorem un_X9_alike {F : Nat} {s : List Sh} {m m' : Mem} {p0 : Nat} {p1 : Int32} {p2 : Int32} {p3 : Int32} {r : Int64} (hw : GS s m) (o_p0 : ok s p0 9) (ex : n_X9_alike F s m p0 p1 p2 p3 = some (r, m')) : J3 (m_X9_alike F (bl s m) p0 p1 p2 p3) (r, bl s m') (GS s m') := u_X9_alike_0 hw o_p0 ex
/-! FractionLift.most(I)I over the memory -/
def nb_X9_most_66 (F : Nat) (s : List Sh) (nself9 : Nat → Int32 → Int32 → Int32 → Option Int32) (m : Mem) (v0 : Nat) (v1 : Int32) (v2 : Int32) (v3 : Int32) : Option Int32 := bindv (v3 + (1)) fun x1 => (nself9 v0 v1 v2 x1)
set_option maxRecDepth 20000 in
theorem u_X9_most_66 {F : Nat} {s : List Sh} {self9 : Nat → Int32 → Int32 → Int32 → Option Int32} {nself9 : Nat → Int32 → Int32 → Int32 → Option Int32} {m : Mem} {r : Int32} {v0 : Nat} {v1 : Int32} {v2 : Int32} {v3 : Int32} (hw : GS s m) (o_v0 : ok s v0 9) (ih9 : ∀ (v0 : Nat) (v1 : Int32) (v2 : Int32) (v3 : Int32), ok s v0 9 → nself9 v0 v1 v2 v3 = some r → J3 (self9 v0 v1 v2 v3) r True) (hf : nb_X9_most_66 F s nself9 m v0 v1 v2 v3 = some r) : J3 (b_X9_most_66 F self9 (bl s m) v0 v1 v2 v3) r True := by
  unfold nb_X9_most_66 at hf
  unfold b_X9_most_66
  refine k_bv hf fun x1 hf => ?_
  exact ih9 _ _ _ _ o_v0 hf
def nb_X9_most_63 (F : Nat) (s : List Sh) (nself9 : Nat → Int32 → Int32 → Int32 → Option Int32) (m : Mem) (v0 : Nat) (v1 : Int32) (v3 : Int32) (v4 : Int32) : Option Int32 := nb_X9_most_66 F s nself9 m v0 v1 v4 v3
set_option maxRecDepth 20000 in
theorem u_X9_most_63 {F : Nat} {s : List Sh} {self9 : Nat → Int32 → Int32 → Int32 → Option Int32} {nself9 : Nat → Int32 → Int32 → Int32 → Option Int32} {m : Mem} {r : Int32} {v0 : Nat} {v1 : Int32} {v3 : Int32} {v4 : Int32} (hw : GS s m) (o_v0 : ok s v0 9) (ih9 : ∀ (v0 : Nat) (v1 : Int32) (v2 : Int32) (v3 : Int32), ok s v0 9 → nself9 v0 v1 v2 v3 = some r → J3 (self9 v0 v1 v2 v3) r True) (hf : nb_X9_most_63 F s nself9 m v0 v1 v3 v4 = some r) : J3 (b_X9_most_63 F self9 (bl s m) v0 v1 v3 v4) r True := by
  unfold nb_X9_most_63 at hf
  unfold b_X9_most_63
  exact u_X9_most_66 hw o_v0 ih9 hf
def nb_X9_most_14 (F : Nat) (s : List Sh) (nself9 : Nat → Int32 → Int32 → Int32 → Option Int32) (m : Mem) (v0 : Nat) (v1 : Int32) (v2 : Int32) (v3 : Int32) : Option Int32 := (m.2.2 v0 4).bind fun a1 => (if (m.1 a1 9) ≤ v3 then (some v2) else ((m.2.2 v0 4).bind fun a2 => ((m.2.2 a2 14).bind fun a3 => ((rdI s m a3 v3).bind fun x4 => (if v2 = (-1 : Int32) then (nb_X9_most_63 F s nself9 m v0 v1 v3 x4) else ((m.2.2 v0 4).bind fun a5 => ((n_X0_stuffOf s m a5 x4 v1).bind fun x6 => ((m.2.2 v0 4).bind fun a7 => ((n_X0_stuffOf s m a7 v2 v1).bind fun x8 => (if x6 ≤ x8 then (nb_X9_most_66 F s nself9 m v0 v1 v2 v3) else (nb_X9_most_63 F s nself9 m v0 v1 v3 x4)))))))))))
set_option maxRecDepth 20000 in
theorem ub_X9_most_14 {F : Nat} {s : List Sh} {self9 : Nat → Int32 → Int32 → Int32 → Option Int32} {nself9 : Nat → Int32 → Int32 → Int32 → Option Int32} {m : Mem} {r : Int32} {v0 : Nat} {v1 : Int32} {v2 : Int32} {v3 : Int32} (hw : GS s m) (o_v0 : ok s v0 9) (ih9 : ∀ (v0 : Nat) (v1 : Int32) (v2 : Int32) (v3 : Int32), ok s v0 9 → nself9 v0 v1 v2 v3 = some r → J3 (self9 v0 v1 v2 v3) r True) (hf : nb_X9_most_14 F s nself9 m v0 v1 v2 v3 = some r) : J3 (b_X9_most_14 F self9 (bl s m) v0 v1 v2 v3) r True := by
  unfold nb_X9_most_14 at hf
  unfold b_X9_most_14
  refine k_gR hw (ok_o o_v0 (by decide)) rfl hf fun a1 o_a1 hf => ?_
  refine k_gI (ok_o o_a1 (by decide)) rfl ?_
  refine k_if hf (fun hf => ?_) (fun hf => ?_)
  · exact k_retP hf
  · refine k_gR hw (ok_o o_v0 (by decide)) rfl hf fun a2 o_a2 hf => ?_
    refine k_gR hw (ok_o o_a2 (by decide)) rfl hf fun a3 o_a3 hf => ?_
    refine k_aI (Or.inl rfl) (ka rfl o_a3) hf fun x4 hf => ?_
    refine k_if hf (fun hf => ?_) (fun hf => ?_)
    · exact u_X9_most_63 hw o_v0 ih9 hf
    · refine k_gR hw (ok_o o_v0 (by decide)) rfl hf fun a5 o_a5 hf => ?_
      refine k_cO (ok_o o_a5 (by decide)) ?_
      refine ob hf fun x6 ex hf => ?_
      refine k_b1 (un_X0_stuffOf hw o_a5 ex) ?_
      refine k_gR hw (ok_o o_v0 (by decide)) rfl hf fun a7 o_a7 hf => ?_
      refine k_cO (ok_o o_a7 (by decide)) ?_
      refine ob hf fun x8 ex hf => ?_
      refine k_b1 (un_X0_stuffOf hw o_a7 ex) ?_
      refine k_if hf (fun hf => ?_) (fun hf => ?_)
      · exact u_X9_most_66 hw o_v0 ih9 hf
      · exact u_X9_most_63 hw o_v0 ih9 hf
def nl_X9_most_14 (F : Nat) (s : List Sh) (m : Mem) : Nat → Nat → Int32 → Int32 → Int32 → Option Int32
  | 0 => fun _ _ _ _ => none
  | n + 1 => fun v0 v1 v2 v3 => nb_X9_most_14 F s (nl_X9_most_14 F s m n) m v0 v1 v2 v3
theorem ul_X9_most_14 {F : Nat} {s : List Sh} {m : Mem} {r : Int32} (hw : GS s m) (n : Nat) : ∀ (v0 : Nat) (v1 : Int32) (v2 : Int32) (v3 : Int32), ok s v0 9 → nl_X9_most_14 F s m n v0 v1 v2 v3 = some r → J3 (l_X9_most_14 F (bl s m) n v0 v1 v2 v3) r True := by
  induction n with
  | zero => intro v0 v1 v2 v3 o_v0 hf; cases hf
  | succ n ih => intro v0 v1 v2 v3 o_v0 hf; exact ub_X9_most_14 (F := F) hw o_v0 ih hf
def nb_X9_most_0 (F : Nat) (s : List Sh) (m : Mem) (v0 : Nat) (v1 : Int32) : Option Int32 := (m_X9_isStuff v1).bind fun x1 => (if x1 = 0 then (some (-2 : Int32)) else (nl_X9_most_14 F s m F v0 v1 (-1 : Int32) (0 : Int32)))
set_option maxRecDepth 20000 in
theorem u_X9_most_0 {F : Nat} {s : List Sh} {m : Mem} {r : Int32} {v0 : Nat} {v1 : Int32} (hw : GS s m) (o_v0 : ok s v0 9) (hf : nb_X9_most_0 F s m v0 v1 = some r) : J3 (b_X9_most_0 F (bl s m) v0 v1) r True := by
  unfold nb_X9_most_0 at hf
  unfold b_X9_most_0
  refine k_pure hf fun x1 hf => ?_
  refine k_if hf (fun hf => ?_) (fun hf => ?_)
  · exact k_retP hf
  · exact ul_X9_most_14 hw F _ _ _ _ o_v0 hf
def n_X9_most (F : Nat) (s : List Sh) (m : Mem) (p0 : Nat) (p1 : Int32) : Option Int32 := nb_X9_most_0 F s m p0 p1
theorem un_X9_most {F : Nat} {s : List Sh} {m : Mem} {p0 : Nat} {p1 : Int32} {r : Int32} (hw : GS s m) (o_p0 : ok s p0 9) (ex : n_X9_most F s m p0 p1 = some r) : J3 (m_X9_most F (bl s m) p0 p1) r True := u_X9_most_0 hw o_p0 ex
/-! FractionLift.tells(II)I over the memory -/
def nb_X9_tells_71 (F : Nat) (s : List Sh) (nself35 : Mem → Nat → Int32 → Option (Int32 × Mem)) (m : Mem) (v0 : Nat) (v3 : Int32) : Option (Int32 × Mem) := if (3 : Int32) ≤ v3 then ((m.2.2 v0 4).bind fun a1 => ((m.2.2 v0 12).bind fun a2 => ((m.2.2 v0 12).bind fun a3 => (bind2 (n_X0_addFloor F s m a1 ((Int64.toInt32 (m.2.1 a2 0))) ((Int64.toInt32 (m.2.1 a3 1)))) fun _ m5 => ((m5.2.2 v0 4).bind fun a6 => (some ((((m5.1 a6 9) - (1 : Int32))), m5))))))) else ((m.2.2 v0 4).bind fun a7 => ((m.2.2 v0 12).bind fun a8 => ((m.2.2 v0 12).bind fun a9 => ((m.2.2 v0 13).bind fun a10 => (bind2 (n_X0_stuffAt F s m a7 v3 (m.2.1 a8 0) (m.2.1 a9 1) a10) fun _ m12 => ((m12.2.2 v0 4).bind fun a13 => ((m12.2.2 a13 13).bind fun a14 => ((m12.2.2 v0 13).bind fun a15 => ((n_X2_whole s m12 a15).bind fun x16 => ((stI s m12 a14 v3 (Int64.toInt32 x16)).bind fun m17 => (bindv (v3 + (1)) fun x18 => (nself35 m17 v0 x18))))))))))))
set_option maxRecDepth 20000 in
theorem ub_X9_tells_71 {F : Nat} {s : List Sh} {self35 : PH → Nat → Int32 → Option (Int32 × PH)} {nself35 : Mem → Nat → Int32 → Option (Int32 × Mem)} {m m' : Mem} {r : Int32} {v0 : Nat} {v3 : Int32} (hw : GS s m) (o_v0 : ok s v0 9) (ih35 : ∀ (m : Mem) (v0 : Nat) (v3 : Int32), GS s m → ok s v0 9 → nself35 m v0 v3 = some (r, m') → J3 (self35 (bl s m) v0 v3) (r, bl s m') (GS s m')) (hf : nb_X9_tells_71 F s nself35 m v0 v3 = some (r, m')) : J3 (b_X9_tells_71 F self35 (bl s m) v0 v3) (r, bl s m') (GS s m') := by
  unfold nb_X9_tells_71 at hf
  unfold b_X9_tells_71
  refine k_if hf (fun hf => ?_) (fun hf => ?_)
  · refine k_gR hw (ok_o o_v0 (by decide)) rfl hf fun a1 o_a1 hf => ?_
    refine k_gR hw (ok_o o_v0 (by decide)) rfl hf fun a2 o_a2 hf => ?_
    refine k_gL (ok_o o_a2 (by decide)) rfl ?_
    refine k_gR hw (ok_o o_v0 (by decide)) rfl hf fun a3 o_a3 hf => ?_
    refine k_gL (ok_o o_a3 (by decide)) rfl ?_
    refine k_cO (ok_o o_a1 (by decide)) ?_
    refine ob2 hf fun u m5 ex hf => ?_
    refine k_b2 (un_X0_addFloor hw o_a1 ex) fun hw => ?_
    refine k_gR hw (ok_o o_v0 (by decide)) rfl hf fun a6 o_a6 hf => ?_
    refine k_gI (ok_o o_a6 (by decide)) rfl ?_
    exact k_ret hw hf
  · refine k_gR hw (ok_o o_v0 (by decide)) rfl hf fun a7 o_a7 hf => ?_
    refine k_gR hw (ok_o o_v0 (by decide)) rfl hf fun a8 o_a8 hf => ?_
    refine k_gL (ok_o o_a8 (by decide)) rfl ?_
    refine k_gR hw (ok_o o_v0 (by decide)) rfl hf fun a9 o_a9 hf => ?_
    refine k_gL (ok_o o_a9 (by decide)) rfl ?_
    refine k_gR hw (ok_o o_v0 (by decide)) rfl hf fun a10 o_a10 hf => ?_
    refine k_cO (ok_o o_a7 (by decide)) ?_
    refine ob2 hf fun u m12 ex hf => ?_
    refine k_b2 (un_X0_stuffAt hw o_a7 o_a10 ex) fun hw => ?_
    refine k_gR hw (ok_o o_v0 (by decide)) rfl hf fun a13 o_a13 hf => ?_
    refine k_gR hw (ok_o o_a13 (by decide)) rfl hf fun a14 o_a14 hf => ?_
    refine k_gR hw (ok_o o_v0 (by decide)) rfl hf fun a15 o_a15 hf => ?_
    refine k_cO (ok_o o_a15 (by decide)) ?_
    refine ob hf fun x16 ex hf => ?_
    refine k_b1 (un_X2_whole hw o_a15 ex) ?_
    refine k_sI hw (ka rfl o_a14) hf fun m17 hw hf => ?_
    refine k_bv hf fun x18 hf => ?_
    exact ih35 _ _ _ hw o_v0 hf
def nl_X9_tells_71 (F : Nat) (s : List Sh) : Nat → Mem → Nat → Int32 → Option (Int32 × Mem)
  | 0 => fun _ _ _ => none
  | n + 1 => fun m v0 v3 => nb_X9_tells_71 F s (nl_X9_tells_71 F s n) m v0 v3
theorem ul_X9_tells_71 {F : Nat} {s : List Sh} {m' : Mem} {r : Int32} (n : Nat) : ∀ (m : Mem) (v0 : Nat) (v3 : Int32), GS s m → ok s v0 9 → nl_X9_tells_71 F s n m v0 v3 = some (r, m') → J3 (l_X9_tells_71 F n (bl s m) v0 v3) (r, bl s m') (GS s m') := by
  induction n with
  | zero => intro m v0 v3 hw o_v0 hf; cases hf
  | succ n ih => intro m v0 v3 hw o_v0 hf; exact ub_X9_tells_71 (F := F) hw o_v0 ih hf
def nb_X9_tells_0 (F : Nat) (s : List Sh) (m : Mem) (v0 : Nat) (v1 : Int32) (v2 : Int32) : Option (Int32 × Mem) := bind2 (n_X9_asksFloor F s m v0 v1 v2) fun x1 m2 => (if x1 = 0 then (some ((-3 : Int32), m2)) else ((m2.2.2 v0 12).bind fun a3 => (if (m2.2.1 a3 1) ≤ (99 : Int64) then ((m2.2.2 v0 4).bind fun a4 => (if (m2.1 a4 9) < (8 : Int32) then ((m2.2.2 v0 4).bind fun a5 => ((m2.2.2 v0 12).bind fun a6 => ((m2.2.2 v0 12).bind fun a7 => ((n_X0_floorAt F s m2 a5 (m2.2.1 a6 0) (m2.2.1 a7 1)).bind fun x8 => (if x8 = (-1 : Int32) then (nl_X9_tells_71 F s F m2 v0 (0 : Int32)) else (some ((-5 : Int32), m2))))))) else (some ((-4 : Int32), m2)))) else (some ((-3 : Int32), m2)))))
set_option maxRecDepth 20000 in
theorem u_X9_tells_0 {F : Nat} {s : List Sh} {m m' : Mem} {r : Int32} {v0 : Nat} {v1 : Int32} {v2 : Int32} (hw : GS s m) (o_v0 : ok s v0 9) (hf : nb_X9_tells_0 F s m v0 v1 v2 = some (r, m')) : J3 (b_X9_tells_0 F (bl s m) v0 v1 v2) (r, bl s m') (GS s m') := by
  unfold nb_X9_tells_0 at hf
  unfold b_X9_tells_0
  refine k_cO (ok_o o_v0 (by decide)) ?_
  refine ob2 hf fun x1 m2 ex hf => ?_
  refine k_b2 (un_X9_asksFloor hw o_v0 ex) fun hw => ?_
  refine k_if hf (fun hf => ?_) (fun hf => ?_)
  · exact k_ret hw hf
  · refine k_gR hw (ok_o o_v0 (by decide)) rfl hf fun a3 o_a3 hf => ?_
    refine k_gL (ok_o o_a3 (by decide)) rfl ?_
    refine k_if hf (fun hf => ?_) (fun hf => ?_)
    · refine k_gR hw (ok_o o_v0 (by decide)) rfl hf fun a4 o_a4 hf => ?_
      refine k_gI (ok_o o_a4 (by decide)) rfl ?_
      refine k_if hf (fun hf => ?_) (fun hf => ?_)
      · refine k_gR hw (ok_o o_v0 (by decide)) rfl hf fun a5 o_a5 hf => ?_
        refine k_gR hw (ok_o o_v0 (by decide)) rfl hf fun a6 o_a6 hf => ?_
        refine k_gL (ok_o o_a6 (by decide)) rfl ?_
        refine k_gR hw (ok_o o_v0 (by decide)) rfl hf fun a7 o_a7 hf => ?_
        refine k_gL (ok_o o_a7 (by decide)) rfl ?_
        refine k_cO (ok_o o_a5 (by decide)) ?_
        refine ob hf fun x8 ex hf => ?_
        refine k_b1 (un_X0_floorAt hw o_a5 ex) ?_
        refine k_if hf (fun hf => ?_) (fun hf => ?_)
        · exact ul_X9_tells_71 F _ _ _ hw o_v0 hf
        · exact k_ret hw hf
      · exact k_ret hw hf
    · exact k_ret hw hf
def n_X9_tells (F : Nat) (s : List Sh) (m : Mem) (p0 : Nat) (p1 : Int32) (p2 : Int32) : Option (Int32 × Mem) := nb_X9_tells_0 F s m p0 p1 p2
theorem un_X9_tells {F : Nat} {s : List Sh} {m m' : Mem} {p0 : Nat} {p1 : Int32} {p2 : Int32} {r : Int32} (hw : GS s m) (o_p0 : ok s p0 9) (ex : n_X9_tells F s m p0 p1 p2 = some (r, m')) : J3 (m_X9_tells F (bl s m) p0 p1 p2) (r, bl s m') (GS s m') := u_X9_tells_0 hw o_p0 ex
/-! FractionLift.remaindersFrom(III)I over the memory -/
def nb_X9_remaindersFrom_6 (F : Nat) (s : List Sh) (nself4 : Mem → Nat → Int32 → Int32 → Int32 → Int32 → Int32 → Option (Int32 × Mem)) (m : Mem) (v0 : Nat) (v1 : Int32) (v2 : Int32) (v3 : Int32) (v4 : Int32) (v5 : Int32) : Option (Int32 × Mem) := (m.2.2 v0 4).bind fun a1 => (if (m.1 a1 6) ≤ v5 then (some (v4, m)) else ((m.2.2 v0 11).bind fun a2 => ((m.2.2 v0 4).bind fun a3 => (bind2 (n_X4_remainderLed F s m a2 a3 v5 v1 v2) fun x4 m5 => (if x4 = (-1 : Int32) then (some (v3, m5)) else (bindv ((v4 ||| (((1 : Int32) <<< (x4 &&& 31))))) fun x6 => (bindv (v5 + (1)) fun x7 => (nself4 m5 v0 v1 v2 v3 x6 x7))))))))
set_option maxRecDepth 20000 in
theorem ub_X9_remaindersFrom_6 {F : Nat} {s : List Sh} {self4 : PH → Nat → Int32 → Int32 → Int32 → Int32 → Int32 → Option (Int32 × PH)} {nself4 : Mem → Nat → Int32 → Int32 → Int32 → Int32 → Int32 → Option (Int32 × Mem)} {m m' : Mem} {r : Int32} {v0 : Nat} {v1 : Int32} {v2 : Int32} {v3 : Int32} {v4 : Int32} {v5 : Int32} (hw : GS s m) (o_v0 : ok s v0 9) (ih4 : ∀ (m : Mem) (v0 : Nat) (v1 : Int32) (v2 : Int32) (v3 : Int32) (v4 : Int32) (v5 : Int32), GS s m → ok s v0 9 → nself4 m v0 v1 v2 v3 v4 v5 = some (r, m') → J3 (self4 (bl s m) v0 v1 v2 v3 v4 v5) (r, bl s m') (GS s m')) (hf : nb_X9_remaindersFrom_6 F s nself4 m v0 v1 v2 v3 v4 v5 = some (r, m')) : J3 (b_X9_remaindersFrom_6 F self4 (bl s m) v0 v1 v2 v3 v4 v5) (r, bl s m') (GS s m') := by
  unfold nb_X9_remaindersFrom_6 at hf
  unfold b_X9_remaindersFrom_6
  refine k_gR hw (ok_o o_v0 (by decide)) rfl hf fun a1 o_a1 hf => ?_
  refine k_gI (ok_o o_a1 (by decide)) rfl ?_
  refine k_if hf (fun hf => ?_) (fun hf => ?_)
  · exact k_ret hw hf
  · refine k_gR hw (ok_o o_v0 (by decide)) rfl hf fun a2 o_a2 hf => ?_
    refine k_gR hw (ok_o o_v0 (by decide)) rfl hf fun a3 o_a3 hf => ?_
    refine k_cO (ok_o o_a2 (by decide)) ?_
    refine ob2 hf fun x4 m5 ex hf => ?_
    refine k_b2 (un_X4_remainderLed hw o_a2 o_a3 ex) fun hw => ?_
    refine k_if hf (fun hf => ?_) (fun hf => ?_)
    · exact k_ret hw hf
    · refine k_bv hf fun x6 hf => ?_
      refine k_bv hf fun x7 hf => ?_
      exact ih4 _ _ _ _ _ _ _ hw o_v0 hf
def nl_X9_remaindersFrom_6 (F : Nat) (s : List Sh) : Nat → Mem → Nat → Int32 → Int32 → Int32 → Int32 → Int32 → Option (Int32 × Mem)
  | 0 => fun _ _ _ _ _ _ _ => none
  | n + 1 => fun m v0 v1 v2 v3 v4 v5 => nb_X9_remaindersFrom_6 F s (nl_X9_remaindersFrom_6 F s n) m v0 v1 v2 v3 v4 v5
theorem ul_X9_remaindersFrom_6 {F : Nat} {s : List Sh} {m' : Mem} {r : Int32} (n : Nat) : ∀ (m : Mem) (v0 : Nat) (v1 : Int32) (v2 : Int32) (v3 : Int32) (v4 : Int32) (v5 : Int32), GS s m → ok s v0 9 → nl_X9_remaindersFrom_6 F s n m v0 v1 v2 v3 v4 v5 = some (r, m') → J3 (l_X9_remaindersFrom_6 F n (bl s m) v0 v1 v2 v3 v4 v5) (r, bl s m') (GS s m') := by
  induction n with
  | zero => intro m v0 v1 v2 v3 v4 v5 hw o_v0 hf; cases hf
  | succ n ih => intro m v0 v1 v2 v3 v4 v5 hw o_v0 hf; exact ub_X9_remaindersFrom_6 (F := F) hw o_v0 ih hf
def nb_X9_remaindersFrom_0 (F : Nat) (s : List Sh) (m : Mem) (v0 : Nat) (v1 : Int32) (v2 : Int32) (v3 : Int32) : Option (Int32 × Mem) := nl_X9_remaindersFrom_6 F s F m v0 v1 v2 v3 (0 : Int32) (0 : Int32)
set_option maxRecDepth 20000 in
theorem u_X9_remaindersFrom_0 {F : Nat} {s : List Sh} {m m' : Mem} {r : Int32} {v0 : Nat} {v1 : Int32} {v2 : Int32} {v3 : Int32} (hw : GS s m) (o_v0 : ok s v0 9) (hf : nb_X9_remaindersFrom_0 F s m v0 v1 v2 v3 = some (r, m')) : J3 (b_X9_remaindersFrom_0 F (bl s m) v0 v1 v2 v3) (r, bl s m') (GS s m') := by
  unfold nb_X9_remaindersFrom_0 at hf
  unfold b_X9_remaindersFrom_0
  exact ul_X9_remaindersFrom_6 F _ _ _ _ _ _ _ hw o_v0 hf
def n_X9_remaindersFrom (F : Nat) (s : List Sh) (m : Mem) (p0 : Nat) (p1 : Int32) (p2 : Int32) (p3 : Int32) : Option (Int32 × Mem) := nb_X9_remaindersFrom_0 F s m p0 p1 p2 p3
theorem un_X9_remaindersFrom {F : Nat} {s : List Sh} {m m' : Mem} {p0 : Nat} {p1 : Int32} {p2 : Int32} {p3 : Int32} {r : Int32} (hw : GS s m) (o_p0 : ok s p0 9) (ex : n_X9_remaindersFrom F s m p0 p1 p2 p3 = some (r, m')) : J3 (m_X9_remaindersFrom F (bl s m) p0 p1 p2 p3) (r, bl s m') (GS s m') := u_X9_remaindersFrom_0 hw o_p0 ex
/-! FractionLift.remaindersBy(I)I over the memory -/
def nb_X9_remaindersBy_103 (F : Nat) (s : List Sh) (nself30 : Mem → Nat → Int32 → Int32 → Int32 → Int32 → Int32 → Option (Int32 × Mem)) (nself46 : Mem → Nat → Int32 → Int32 → Int32 → Int32 → Int32 → Int32 → Int32 → Option (Int32 × Mem)) (m : Mem) (v0 : Nat) (v1 : Int32) (v2 : Int32) (v4 : Int32) (v5 : Int32) (v6 : Int32) (v7 : Int32) (v8 : Int32) : Option (Int32 × Mem) := bindv (v8 + (1)) fun x1 => (nself46 m v0 v1 v2 v4 v5 v6 v7 x1)
set_option maxRecDepth 20000 in
theorem u_X9_remaindersBy_103 {F : Nat} {s : List Sh} {self30 : PH → Nat → Int32 → Int32 → Int32 → Int32 → Int32 → Option (Int32 × PH)} {nself30 : Mem → Nat → Int32 → Int32 → Int32 → Int32 → Int32 → Option (Int32 × Mem)} {self46 : PH → Nat → Int32 → Int32 → Int32 → Int32 → Int32 → Int32 → Int32 → Option (Int32 × PH)} {nself46 : Mem → Nat → Int32 → Int32 → Int32 → Int32 → Int32 → Int32 → Int32 → Option (Int32 × Mem)} {m m' : Mem} {r : Int32} {v0 : Nat} {v1 : Int32} {v2 : Int32} {v4 : Int32} {v5 : Int32} {v6 : Int32} {v7 : Int32} {v8 : Int32} (hw : GS s m) (o_v0 : ok s v0 9) (ih30 : ∀ (m : Mem) (v0 : Nat) (v1 : Int32) (v2 : Int32) (v4 : Int32) (v5 : Int32) (v6 : Int32), GS s m → ok s v0 9 → nself30 m v0 v1 v2 v4 v5 v6 = some (r, m') → J3 (self30 (bl s m) v0 v1 v2 v4 v5 v6) (r, bl s m') (GS s m')) (ih46 : ∀ (m : Mem) (v0 : Nat) (v1 : Int32) (v2 : Int32) (v4 : Int32) (v5 : Int32) (v6 : Int32) (v7 : Int32) (v8 : Int32), GS s m → ok s v0 9 → nself46 m v0 v1 v2 v4 v5 v6 v7 v8 = some (r, m') → J3 (self46 (bl s m) v0 v1 v2 v4 v5 v6 v7 v8) (r, bl s m') (GS s m')) (hf : nb_X9_remaindersBy_103 F s nself30 nself46 m v0 v1 v2 v4 v5 v6 v7 v8 = some (r, m')) : J3 (b_X9_remaindersBy_103 F self30 self46 (bl s m) v0 v1 v2 v4 v5 v6 v7 v8) (r, bl s m') (GS s m') := by
  unfold nb_X9_remaindersBy_103 at hf
  unfold b_X9_remaindersBy_103
  refine k_bv hf fun x1 hf => ?_
  exact ih46 _ _ _ _ _ _ _ _ _ hw o_v0 hf
def nb_X9_remaindersBy_74 (F : Nat) (s : List Sh) (nself30 : Mem → Nat → Int32 → Int32 → Int32 → Int32 → Int32 → Option (Int32 × Mem)) (nself46 : Mem → Nat → Int32 → Int32 → Int32 → Int32 → Int32 → Int32 → Int32 → Option (Int32 × Mem)) (m : Mem) (v0 : Nat) (v1 : Int32) (v2 : Int32) (v4 : Int32) (v5 : Int32) (v6 : Int32) (v7 : Int32) (v8 : Int32) : Option (Int32 × Mem) := if v1 ≤ v8 then (bindv (v6 + (1)) fun x1 => (nself30 m v0 v1 v2 v4 v5 x1)) else (if (((ushr v7 v8) &&& (1 : Int32))) = 0 then (nb_X9_remaindersBy_103 F s nself30 nself46 m v0 v1 v2 v4 v5 v6 v7 v8) else (bind2 (n_X9_remaindersFrom F s m v0 v8 v1 v2) fun x2 m3 => (bindv (v4 ||| x2) fun x4 => (nb_X9_remaindersBy_103 F s nself30 nself46 m3 v0 v1 v2 x4 v5 v6 v7 v8))))
set_option maxRecDepth 20000 in
theorem ub_X9_remaindersBy_74 {F : Nat} {s : List Sh} {self30 : PH → Nat → Int32 → Int32 → Int32 → Int32 → Int32 → Option (Int32 × PH)} {nself30 : Mem → Nat → Int32 → Int32 → Int32 → Int32 → Int32 → Option (Int32 × Mem)} {self46 : PH → Nat → Int32 → Int32 → Int32 → Int32 → Int32 → Int32 → Int32 → Option (Int32 × PH)} {nself46 : Mem → Nat → Int32 → Int32 → Int32 → Int32 → Int32 → Int32 → Int32 → Option (Int32 × Mem)} {m m' : Mem} {r : Int32} {v0 : Nat} {v1 : Int32} {v2 : Int32} {v4 : Int32} {v5 : Int32} {v6 : Int32} {v7 : Int32} {v8 : Int32} (hw : GS s m) (o_v0 : ok s v0 9) (ih30 : ∀ (m : Mem) (v0 : Nat) (v1 : Int32) (v2 : Int32) (v4 : Int32) (v5 : Int32) (v6 : Int32), GS s m → ok s v0 9 → nself30 m v0 v1 v2 v4 v5 v6 = some (r, m') → J3 (self30 (bl s m) v0 v1 v2 v4 v5 v6) (r, bl s m') (GS s m')) (ih46 : ∀ (m : Mem) (v0 : Nat) (v1 : Int32) (v2 : Int32) (v4 : Int32) (v5 : Int32) (v6 : Int32) (v7 : Int32) (v8 : Int32), GS s m → ok s v0 9 → nself46 m v0 v1 v2 v4 v5 v6 v7 v8 = some (r, m') → J3 (self46 (bl s m) v0 v1 v2 v4 v5 v6 v7 v8) (r, bl s m') (GS s m')) (hf : nb_X9_remaindersBy_74 F s nself30 nself46 m v0 v1 v2 v4 v5 v6 v7 v8 = some (r, m')) : J3 (b_X9_remaindersBy_74 F self30 self46 (bl s m) v0 v1 v2 v4 v5 v6 v7 v8) (r, bl s m') (GS s m') := by
  unfold nb_X9_remaindersBy_74 at hf
  unfold b_X9_remaindersBy_74
  refine k_if hf (fun hf => ?_) (fun hf => ?_)
  · refine k_bv hf fun x1 hf => ?_
    exact ih30 _ _ _ _ _ _ _ hw o_v0 hf
  · refine k_if hf (fun hf => ?_) (fun hf => ?_)
    · exact u_X9_remaindersBy_103 hw o_v0 ih30 ih46 hf
    · refine k_cO (ok_o o_v0 (by decide)) ?_
      refine ob2 hf fun x2 m3 ex hf => ?_
      refine k_b2 (un_X9_remaindersFrom hw o_v0 ex) fun hw => ?_
      refine k_bv hf fun x4 hf => ?_
      exact u_X9_remaindersBy_103 hw o_v0 ih30 ih46 hf
def nl_X9_remaindersBy_74 (F : Nat) (s : List Sh) (nself30 : Mem → Nat → Int32 → Int32 → Int32 → Int32 → Int32 → Option (Int32 × Mem)) : Nat → Mem → Nat → Int32 → Int32 → Int32 → Int32 → Int32 → Int32 → Int32 → Option (Int32 × Mem)
  | 0 => fun _ _ _ _ _ _ _ _ _ => none
  | n + 1 => fun m v0 v1 v2 v4 v5 v6 v7 v8 => nb_X9_remaindersBy_74 F s nself30 (nl_X9_remaindersBy_74 F s nself30 n) m v0 v1 v2 v4 v5 v6 v7 v8
theorem ul_X9_remaindersBy_74 {F : Nat} {s : List Sh} {self30 : PH → Nat → Int32 → Int32 → Int32 → Int32 → Int32 → Option (Int32 × PH)} {nself30 : Mem → Nat → Int32 → Int32 → Int32 → Int32 → Int32 → Option (Int32 × Mem)} {m' : Mem} {r : Int32} (ih30 : ∀ (m : Mem) (v0 : Nat) (v1 : Int32) (v2 : Int32) (v4 : Int32) (v5 : Int32) (v6 : Int32), GS s m → ok s v0 9 → nself30 m v0 v1 v2 v4 v5 v6 = some (r, m') → J3 (self30 (bl s m) v0 v1 v2 v4 v5 v6) (r, bl s m') (GS s m')) (n : Nat) : ∀ (m : Mem) (v0 : Nat) (v1 : Int32) (v2 : Int32) (v4 : Int32) (v5 : Int32) (v6 : Int32) (v7 : Int32) (v8 : Int32), GS s m → ok s v0 9 → nl_X9_remaindersBy_74 F s nself30 n m v0 v1 v2 v4 v5 v6 v7 v8 = some (r, m') → J3 (l_X9_remaindersBy_74 F self30 n (bl s m) v0 v1 v2 v4 v5 v6 v7 v8) (r, bl s m') (GS s m') := by
  induction n with
  | zero => intro m v0 v1 v2 v4 v5 v6 v7 v8 hw o_v0 hf; cases hf
  | succ n ih => intro m v0 v1 v2 v4 v5 v6 v7 v8 hw o_v0 hf; exact ub_X9_remaindersBy_74 (F := F) hw o_v0 ih30 ih hf
def nb_X9_remaindersBy_45 (F : Nat) (s : List Sh) (nself30 : Mem → Nat → Int32 → Int32 → Int32 → Int32 → Int32 → Option (Int32 × Mem)) (m : Mem) (v0 : Nat) (v1 : Int32) (v2 : Int32) (v4 : Int32) (v5 : Int32) (v6 : Int32) : Option (Int32 × Mem) := if v1 ≤ v6 then (some (v4, m)) else (if v5 = v4 then (some (v4, m)) else (bindv ((v4 &&& ((v5 ^^^ (-1 : Int32))))) fun x1 => (nl_X9_remaindersBy_74 F s nself30 F m v0 v1 v2 v4 v4 v6 x1 (0 : Int32))))
set_option maxRecDepth 20000 in
theorem ub_X9_remaindersBy_45 {F : Nat} {s : List Sh} {self30 : PH → Nat → Int32 → Int32 → Int32 → Int32 → Int32 → Option (Int32 × PH)} {nself30 : Mem → Nat → Int32 → Int32 → Int32 → Int32 → Int32 → Option (Int32 × Mem)} {m m' : Mem} {r : Int32} {v0 : Nat} {v1 : Int32} {v2 : Int32} {v4 : Int32} {v5 : Int32} {v6 : Int32} (hw : GS s m) (o_v0 : ok s v0 9) (ih30 : ∀ (m : Mem) (v0 : Nat) (v1 : Int32) (v2 : Int32) (v4 : Int32) (v5 : Int32) (v6 : Int32), GS s m → ok s v0 9 → nself30 m v0 v1 v2 v4 v5 v6 = some (r, m') → J3 (self30 (bl s m) v0 v1 v2 v4 v5 v6) (r, bl s m') (GS s m')) (hf : nb_X9_remaindersBy_45 F s nself30 m v0 v1 v2 v4 v5 v6 = some (r, m')) : J3 (b_X9_remaindersBy_45 F self30 (bl s m) v0 v1 v2 v4 v5 v6) (r, bl s m') (GS s m') := by
  unfold nb_X9_remaindersBy_45 at hf
  unfold b_X9_remaindersBy_45
  refine k_if hf (fun hf => ?_) (fun hf => ?_)
  · exact k_ret hw hf
  · refine k_if hf (fun hf => ?_) (fun hf => ?_)
    · exact k_ret hw hf
    · refine k_bv hf fun x1 hf => ?_
      exact ul_X9_remaindersBy_74 ih30 F _ _ _ _ _ _ _ _ _ hw o_v0 hf
def nl_X9_remaindersBy_45 (F : Nat) (s : List Sh) : Nat → Mem → Nat → Int32 → Int32 → Int32 → Int32 → Int32 → Option (Int32 × Mem)
  | 0 => fun _ _ _ _ _ _ _ => none
  | n + 1 => fun m v0 v1 v2 v4 v5 v6 => nb_X9_remaindersBy_45 F s (nl_X9_remaindersBy_45 F s n) m v0 v1 v2 v4 v5 v6
theorem ul_X9_remaindersBy_45 {F : Nat} {s : List Sh} {m' : Mem} {r : Int32} (n : Nat) : ∀ (m : Mem) (v0 : Nat) (v1 : Int32) (v2 : Int32) (v4 : Int32) (v5 : Int32) (v6 : Int32), GS s m → ok s v0 9 → nl_X9_remaindersBy_45 F s n m v0 v1 v2 v4 v5 v6 = some (r, m') → J3 (l_X9_remaindersBy_45 F n (bl s m) v0 v1 v2 v4 v5 v6) (r, bl s m') (GS s m') := by
  induction n with
  | zero => intro m v0 v1 v2 v4 v5 v6 hw o_v0 hf; cases hf
  | succ n ih => intro m v0 v1 v2 v4 v5 v6 hw o_v0 hf; exact ub_X9_remaindersBy_45 (F := F) hw o_v0 ih hf
def nb_X9_remaindersBy_0 (F : Nat) (s : List Sh) (m : Mem) (v0 : Nat) (v1 : Int32) : Option (Int32 × Mem) := bindv (((((1 : Int32) <<< (v1 &&& 31))) - (1 : Int32))) fun x1 => ((m.2.2 v0 4).bind fun a2 => ((m.2.2 v0 4).bind fun a3 => ((m_X9_remainderOf F ((Int32.toInt64 (m.1 a2 4))) ((Int32.toInt64 (m.1 a3 5))) v1).bind fun x4 => (if x4 = (-1 : Int32) then (some (x1, m)) else (bindv (((1 : Int32) <<< (x4 &&& 31))) fun x5 => (nl_X9_remaindersBy_45 F s F m v0 v1 x1 x5 (0 : Int32) (0 : Int32)))))))
set_option maxRecDepth 20000 in
theorem u_X9_remaindersBy_0 {F : Nat} {s : List Sh} {m m' : Mem} {r : Int32} {v0 : Nat} {v1 : Int32} (hw : GS s m) (o_v0 : ok s v0 9) (hf : nb_X9_remaindersBy_0 F s m v0 v1 = some (r, m')) : J3 (b_X9_remaindersBy_0 F (bl s m) v0 v1) (r, bl s m') (GS s m') := by
  unfold nb_X9_remaindersBy_0 at hf
  unfold b_X9_remaindersBy_0
  refine k_bv hf fun x1 hf => ?_
  refine k_gR hw (ok_o o_v0 (by decide)) rfl hf fun a2 o_a2 hf => ?_
  refine k_gI (ok_o o_a2 (by decide)) rfl ?_
  refine k_gR hw (ok_o o_v0 (by decide)) rfl hf fun a3 o_a3 hf => ?_
  refine k_gI (ok_o o_a3 (by decide)) rfl ?_
  refine k_pure hf fun x4 hf => ?_
  refine k_if hf (fun hf => ?_) (fun hf => ?_)
  · exact k_ret hw hf
  · refine k_bv hf fun x5 hf => ?_
    exact ul_X9_remaindersBy_45 F _ _ _ _ _ _ _ hw o_v0 hf
def n_X9_remaindersBy (F : Nat) (s : List Sh) (m : Mem) (p0 : Nat) (p1 : Int32) : Option (Int32 × Mem) := nb_X9_remaindersBy_0 F s m p0 p1
theorem un_X9_remaindersBy {F : Nat} {s : List Sh} {m m' : Mem} {p0 : Nat} {p1 : Int32} {r : Int32} (hw : GS s m) (o_p0 : ok s p0 9) (ex : n_X9_remaindersBy F s m p0 p1 = some (r, m')) : J3 (m_X9_remaindersBy F (bl s m) p0 p1) (r, bl s m') (GS s m') := u_X9_remaindersBy_0 hw o_p0 ex
/-! FractionLift.isNever(I)Z over the memory -/
def nb_X9_isNever_0 (F : Nat) (s : List Sh) (m : Mem) (v0 : Nat) (v1 : Int32) : Option (Int32 × Mem) := (m.2.2 v0 12).bind fun a1 => ((m.2.2 v0 12).bind fun a2 => ((m_X9_remainderOf F (m.2.1 a1 0) (m.2.1 a2 1) v1).bind fun x3 => (if x3 = (-1 : Int32) then (rZM (0 : Int32) m) else (bind2 (n_X9_remaindersBy F s m v0 v1) fun x4 m5 => (if (((ushr x4 x3) &&& (1 : Int32))) = 0 then (rZM (1 : Int32) m5) else (rZM (0 : Int32) m5))))))
set_option maxRecDepth 20000 in
theorem u_X9_isNever_0 {F : Nat} {s : List Sh} {m m' : Mem} {r : Int32} {v0 : Nat} {v1 : Int32} (hw : GS s m) (o_v0 : ok s v0 9) (hf : nb_X9_isNever_0 F s m v0 v1 = some (r, m')) : J3 (b_X9_isNever_0 F (bl s m) v0 v1) (r, bl s m') (GS s m') := by
  unfold nb_X9_isNever_0 at hf
  unfold b_X9_isNever_0
  refine k_gR hw (ok_o o_v0 (by decide)) rfl hf fun a1 o_a1 hf => ?_
  refine k_gL (ok_o o_a1 (by decide)) rfl ?_
  refine k_gR hw (ok_o o_v0 (by decide)) rfl hf fun a2 o_a2 hf => ?_
  refine k_gL (ok_o o_a2 (by decide)) rfl ?_
  refine k_pure hf fun x3 hf => ?_
  refine k_if hf (fun hf => ?_) (fun hf => ?_)
  · exact k_rZ hw hf
  · refine k_cO (ok_o o_v0 (by decide)) ?_
    refine ob2 hf fun x4 m5 ex hf => ?_
    refine k_b2 (un_X9_remaindersBy hw o_v0 ex) fun hw => ?_
    refine k_if hf (fun hf => ?_) (fun hf => ?_)
    · exact k_rZ hw hf
    · exact k_rZ hw hf
def n_X9_isNever (F : Nat) (s : List Sh) (m : Mem) (p0 : Nat) (p1 : Int32) : Option (Int32 × Mem) := nb_X9_isNever_0 F s m p0 p1
theorem un_X9_isNever {F : Nat} {s : List Sh} {m m' : Mem} {p0 : Nat} {p1 : Int32} {r : Int32} (hw : GS s m) (o_p0 : ok s p0 9) (ex : n_X9_isNever F s m p0 p1 = some (r, m')) : J3 (m_X9_isNever F (bl s m) p0 p1) (r, bl s m') (GS s m') := u_X9_isNever_0 hw o_p0 ex
/-! FractionLift.never(III)I over the memory -/
def nb_X9_never_0 (F : Nat) (s : List Sh) (m : Mem) (v0 : Nat) (v1 : Int32) (v2 : Int32) (v3 : Int32) : Option (Int32 × Mem) := (m_X9_isModulus v1).bind fun x1 => (if x1 = 0 then (some ((-3 : Int32), m)) else (bind2 (n_X9_asksFloor F s m v0 v2 v3) fun x2 m3 => (if x2 = 0 then (some ((-3 : Int32), m3)) else (bind2 (n_X9_isNever F s m3 v0 v1) fun x4 m5 => (if x4 = 0 then (some ((0 : Int32), m5)) else (some ((1 : Int32), m5)))))))
set_option maxRecDepth 20000 in
theorem u_X9_never_0 {F : Nat} {s : List Sh} {m m' : Mem} {r : Int32} {v0 : Nat} {v1 : Int32} {v2 : Int32} {v3 : Int32} (hw : GS s m) (o_v0 : ok s v0 9) (hf : nb_X9_never_0 F s m v0 v1 v2 v3 = some (r, m')) : J3 (b_X9_never_0 F (bl s m) v0 v1 v2 v3) (r, bl s m') (GS s m') := by
  unfold nb_X9_never_0 at hf
  unfold b_X9_never_0
  refine k_pure hf fun x1 hf => ?_
  refine k_if hf (fun hf => ?_) (fun hf => ?_)
  · exact k_ret hw hf
  · refine k_cO (ok_o o_v0 (by decide)) ?_
    refine ob2 hf fun x2 m3 ex hf => ?_
    refine k_b2 (un_X9_asksFloor hw o_v0 ex) fun hw => ?_
    refine k_if hf (fun hf => ?_) (fun hf => ?_)
    · exact k_ret hw hf
    · refine k_cO (ok_o o_v0 (by decide)) ?_
      refine ob2 hf fun x4 m5 ex hf => ?_
      refine k_b2 (un_X9_isNever hw o_v0 ex) fun hw => ?_
      refine k_if hf (fun hf => ?_) (fun hf => ?_)
      · exact k_ret hw hf
      · exact k_ret hw hf
def n_X9_never (F : Nat) (s : List Sh) (m : Mem) (p0 : Nat) (p1 : Int32) (p2 : Int32) (p3 : Int32) : Option (Int32 × Mem) := nb_X9_never_0 F s m p0 p1 p2 p3
theorem un_X9_never {F : Nat} {s : List Sh} {m m' : Mem} {p0 : Nat} {p1 : Int32} {p2 : Int32} {p3 : Int32} {r : Int32} (hw : GS s m) (o_p0 : ok s p0 9) (ex : n_X9_never F s m p0 p1 p2 p3 = some (r, m')) : J3 (m_X9_never F (bl s m) p0 p1 p2 p3) (r, bl s m') (GS s m') := u_X9_never_0 hw o_p0 ex
/-! FractionLift.shown(II)I over the memory -/
def nb_X9_shown_14 (F : Nat) (s : List Sh) (nself9 : Mem → Nat → Int32 → Option (Int32 × Mem)) (m : Mem) (v0 : Nat) (v3 : Int32) : Option (Int32 × Mem) := if (30 : Int32) < v3 then (some ((-1 : Int32), m)) else (bind2 (n_X9_isNever F s m v0 v3) fun x1 m2 => (if x1 = 0 then (bindv (v3 + (1)) fun x3 => (nself9 m2 v0 x3)) else (some (v3, m2))))
set_option maxRecDepth 20000 in
theorem ub_X9_shown_14 {F : Nat} {s : List Sh} {self9 : PH → Nat → Int32 → Option (Int32 × PH)} {nself9 : Mem → Nat → Int32 → Option (Int32 × Mem)} {m m' : Mem} {r : Int32} {v0 : Nat} {v3 : Int32} (hw : GS s m) (o_v0 : ok s v0 9) (ih9 : ∀ (m : Mem) (v0 : Nat) (v3 : Int32), GS s m → ok s v0 9 → nself9 m v0 v3 = some (r, m') → J3 (self9 (bl s m) v0 v3) (r, bl s m') (GS s m')) (hf : nb_X9_shown_14 F s nself9 m v0 v3 = some (r, m')) : J3 (b_X9_shown_14 F self9 (bl s m) v0 v3) (r, bl s m') (GS s m') := by
  unfold nb_X9_shown_14 at hf
  unfold b_X9_shown_14
  refine k_if hf (fun hf => ?_) (fun hf => ?_)
  · exact k_ret hw hf
  · refine k_cO (ok_o o_v0 (by decide)) ?_
    refine ob2 hf fun x1 m2 ex hf => ?_
    refine k_b2 (un_X9_isNever hw o_v0 ex) fun hw => ?_
    refine k_if hf (fun hf => ?_) (fun hf => ?_)
    · refine k_bv hf fun x3 hf => ?_
      exact ih9 _ _ _ hw o_v0 hf
    · exact k_ret hw hf
def nl_X9_shown_14 (F : Nat) (s : List Sh) : Nat → Mem → Nat → Int32 → Option (Int32 × Mem)
  | 0 => fun _ _ _ => none
  | n + 1 => fun m v0 v3 => nb_X9_shown_14 F s (nl_X9_shown_14 F s n) m v0 v3
theorem ul_X9_shown_14 {F : Nat} {s : List Sh} {m' : Mem} {r : Int32} (n : Nat) : ∀ (m : Mem) (v0 : Nat) (v3 : Int32), GS s m → ok s v0 9 → nl_X9_shown_14 F s n m v0 v3 = some (r, m') → J3 (l_X9_shown_14 F n (bl s m) v0 v3) (r, bl s m') (GS s m') := by
  induction n with
  | zero => intro m v0 v3 hw o_v0 hf; cases hf
  | succ n ih => intro m v0 v3 hw o_v0 hf; exact ub_X9_shown_14 (F := F) hw o_v0 ih hf
def nb_X9_shown_0 (F : Nat) (s : List Sh) (m : Mem) (v0 : Nat) (v1 : Int32) (v2 : Int32) : Option (Int32 × Mem) := bind2 (n_X9_asksFloor F s m v0 v1 v2) fun x1 m2 => (if x1 = 0 then (some ((-3 : Int32), m2)) else (nl_X9_shown_14 F s F m2 v0 (2 : Int32)))
set_option maxRecDepth 20000 in
theorem u_X9_shown_0 {F : Nat} {s : List Sh} {m m' : Mem} {r : Int32} {v0 : Nat} {v1 : Int32} {v2 : Int32} (hw : GS s m) (o_v0 : ok s v0 9) (hf : nb_X9_shown_0 F s m v0 v1 v2 = some (r, m')) : J3 (b_X9_shown_0 F (bl s m) v0 v1 v2) (r, bl s m') (GS s m') := by
  unfold nb_X9_shown_0 at hf
  unfold b_X9_shown_0
  refine k_cO (ok_o o_v0 (by decide)) ?_
  refine ob2 hf fun x1 m2 ex hf => ?_
  refine k_b2 (un_X9_asksFloor hw o_v0 ex) fun hw => ?_
  refine k_if hf (fun hf => ?_) (fun hf => ?_)
  · exact k_ret hw hf
  · exact ul_X9_shown_14 F _ _ _ hw o_v0 hf
def n_X9_shown (F : Nat) (s : List Sh) (m : Mem) (p0 : Nat) (p1 : Int32) (p2 : Int32) : Option (Int32 × Mem) := nb_X9_shown_0 F s m p0 p1 p2
theorem un_X9_shown {F : Nat} {s : List Sh} {m m' : Mem} {p0 : Nat} {p1 : Int32} {p2 : Int32} {r : Int32} (hw : GS s m) (o_p0 : ok s p0 9) (ex : n_X9_shown F s m p0 p1 p2 = some (r, m')) : J3 (m_X9_shown F (bl s m) p0 p1 p2) (r, bl s m') (GS s m') := u_X9_shown_0 hw o_p0 ex
/-! FractionLift.rests(I)I over the memory -/
def nb_X9_rests_0 (F : Nat) (s : List Sh) (m : Mem) (v0 : Nat) (v1 : Int32) : Option (Int32 × Mem) := (m_X9_isModulus v1).bind fun x1 => (if x1 = 0 then (some ((-3 : Int32), m)) else (bind2 (n_X9_remaindersBy F s m v0 v1) fun x2 m3 => (some (x2, m3))))
set_option maxRecDepth 20000 in
theorem u_X9_rests_0 {F : Nat} {s : List Sh} {m m' : Mem} {r : Int32} {v0 : Nat} {v1 : Int32} (hw : GS s m) (o_v0 : ok s v0 9) (hf : nb_X9_rests_0 F s m v0 v1 = some (r, m')) : J3 (b_X9_rests_0 F (bl s m) v0 v1) (r, bl s m') (GS s m') := by
  unfold nb_X9_rests_0 at hf
  unfold b_X9_rests_0
  refine k_pure hf fun x1 hf => ?_
  refine k_if hf (fun hf => ?_) (fun hf => ?_)
  · exact k_ret hw hf
  · refine k_cO (ok_o o_v0 (by decide)) ?_
    refine ob2 hf fun x2 m3 ex hf => ?_
    refine k_b2 (un_X9_remaindersBy hw o_v0 ex) fun hw => ?_
    exact k_ret hw hf
def n_X9_rests (F : Nat) (s : List Sh) (m : Mem) (p0 : Nat) (p1 : Int32) : Option (Int32 × Mem) := nb_X9_rests_0 F s m p0 p1
theorem un_X9_rests {F : Nat} {s : List Sh} {m m' : Mem} {p0 : Nat} {p1 : Int32} {r : Int32} (hw : GS s m) (o_p0 : ok s p0 9) (ex : n_X9_rests F s m p0 p1 = some (r, m')) : J3 (m_X9_rests F (bl s m) p0 p1) (r, bl s m') (GS s m') := u_X9_rests_0 hw o_p0 ex
/-! FractionLift.layTerms(JJ)I over the memory -/
def nb_X9_layTerms_12 (F : Nat) (s : List Sh) (nself8 : Mem → Nat → Int64 → Int64 → Int32 → Int32 → Option (Int32 × Mem)) (m : Mem) (v0 : Nat) (v5 : Int64) (v7 : Int64) (v9 : Int32) (v10 : Int32) : Option (Int32 × Mem) := (m.2.2 v0 14).bind fun a1 => (if ((Int32.ofNat (ln s a1))) ≤ v10 then (some (v9, m)) else (if v7 = (0 : Int64) then (some (v9, m)) else ((m.2.2 v0 14).bind fun a2 => (if v7 = 0 then none else ((stL s m a2 v10 (v5 / v7)).bind fun m3 => (if v7 = 0 then none else (bindv (remL v5 v7) fun x4 => (bindv (v9 + (1)) fun x5 => (bindv (v10 + (1)) fun x6 => (nself8 m3 v0 v7 x4 x5 x6))))))))))
set_option maxRecDepth 20000 in
theorem ub_X9_layTerms_12 {F : Nat} {s : List Sh} {self8 : PH → Nat → Int64 → Int64 → Int32 → Int32 → Option (Int32 × PH)} {nself8 : Mem → Nat → Int64 → Int64 → Int32 → Int32 → Option (Int32 × Mem)} {m m' : Mem} {r : Int32} {v0 : Nat} {v5 : Int64} {v7 : Int64} {v9 : Int32} {v10 : Int32} (hw : GS s m) (o_v0 : ok s v0 9) (ih8 : ∀ (m : Mem) (v0 : Nat) (v5 : Int64) (v7 : Int64) (v9 : Int32) (v10 : Int32), GS s m → ok s v0 9 → nself8 m v0 v5 v7 v9 v10 = some (r, m') → J3 (self8 (bl s m) v0 v5 v7 v9 v10) (r, bl s m') (GS s m')) (hf : nb_X9_layTerms_12 F s nself8 m v0 v5 v7 v9 v10 = some (r, m')) : J3 (b_X9_layTerms_12 F self8 (bl s m) v0 v5 v7 v9 v10) (r, bl s m') (GS s m') := by
  unfold nb_X9_layTerms_12 at hf
  unfold b_X9_layTerms_12
  refine k_gR hw (ok_o o_v0 (by decide)) rfl hf fun a1 o_a1 hf => ?_
  refine k_len (t := 1) (by decide) (ka rfl o_a1) ?_
  refine k_if hf (fun hf => ?_) (fun hf => ?_)
  · exact k_ret hw hf
  · refine k_if hf (fun hf => ?_) (fun hf => ?_)
    · exact k_ret hw hf
    · refine k_gR hw (ok_o o_v0 (by decide)) rfl hf fun a2 o_a2 hf => ?_
      refine k_if hf (fun hf => by cases hf) (fun hf => ?_)
      refine k_sL hw (ka rfl o_a2) hf fun m3 hw hf => ?_
      refine k_if hf (fun hf => by cases hf) (fun hf => ?_)
      refine k_bv hf fun x4 hf => ?_
      refine k_bv hf fun x5 hf => ?_
      refine k_bv hf fun x6 hf => ?_
      exact ih8 _ _ _ _ _ _ hw o_v0 hf
def nl_X9_layTerms_12 (F : Nat) (s : List Sh) : Nat → Mem → Nat → Int64 → Int64 → Int32 → Int32 → Option (Int32 × Mem)
  | 0 => fun _ _ _ _ _ _ => none
  | n + 1 => fun m v0 v5 v7 v9 v10 => nb_X9_layTerms_12 F s (nl_X9_layTerms_12 F s n) m v0 v5 v7 v9 v10
theorem ul_X9_layTerms_12 {F : Nat} {s : List Sh} {m' : Mem} {r : Int32} (n : Nat) : ∀ (m : Mem) (v0 : Nat) (v5 : Int64) (v7 : Int64) (v9 : Int32) (v10 : Int32), GS s m → ok s v0 9 → nl_X9_layTerms_12 F s n m v0 v5 v7 v9 v10 = some (r, m') → J3 (l_X9_layTerms_12 F n (bl s m) v0 v5 v7 v9 v10) (r, bl s m') (GS s m') := by
  induction n with
  | zero => intro m v0 v5 v7 v9 v10 hw o_v0 hf; cases hf
  | succ n ih => intro m v0 v5 v7 v9 v10 hw o_v0 hf; exact ub_X9_layTerms_12 (F := F) hw o_v0 ih hf
def nb_X9_layTerms_0 (F : Nat) (s : List Sh) (m : Mem) (v0 : Nat) (v1 : Int64) (v3 : Int64) : Option (Int32 × Mem) := nl_X9_layTerms_12 F s F m v0 v1 v3 (0 : Int32) (0 : Int32)
set_option maxRecDepth 20000 in
theorem u_X9_layTerms_0 {F : Nat} {s : List Sh} {m m' : Mem} {r : Int32} {v0 : Nat} {v1 : Int64} {v3 : Int64} (hw : GS s m) (o_v0 : ok s v0 9) (hf : nb_X9_layTerms_0 F s m v0 v1 v3 = some (r, m')) : J3 (b_X9_layTerms_0 F (bl s m) v0 v1 v3) (r, bl s m') (GS s m') := by
  unfold nb_X9_layTerms_0 at hf
  unfold b_X9_layTerms_0
  exact ul_X9_layTerms_12 F _ _ _ _ _ _ hw o_v0 hf
def n_X9_layTerms (F : Nat) (s : List Sh) (m : Mem) (p0 : Nat) (p1 : Int64) (p3 : Int64) : Option (Int32 × Mem) := nb_X9_layTerms_0 F s m p0 p1 p3
theorem un_X9_layTerms {F : Nat} {s : List Sh} {m m' : Mem} {p0 : Nat} {p1 : Int64} {p3 : Int64} {r : Int32} (hw : GS s m) (o_p0 : ok s p0 9) (ex : n_X9_layTerms F s m p0 p1 p3 = some (r, m')) : J3 (m_X9_layTerms F (bl s m) p0 p1 p3) (r, bl s m') (GS s m') := u_X9_layTerms_0 hw o_p0 ex
/-! FractionLift.address(III)I over the memory -/
def nb_X9_address_0 (F : Nat) (s : List Sh) (m : Mem) (v0 : Nat) (v1 : Int32) (v2 : Int32) (v3 : Int32) : Option (Int32 × Mem) := bind2 (n_X9_asksFloor F s m v0 v1 v2) fun x1 m2 => (if x1 = 0 then (some ((-3 : Int32), m2)) else ((m2.2.2 v0 12).bind fun a3 => ((m2.2.2 v0 12).bind fun a4 => (bind2 (n_X9_layTerms F s m2 v0 (m2.2.1 a3 0) (m2.2.1 a4 1)) fun x5 m6 => (if v3 = (-1 : Int32) then (some (x5, m6)) else (if v3 < 0 then (some ((-1 : Int32), m6)) else (if x5 ≤ v3 then (some ((-1 : Int32), m6)) else ((m6.2.2 v0 14).bind fun a7 => ((rdL s m6 a7 v3).bind fun x8 => (some ((Int64.toInt32 x8), m6)))))))))))
set_option maxRecDepth 20000 in
theorem u_X9_address_0 {F : Nat} {s : List Sh} {m m' : Mem} {r : Int32} {v0 : Nat} {v1 : Int32} {v2 : Int32} {v3 : Int32} (hw : GS s m) (o_v0 : ok s v0 9) (hf : nb_X9_address_0 F s m v0 v1 v2 v3 = some (r, m')) : J3 (b_X9_address_0 F (bl s m) v0 v1 v2 v3) (r, bl s m') (GS s m') := by
  unfold nb_X9_address_0 at hf
  unfold b_X9_address_0
  refine k_cO (ok_o o_v0 (by decide)) ?_
  refine ob2 hf fun x1 m2 ex hf => ?_
  refine k_b2 (un_X9_asksFloor hw o_v0 ex) fun hw => ?_
  refine k_if hf (fun hf => ?_) (fun hf => ?_)
  · exact k_ret hw hf
  · refine k_gR hw (ok_o o_v0 (by decide)) rfl hf fun a3 o_a3 hf => ?_
    refine k_gL (ok_o o_a3 (by decide)) rfl ?_
    refine k_gR hw (ok_o o_v0 (by decide)) rfl hf fun a4 o_a4 hf => ?_
    refine k_gL (ok_o o_a4 (by decide)) rfl ?_
    refine k_cO (ok_o o_v0 (by decide)) ?_
    refine ob2 hf fun x5 m6 ex hf => ?_
    refine k_b2 (un_X9_layTerms hw o_v0 ex) fun hw => ?_
    refine k_if hf (fun hf => ?_) (fun hf => ?_)
    · exact k_ret hw hf
    · refine k_if hf (fun hf => ?_) (fun hf => ?_)
      · exact k_ret hw hf
      · refine k_if hf (fun hf => ?_) (fun hf => ?_)
        · exact k_ret hw hf
        · refine k_gR hw (ok_o o_v0 (by decide)) rfl hf fun a7 o_a7 hf => ?_
          refine k_aL (ka rfl o_a7) hf fun x8 hf => ?_
          exact k_ret hw hf
def n_X9_address (F : Nat) (s : List Sh) (m : Mem) (p0 : Nat) (p1 : Int32) (p2 : Int32) (p3 : Int32) : Option (Int32 × Mem) := nb_X9_address_0 F s m p0 p1 p2 p3
theorem un_X9_address {F : Nat} {s : List Sh} {m m' : Mem} {p0 : Nat} {p1 : Int32} {p2 : Int32} {p3 : Int32} {r : Int32} (hw : GS s m) (o_p0 : ok s p0 9) (ex : n_X9_address F s m p0 p1 p2 p3 = some (r, m')) : J3 (m_X9_address F (bl s m) p0 p1 p2 p3) (r, bl s m') (GS s m') := u_X9_address_0 hw o_p0 ex
/-! FractionLift.seekAbove(I)Z over the memory -/
def nb_X9_seekAbove_82 (F : Nat) (s : List Sh) (nself19 : Mem → Nat → Int32 → Int64 → Int64 → Int32 → Option (Int32 × Mem)) (m : Mem) (v0 : Nat) (v1 : Int32) (v2 : Int64) (v4 : Int64) (v6 : Int32) : Option (Int32 × Mem) := bindv (v6 + (1)) fun x1 => (nself19 m v0 v1 v2 v4 x1)
set_option maxRecDepth 20000 in
theorem u_X9_seekAbove_82 {F : Nat} {s : List Sh} {self19 : PH → Nat → Int32 → Int64 → Int64 → Int32 → Option (Int32 × PH)} {nself19 : Mem → Nat → Int32 → Int64 → Int64 → Int32 → Option (Int32 × Mem)} {m m' : Mem} {r : Int32} {v0 : Nat} {v1 : Int32} {v2 : Int64} {v4 : Int64} {v6 : Int32} (hw : GS s m) (o_v0 : ok s v0 9) (ih19 : ∀ (m : Mem) (v0 : Nat) (v1 : Int32) (v2 : Int64) (v4 : Int64) (v6 : Int32), GS s m → ok s v0 9 → nself19 m v0 v1 v2 v4 v6 = some (r, m') → J3 (self19 (bl s m) v0 v1 v2 v4 v6) (r, bl s m') (GS s m')) (hf : nb_X9_seekAbove_82 F s nself19 m v0 v1 v2 v4 v6 = some (r, m')) : J3 (b_X9_seekAbove_82 F self19 (bl s m) v0 v1 v2 v4 v6) (r, bl s m') (GS s m') := by
  unfold nb_X9_seekAbove_82 at hf
  unfold b_X9_seekAbove_82
  refine k_bv hf fun x1 hf => ?_
  exact ih19 _ _ _ _ _ _ hw o_v0 hf
def nb_X9_seekAbove_31 (F : Nat) (s : List Sh) (nself19 : Mem → Nat → Int32 → Int64 → Int64 → Int32 → Option (Int32 × Mem)) (m : Mem) (v0 : Nat) (v1 : Int32) (v2 : Int64) (v4 : Int64) (v6 : Int32) : Option (Int32 × Mem) := if v1 < v6 then ((m.2.2 v0 13).bind fun a1 => (bind2 (n_X2_put F s m a1 v2 v4) fun _ m3 => ((m3.2.2 v0 4).bind fun a4 => ((m3.2.2 v0 13).bind fun a5 => ((m3.2.2 v0 13).bind fun a6 => ((n_X0_isFloor s m3 a4 (m3.2.1 a5 0) (m3.2.1 a6 1)).bind fun x7 => (rZM x7 m3))))))) else ((m.2.2 v0 12).bind fun a8 => ((m.2.2 v0 12).bind fun a9 => (if (m.2.1 a9 1) = 0 then none else (bindv (((((((m.2.1 a8 0) * (Int32.toInt64 v6))) / (m.2.1 a9 1))) + (1 : Int64))) fun x10 => (if ((v2 * (Int32.toInt64 v6))) ≤ (x10 * v4) then (nb_X9_seekAbove_82 F s nself19 m v0 v1 v2 v4 v6) else (bindv (Int32.toInt64 v6) fun x11 => (nb_X9_seekAbove_82 F s nself19 m v0 v1 x10 x11 v6)))))))
set_option maxRecDepth 20000 in
theorem ub_X9_seekAbove_31 {F : Nat} {s : List Sh} {self19 : PH → Nat → Int32 → Int64 → Int64 → Int32 → Option (Int32 × PH)} {nself19 : Mem → Nat → Int32 → Int64 → Int64 → Int32 → Option (Int32 × Mem)} {m m' : Mem} {r : Int32} {v0 : Nat} {v1 : Int32} {v2 : Int64} {v4 : Int64} {v6 : Int32} (hw : GS s m) (o_v0 : ok s v0 9) (ih19 : ∀ (m : Mem) (v0 : Nat) (v1 : Int32) (v2 : Int64) (v4 : Int64) (v6 : Int32), GS s m → ok s v0 9 → nself19 m v0 v1 v2 v4 v6 = some (r, m') → J3 (self19 (bl s m) v0 v1 v2 v4 v6) (r, bl s m') (GS s m')) (hf : nb_X9_seekAbove_31 F s nself19 m v0 v1 v2 v4 v6 = some (r, m')) : J3 (b_X9_seekAbove_31 F self19 (bl s m) v0 v1 v2 v4 v6) (r, bl s m') (GS s m') := by
  unfold nb_X9_seekAbove_31 at hf
  unfold b_X9_seekAbove_31
  refine k_if hf (fun hf => ?_) (fun hf => ?_)
  · refine k_gR hw (ok_o o_v0 (by decide)) rfl hf fun a1 o_a1 hf => ?_
    refine k_cO (ok_o o_a1 (by decide)) ?_
    refine ob2 hf fun u m3 ex hf => ?_
    refine k_b2 (un_X2_put hw o_a1 ex) fun hw => ?_
    refine k_gR hw (ok_o o_v0 (by decide)) rfl hf fun a4 o_a4 hf => ?_
    refine k_gR hw (ok_o o_v0 (by decide)) rfl hf fun a5 o_a5 hf => ?_
    refine k_gL (ok_o o_a5 (by decide)) rfl ?_
    refine k_gR hw (ok_o o_v0 (by decide)) rfl hf fun a6 o_a6 hf => ?_
    refine k_gL (ok_o o_a6 (by decide)) rfl ?_
    refine k_cO (ok_o o_a4 (by decide)) ?_
    refine ob hf fun x7 ex hf => ?_
    refine k_b1 (un_X0_isFloor hw o_a4 ex) ?_
    exact k_rZ hw hf
  · refine k_gR hw (ok_o o_v0 (by decide)) rfl hf fun a8 o_a8 hf => ?_
    refine k_gL (ok_o o_a8 (by decide)) rfl ?_
    refine k_gR hw (ok_o o_v0 (by decide)) rfl hf fun a9 o_a9 hf => ?_
    refine k_gL (ok_o o_a9 (by decide)) rfl ?_
    refine k_if hf (fun hf => by cases hf) (fun hf => ?_)
    refine k_bv hf fun x10 hf => ?_
    refine k_if hf (fun hf => ?_) (fun hf => ?_)
    · exact u_X9_seekAbove_82 hw o_v0 ih19 hf
    · refine k_bv hf fun x11 hf => ?_
      exact u_X9_seekAbove_82 hw o_v0 ih19 hf
def nl_X9_seekAbove_31 (F : Nat) (s : List Sh) : Nat → Mem → Nat → Int32 → Int64 → Int64 → Int32 → Option (Int32 × Mem)
  | 0 => fun _ _ _ _ _ _ => none
  | n + 1 => fun m v0 v1 v2 v4 v6 => nb_X9_seekAbove_31 F s (nl_X9_seekAbove_31 F s n) m v0 v1 v2 v4 v6
theorem ul_X9_seekAbove_31 {F : Nat} {s : List Sh} {m' : Mem} {r : Int32} (n : Nat) : ∀ (m : Mem) (v0 : Nat) (v1 : Int32) (v2 : Int64) (v4 : Int64) (v6 : Int32), GS s m → ok s v0 9 → nl_X9_seekAbove_31 F s n m v0 v1 v2 v4 v6 = some (r, m') → J3 (l_X9_seekAbove_31 F n (bl s m) v0 v1 v2 v4 v6) (r, bl s m') (GS s m') := by
  induction n with
  | zero => intro m v0 v1 v2 v4 v6 hw o_v0 hf; cases hf
  | succ n ih => intro m v0 v1 v2 v4 v6 hw o_v0 hf; exact ub_X9_seekAbove_31 (F := F) hw o_v0 ih hf
def nb_X9_seekAbove_0 (F : Nat) (s : List Sh) (m : Mem) (v0 : Nat) (v1 : Int32) : Option (Int32 × Mem) := (m.2.2 v0 4).bind fun a1 => (bindv ((Int32.toInt64 (((m.1 a1 0) + (1 : Int32))))) fun x2 => ((m.2.2 v0 12).bind fun a3 => (if (1 : Int64) ≤ (m.2.1 a3 1) then (nl_X9_seekAbove_31 F s F m v0 v1 x2 (1 : Int64) (1 : Int32)) else (rZM (0 : Int32) m))))
set_option maxRecDepth 20000 in
theorem u_X9_seekAbove_0 {F : Nat} {s : List Sh} {m m' : Mem} {r : Int32} {v0 : Nat} {v1 : Int32} (hw : GS s m) (o_v0 : ok s v0 9) (hf : nb_X9_seekAbove_0 F s m v0 v1 = some (r, m')) : J3 (b_X9_seekAbove_0 F (bl s m) v0 v1) (r, bl s m') (GS s m') := by
  unfold nb_X9_seekAbove_0 at hf
  unfold b_X9_seekAbove_0
  refine k_gR hw (ok_o o_v0 (by decide)) rfl hf fun a1 o_a1 hf => ?_
  refine k_gI (ok_o o_a1 (by decide)) rfl ?_
  refine k_bv hf fun x2 hf => ?_
  refine k_gR hw (ok_o o_v0 (by decide)) rfl hf fun a3 o_a3 hf => ?_
  refine k_gL (ok_o o_a3 (by decide)) rfl ?_
  refine k_if hf (fun hf => ?_) (fun hf => ?_)
  · exact ul_X9_seekAbove_31 F _ _ _ _ _ _ hw o_v0 hf
  · exact k_rZ hw hf
def n_X9_seekAbove (F : Nat) (s : List Sh) (m : Mem) (p0 : Nat) (p1 : Int32) : Option (Int32 × Mem) := nb_X9_seekAbove_0 F s m p0 p1
theorem un_X9_seekAbove {F : Nat} {s : List Sh} {m m' : Mem} {p0 : Nat} {p1 : Int32} {r : Int32} (hw : GS s m) (o_p0 : ok s p0 9) (ex : n_X9_seekAbove F s m p0 p1 = some (r, m')) : J3 (m_X9_seekAbove F (bl s m) p0 p1) (r, bl s m') (GS s m') := u_X9_seekAbove_0 hw o_p0 ex
/-! FractionLift.seekBelow(I)Z over the memory -/
def nb_X9_seekBelow_85 (F : Nat) (s : List Sh) (nself14 : Mem → Nat → Int32 → Int64 → Int64 → Int32 → Option (Int32 × Mem)) (m : Mem) (v0 : Nat) (v1 : Int32) (v2 : Int64) (v4 : Int64) (v6 : Int32) : Option (Int32 × Mem) := bindv (v6 + (1)) fun x1 => (nself14 m v0 v1 v2 v4 x1)
set_option maxRecDepth 20000 in
theorem u_X9_seekBelow_85 {F : Nat} {s : List Sh} {self14 : PH → Nat → Int32 → Int64 → Int64 → Int32 → Option (Int32 × PH)} {nself14 : Mem → Nat → Int32 → Int64 → Int64 → Int32 → Option (Int32 × Mem)} {m m' : Mem} {r : Int32} {v0 : Nat} {v1 : Int32} {v2 : Int64} {v4 : Int64} {v6 : Int32} (hw : GS s m) (o_v0 : ok s v0 9) (ih14 : ∀ (m : Mem) (v0 : Nat) (v1 : Int32) (v2 : Int64) (v4 : Int64) (v6 : Int32), GS s m → ok s v0 9 → nself14 m v0 v1 v2 v4 v6 = some (r, m') → J3 (self14 (bl s m) v0 v1 v2 v4 v6) (r, bl s m') (GS s m')) (hf : nb_X9_seekBelow_85 F s nself14 m v0 v1 v2 v4 v6 = some (r, m')) : J3 (b_X9_seekBelow_85 F self14 (bl s m) v0 v1 v2 v4 v6) (r, bl s m') (GS s m') := by
  unfold nb_X9_seekBelow_85 at hf
  unfold b_X9_seekBelow_85
  refine k_bv hf fun x1 hf => ?_
  exact ih14 _ _ _ _ _ _ hw o_v0 hf
def nb_X9_seekBelow_24 (F : Nat) (s : List Sh) (nself14 : Mem → Nat → Int32 → Int64 → Int64 → Int32 → Option (Int32 × Mem)) (m : Mem) (v0 : Nat) (v1 : Int32) (v2 : Int64) (v4 : Int64) (v6 : Int32) : Option (Int32 × Mem) := if v1 < v6 then ((m.2.2 v0 13).bind fun a1 => (bind2 (n_X2_put F s m a1 v2 v4) fun _ m3 => ((m3.2.2 v0 4).bind fun a4 => ((m3.2.2 v0 13).bind fun a5 => ((m3.2.2 v0 13).bind fun a6 => ((n_X0_isFloor s m3 a4 (m3.2.1 a5 0) (m3.2.1 a6 1)).bind fun x7 => (rZM x7 m3))))))) else ((m.2.2 v0 12).bind fun a8 => ((m.2.2 v0 12).bind fun a9 => ((m.2.2 v0 12).bind fun a10 => (if (m.2.1 a10 1) = 0 then none else (bindv (((((((((((m.2.1 a8 0) * (Int32.toInt64 v6))) + (m.2.1 a9 1))) - (1 : Int64))) / (m.2.1 a10 1))) - (1 : Int64))) fun x11 => (if (x11 * v4) ≤ ((v2 * (Int32.toInt64 v6))) then (nb_X9_seekBelow_85 F s nself14 m v0 v1 v2 v4 v6) else (bindv (Int32.toInt64 v6) fun x12 => (nb_X9_seekBelow_85 F s nself14 m v0 v1 x11 x12 v6))))))))
set_option maxRecDepth 20000 in
theorem ub_X9_seekBelow_24 {F : Nat} {s : List Sh} {self14 : PH → Nat → Int32 → Int64 → Int64 → Int32 → Option (Int32 × PH)} {nself14 : Mem → Nat → Int32 → Int64 → Int64 → Int32 → Option (Int32 × Mem)} {m m' : Mem} {r : Int32} {v0 : Nat} {v1 : Int32} {v2 : Int64} {v4 : Int64} {v6 : Int32} (hw : GS s m) (o_v0 : ok s v0 9) (ih14 : ∀ (m : Mem) (v0 : Nat) (v1 : Int32) (v2 : Int64) (v4 : Int64) (v6 : Int32), GS s m → ok s v0 9 → nself14 m v0 v1 v2 v4 v6 = some (r, m') → J3 (self14 (bl s m) v0 v1 v2 v4 v6) (r, bl s m') (GS s m')) (hf : nb_X9_seekBelow_24 F s nself14 m v0 v1 v2 v4 v6 = some (r, m')) : J3 (b_X9_seekBelow_24 F self14 (bl s m) v0 v1 v2 v4 v6) (r, bl s m') (GS s m') := by
  unfold nb_X9_seekBelow_24 at hf
  unfold b_X9_seekBelow_24
  refine k_if hf (fun hf => ?_) (fun hf => ?_)
  · refine k_gR hw (ok_o o_v0 (by decide)) rfl hf fun a1 o_a1 hf => ?_
    refine k_cO (ok_o o_a1 (by decide)) ?_
    refine ob2 hf fun u m3 ex hf => ?_
    refine k_b2 (un_X2_put hw o_a1 ex) fun hw => ?_
    refine k_gR hw (ok_o o_v0 (by decide)) rfl hf fun a4 o_a4 hf => ?_
    refine k_gR hw (ok_o o_v0 (by decide)) rfl hf fun a5 o_a5 hf => ?_
    refine k_gL (ok_o o_a5 (by decide)) rfl ?_
    refine k_gR hw (ok_o o_v0 (by decide)) rfl hf fun a6 o_a6 hf => ?_
    refine k_gL (ok_o o_a6 (by decide)) rfl ?_
    refine k_cO (ok_o o_a4 (by decide)) ?_
    refine ob hf fun x7 ex hf => ?_
    refine k_b1 (un_X0_isFloor hw o_a4 ex) ?_
    exact k_rZ hw hf
  · refine k_gR hw (ok_o o_v0 (by decide)) rfl hf fun a8 o_a8 hf => ?_
    refine k_gL (ok_o o_a8 (by decide)) rfl ?_
    refine k_gR hw (ok_o o_v0 (by decide)) rfl hf fun a9 o_a9 hf => ?_
    refine k_gL (ok_o o_a9 (by decide)) rfl ?_
    refine k_gR hw (ok_o o_v0 (by decide)) rfl hf fun a10 o_a10 hf => ?_
    refine k_gL (ok_o o_a10 (by decide)) rfl ?_
    refine k_if hf (fun hf => by cases hf) (fun hf => ?_)
    refine k_bv hf fun x11 hf => ?_
    refine k_if hf (fun hf => ?_) (fun hf => ?_)
    · exact u_X9_seekBelow_85 hw o_v0 ih14 hf
    · refine k_bv hf fun x12 hf => ?_
      exact u_X9_seekBelow_85 hw o_v0 ih14 hf
def nl_X9_seekBelow_24 (F : Nat) (s : List Sh) : Nat → Mem → Nat → Int32 → Int64 → Int64 → Int32 → Option (Int32 × Mem)
  | 0 => fun _ _ _ _ _ _ => none
  | n + 1 => fun m v0 v1 v2 v4 v6 => nb_X9_seekBelow_24 F s (nl_X9_seekBelow_24 F s n) m v0 v1 v2 v4 v6
theorem ul_X9_seekBelow_24 {F : Nat} {s : List Sh} {m' : Mem} {r : Int32} (n : Nat) : ∀ (m : Mem) (v0 : Nat) (v1 : Int32) (v2 : Int64) (v4 : Int64) (v6 : Int32), GS s m → ok s v0 9 → nl_X9_seekBelow_24 F s n m v0 v1 v2 v4 v6 = some (r, m') → J3 (l_X9_seekBelow_24 F n (bl s m) v0 v1 v2 v4 v6) (r, bl s m') (GS s m') := by
  induction n with
  | zero => intro m v0 v1 v2 v4 v6 hw o_v0 hf; cases hf
  | succ n ih => intro m v0 v1 v2 v4 v6 hw o_v0 hf; exact ub_X9_seekBelow_24 (F := F) hw o_v0 ih hf
def nb_X9_seekBelow_0 (F : Nat) (s : List Sh) (m : Mem) (v0 : Nat) (v1 : Int32) : Option (Int32 × Mem) := (m.2.2 v0 12).bind fun a1 => (if (1 : Int64) ≤ (m.2.1 a1 1) then (nl_X9_seekBelow_24 F s F m v0 v1 (-1 : Int64) (1 : Int64) (1 : Int32)) else (rZM (0 : Int32) m))
set_option maxRecDepth 20000 in
theorem u_X9_seekBelow_0 {F : Nat} {s : List Sh} {m m' : Mem} {r : Int32} {v0 : Nat} {v1 : Int32} (hw : GS s m) (o_v0 : ok s v0 9) (hf : nb_X9_seekBelow_0 F s m v0 v1 = some (r, m')) : J3 (b_X9_seekBelow_0 F (bl s m) v0 v1) (r, bl s m') (GS s m') := by
  unfold nb_X9_seekBelow_0 at hf
  unfold b_X9_seekBelow_0
  refine k_gR hw (ok_o o_v0 (by decide)) rfl hf fun a1 o_a1 hf => ?_
  refine k_gL (ok_o o_a1 (by decide)) rfl ?_
  refine k_if hf (fun hf => ?_) (fun hf => ?_)
  · exact ul_X9_seekBelow_24 F _ _ _ _ _ _ hw o_v0 hf
  · exact k_rZ hw hf
def n_X9_seekBelow (F : Nat) (s : List Sh) (m : Mem) (p0 : Nat) (p1 : Int32) : Option (Int32 × Mem) := nb_X9_seekBelow_0 F s m p0 p1
theorem un_X9_seekBelow {F : Nat} {s : List Sh} {m m' : Mem} {p0 : Nat} {p1 : Int32} {r : Int32} (hw : GS s m) (o_p0 : ok s p0 9) (ex : n_X9_seekBelow F s m p0 p1 = some (r, m')) : J3 (m_X9_seekBelow F (bl s m) p0 p1) (r, bl s m') (GS s m') := u_X9_seekBelow_0 hw o_p0 ex
/-! FractionLift.neighbour(IIIZI)I over the memory -/
def nb_X9_neighbour_56 (F : Nat) (s : List Sh) (m : Mem) (v0 : Nat) (v5 : Int32) (s0 : Int32) : Option (Int32 × Mem) := if s0 = 0 then (some ((-1 : Int32), m)) else ((m.2.2 v0 13).bind fun a1 => ((n_X2_part s m a1 v5).bind fun x2 => (some ((Int64.toInt32 x2), m))))
set_option maxRecDepth 20000 in
theorem u_X9_neighbour_56 {F : Nat} {s : List Sh} {m m' : Mem} {r : Int32} {v0 : Nat} {v5 : Int32} {s0 : Int32} (hw : GS s m) (o_v0 : ok s v0 9) (hf : nb_X9_neighbour_56 F s m v0 v5 s0 = some (r, m')) : J3 (b_X9_neighbour_56 F (bl s m) v0 v5 s0) (r, bl s m') (GS s m') := by
  unfold nb_X9_neighbour_56 at hf
  unfold b_X9_neighbour_56
  refine k_if hf (fun hf => ?_) (fun hf => ?_)
  · exact k_ret hw hf
  · refine k_gR hw (ok_o o_v0 (by decide)) rfl hf fun a1 o_a1 hf => ?_
    refine k_cO (ok_o o_a1 (by decide)) ?_
    refine ob hf fun x2 ex hf => ?_
    refine k_b1 (un_X2_part hw o_a1 ex) ?_
    exact k_ret hw hf
def nb_X9_neighbour_0 (F : Nat) (s : List Sh) (m : Mem) (v0 : Nat) (v1 : Int32) (v2 : Int32) (v3 : Int32) (v4 : Int32) (v5 : Int32) : Option (Int32 × Mem) := if v5 < 0 then (some ((-2 : Int32), m)) else (if v5 ≤ (1 : Int32) then (if v3 < (1 : Int32) then (some ((-3 : Int32), m)) else (if (1000 : Int32) < v3 then (some ((-3 : Int32), m)) else (bind2 (n_X9_asksFloor F s m v0 v1 v2) fun x1 m2 => (if x1 = 0 then (some ((-3 : Int32), m2)) else (if v4 = 0 then (bind2 (n_X9_seekBelow F s m2 v0 v3) fun x3 m4 => (nb_X9_neighbour_56 F s m4 v0 v5 x3)) else (bind2 (n_X9_seekAbove F s m2 v0 v3) fun x5 m6 => (nb_X9_neighbour_56 F s m6 v0 v5 x5))))))) else (some ((-2 : Int32), m)))
set_option maxRecDepth 20000 in
theorem u_X9_neighbour_0 {F : Nat} {s : List Sh} {m m' : Mem} {r : Int32} {v0 : Nat} {v1 : Int32} {v2 : Int32} {v3 : Int32} {v4 : Int32} {v5 : Int32} (hw : GS s m) (o_v0 : ok s v0 9) (hf : nb_X9_neighbour_0 F s m v0 v1 v2 v3 v4 v5 = some (r, m')) : J3 (b_X9_neighbour_0 F (bl s m) v0 v1 v2 v3 v4 v5) (r, bl s m') (GS s m') := by
  unfold nb_X9_neighbour_0 at hf
  unfold b_X9_neighbour_0
  refine k_if hf (fun hf => ?_) (fun hf => ?_)
  · exact k_ret hw hf
  · refine k_if hf (fun hf => ?_) (fun hf => ?_)
    · refine k_if hf (fun hf => ?_) (fun hf => ?_)
      · exact k_ret hw hf
      · refine k_if hf (fun hf => ?_) (fun hf => ?_)
        · exact k_ret hw hf
        · refine k_cO (ok_o o_v0 (by decide)) ?_
          refine ob2 hf fun x1 m2 ex hf => ?_
          refine k_b2 (un_X9_asksFloor hw o_v0 ex) fun hw => ?_
          refine k_if hf (fun hf => ?_) (fun hf => ?_)
          · exact k_ret hw hf
          · refine k_if hf (fun hf => ?_) (fun hf => ?_)
            · refine k_cO (ok_o o_v0 (by decide)) ?_
              refine ob2 hf fun x3 m4 ex hf => ?_
              refine k_b2 (un_X9_seekBelow hw o_v0 ex) fun hw => ?_
              exact u_X9_neighbour_56 hw o_v0 hf
            · refine k_cO (ok_o o_v0 (by decide)) ?_
              refine ob2 hf fun x5 m6 ex hf => ?_
              refine k_b2 (un_X9_seekAbove hw o_v0 ex) fun hw => ?_
              exact u_X9_neighbour_56 hw o_v0 hf
    · exact k_ret hw hf
def n_X9_neighbour (F : Nat) (s : List Sh) (m : Mem) (p0 : Nat) (p1 : Int32) (p2 : Int32) (p3 : Int32) (p4 : Int32) (p5 : Int32) : Option (Int32 × Mem) := nb_X9_neighbour_0 F s m p0 p1 p2 p3 p4 p5
theorem un_X9_neighbour {F : Nat} {s : List Sh} {m m' : Mem} {p0 : Nat} {p1 : Int32} {p2 : Int32} {p3 : Int32} {p4 : Int32} {p5 : Int32} {r : Int32} (hw : GS s m) (o_p0 : ok s p0 9) (ex : n_X9_neighbour F s m p0 p1 p2 p3 p4 p5 = some (r, m')) : J3 (m_X9_neighbour F (bl s m) p0 p1 p2 p3 p4 p5) (r, bl s m') (GS s m') := u_X9_neighbour_0 hw o_p0 ex
/-! FractionLift.seekSimplest(JJJJ)V over the memory -/
def nb_X9_seekSimplest_173 (F : Nat) (s : List Sh) (m : Mem) (v0 : Nat) (v17 : Int64) (v21 : Int64) : Option (Unit × Mem) := (m.2.2 v0 12).bind fun a1 => (bind2 (n_X2_put F s m a1 v17 v21) fun _ m3 => (some ((), m3)))
set_option maxRecDepth 20000 in
theorem u_X9_seekSimplest_173 {F : Nat} {s : List Sh} {m m' : Mem} {r : Unit} {v0 : Nat} {v17 : Int64} {v21 : Int64} (hw : GS s m) (o_v0 : ok s v0 9) (hf : nb_X9_seekSimplest_173 F s m v0 v17 v21 = some (r, m')) : J3 (b_X9_seekSimplest_173 F (bl s m) v0 v17 v21) (r, bl s m') (GS s m') := by
  unfold nb_X9_seekSimplest_173 at hf
  unfold b_X9_seekSimplest_173
  refine k_gR hw (ok_o o_v0 (by decide)) rfl hf fun a1 o_a1 hf => ?_
  refine k_cO (ok_o o_a1 (by decide)) ?_
  refine ob2 hf fun u m3 ex hf => ?_
  refine k_b2 (un_X2_put hw o_a1 ex) fun hw => ?_
  exact k_ret hw hf
def nb_X9_seekSimplest_85 (F : Nat) (s : List Sh) (nself18 : Mem → Nat → Int64 → Int64 → Int64 → Int64 → Int64 → Int64 → Int64 → Int64 → Int32 → Option (Unit × Mem)) (m : Mem) (v0 : Nat) (v9 : Int64) (v11 : Int64) (v13 : Int64) (v15 : Int64) (v17 : Int64) (v19 : Int64) (v21 : Int64) (v23 : Int64) (v25 : Int32) (v26 : Int64) (v28 : Int32) (s0 : Int64) : Option (Unit × Mem) := bindv (((s0 * v17) + v19)) fun x1 => (bindv (((s0 * v21) + v23)) fun x2 => (if v28 = 0 then (bindv ((v9 - (v26 * v11))) fun x3 => (bindv ((v13 - (v26 * v15))) fun x4 => (bindv (v25 + (1)) fun x5 => (nself18 m v0 v15 x4 v11 x3 x1 v17 x2 v21 x5)))) else (nb_X9_seekSimplest_173 F s m v0 x1 x2)))
set_option maxRecDepth 20000 in
theorem u_X9_seekSimplest_85 {F : Nat} {s : List Sh} {self18 : PH → Nat → Int64 → Int64 → Int64 → Int64 → Int64 → Int64 → Int64 → Int64 → Int32 → Option (Unit × PH)} {nself18 : Mem → Nat → Int64 → Int64 → Int64 → Int64 → Int64 → Int64 → Int64 → Int64 → Int32 → Option (Unit × Mem)} {m m' : Mem} {r : Unit} {v0 : Nat} {v9 : Int64} {v11 : Int64} {v13 : Int64} {v15 : Int64} {v17 : Int64} {v19 : Int64} {v21 : Int64} {v23 : Int64} {v25 : Int32} {v26 : Int64} {v28 : Int32} {s0 : Int64} (hw : GS s m) (o_v0 : ok s v0 9) (ih18 : ∀ (m : Mem) (v0 : Nat) (v9 : Int64) (v11 : Int64) (v13 : Int64) (v15 : Int64) (v17 : Int64) (v19 : Int64) (v21 : Int64) (v23 : Int64) (v25 : Int32), GS s m → ok s v0 9 → nself18 m v0 v9 v11 v13 v15 v17 v19 v21 v23 v25 = some (r, m') → J3 (self18 (bl s m) v0 v9 v11 v13 v15 v17 v19 v21 v23 v25) (r, bl s m') (GS s m')) (hf : nb_X9_seekSimplest_85 F s nself18 m v0 v9 v11 v13 v15 v17 v19 v21 v23 v25 v26 v28 s0 = some (r, m')) : J3 (b_X9_seekSimplest_85 F self18 (bl s m) v0 v9 v11 v13 v15 v17 v19 v21 v23 v25 v26 v28 s0) (r, bl s m') (GS s m') := by
  unfold nb_X9_seekSimplest_85 at hf
  unfold b_X9_seekSimplest_85
  refine k_bv hf fun x1 hf => ?_
  refine k_bv hf fun x2 hf => ?_
  refine k_if hf (fun hf => ?_) (fun hf => ?_)
  · refine k_bv hf fun x3 hf => ?_
    refine k_bv hf fun x4 hf => ?_
    refine k_bv hf fun x5 hf => ?_
    exact ih18 _ _ _ _ _ _ _ _ _ _ _ hw o_v0 hf
  · exact u_X9_seekSimplest_173 hw o_v0 hf
def nb_X9_seekSimplest_69 (F : Nat) (s : List Sh) (nself18 : Mem → Nat → Int64 → Int64 → Int64 → Int64 → Int64 → Int64 → Int64 → Int64 → Int32 → Option (Unit × Mem)) (m : Mem) (v0 : Nat) (v9 : Int64) (v11 : Int64) (v13 : Int64) (v15 : Int64) (v17 : Int64) (v19 : Int64) (v21 : Int64) (v23 : Int64) (v25 : Int32) (v26 : Int64) (s0 : Int32) : Option (Unit × Mem) := if s0 = 0 then (nb_X9_seekSimplest_85 F s nself18 m v0 v9 v11 v13 v15 v17 v19 v21 v23 v25 v26 s0 v26) else (nb_X9_seekSimplest_85 F s nself18 m v0 v9 v11 v13 v15 v17 v19 v21 v23 v25 v26 s0 ((v26 + (1 : Int64))))
set_option maxRecDepth 20000 in
theorem u_X9_seekSimplest_69 {F : Nat} {s : List Sh} {self18 : PH → Nat → Int64 → Int64 → Int64 → Int64 → Int64 → Int64 → Int64 → Int64 → Int32 → Option (Unit × PH)} {nself18 : Mem → Nat → Int64 → Int64 → Int64 → Int64 → Int64 → Int64 → Int64 → Int64 → Int32 → Option (Unit × Mem)} {m m' : Mem} {r : Unit} {v0 : Nat} {v9 : Int64} {v11 : Int64} {v13 : Int64} {v15 : Int64} {v17 : Int64} {v19 : Int64} {v21 : Int64} {v23 : Int64} {v25 : Int32} {v26 : Int64} {s0 : Int32} (hw : GS s m) (o_v0 : ok s v0 9) (ih18 : ∀ (m : Mem) (v0 : Nat) (v9 : Int64) (v11 : Int64) (v13 : Int64) (v15 : Int64) (v17 : Int64) (v19 : Int64) (v21 : Int64) (v23 : Int64) (v25 : Int32), GS s m → ok s v0 9 → nself18 m v0 v9 v11 v13 v15 v17 v19 v21 v23 v25 = some (r, m') → J3 (self18 (bl s m) v0 v9 v11 v13 v15 v17 v19 v21 v23 v25) (r, bl s m') (GS s m')) (hf : nb_X9_seekSimplest_69 F s nself18 m v0 v9 v11 v13 v15 v17 v19 v21 v23 v25 v26 s0 = some (r, m')) : J3 (b_X9_seekSimplest_69 F self18 (bl s m) v0 v9 v11 v13 v15 v17 v19 v21 v23 v25 v26 s0) (r, bl s m') (GS s m') := by
  unfold nb_X9_seekSimplest_69 at hf
  unfold b_X9_seekSimplest_69
  refine k_if hf (fun hf => ?_) (fun hf => ?_)
  · exact u_X9_seekSimplest_85 hw o_v0 ih18 hf
  · exact u_X9_seekSimplest_85 hw o_v0 ih18 hf
def nb_X9_seekSimplest_29 (F : Nat) (s : List Sh) (nself18 : Mem → Nat → Int64 → Int64 → Int64 → Int64 → Int64 → Int64 → Int64 → Int64 → Int32 → Option (Unit × Mem)) (m : Mem) (v0 : Nat) (v9 : Int64) (v11 : Int64) (v13 : Int64) (v15 : Int64) (v17 : Int64) (v19 : Int64) (v21 : Int64) (v23 : Int64) (v25 : Int32) : Option (Unit × Mem) := if (128 : Int32) ≤ v25 then (nb_X9_seekSimplest_173 F s m v0 v17 v21) else (if v11 = (0 : Int64) then (nb_X9_seekSimplest_173 F s m v0 v17 v21) else (if v11 = 0 then none else (bindv (v9 / v11) fun x1 => (if v13 ≤ ((((x1 + (1 : Int64))) * v15)) then (nb_X9_seekSimplest_69 F s nself18 m v0 v9 v11 v13 v15 v17 v19 v21 v23 v25 x1 (0 : Int32)) else (nb_X9_seekSimplest_69 F s nself18 m v0 v9 v11 v13 v15 v17 v19 v21 v23 v25 x1 (1 : Int32))))))
set_option maxRecDepth 20000 in
theorem ub_X9_seekSimplest_29 {F : Nat} {s : List Sh} {self18 : PH → Nat → Int64 → Int64 → Int64 → Int64 → Int64 → Int64 → Int64 → Int64 → Int32 → Option (Unit × PH)} {nself18 : Mem → Nat → Int64 → Int64 → Int64 → Int64 → Int64 → Int64 → Int64 → Int64 → Int32 → Option (Unit × Mem)} {m m' : Mem} {r : Unit} {v0 : Nat} {v9 : Int64} {v11 : Int64} {v13 : Int64} {v15 : Int64} {v17 : Int64} {v19 : Int64} {v21 : Int64} {v23 : Int64} {v25 : Int32} (hw : GS s m) (o_v0 : ok s v0 9) (ih18 : ∀ (m : Mem) (v0 : Nat) (v9 : Int64) (v11 : Int64) (v13 : Int64) (v15 : Int64) (v17 : Int64) (v19 : Int64) (v21 : Int64) (v23 : Int64) (v25 : Int32), GS s m → ok s v0 9 → nself18 m v0 v9 v11 v13 v15 v17 v19 v21 v23 v25 = some (r, m') → J3 (self18 (bl s m) v0 v9 v11 v13 v15 v17 v19 v21 v23 v25) (r, bl s m') (GS s m')) (hf : nb_X9_seekSimplest_29 F s nself18 m v0 v9 v11 v13 v15 v17 v19 v21 v23 v25 = some (r, m')) : J3 (b_X9_seekSimplest_29 F self18 (bl s m) v0 v9 v11 v13 v15 v17 v19 v21 v23 v25) (r, bl s m') (GS s m') := by
  unfold nb_X9_seekSimplest_29 at hf
  unfold b_X9_seekSimplest_29
  refine k_if hf (fun hf => ?_) (fun hf => ?_)
  · exact u_X9_seekSimplest_173 hw o_v0 hf
  · refine k_if hf (fun hf => ?_) (fun hf => ?_)
    · exact u_X9_seekSimplest_173 hw o_v0 hf
    · refine k_if hf (fun hf => by cases hf) (fun hf => ?_)
      refine k_bv hf fun x1 hf => ?_
      refine k_if hf (fun hf => ?_) (fun hf => ?_)
      · exact u_X9_seekSimplest_69 hw o_v0 ih18 hf
      · exact u_X9_seekSimplest_69 hw o_v0 ih18 hf
def nl_X9_seekSimplest_29 (F : Nat) (s : List Sh) : Nat → Mem → Nat → Int64 → Int64 → Int64 → Int64 → Int64 → Int64 → Int64 → Int64 → Int32 → Option (Unit × Mem)
  | 0 => fun _ _ _ _ _ _ _ _ _ _ _ => none
  | n + 1 => fun m v0 v9 v11 v13 v15 v17 v19 v21 v23 v25 => nb_X9_seekSimplest_29 F s (nl_X9_seekSimplest_29 F s n) m v0 v9 v11 v13 v15 v17 v19 v21 v23 v25
theorem ul_X9_seekSimplest_29 {F : Nat} {s : List Sh} {m' : Mem} {r : Unit} (n : Nat) : ∀ (m : Mem) (v0 : Nat) (v9 : Int64) (v11 : Int64) (v13 : Int64) (v15 : Int64) (v17 : Int64) (v19 : Int64) (v21 : Int64) (v23 : Int64) (v25 : Int32), GS s m → ok s v0 9 → nl_X9_seekSimplest_29 F s n m v0 v9 v11 v13 v15 v17 v19 v21 v23 v25 = some (r, m') → J3 (l_X9_seekSimplest_29 F n (bl s m) v0 v9 v11 v13 v15 v17 v19 v21 v23 v25) (r, bl s m') (GS s m') := by
  induction n with
  | zero => intro m v0 v9 v11 v13 v15 v17 v19 v21 v23 v25 hw o_v0 hf; cases hf
  | succ n ih => intro m v0 v9 v11 v13 v15 v17 v19 v21 v23 v25 hw o_v0 hf; exact ub_X9_seekSimplest_29 (F := F) hw o_v0 ih hf
def nb_X9_seekSimplest_0 (F : Nat) (s : List Sh) (m : Mem) (v0 : Nat) (v1 : Int64) (v3 : Int64) (v5 : Int64) (v7 : Int64) : Option (Unit × Mem) := nl_X9_seekSimplest_29 F s F m v0 v1 v3 v5 v7 (1 : Int64) (0 : Int64) (0 : Int64) (1 : Int64) (0 : Int32)
set_option maxRecDepth 20000 in
theorem u_X9_seekSimplest_0 {F : Nat} {s : List Sh} {m m' : Mem} {r : Unit} {v0 : Nat} {v1 : Int64} {v3 : Int64} {v5 : Int64} {v7 : Int64} (hw : GS s m) (o_v0 : ok s v0 9) (hf : nb_X9_seekSimplest_0 F s m v0 v1 v3 v5 v7 = some (r, m')) : J3 (b_X9_seekSimplest_0 F (bl s m) v0 v1 v3 v5 v7) (r, bl s m') (GS s m') := by
  unfold nb_X9_seekSimplest_0 at hf
  unfold b_X9_seekSimplest_0
  exact ul_X9_seekSimplest_29 F _ _ _ _ _ _ _ _ _ _ _ hw o_v0 hf
def n_X9_seekSimplest (F : Nat) (s : List Sh) (m : Mem) (p0 : Nat) (p1 : Int64) (p3 : Int64) (p5 : Int64) (p7 : Int64) : Option (Unit × Mem) := nb_X9_seekSimplest_0 F s m p0 p1 p3 p5 p7
theorem un_X9_seekSimplest {F : Nat} {s : List Sh} {m m' : Mem} {p0 : Nat} {p1 : Int64} {p3 : Int64} {p5 : Int64} {p7 : Int64} {r : Unit} (hw : GS s m) (o_p0 : ok s p0 9) (ex : n_X9_seekSimplest F s m p0 p1 p3 p5 p7 = some (r, m')) : J3 (m_X9_seekSimplest F (bl s m) p0 p1 p3 p5 p7) (r, bl s m') (GS s m') := u_X9_seekSimplest_0 hw o_p0 ex
