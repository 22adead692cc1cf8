/-! FractionLift$Reader.buttonLine()Z over the memory -/
def nb_X3_buttonLine_0 (F : Nat) (s : List Sh) (m : Mem) (v0 : Nat) : Option (Int32 × Mem) := (m.2.2 v0 0).bind fun a1 => (if (m.1 a1 6) < (6 : Int32) then (bind2 (n_X3_next s m v0) fun _ m3 => (if (m3.1 v0 5) = (58 : Int32) then (bind2 (n_X3_next s m3 v0) fun _ m5 => ((m5.2.2 v0 0).bind fun a6 => ((m5.2.2 a6 7).bind fun a7 => ((stI s m5 a7 (m.1 a1 6) (m5.1 v0 10)).bind fun m8 => (bind2 (n_X3_sumToEnd F s m8 v0) fun x9 m10 => (if x9 = 0 then (rZM (0 : Int32) m10) else ((m10.2.2 v0 0).bind fun a11 => ((m10.2.2 a11 7).bind fun a12 => ((stI s m10 a12 (((m.1 a1 6) + (1 : Int32))) (m10.1 v0 10)).bind fun m13 => ((m13.2.2 v0 0).bind fun a14 => (bindv (wI m13 a14 6 (((m.1 a1 6) + (1 : Int32)))) fun m15 => (rZM (1 : Int32) m15)))))))))))) else (bind2 (n_X3_cantStand s m3 v0) fun x16 m17 => (rZM x16 m17)))) else (bind2 (n_X3_failed s m v0 (4 : Int32)) fun x18 m19 => (rZM x18 m19)))
set_option maxRecDepth 20000 in
theorem u_X3_buttonLine_0 {F : Nat} {s : List Sh} {m m' : Mem} {r : Int32} {v0 : Nat} (hw : GS s m) (o_v0 : ok s v0 3) (hf : nb_X3_buttonLine_0 F s m v0 = some (r, m')) : J3 (b_X3_buttonLine_0 F (bl s m) v0) (r, bl s m') (GS s m') := by
  unfold nb_X3_buttonLine_0 at hf
  unfold b_X3_buttonLine_0
  refine k_gR hw (ok_o o_v0 (by decide)) rfl hf fun a1 o_a1 hf => ?_
  refine k_gI (ok_o o_a1 (by decide)) rfl ?_
  refine k_if hf (fun hf => ?_) (fun hf => ?_)
  · refine k_cO (ok_o o_v0 (by decide)) ?_
    refine ob2 hf fun u m3 ex hf => ?_
    refine k_b2 (un_X3_next hw o_v0 ex) fun hw => ?_
    refine k_gI (ok_o o_v0 (by decide)) rfl ?_
    refine k_if hf (fun hf => ?_) (fun hf => ?_)
    · refine k_cO (ok_o o_v0 (by decide)) ?_
      refine ob2 hf fun u m5 ex hf => ?_
      refine k_b2 (un_X3_next hw o_v0 ex) fun hw => ?_
      refine k_gR hw (ok_o o_v0 (by decide)) rfl hf fun a6 o_a6 hf => ?_
      refine k_gR hw (ok_o o_a6 (by decide)) rfl hf fun a7 o_a7 hf => ?_
      refine k_gI (ok_o o_v0 (by decide)) rfl ?_
      refine k_sI hw (ka rfl o_a7) hf fun m8 hw hf => ?_
      refine k_cO (ok_o o_v0 (by decide)) ?_
      refine ob2 hf fun x9 m10 ex hf => ?_
      refine k_b2 (un_X3_sumToEnd hw o_v0 ex) fun hw => ?_
      refine k_if hf (fun hf => ?_) (fun hf => ?_)
      · exact k_rZ hw hf
      · refine k_gR hw (ok_o o_v0 (by decide)) rfl hf fun a11 o_a11 hf => ?_
        refine k_gR hw (ok_o o_a11 (by decide)) rfl hf fun a12 o_a12 hf => ?_
        refine k_gI (ok_o o_v0 (by decide)) rfl ?_
        refine k_sI hw (ka rfl o_a12) hf fun m13 hw hf => ?_
        refine k_gR hw (ok_o o_v0 (by decide)) rfl hf fun a14 o_a14 hf => ?_
        refine k_pI hw (ok_o o_a14 (by decide)) rfl hf fun m15 hw hf => ?_
        exact k_rZ hw hf
    · refine k_cO (ok_o o_v0 (by decide)) ?_
      refine ob2 hf fun x16 m17 ex hf => ?_
      refine k_b2 (un_X3_cantStand hw o_v0 ex) fun hw => ?_
      exact k_rZ hw hf
  · refine k_cO (ok_o o_v0 (by decide)) ?_
    refine ob2 hf fun x18 m19 ex hf => ?_
    refine k_b2 (un_X3_failed hw o_v0 ex) fun hw => ?_
    exact k_rZ hw hf
def n_X3_buttonLine (F : Nat) (s : List Sh) (m : Mem) (p0 : Nat) : Option (Int32 × Mem) := nb_X3_buttonLine_0 F s m p0
theorem un_X3_buttonLine {F : Nat} {s : List Sh} {m m' : Mem} {p0 : Nat} {r : Int32} (hw : GS s m) (o_p0 : ok s p0 3) (ex : n_X3_buttonLine F s m p0 = some (r, m')) : J3 (m_X3_buttonLine F (bl s m) p0) (r, bl s m') (GS s m') := u_X3_buttonLine_0 hw o_p0 ex
/-! FractionLift$Reader.fractionThen(I)Z over the memory -/
def nb_X3_fractionThen_50 (F : Nat) (s : List Sh) (m : Mem) (v0 : Nat) (v1 : Int32) (v2 : Int32) (v3 : Int32) : Option (Int32 × Mem) := if (m.1 v0 5) = v1 then ((m.2.2 v0 13).bind fun a1 => (bind2 (n_X2_put F s m a1 (Int32.toInt64 v2) (Int32.toInt64 v3)) fun _ m3 => ((m3.2.2 v0 0).bind fun a4 => ((m3.2.2 v0 13).bind fun a5 => ((m3.2.2 v0 13).bind fun a6 => ((n_X0_isFloor s m3 a4 (m3.2.1 a5 0) (m3.2.1 a6 1)).bind fun x7 => (if x7 = 0 then (bind2 (n_X3_failed s m3 v0 (3 : Int32)) fun x8 m9 => (if x8 = 0 then (rZM (0 : Int32) m9) else (rZM (1 : Int32) m9))) else (rZM (1 : Int32) m3)))))))) else (bind2 (n_X3_cantStand s m v0) fun x10 m11 => (rZM x10 m11))
set_option maxRecDepth 20000 in
theorem u_X3_fractionThen_50 {F : Nat} {s : List Sh} {m m' : Mem} {r : Int32} {v0 : Nat} {v1 : Int32} {v2 : Int32} {v3 : Int32} (hw : GS s m) (o_v0 : ok s v0 3) (hf : nb_X3_fractionThen_50 F s m v0 v1 v2 v3 = some (r, m')) : J3 (b_X3_fractionThen_50 F (bl s m) v0 v1 v2 v3) (r, bl s m') (GS s m') := by
  unfold nb_X3_fractionThen_50 at hf
  unfold b_X3_fractionThen_50
  refine k_gI (ok_o o_v0 (by decide)) rfl ?_
  refine k_if hf (fun hf => ?_) (fun hf => ?_)
  · refine k_gR hw (ok_o o_v0 (by decide)) rfl hf fun a1 o_a1 hf => ?_
    refine k_cO (ok_o o_a1 (by decide)) ?_
    refine ob2 hf fun u m3 ex hf => ?_
    refine k_b2 (un_X2_put hw o_a1 ex) fun hw => ?_
    refine k_gR hw (ok_o o_v0 (by decide)) rfl hf fun a4 o_a4 hf => ?_
    refine k_gR hw (ok_o o_v0 (by decide)) rfl hf fun a5 o_a5 hf => ?_
    refine k_gL (ok_o o_a5 (by decide)) rfl ?_
    refine k_gR hw (ok_o o_v0 (by decide)) rfl hf fun a6 o_a6 hf => ?_
    refine k_gL (ok_o o_a6 (by decide)) rfl ?_
    refine k_cO (ok_o o_a4 (by decide)) ?_
    refine ob hf fun x7 ex hf => ?_
    refine k_b1 (un_X0_isFloor hw o_a4 ex) ?_
    refine k_if hf (fun hf => ?_) (fun hf => ?_)
    · refine k_cO (ok_o o_v0 (by decide)) ?_
      refine ob2 hf fun x8 m9 ex hf => ?_
      refine k_b2 (un_X3_failed hw o_v0 ex) fun hw => ?_
      refine k_if hf (fun hf => ?_) (fun hf => ?_)
      · exact k_rZ hw hf
      · exact k_rZ hw hf
    · exact k_rZ hw hf
  · refine k_cO (ok_o o_v0 (by decide)) ?_
    refine ob2 hf fun x10 m11 ex hf => ?_
    refine k_b2 (un_X3_cantStand hw o_v0 ex) fun hw => ?_
    exact k_rZ hw hf
def nb_X3_fractionThen_0 (F : Nat) (s : List Sh) (m : Mem) (v0 : Nat) (v1 : Int32) : Option (Int32 × Mem) := bind2 (n_X3_numberWithin s m v0 (0 : Int32) (999 : Int32)) fun x1 m2 => (if x1 = 0 then (rZM (0 : Int32) m2) else (if (m2.1 v0 5) = (47 : Int32) then (bind2 (n_X3_next s m2 v0) fun _ m4 => (bind2 (n_X3_numberWithin s m4 v0 (1 : Int32) (99 : Int32)) fun x5 m6 => (if x5 = 0 then (rZM (0 : Int32) m6) else (nb_X3_fractionThen_50 F s m6 v0 v1 (m2.1 v0 8) (m6.1 v0 8))))) else (nb_X3_fractionThen_50 F s m2 v0 v1 (m2.1 v0 8) (1 : Int32))))
set_option maxRecDepth 20000 in
theorem u_X3_fractionThen_0 {F : Nat} {s : List Sh} {m m' : Mem} {r : Int32} {v0 : Nat} {v1 : Int32} (hw : GS s m) (o_v0 : ok s v0 3) (hf : nb_X3_fractionThen_0 F s m v0 v1 = some (r, m')) : J3 (b_X3_fractionThen_0 F (bl s m) v0 v1) (r, bl s m') (GS s m') := by
  unfold nb_X3_fractionThen_0 at hf
  unfold b_X3_fractionThen_0
  refine k_cO (ok_o o_v0 (by decide)) ?_
  refine ob2 hf fun x1 m2 ex hf => ?_
  refine k_b2 (un_X3_numberWithin hw o_v0 ex) fun hw => ?_
  refine k_if hf (fun hf => ?_) (fun hf => ?_)
  · exact k_rZ hw hf
  · refine k_gI (ok_o o_v0 (by decide)) rfl ?_
    refine k_gI (ok_o o_v0 (by decide)) rfl ?_
    refine k_if hf (fun hf => ?_) (fun hf => ?_)
    · refine k_cO (ok_o o_v0 (by decide)) ?_
      refine ob2 hf fun u m4 ex hf => ?_
      refine k_b2 (un_X3_next hw o_v0 ex) fun hw => ?_
      refine k_cO (ok_o o_v0 (by decide)) ?_
      refine ob2 hf fun x5 m6 ex hf => ?_
      refine k_b2 (un_X3_numberWithin hw o_v0 ex) fun hw => ?_
      refine k_if hf (fun hf => ?_) (fun hf => ?_)
      · exact k_rZ hw hf
      · refine k_gI (ok_o o_v0 (by decide)) rfl ?_
        exact u_X3_fractionThen_50 hw o_v0 hf
    · exact u_X3_fractionThen_50 hw o_v0 hf
def n_X3_fractionThen (F : Nat) (s : List Sh) (m : Mem) (p0 : Nat) (p1 : Int32) : Option (Int32 × Mem) := nb_X3_fractionThen_0 F s m p0 p1
theorem un_X3_fractionThen {F : Nat} {s : List Sh} {m m' : Mem} {p0 : Nat} {p1 : Int32} {r : Int32} (hw : GS s m) (o_p0 : ok s p0 3) (ex : n_X3_fractionThen F s m p0 p1 = some (r, m')) : J3 (m_X3_fractionThen F (bl s m) p0 p1) (r, bl s m') (GS s m') := u_X3_fractionThen_0 hw o_p0 ex
/-! FractionLift$Reader.floorLine()Z over the memory -/
def nb_X3_floorLine_70 (F : Nat) (s : List Sh) (nself36 : Mem → Nat → Int32 → Option (Int32 × Mem)) (m : Mem) (v0 : Nat) (v1 : Int32) : Option (Int32 × Mem) := if (3 : Int32) ≤ v1 then ((m.2.2 v0 0).bind fun a1 => ((m.2.2 v0 13).bind fun a2 => ((m.2.2 v0 13).bind fun a3 => (bind2 (n_X0_addFloor F s m a1 ((Int64.toInt32 (m.2.1 a2 0))) ((Int64.toInt32 (m.2.1 a3 1)))) fun _ m5 => (rZM (1 : Int32) m5))))) else (bind2 (n_X3_numberWithin s m v0 (0 : Int32) (99 : Int32)) fun x6 m7 => (if x6 = 0 then (rZM (0 : Int32) m7) else ((m7.2.2 v0 0).bind fun a8 => ((m7.2.2 a8 13).bind fun a9 => ((stI s m7 a9 v1 (m7.1 v0 8)).bind fun m10 => (bindv (v1 + (1)) fun x11 => (nself36 m10 v0 x11)))))))
set_option maxRecDepth 20000 in
theorem ub_X3_floorLine_70 {F : Nat} {s : List Sh} {self36 : PH → Nat → Int32 → Option (Int32 × PH)} {nself36 : Mem → Nat → Int32 → Option (Int32 × Mem)} {m m' : Mem} {r : Int32} {v0 : Nat} {v1 : Int32} (hw : GS s m) (o_v0 : ok s v0 3) (ih36 : ∀ (m : Mem) (v0 : Nat) (v1 : Int32), GS s m → ok s v0 3 → nself36 m v0 v1 = some (r, m') → J3 (self36 (bl s m) v0 v1) (r, bl s m') (GS s m')) (hf : nb_X3_floorLine_70 F s nself36 m v0 v1 = some (r, m')) : J3 (b_X3_floorLine_70 F self36 (bl s m) v0 v1) (r, bl s m') (GS s m') := by
  unfold nb_X3_floorLine_70 at hf
  unfold b_X3_floorLine_70
  refine k_if hf (fun hf => ?_) (fun hf => ?_)
  · refine k_gR hw (ok_o o_v0 (by decide)) rfl hf fun a1 o_a1 hf => ?_
    refine k_gR hw (ok_o o_v0 (by decide)) rfl hf fun a2 o_a2 hf => ?_
    refine k_gL (ok_o o_a2 (by decide)) rfl ?_
    refine k_gR hw (ok_o o_v0 (by decide)) rfl hf fun a3 o_a3 hf => ?_
    refine k_gL (ok_o o_a3 (by decide)) rfl ?_
    refine k_cO (ok_o o_a1 (by decide)) ?_
    refine ob2 hf fun u m5 ex hf => ?_
    refine k_b2 (un_X0_addFloor hw o_a1 ex) fun hw => ?_
    exact k_rZ hw hf
  · refine k_cO (ok_o o_v0 (by decide)) ?_
    refine ob2 hf fun x6 m7 ex hf => ?_
    refine k_b2 (un_X3_numberWithin hw o_v0 ex) fun hw => ?_
    refine k_if hf (fun hf => ?_) (fun hf => ?_)
    · exact k_rZ hw hf
    · refine k_gR hw (ok_o o_v0 (by decide)) rfl hf fun a8 o_a8 hf => ?_
      refine k_gR hw (ok_o o_a8 (by decide)) rfl hf fun a9 o_a9 hf => ?_
      refine k_gI (ok_o o_v0 (by decide)) rfl ?_
      refine k_sI hw (ka rfl o_a9) hf fun m10 hw hf => ?_
      refine k_bv hf fun x11 hf => ?_
      exact ih36 _ _ _ hw o_v0 hf
def nl_X3_floorLine_70 (F : Nat) (s : List Sh) : Nat → Mem → Nat → Int32 → Option (Int32 × Mem)
  | 0 => fun _ _ _ => none
  | n + 1 => fun m v0 v1 => nb_X3_floorLine_70 F s (nl_X3_floorLine_70 F s n) m v0 v1
theorem ul_X3_floorLine_70 {F : Nat} {s : List Sh} {m' : Mem} {r : Int32} (n : Nat) : ∀ (m : Mem) (v0 : Nat) (v1 : Int32), GS s m → ok s v0 3 → nl_X3_floorLine_70 F s n m v0 v1 = some (r, m') → J3 (l_X3_floorLine_70 F n (bl s m) v0 v1) (r, bl s m') (GS s m') := by
  induction n with
  | zero => intro m v0 v1 hw o_v0 hf; cases hf
  | succ n ih => intro m v0 v1 hw o_v0 hf; exact ub_X3_floorLine_70 (F := F) hw o_v0 ih hf
def nb_X3_floorLine_0 (F : Nat) (s : List Sh) (m : Mem) (v0 : Nat) : Option (Int32 × Mem) := (m.2.2 v0 0).bind fun a1 => (if (m.1 a1 9) < (8 : Int32) then (bind2 (n_X3_next s m v0) fun _ m3 => (bind2 (n_X3_fractionThen F s m3 v0 (10 : Int32)) fun x4 m5 => (if x4 = 0 then (rZM (0 : Int32) m5) else ((m5.2.2 v0 0).bind fun a6 => ((m5.2.2 v0 13).bind fun a7 => ((m5.2.2 v0 13).bind fun a8 => ((n_X0_floorAt F s m5 a6 (m5.2.1 a7 0) (m5.2.1 a8 1)).bind fun x9 => (if x9 = (-1 : Int32) then (bind2 (n_X3_next s m5 v0) fun _ m11 => (nl_X3_floorLine_70 F s F m11 v0 (0 : Int32))) else (bind2 (n_X3_failed s m5 v0 (3 : Int32)) fun x12 m13 => (rZM x12 m13)))))))))) else (bind2 (n_X3_failed s m v0 (4 : Int32)) fun x14 m15 => (rZM x14 m15)))
set_option maxRecDepth 20000 in
theorem u_X3_floorLine_0 {F : Nat} {s : List Sh} {m m' : Mem} {r : Int32} {v0 : Nat} (hw : GS s m) (o_v0 : ok s v0 3) (hf : nb_X3_floorLine_0 F s m v0 = some (r, m')) : J3 (b_X3_floorLine_0 F (bl s m) v0) (r, bl s m') (GS s m') := by
  unfold nb_X3_floorLine_0 at hf
  unfold b_X3_floorLine_0
  refine k_gR hw (ok_o o_v0 (by decide)) rfl hf fun a1 o_a1 hf => ?_
  refine k_gI (ok_o o_a1 (by decide)) rfl ?_
  refine k_if hf (fun hf => ?_) (fun hf => ?_)
  · refine k_cO (ok_o o_v0 (by decide)) ?_
    refine ob2 hf fun u m3 ex hf => ?_
    refine k_b2 (un_X3_next hw o_v0 ex) fun hw => ?_
    refine k_cO (ok_o o_v0 (by decide)) ?_
    refine ob2 hf fun x4 m5 ex hf => ?_
    refine k_b2 (un_X3_fractionThen hw o_v0 ex) fun hw => ?_
    refine k_if hf (fun hf => ?_) (fun hf => ?_)
    · exact k_rZ hw hf
    · refine k_gR hw (ok_o o_v0 (by decide)) rfl hf fun a6 o_a6 hf => ?_
      refine k_gR hw (ok_o o_v0 (by decide)) rfl hf fun a7 o_a7 hf => ?_
      refine k_gL (ok_o o_a7 (by decide)) rfl ?_
      refine k_gR hw (ok_o o_v0 (by decide)) rfl hf fun a8 o_a8 hf => ?_
      refine k_gL (ok_o o_a8 (by decide)) rfl ?_
      refine k_cO (ok_o o_a6 (by decide)) ?_
      refine ob hf fun x9 ex hf => ?_
      refine k_b1 (un_X0_floorAt hw o_a6 ex) ?_
      refine k_if hf (fun hf => ?_) (fun hf => ?_)
      · refine k_cO (ok_o o_v0 (by decide)) ?_
        refine ob2 hf fun u m11 ex hf => ?_
        refine k_b2 (un_X3_next hw o_v0 ex) fun hw => ?_
        exact ul_X3_floorLine_70 F _ _ _ hw o_v0 hf
      · refine k_cO (ok_o o_v0 (by decide)) ?_
        refine ob2 hf fun x12 m13 ex hf => ?_
        refine k_b2 (un_X3_failed hw o_v0 ex) fun hw => ?_
        exact k_rZ hw hf
  · refine k_cO (ok_o o_v0 (by decide)) ?_
    refine ob2 hf fun x14 m15 ex hf => ?_
    refine k_b2 (un_X3_failed hw o_v0 ex) fun hw => ?_
    exact k_rZ hw hf
def n_X3_floorLine (F : Nat) (s : List Sh) (m : Mem) (p0 : Nat) : Option (Int32 × Mem) := nb_X3_floorLine_0 F s m p0
theorem un_X3_floorLine {F : Nat} {s : List Sh} {m m' : Mem} {p0 : Nat} {r : Int32} (hw : GS s m) (o_p0 : ok s p0 3) (ex : n_X3_floorLine F s m p0 = some (r, m')) : J3 (m_X3_floorLine F (bl s m) p0) (r, bl s m') (GS s m') := u_X3_floorLine_0 hw o_p0 ex
/-! FractionLift$Reader.tenantLine()Z over the memory -/
def nb_X3_tenantLine_0 (F : Nat) (s : List Sh) (m : Mem) (v0 : Nat) : Option (Int32 × Mem) := (m.2.2 v0 0).bind fun a1 => (if (m.1 a1 15) < (6 : Int32) then (bind2 (n_X3_next s m v0) fun _ m3 => (bind2 (n_X3_fractionThen F s m3 v0 (59 : Int32)) fun x4 m5 => (if x4 = 0 then (rZM (0 : Int32) m5) else ((m5.2.2 v0 0).bind fun a6 => ((m5.2.2 v0 13).bind fun a7 => ((m5.2.2 v0 13).bind fun a8 => (bind2 (n_X0_addTenant s m5 a6 ((Int64.toInt32 (m5.2.1 a7 0))) ((Int64.toInt32 (m5.2.1 a8 1)))) fun _ m10 => (rZM (1 : Int32) m10)))))))) else (bind2 (n_X3_failed s m v0 (4 : Int32)) fun x11 m12 => (rZM x11 m12)))
set_option maxRecDepth 20000 in
theorem u_X3_tenantLine_0 {F : Nat} {s : List Sh} {m m' : Mem} {r : Int32} {v0 : Nat} (hw : GS s m) (o_v0 : ok s v0 3) (hf : nb_X3_tenantLine_0 F s m v0 = some (r, m')) : J3 (b_X3_tenantLine_0 F (bl s m) v0) (r, bl s m') (GS s m') := by
  unfold nb_X3_tenantLine_0 at hf
  unfold b_X3_tenantLine_0
  refine k_gR hw (ok_o o_v0 (by decide)) rfl hf fun a1 o_a1 hf => ?_
  refine k_gI (ok_o o_a1 (by decide)) rfl ?_
  refine k_if hf (fun hf => ?_) (fun hf => ?_)
  · refine k_cO (ok_o o_v0 (by decide)) ?_
    refine ob2 hf fun u m3 ex hf => ?_
    refine k_b2 (un_X3_next hw o_v0 ex) fun hw => ?_
    refine k_cO (ok_o o_v0 (by decide)) ?_
    refine ob2 hf fun x4 m5 ex hf => ?_
    refine k_b2 (un_X3_fractionThen hw o_v0 ex) fun hw => ?_
    refine k_if hf (fun hf => ?_) (fun hf => ?_)
    · exact k_rZ hw hf
    · refine k_gR hw (ok_o o_v0 (by decide)) rfl hf fun a6 o_a6 hf => ?_
      refine k_gR hw (ok_o o_v0 (by decide)) rfl hf fun a7 o_a7 hf => ?_
      refine k_gL (ok_o o_a7 (by decide)) rfl ?_
      refine k_gR hw (ok_o o_v0 (by decide)) rfl hf fun a8 o_a8 hf => ?_
      refine k_gL (ok_o o_a8 (by decide)) rfl ?_
      refine k_cO (ok_o o_a6 (by decide)) ?_
      refine ob2 hf fun u m10 ex hf => ?_
      refine k_b2 (un_X0_addTenant hw o_a6 ex) fun hw => ?_
      exact k_rZ hw hf
  · refine k_cO (ok_o o_v0 (by decide)) ?_
    refine ob2 hf fun x11 m12 ex hf => ?_
    refine k_b2 (un_X3_failed hw o_v0 ex) fun hw => ?_
    exact k_rZ hw hf
def n_X3_tenantLine (F : Nat) (s : List Sh) (m : Mem) (p0 : Nat) : Option (Int32 × Mem) := nb_X3_tenantLine_0 F s m p0
theorem un_X3_tenantLine {F : Nat} {s : List Sh} {m m' : Mem} {p0 : Nat} {r : Int32} (hw : GS s m) (o_p0 : ok s p0 3) (ex : n_X3_tenantLine F s m p0 = some (r, m')) : J3 (m_X3_tenantLine F (bl s m) p0) (r, bl s m') (GS s m') := u_X3_tenantLine_0 hw o_p0 ex
/-! FractionLift$Reader.atLine()Z over the memory -/
def nb_X3_atLine_0 (F : Nat) (s : List Sh) (m : Mem) (v0 : Nat) : Option (Int32 × Mem) := bind2 (n_X3_next s m v0) fun _ m2 => (bind2 (n_X3_fractionThen F s m2 v0 (59 : Int32)) fun x3 m4 => (if x3 = 0 then (rZM (0 : Int32) m4) else ((m4.2.2 v0 0).bind fun a5 => ((m4.2.2 v0 13).bind fun a6 => (bindv (wI m4 a5 4 ((Int64.toInt32 (m4.2.1 a6 0)))) fun m7 => ((m7.2.2 v0 0).bind fun a8 => ((m7.2.2 v0 13).bind fun a9 => (bindv (wI m7 a8 5 ((Int64.toInt32 (m7.2.1 a9 1)))) fun m10 => ((ptZ m10 v0 9 (1 : Int32)).bind fun m11 => (rZM (1 : Int32) m11))))))))))
set_option maxRecDepth 20000 in
theorem u_X3_atLine_0 {F : Nat} {s : List Sh} {m m' : Mem} {r : Int32} {v0 : Nat} (hw : GS s m) (o_v0 : ok s v0 3) (hf : nb_X3_atLine_0 F s m v0 = some (r, m')) : J3 (b_X3_atLine_0 F (bl s m) v0) (r, bl s m') (GS s m') := by
  unfold nb_X3_atLine_0 at hf
  unfold b_X3_atLine_0
  refine k_cO (ok_o o_v0 (by decide)) ?_
  refine ob2 hf fun u m2 ex hf => ?_
  refine k_b2 (un_X3_next hw o_v0 ex) fun hw => ?_
  refine k_cO (ok_o o_v0 (by decide)) ?_
  refine ob2 hf fun x3 m4 ex hf => ?_
  refine k_b2 (un_X3_fractionThen hw o_v0 ex) fun hw => ?_
  refine k_if hf (fun hf => ?_) (fun hf => ?_)
  · exact k_rZ hw hf
  · refine k_gR hw (ok_o o_v0 (by decide)) rfl hf fun a5 o_a5 hf => ?_
    refine k_gR hw (ok_o o_v0 (by decide)) rfl hf fun a6 o_a6 hf => ?_
    refine k_gL (ok_o o_a6 (by decide)) rfl ?_
    refine k_pI hw (ok_o o_a5 (by decide)) rfl hf fun m7 hw hf => ?_
    refine k_gR hw (ok_o o_v0 (by decide)) rfl hf fun a8 o_a8 hf => ?_
    refine k_gR hw (ok_o o_v0 (by decide)) rfl hf fun a9 o_a9 hf => ?_
    refine k_gL (ok_o o_a9 (by decide)) rfl ?_
    refine k_pI hw (ok_o o_a8 (by decide)) rfl hf fun m10 hw hf => ?_
    refine k_pZ hw (ok_o o_v0 (by decide)) rfl hf fun m11 hw hf => ?_
    exact k_rZ hw hf
def n_X3_atLine (F : Nat) (s : List Sh) (m : Mem) (p0 : Nat) : Option (Int32 × Mem) := nb_X3_atLine_0 F s m p0
theorem un_X3_atLine {F : Nat} {s : List Sh} {m m' : Mem} {p0 : Nat} {r : Int32} (hw : GS s m) (o_p0 : ok s p0 3) (ex : n_X3_atLine F s m p0 = some (r, m')) : J3 (m_X3_atLine F (bl s m) p0) (r, bl s m') (GS s m') := u_X3_atLine_0 hw o_p0 ex
/-! FractionLift$Reader.stickLine()Z over the memory -/
def nb_X3_stickLine_0 (s : List Sh) (m : Mem) (v0 : Nat) : Option (Int32 × Mem) := bind2 (n_X3_next s m v0) fun _ m2 => (bind2 (n_X3_numberWithin s m2 v0 (0 : Int32) (9 : Int32)) fun x3 m4 => (if x3 = 0 then (rZM (0 : Int32) m4) else ((m4.2.2 v0 0).bind fun a5 => (bindv (wI m4 a5 1 (m4.1 v0 8)) fun m6 => (rZM (1 : Int32) m6)))))
set_option maxRecDepth 20000 in
theorem u_X3_stickLine_0 {s : List Sh} {m m' : Mem} {r : Int32} {v0 : Nat} (hw : GS s m) (o_v0 : ok s v0 3) (hf : nb_X3_stickLine_0 s m v0 = some (r, m')) : J3 (b_X3_stickLine_0 (bl s m) v0) (r, bl s m') (GS s m') := by
  unfold nb_X3_stickLine_0 at hf
  unfold b_X3_stickLine_0
  refine k_cO (ok_o o_v0 (by decide)) ?_
  refine ob2 hf fun u m2 ex hf => ?_
  refine k_b2 (un_X3_next hw o_v0 ex) fun hw => ?_
  refine k_cO (ok_o o_v0 (by decide)) ?_
  refine ob2 hf fun x3 m4 ex hf => ?_
  refine k_b2 (un_X3_numberWithin hw o_v0 ex) fun hw => ?_
  refine k_if hf (fun hf => ?_) (fun hf => ?_)
  · exact k_rZ hw hf
  · refine k_gR hw (ok_o o_v0 (by decide)) rfl hf fun a5 o_a5 hf => ?_
    refine k_gI (ok_o o_v0 (by decide)) rfl ?_
    refine k_pI hw (ok_o o_a5 (by decide)) rfl hf fun m6 hw hf => ?_
    exact k_rZ hw hf
def n_X3_stickLine (s : List Sh) (m : Mem) (p0 : Nat) : Option (Int32 × Mem) := nb_X3_stickLine_0 s m p0
theorem un_X3_stickLine {s : List Sh} {m m' : Mem} {p0 : Nat} {r : Int32} (hw : GS s m) (o_p0 : ok s p0 3) (ex : n_X3_stickLine s m p0 = some (r, m')) : J3 (m_X3_stickLine (bl s m) p0) (r, bl s m') (GS s m') := u_X3_stickLine_0 hw o_p0 ex
/-! FractionLift$Reader.line()Z over the memory -/
def nb_X3_line_0 (F : Nat) (s : List Sh) (m : Mem) (v0 : Nat) : Option (Int32 × Mem) := swN (m.1 v0 5) (4) [bind2 (n_X3_topLine s m v0) fun x1 m2 => (rZM x1 m2), bind2 (n_X3_buttonLine F s m v0) fun x3 m4 => (rZM x3 m4), bind2 (n_X3_floorLine F s m v0) fun x5 m6 => (rZM x5 m6), bind2 (n_X3_tenantLine F s m v0) fun x7 m8 => (rZM x7 m8), bind2 (n_X3_atLine F s m v0) fun x9 m10 => (rZM x9 m10), bind2 (n_X3_stickLine s m v0) fun x11 m12 => (rZM x11 m12)] (bind2 (n_X3_cantStand s m v0) fun x13 m14 => (rZM x13 m14))
set_option maxRecDepth 20000 in
theorem u_X3_line_0 {F : Nat} {s : List Sh} {m m' : Mem} {r : Int32} {v0 : Nat} (hw : GS s m) (o_v0 : ok s v0 3) (hf : nb_X3_line_0 F s m v0 = some (r, m')) : J3 (b_X3_line_0 F (bl s m) v0) (r, bl s m') (GS s m') := by
  unfold nb_X3_line_0 at hf
  unfold b_X3_line_0
  refine k_gI (ok_o o_v0 (by decide)) rfl ?_
  refine k_sw hf rfl (fun i hi hf => ?_) (fun hf => ?_)
  · rcases (show i = 0 ∨ i = 1 ∨ i = 2 ∨ i = 3 ∨ i = 4 ∨ i = 5 by simp only [List.length_cons, List.length_nil] at hi; omega) with rfl | rfl | rfl | rfl | rfl | rfl
    · have hf := gd_at hf rfl
      refine gd_goal rfl ?_
      refine k_cO (ok_o o_v0 (by decide)) ?_
      refine ob2 hf fun x1 m2 ex hf => ?_
      refine k_b2 (un_X3_topLine hw o_v0 ex) fun hw => ?_
      exact k_rZ hw hf
    · have hf := gd_at hf rfl
      refine gd_goal rfl ?_
      refine k_cO (ok_o o_v0 (by decide)) ?_
      refine ob2 hf fun x3 m4 ex hf => ?_
      refine k_b2 (un_X3_buttonLine hw o_v0 ex) fun hw => ?_
      exact k_rZ hw hf
    · have hf := gd_at hf rfl
      refine gd_goal rfl ?_
      refine k_cO (ok_o o_v0 (by decide)) ?_
      refine ob2 hf fun x5 m6 ex hf => ?_
      refine k_b2 (un_X3_floorLine hw o_v0 ex) fun hw => ?_
      exact k_rZ hw hf
    · have hf := gd_at hf rfl
      refine gd_goal rfl ?_
      refine k_cO (ok_o o_v0 (by decide)) ?_
      refine ob2 hf fun x7 m8 ex hf => ?_
      refine k_b2 (un_X3_tenantLine hw o_v0 ex) fun hw => ?_
      exact k_rZ hw hf
    · have hf := gd_at hf rfl
      refine gd_goal rfl ?_
      refine k_cO (ok_o o_v0 (by decide)) ?_
      refine ob2 hf fun x9 m10 ex hf => ?_
      refine k_b2 (un_X3_atLine hw o_v0 ex) fun hw => ?_
      exact k_rZ hw hf
    · have hf := gd_at hf rfl
      refine gd_goal rfl ?_
      refine k_cO (ok_o o_v0 (by decide)) ?_
      refine ob2 hf fun x11 m12 ex hf => ?_
      refine k_b2 (un_X3_stickLine hw o_v0 ex) fun hw => ?_
      exact k_rZ hw hf
  · refine k_cO (ok_o o_v0 (by decide)) ?_
    refine ob2 hf fun x13 m14 ex hf => ?_
    refine k_b2 (un_X3_cantStand hw o_v0 ex) fun hw => ?_
    exact k_rZ hw hf
def n_X3_line (F : Nat) (s : List Sh) (m : Mem) (p0 : Nat) : Option (Int32 × Mem) := nb_X3_line_0 F s m p0
theorem un_X3_line {F : Nat} {s : List Sh} {m m' : Mem} {p0 : Nat} {r : Int32} (hw : GS s m) (o_p0 : ok s p0 3) (ex : n_X3_line F s m p0 = some (r, m')) : J3 (m_X3_line F (bl s m) p0) (r, bl s m') (GS s m') := u_X3_line_0 hw o_p0 ex
/-! FractionLift$Reader.closes()Z over the memory -/
def nb_X3_closes_0 (s : List Sh) (m : Mem) (v0 : Nat) : Option (Int32 × Mem) := if (m.1 v0 5) = (59 : Int32) then ((m.2.2 v0 0).bind fun a1 => (bindv (wI m a1 2 (((m.1 a1 2) + (1 : Int32)))) fun m2 => (bind2 (n_X3_next s m2 v0) fun _ m4 => (rZM (1 : Int32) m4)))) else (bind2 (n_X3_cantStand s m v0) fun x5 m6 => (rZM x5 m6))
set_option maxRecDepth 20000 in
theorem u_X3_closes_0 {s : List Sh} {m m' : Mem} {r : Int32} {v0 : Nat} (hw : GS s m) (o_v0 : ok s v0 3) (hf : nb_X3_closes_0 s m v0 = some (r, m')) : J3 (b_X3_closes_0 (bl s m) v0) (r, bl s m') (GS s m') := by
  unfold nb_X3_closes_0 at hf
  unfold b_X3_closes_0
  refine k_gI (ok_o o_v0 (by decide)) rfl ?_
  refine k_if hf (fun hf => ?_) (fun hf => ?_)
  · refine k_gR hw (ok_o o_v0 (by decide)) rfl hf fun a1 o_a1 hf => ?_
    refine k_gI (ok_o o_a1 (by decide)) rfl ?_
    refine k_pI hw (ok_o o_a1 (by decide)) rfl hf fun m2 hw hf => ?_
    refine k_cO (ok_o o_v0 (by decide)) ?_
    refine ob2 hf fun u m4 ex hf => ?_
    refine k_b2 (un_X3_next hw o_v0 ex) fun hw => ?_
    exact k_rZ hw hf
  · refine k_cO (ok_o o_v0 (by decide)) ?_
    refine ob2 hf fun x5 m6 ex hf => ?_
    refine k_b2 (un_X3_cantStand hw o_v0 ex) fun hw => ?_
    exact k_rZ hw hf
def n_X3_closes (s : List Sh) (m : Mem) (p0 : Nat) : Option (Int32 × Mem) := nb_X3_closes_0 s m p0
theorem un_X3_closes {s : List Sh} {m m' : Mem} {p0 : Nat} {r : Int32} (hw : GS s m) (o_p0 : ok s p0 3) (ex : n_X3_closes s m p0 = some (r, m')) : J3 (m_X3_closes (bl s m) p0) (r, bl s m') (GS s m') := u_X3_closes_0 hw o_p0 ex
/-! FractionLift$Reader.readAll([II)V over the memory -/
def nb_X3_readAll_43 (F : Nat) (s : List Sh) (nself25 : Mem → Nat → Int32 → Option (Unit × Mem)) (m : Mem) (v0 : Nat) (v3 : Int32) : Option (Unit × Mem) := (m.2.2 v0 3).bind fun a1 => (if (m.1 a1 0) ≤ v3 then (some ((), m)) else (if (m.1 v0 5) = (1 : Int32) then (some ((), m)) else (bind2 (n_X3_line F s m v0) fun x2 m3 => (if x2 = 0 then (some ((), m3)) else (bind2 (n_X3_closes s m3 v0) fun x4 m5 => (if x4 = 0 then (some ((), m5)) else (bindv (v3 + (1)) fun x6 => (nself25 m5 v0 x6))))))))
set_option maxRecDepth 20000 in
theorem ub_X3_readAll_43 {F : Nat} {s : List Sh} {self25 : PH → Nat → Int32 → Option (Unit × PH)} {nself25 : Mem → Nat → Int32 → Option (Unit × Mem)} {m m' : Mem} {r : Unit} {v0 : Nat} {v3 : Int32} (hw : GS s m) (o_v0 : ok s v0 3) (ih25 : ∀ (m : Mem) (v0 : Nat) (v3 : Int32), GS s m → ok s v0 3 → nself25 m v0 v3 = some (r, m') → J3 (self25 (bl s m) v0 v3) (r, bl s m') (GS s m')) (hf : nb_X3_readAll_43 F s nself25 m v0 v3 = some (r, m')) : J3 (b_X3_readAll_43 F self25 (bl s m) v0 v3) (r, bl s m') (GS s m') := by
  unfold nb_X3_readAll_43 at hf
  unfold b_X3_readAll_43
  refine k_gR hw (ok_o o_v0 (by decide)) rfl hf fun a1 o_a1 hf => ?_
  refine k_gI (ok_o o_a1 (by decide)) rfl ?_
  refine k_if hf (fun hf => ?_) (fun hf => ?_)
  · exact k_ret hw hf
  · refine k_gI (ok_o o_v0 (by decide)) rfl ?_
    refine k_if hf (fun hf => ?_) (fun hf => ?_)
    · exact k_ret hw hf
    · refine k_cO (ok_o o_v0 (by decide)) ?_
      refine ob2 hf fun x2 m3 ex hf => ?_
      refine k_b2 (un_X3_line hw o_v0 ex) fun hw => ?_
      refine k_if hf (fun hf => ?_) (fun hf => ?_)
      · exact k_ret hw hf
      · refine k_cO (ok_o o_v0 (by decide)) ?_
        refine ob2 hf fun x4 m5 ex hf => ?_
        refine k_b2 (un_X3_closes hw o_v0 ex) fun hw => ?_
        refine k_if hf (fun hf => ?_) (fun hf => ?_)
        · exact k_ret hw hf
        · refine k_bv hf fun x6 hf => ?_
          exact ih25 _ _ _ hw o_v0 hf
def nl_X3_readAll_43 (F : Nat) (s : List Sh) : Nat → Mem → Nat → Int32 → Option (Unit × Mem)
  | 0 => fun _ _ _ => none
  | n + 1 => fun m v0 v3 => nb_X3_readAll_43 F s (nl_X3_readAll_43 F s n) m v0 v3
theorem ul_X3_readAll_43 {F : Nat} {s : List Sh} {m' : Mem} {r : Unit} (n : Nat) : ∀ (m : Mem) (v0 : Nat) (v3 : Int32), GS s m → ok s v0 3 → nl_X3_readAll_43 F s n m v0 v3 = some (r, m') → J3 (l_X3_readAll_43 F n (bl s m) v0 v3) (r, bl s m') (GS s m') := by
  induction n with
  | zero => intro m v0 v3 hw o_v0 hf; cases hf
  | succ n ih => intro m v0 v3 hw o_v0 hf; exact ub_X3_readAll_43 (F := F) hw o_v0 ih hf
def nb_X3_readAll_0 (F : Nat) (s : List Sh) (m : Mem) (v0 : Nat) (v1 : Nat) (v2 : Int32) : Option (Unit × Mem) := bindv (wI m v0 1 (0 : Int32)) fun m1 => (bindv (wI m1 v0 2 (-1 : Int32)) fun m2 => ((ptZ m2 v0 9 (0 : Int32)).bind fun m3 => (bindv (wI m3 v0 10 (0 : Int32)) fun m4 => ((m4.2.2 v0 0).bind fun a5 => (bind2 (n_X0_untell s m4 a5) fun _ m7 => ((m7.2.2 v0 3).bind fun a8 => (bind2 (n_X6_scanAll F s m7 a8 v1 v2) fun _ m10 => (bind2 (n_X3_lookAt s m10 v0 (0 : Int32)) fun _ m12 => (nl_X3_readAll_43 F s F m12 v0 (0 : Int32))))))))))
set_option maxRecDepth 20000 in
theorem u_X3_readAll_0 {F : Nat} {s : List Sh} {m m' : Mem} {r : Unit} {v0 : Nat} {v1 : Nat} {v2 : Int32} (hw : GS s m) (o_v0 : ok s v0 3) (o_v1 : ok s v1 100) (hf : nb_X3_readAll_0 F s m v0 v1 v2 = some (r, m')) : J3 (b_X3_readAll_0 F (bl s m) v0 v1 v2) (r, bl s m') (GS s m') := by
  unfold nb_X3_readAll_0 at hf
  unfold b_X3_readAll_0
  refine k_pI hw (ok_o o_v0 (by decide)) rfl hf fun m1 hw hf => ?_
  refine k_pI hw (ok_o o_v0 (by decide)) rfl hf fun m2 hw hf => ?_
  refine k_pZ hw (ok_o o_v0 (by decide)) rfl hf fun m3 hw hf => ?_
  refine k_pI hw (ok_o o_v0 (by decide)) rfl hf fun m4 hw hf => ?_
  refine k_gR hw (ok_o o_v0 (by decide)) rfl hf fun a5 o_a5 hf => ?_
  refine k_cO (ok_o o_a5 (by decide)) ?_
  refine ob2 hf fun u m7 ex hf => ?_
  refine k_b2 (un_X0_untell hw o_a5 ex) fun hw => ?_
  refine k_gR hw (ok_o o_v0 (by decide)) rfl hf fun a8 o_a8 hf => ?_
  refine k_cO (ok_o o_a8 (by decide)) ?_
  refine ob2 hf fun u m10 ex hf => ?_
  refine k_b2 (un_X6_scanAll hw o_a8 o_v1 ex) fun hw => ?_
  refine k_cO (ok_o o_v0 (by decide)) ?_
  refine ob2 hf fun u m12 ex hf => ?_
  refine k_b2 (un_X3_lookAt hw o_v0 ex) fun hw => ?_
  exact ul_X3_readAll_43 F _ _ _ hw o_v0 hf
def n_X3_readAll (F : Nat) (s : List Sh) (m : Mem) (p0 : Nat) (p1 : Nat) (p2 : Int32) : Option (Unit × Mem) := nb_X3_readAll_0 F s m p0 p1 p2
theorem un_X3_readAll {F : Nat} {s : List Sh} {m m' : Mem} {p0 : Nat} {p1 : Nat} {p2 : Int32} {r : Unit} (hw : GS s m) (o_p0 : ok s p0 3) (o_p1 : ok s p1 100) (ex : n_X3_readAll F s m p0 p1 p2 = some (r, m')) : J3 (m_X3_readAll F (bl s m) p0 p1 p2) (r, bl s m') (GS s m') := u_X3_readAll_0 hw o_p0 o_p1 ex
/-! FractionLift$Reckoner.pile(JJ)V over the memory -/
def nb_X4_pile_0 (s : List Sh) (m : Mem) (v0 : Nat) (v1 : Int64) (v3 : Int64) : Option (Unit × Mem) := if (64 : Int32) ≤ (m.1 v0 4) then (some ((), m)) else ((m.2.2 v0 2).bind fun a1 => ((stL s m a1 (m.1 v0 4) v1).bind fun m2 => ((m2.2.2 v0 3).bind fun a3 => ((stL s m2 a3 (m2.1 v0 4) v3).bind fun m4 => (bindv (wI m4 v0 4 (((m4.1 v0 4) + (1 : Int32)))) fun m5 => (some ((), m5)))))))
set_option maxRecDepth 20000 in
theorem u_X4_pile_0 {s : List Sh} {m m' : Mem} {r : Unit} {v0 : Nat} {v1 : Int64} {v3 : Int64} (hw : GS s m) (o_v0 : ok s v0 4) (hf : nb_X4_pile_0 s m v0 v1 v3 = some (r, m')) : J3 (b_X4_pile_0 (bl s m) v0 v1 v3) (r, bl s m') (GS s m') := by
  unfold nb_X4_pile_0 at hf
  unfold b_X4_pile_0
  refine k_gI (ok_o o_v0 (by decide)) rfl ?_
  refine k_if hf (fun hf => ?_) (fun hf => ?_)
  · exact k_ret hw hf
  · refine k_gR hw (ok_o o_v0 (by decide)) rfl hf fun a1 o_a1 hf => ?_
    refine k_gI (ok_o o_v0 (by decide)) rfl ?_
    refine k_sL hw (ka rfl o_a1) hf fun m2 hw hf => ?_
    refine k_gR hw (ok_o o_v0 (by decide)) rfl hf fun a3 o_a3 hf => ?_
    refine k_gI (ok_o o_v0 (by decide)) rfl ?_
    refine k_sL hw (ka rfl o_a3) hf fun m4 hw hf => ?_
    refine k_gI (ok_o o_v0 (by decide)) rfl ?_
    refine k_pI hw (ok_o o_v0 (by decide)) rfl hf fun m5 hw hf => ?_
    exact k_ret hw hf
def n_X4_pile (s : List Sh) (m : Mem) (p0 : Nat) (p1 : Int64) (p3 : Int64) : Option (Unit × Mem) := nb_X4_pile_0 s m p0 p1 p3
theorem un_X4_pile {s : List Sh} {m m' : Mem} {p0 : Nat} {p1 : Int64} {p3 : Int64} {r : Unit} (hw : GS s m) (o_p0 : ok s p0 4) (ex : n_X4_pile s m p0 p1 p3 = some (r, m')) : J3 (m_X4_pile (bl s m) p0 p1 p3) (r, bl s m') (GS s m') := u_X4_pile_0 hw o_p0 ex
/-! FractionLift$Reckoner.settle(JJ)I over the memory -/
def nb_X4_settle_15 (F : Nat) (s : List Sh) (m : Mem) (v0 : Nat) (v1 : Int64) (v3 : Int64) (s0 : Int64) : Option (Int32 × Mem) := if (1 : Int64) ≤ s0 then (if s0 = 0 then none else (bindv (v1 / s0) fun x1 => (if s0 = 0 then none else (bindv (v3 / s0) fun x2 => ((m.2.2 v0 2).bind fun a3 => ((stL s m a3 (((m.1 v0 4) - (1 : Int32))) x1).bind fun m4 => ((m4.2.2 v0 3).bind fun a5 => ((stL s m4 a5 (((m4.1 v0 4) - (1 : Int32))) x2).bind fun m6 => (if (1000000000 : Int64) < (jabsL x1) then (some ((3 : Int32), m6)) else (if x2 ≤ (1000000000 : Int64) then (some ((0 : Int32), m6)) else (some ((3 : Int32), m6)))))))))))) else (some ((2 : Int32), m))
set_option maxRecDepth 20000 in
theorem u_X4_settle_15 {F : Nat} {s : List Sh} {m m' : Mem} {r : Int32} {v0 : Nat} {v1 : Int64} {v3 : Int64} {s0 : Int64} (hw : GS s m) (o_v0 : ok s v0 4) (hf : nb_X4_settle_15 F s m v0 v1 v3 s0 = some (r, m')) : J3 (b_X4_settle_15 F (bl s m) v0 v1 v3 s0) (r, bl s m') (GS s m') := by
  unfold nb_X4_settle_15 at hf
  unfold b_X4_settle_15
  refine k_if hf (fun hf => ?_) (fun hf => ?_)
  · refine k_if hf (fun hf => by cases hf) (fun hf => ?_)
    refine k_bv hf fun x1 hf => ?_
    refine k_if hf (fun hf => by cases hf) (fun hf => ?_)
    refine k_bv hf fun x2 hf => ?_
    refine k_gR hw (ok_o o_v0 (by decide)) rfl hf fun a3 o_a3 hf => ?_
    refine k_gI (ok_o o_v0 (by decide)) rfl ?_
    refine k_sL hw (ka rfl o_a3) hf fun m4 hw hf => ?_
    refine k_gR hw (ok_o o_v0 (by decide)) rfl hf fun a5 o_a5 hf => ?_
    refine k_gI (ok_o o_v0 (by decide)) rfl ?_
    refine k_sL hw (ka rfl o_a5) hf fun m6 hw hf => ?_
    refine k_if hf (fun hf => ?_) (fun hf => ?_)
    · exact k_ret hw hf
    · refine k_if hf (fun hf => ?_) (fun hf => ?_)
      · exact k_ret hw hf
      · exact k_ret hw hf
  · exact k_ret hw hf
def nb_X4_settle_0 (F : Nat) (s : List Sh) (m : Mem) (v0 : Nat) (v1 : Int64) (v3 : Int64) : Option (Int32 × Mem) := if v3 = (1 : Int64) then (nb_X4_settle_15 F s m v0 v1 v3 (1 : Int64)) else ((m_X9_commonFactor F v1 v3).bind fun x1 => (nb_X4_settle_15 F s m v0 v1 v3 x1))
set_option maxRecDepth 20000 in
theorem u_X4_settle_0 {F : Nat} {s : List Sh} {m m' : Mem} {r : Int32} {v0 : Nat} {v1 : Int64} {v3 : Int64} (hw : GS s m) (o_v0 : ok s v0 4) (hf : nb_X4_settle_0 F s m v0 v1 v3 = some (r, m')) : J3 (b_X4_settle_0 F (bl s m) v0 v1 v3) (r, bl s m') (GS s m') := by
  unfold nb_X4_settle_0 at hf
  unfold b_X4_settle_0
  refine k_if hf (fun hf => ?_) (fun hf => ?_)
  · exact u_X4_settle_15 hw o_v0 hf
  · refine k_pure hf fun x1 hf => ?_
    exact u_X4_settle_15 hw o_v0 hf
def n_X4_settle (F : Nat) (s : List Sh) (m : Mem) (p0 : Nat) (p1 : Int64) (p3 : Int64) : Option (Int32 × Mem) := nb_X4_settle_0 F s m p0 p1 p3
theorem un_X4_settle {F : Nat} {s : List Sh} {m m' : Mem} {p0 : Nat} {p1 : Int64} {p3 : Int64} {r : Int32} (hw : GS s m) (o_p0 : ok s p0 4) (ex : n_X4_settle F s m p0 p1 p3 = some (r, m')) : J3 (m_X4_settle F (bl s m) p0 p1 p3) (r, bl s m') (GS s m') := u_X4_settle_0 hw o_p0 ex
/-! FractionLift$Reckoner.join(I)I over the memory -/
def nb_X4_join_0 (F : Nat) (s : List Sh) (m : Mem) (v0 : Nat) (v1 : Int32) : Option (Int32 × Mem) := if (2 : Int32) ≤ (m.1 v0 4) then (bindv (wI m v0 4 (((m.1 v0 4) - (1 : Int32)))) fun m1 => ((m1.2.2 v0 2).bind fun a2 => ((rdL s m1 a2 (((m1.1 v0 4) - (1 : Int32)))).bind fun x3 => ((m1.2.2 v0 3).bind fun a4 => ((rdL s m1 a4 (((m1.1 v0 4) - (1 : Int32)))).bind fun x5 => ((m1.2.2 v0 2).bind fun a6 => ((rdL s m1 a6 (m1.1 v0 4)).bind fun x7 => ((m1.2.2 v0 3).bind fun a8 => ((rdL s m1 a8 (m1.1 v0 4)).bind fun x9 => (swN v1 (-5) [bind2 (n_X4_settle F s m1 v0 (x3 * x7) (x5 * x9)) fun x10 m11 => (some (x10, m11)), bind2 (n_X4_settle F s m1 v0 (((x3 * x9) - (x7 * x5))) (x5 * x9)) fun x12 m13 => (some (x12, m13)), bind2 (n_X4_settle F s m1 v0 (((x3 * x9) + (x7 * x5))) (x5 * x9)) fun x14 m15 => (some (x14, m15))] (if x7 = (0 : Int64) then (some ((2 : Int32), m1)) else (if (0 : Int64) ≤ x7 then (bind2 (n_X4_settle F s m1 v0 (x3 * x9) (x7 * x5)) fun x16 m17 => (some (x16, m17))) else (bind2 (n_X4_settle F s m1 v0 (((-x3) * x9)) (((-x7) * x5))) fun x18 m19 => (some (x18, m19))))))))))))))) else (some ((4 : Int32), m))
set_option maxRecDepth 20000 in
theorem u_X4_join_0 {F : Nat} {s : List Sh} {m m' : Mem} {r : Int32} {v0 : Nat} {v1 : Int32} (hw : GS s m) (o_v0 : ok s v0 4) (hf : nb_X4_join_0 F s m v0 v1 = some (r, m')) : J3 (b_X4_join_0 F (bl s m) v0 v1) (r, bl s m') (GS s m') := by
  unfold nb_X4_join_0 at hf
  unfold b_X4_join_0
  refine k_gI (ok_o o_v0 (by decide)) rfl ?_
  refine k_if hf (fun hf => ?_) (fun hf => ?_)
  · refine k_gI (ok_o o_v0 (by decide)) rfl ?_
    refine k_pI hw (ok_o o_v0 (by decide)) rfl hf fun m1 hw hf => ?_
    refine k_gR hw (ok_o o_v0 (by decide)) rfl hf fun a2 o_a2 hf => ?_
    refine k_gI (ok_o o_v0 (by decide)) rfl ?_
    refine k_aL (ka rfl o_a2) hf fun x3 hf => ?_
    refine k_gR hw (ok_o o_v0 (by decide)) rfl hf fun a4 o_a4 hf => ?_
    refine k_gI (ok_o o_v0 (by decide)) rfl ?_
    refine k_aL (ka rfl o_a4) hf fun x5 hf => ?_
    refine k_gR hw (ok_o o_v0 (by decide)) rfl hf fun a6 o_a6 hf => ?_
    refine k_gI (ok_o o_v0 (by decide)) rfl ?_
    refine k_aL (ka rfl o_a6) hf fun x7 hf => ?_
    refine k_gR hw (ok_o o_v0 (by decide)) rfl hf fun a8 o_a8 hf => ?_
    refine k_gI (ok_o o_v0 (by decide)) rfl ?_
    refine k_aL (ka rfl o_a8) hf fun x9 hf => ?_
    refine k_sw hf rfl (fun i hi hf => ?_) (fun hf => ?_)
    · rcases (show i = 0 ∨ i = 1 ∨ i = 2 by simp only [List.length_cons, List.length_nil] at hi; omega) with rfl | rfl | rfl
      · have hf := gd_at hf rfl
        refine gd_goal rfl ?_
        refine k_cO (ok_o o_v0 (by decide)) ?_
        refine ob2 hf fun x10 m11 ex hf => ?_
        refine k_b2 (un_X4_settle hw o_v0 ex) fun hw => ?_
        exact k_ret hw hf
      · have hf := gd_at hf rfl
        refine gd_goal rfl ?_
        refine k_cO (ok_o o_v0 (by decide)) ?_
        refine ob2 hf fun x12 m13 ex hf => ?_
        refine k_b2 (un_X4_settle hw o_v0 ex) fun hw => ?_
        exact k_ret hw hf
      · have hf := gd_at hf rfl
        refine gd_goal rfl ?_
        refine k_cO (ok_o o_v0 (by decide)) ?_
        refine ob2 hf fun x14 m15 ex hf => ?_
        refine k_b2 (un_X4_settle hw o_v0 ex) fun hw => ?_
        exact k_ret hw hf
    · refine k_if hf (fun hf => ?_) (fun hf => ?_)
      · exact k_ret hw hf
      · refine k_if hf (fun hf => ?_) (fun hf => ?_)
        · refine k_cO (ok_o o_v0 (by decide)) ?_
          refine ob2 hf fun x16 m17 ex hf => ?_
          refine k_b2 (un_X4_settle hw o_v0 ex) fun hw => ?_
          exact k_ret hw hf
        · refine k_cO (ok_o o_v0 (by decide)) ?_
          refine ob2 hf fun x18 m19 ex hf => ?_
          refine k_b2 (un_X4_settle hw o_v0 ex) fun hw => ?_
          exact k_ret hw hf
  · exact k_ret hw hf
def n_X4_join (F : Nat) (s : List Sh) (m : Mem) (p0 : Nat) (p1 : Int32) : Option (Int32 × Mem) := nb_X4_join_0 F s m p0 p1
theorem un_X4_join {F : Nat} {s : List Sh} {m m' : Mem} {p0 : Nat} {p1 : Int32} {r : Int32} (hw : GS s m) (o_p0 : ok s p0 4) (ex : n_X4_join F s m p0 p1 = some (r, m')) : J3 (m_X4_join F (bl s m) p0 p1) (r, bl s m') (GS s m') := u_X4_join_0 hw o_p0 ex
/-! FractionLift$Reckoner.lead(LFractionLift$House;IJJ)I over the memory -/
def nb_X4_lead_116 (F : Nat) (s : List Sh) (nself23 : Mem → Nat → Nat → Int64 → Int64 → Int32 → Int32 → Option (Int32 × Mem)) (m : Mem) (v0 : Nat) (v1 : Nat) (v3 : Int64) (v5 : Int64) (v7 : Int32) (v8 : Int32) (v10 : Int32) : Option (Int32 × Mem) := if v10 = 0 then (bindv (v8 + (1)) fun x1 => (nself23 m v0 v1 v3 v5 v7 x1)) else (some (v10, m))
set_option maxRecDepth 20000 in
theorem u_X4_lead_116 {F : Nat} {s : List Sh} {self23 : PH → Nat → Nat → Int64 → Int64 → Int32 → Int32 → Option (Int32 × PH)} {nself23 : Mem → Nat → Nat → Int64 → Int64 → Int32 → Int32 → Option (Int32 × Mem)} {m m' : Mem} {r : Int32} {v0 : Nat} {v1 : Nat} {v3 : Int64} {v5 : Int64} {v7 : Int32} {v8 : Int32} {v10 : Int32} (hw : GS s m) (o_v0 : ok s v0 4) (o_v1 : ok s v1 0) (ih23 : ∀ (m : Mem) (v0 : Nat) (v1 : Nat) (v3 : Int64) (v5 : Int64) (v7 : Int32) (v8 : Int32), GS s m → ok s v0 4 → ok s v1 0 → nself23 m v0 v1 v3 v5 v7 v8 = some (r, m') → J3 (self23 (bl s m) v0 v1 v3 v5 v7 v8) (r, bl s m') (GS s m')) (hf : nb_X4_lead_116 F s nself23 m v0 v1 v3 v5 v7 v8 v10 = some (r, m')) : J3 (b_X4_lead_116 F self23 (bl s m) v0 v1 v3 v5 v7 v8 v10) (r, bl s m') (GS s m') := by
  unfold nb_X4_lead_116 at hf
  unfold b_X4_lead_116
  refine k_if hf (fun hf => ?_) (fun hf => ?_)
  · refine k_bv hf fun x1 hf => ?_
    exact ih23 _ _ _ _ _ _ _ hw o_v0 o_v1 hf
  · exact k_ret hw hf
def nb_X4_lead_37 (F : Nat) (s : List Sh) (nself23 : Mem → Nat → Nat → Int64 → Int64 → Int32 → Int32 → Option (Int32 × Mem)) (m : Mem) (v0 : Nat) (v1 : Nat) (v3 : Int64) (v5 : Int64) (v7 : Int32) (v8 : Int32) : Option (Int32 × Mem) := if v7 ≤ v8 then (if (m.1 v0 4) = (1 : Int32) then ((m.2.2 v0 2).bind fun a1 => ((rdL s m a1 (0 : Int32)).bind fun x2 => ((m.2.2 v0 3).bind fun a3 => ((rdL s m a3 (0 : Int32)).bind fun x4 => ((n_X0_isFloor s m v1 x2 x4).bind fun x5 => (if x5 = 0 then (some ((4 : Int32), m)) else ((m.2.2 v0 2).bind fun a6 => ((rdL s m a6 (0 : Int32)).bind fun x7 => (bindv (wI m v0 0 (Int64.toInt32 x7)) fun m8 => ((m8.2.2 v0 3).bind fun a9 => ((rdL s m8 a9 (0 : Int32)).bind fun x10 => (bindv (wI m8 v0 1 (Int64.toInt32 x10)) fun m11 => (some ((0 : Int32), m11)))))))))))))) else (some ((4 : Int32), m))) else ((m.2.2 v1 8).bind fun a12 => ((rdI s m a12 v8).bind fun x13 => (if x13 < 0 then (if x13 = (-1 : Int32) then (bind2 (n_X4_pile s m v0 v3 v5) fun _ m19 => (nb_X4_lead_116 F s nself23 m19 v0 v1 v3 v5 v7 v8 (0 : Int32))) else (if x13 = (-2 : Int32) then (bind2 (n_X4_pile s m v0 ((Int32.toInt64 (m.1 v1 0))) (1 : Int64)) fun _ m17 => (nb_X4_lead_116 F s nself23 m17 v0 v1 v3 v5 v7 v8 (0 : Int32))) else (bind2 (n_X4_join F s m v0 x13) fun x14 m15 => (nb_X4_lead_116 F s nself23 m15 v0 v1 v3 v5 v7 v8 x14)))) else (bind2 (n_X4_pile s m v0 (Int32.toInt64 x13) (1 : Int64)) fun _ m21 => (nb_X4_lead_116 F s nself23 m21 v0 v1 v3 v5 v7 v8 (0 : Int32))))))
set_option maxRecDepth 20000 in
theorem ub_X4_lead_37 {F : Nat} {s : List Sh} {self23 : PH → Nat → Nat → Int64 → Int64 → Int32 → Int32 → Option (Int32 × PH)} {nself23 : Mem → Nat → Nat → Int64 → Int64 → Int32 → Int32 → Option (Int32 × Mem)} {m m' : Mem} {r : Int32} {v0 : Nat} {v1 : Nat} {v3 : Int64} {v5 : Int64} {v7 : Int32} {v8 : Int32} (hw : GS s m) (o_v0 : ok s v0 4) (o_v1 : ok s v1 0) (ih23 : ∀ (m : Mem) (v0 : Nat) (v1 : Nat) (v3 : Int64) (v5 : Int64) (v7 : Int32) (v8 : Int32), GS s m → ok s v0 4 → ok s v1 0 → nself23 m v0 v1 v3 v5 v7 v8 = some (r, m') → J3 (self23 (bl s m) v0 v1 v3 v5 v7 v8) (r, bl s m') (GS s m')) (hf : nb_X4_lead_37 F s nself23 m v0 v1 v3 v5 v7 v8 = some (r, m')) : J3 (b_X4_lead_37 F self23 (bl s m) v0 v1 v3 v5 v7 v8) (r, bl s m') (GS s m') := by
  unfold nb_X4_lead_37 at hf
  unfold b_X4_lead_37
  refine k_if hf (fun hf => ?_) (fun hf => ?_)
  · refine k_gI (ok_o o_v0 (by decide)) rfl ?_
    refine k_if hf (fun hf => ?_) (fun hf => ?_)
    · refine k_gR hw (ok_o o_v0 (by decide)) rfl hf fun a1 o_a1 hf => ?_
      refine k_aL (ka rfl o_a1) hf fun x2 hf => ?_
      refine k_gR hw (ok_o o_v0 (by decide)) rfl hf fun a3 o_a3 hf => ?_
      refine k_aL (ka rfl o_a3) hf fun x4 hf => ?_
      refine k_cO (ok_o o_v1 (by decide)) ?_
      refine ob hf fun x5 ex hf => ?_
      refine k_b1 (un_X0_isFloor hw o_v1 ex) ?_
      refine k_if hf (fun hf => ?_) (fun hf => ?_)
      · exact k_ret hw hf
      · refine k_gR hw (ok_o o_v0 (by decide)) rfl hf fun a6 o_a6 hf => ?_
        refine k_aL (ka rfl o_a6) hf fun x7 hf => ?_
        refine k_pI hw (ok_o o_v0 (by decide)) rfl hf fun m8 hw hf => ?_
        refine k_gR hw (ok_o o_v0 (by decide)) rfl hf fun a9 o_a9 hf => ?_
        refine k_aL (ka rfl o_a9) hf fun x10 hf => ?_
        refine k_pI hw (ok_o o_v0 (by decide)) rfl hf fun m11 hw hf => ?_
        exact k_ret hw hf
    · exact k_ret hw hf
  · refine k_gR hw (ok_o o_v1 (by decide)) rfl hf fun a12 o_a12 hf => ?_
    refine k_aI (Or.inl rfl) (ka rfl o_a12) hf fun x13 hf => ?_
    refine k_if hf (fun hf => ?_) (fun hf => ?_)
    · refine k_if hf (fun hf => ?_) (fun hf => ?_)
      · refine k_cO (ok_o o_v0 (by decide)) ?_
        refine ob2 hf fun u m19 ex hf => ?_
        refine k_b2 (un_X4_pile hw o_v0 ex) fun hw => ?_
        exact u_X4_lead_116 hw o_v0 o_v1 ih23 hf
      · refine k_if hf (fun hf => ?_) (fun hf => ?_)
        · refine k_gI (ok_o o_v1 (by decide)) rfl ?_
          refine k_cO (ok_o o_v0 (by decide)) ?_
          refine ob2 hf fun u m17 ex hf => ?_
          refine k_b2 (un_X4_pile hw o_v0 ex) fun hw => ?_
          exact u_X4_lead_116 hw o_v0 o_v1 ih23 hf
        · refine k_cO (ok_o o_v0 (by decide)) ?_
          refine ob2 hf fun x14 m15 ex hf => ?_
          refine k_b2 (un_X4_join hw o_v0 ex) fun hw => ?_
          exact u_X4_lead_116 hw o_v0 o_v1 ih23 hf
    · refine k_cO (ok_o o_v0 (by decide)) ?_
      refine ob2 hf fun u m21 ex hf => ?_
      refine k_b2 (un_X4_pile hw o_v0 ex) fun hw => ?_
      exact u_X4_lead_116 hw o_v0 o_v1 ih23 hf
def nl_X4_lead_37 (F : Nat) (s : List Sh) : Nat → Mem → Nat → Nat → Int64 → Int64 → Int32 → Int32 → Option (Int32 × Mem)
  | 0 => fun _ _ _ _ _ _ _ => none
  | n + 1 => fun m v0 v1 v3 v5 v7 v8 => nb_X4_lead_37 F s (nl_X4_lead_37 F s n) m v0 v1 v3 v5 v7 v8
theorem ul_X4_lead_37 {F : Nat} {s : List Sh} {m' : Mem} {r : Int32} (n : Nat) : ∀ (m : Mem) (v0 : Nat) (v1 : Nat) (v3 : Int64) (v5 : Int64) (v7 : Int32) (v8 : Int32), GS s m → ok s v0 4 → ok s v1 0 → nl_X4_lead_37 F s n m v0 v1 v3 v5 v7 v8 = some (r, m') → J3 (l_X4_lead_37 F n (bl s m) v0 v1 v3 v5 v7 v8) (r, bl s m') (GS s m') := by
  induction n with
  | zero => intro m v0 v1 v3 v5 v7 v8 hw o_v0 o_v1 hf; cases hf
  | succ n ih => intro m v0 v1 v3 v5 v7 v8 hw o_v0 o_v1 hf; exact ub_X4_lead_37 (F := F) hw o_v0 o_v1 ih hf
def nb_X4_lead_0 (F : Nat) (s : List Sh) (m : Mem) (v0 : Nat) (v1 : Nat) (v2 : Int32) (v3 : Int64) (v5 : Int64) : Option (Int32 × Mem) := if v2 < 0 then (some ((1 : Int32), m)) else (if v2 < (m.1 v1 6) then (bindv (wI m v0 4 (0 : Int32)) fun m1 => ((m1.2.2 v1 7).bind fun a2 => ((rdI s m1 a2 ((v2 + (1 : Int32)))).bind fun x3 => ((m1.2.2 v1 7).bind fun a4 => ((rdI s m1 a4 v2).bind fun x5 => (nl_X4_lead_37 F s F m1 v0 v1 v3 v5 x3 x5)))))) else (some ((1 : Int32), m)))
set_option maxRecDepth 20000 in
theorem u_X4_lead_0 {F : Nat} {s : List Sh} {m m' : Mem} {r : Int32} {v0 : Nat} {v1 : Nat} {v2 : Int32} {v3 : Int64} {v5 : Int64} (hw : GS s m) (o_v0 : ok s v0 4) (o_v1 : ok s v1 0) (hf : nb_X4_lead_0 F s m v0 v1 v2 v3 v5 = some (r, m')) : J3 (b_X4_lead_0 F (bl s m) v0 v1 v2 v3 v5) (r, bl s m') (GS s m') := by
  unfold nb_X4_lead_0 at hf
  unfold b_X4_lead_0
  refine k_if hf (fun hf => ?_) (fun hf => ?_)
  · exact k_ret hw hf
  · refine k_gI (ok_o o_v1 (by decide)) rfl ?_
    refine k_if hf (fun hf => ?_) (fun hf => ?_)
    · refine k_pI hw (ok_o o_v0 (by decide)) rfl hf fun m1 hw hf => ?_
      refine k_gR hw (ok_o o_v1 (by decide)) rfl hf fun a2 o_a2 hf => ?_
      refine k_aI (Or.inl rfl) (ka rfl o_a2) hf fun x3 hf => ?_
      refine k_gR hw (ok_o o_v1 (by decide)) rfl hf fun a4 o_a4 hf => ?_
      refine k_aI (Or.inl rfl) (ka rfl o_a4) hf fun x5 hf => ?_
      exact ul_X4_lead_37 F _ _ _ _ _ _ _ hw o_v0 o_v1 hf
    · exact k_ret hw hf
def n_X4_lead (F : Nat) (s : List Sh) (m : Mem) (p0 : Nat) (p1 : Nat) (p2 : Int32) (p3 : Int64) (p5 : Int64) : Option (Int32 × Mem) := nb_X4_lead_0 F s m p0 p1 p2 p3 p5
theorem un_X4_lead {F : Nat} {s : List Sh} {m m' : Mem} {p0 : Nat} {p1 : Nat} {p2 : Int32} {p3 : Int64} {p5 : Int64} {r : Int32} (hw : GS s m) (o_p0 : ok s p0 4) (o_p1 : ok s p1 0) (ex : n_X4_lead F s m p0 p1 p2 p3 p5 = some (r, m')) : J3 (m_X4_lead F (bl s m) p0 p1 p2 p3 p5) (r, bl s m') (GS s m') := u_X4_lead_0 hw o_p0 o_p1 ex
/-! FractionLift$Reckoner.joinBy(II)Z over the memory -/
def nb_X4_joinBy_135 (F : Nat) (s : List Sh) (m : Mem) (v0 : Nat) (v5 : Int32) : Option (Int32 × Mem) := (m.2.2 v0 2).bind fun a1 => ((stL s m a1 (((m.1 v0 4) - (1 : Int32))) (Int32.toInt64 v5)).bind fun m2 => (rZM (1 : Int32) m2))
set_option maxRecDepth 20000 in
theorem u_X4_joinBy_135 {F : Nat} {s : List Sh} {m m' : Mem} {r : Int32} {v0 : Nat} {v5 : Int32} (hw : GS s m) (o_v0 : ok s v0 4) (hf : nb_X4_joinBy_135 F s m v0 v5 = some (r, m')) : J3 (b_X4_joinBy_135 F (bl s m) v0 v5) (r, bl s m') (GS s m') := by
  unfold nb_X4_joinBy_135 at hf
  unfold b_X4_joinBy_135
  refine k_gR hw (ok_o o_v0 (by decide)) rfl hf fun a1 o_a1 hf => ?_
  refine k_gI (ok_o o_v0 (by decide)) rfl ?_
  refine k_sL hw (ka rfl o_a1) hf fun m2 hw hf => ?_
  exact k_rZ hw hf
def nb_X4_joinBy_0 (F : Nat) (s : List Sh) (m : Mem) (v0 : Nat) (v1 : Int32) (v2 : Int32) : Option (Int32 × Mem) := if (m.1 v0 4) < (2 : Int32) then (rZM (0 : Int32) m) else (if (2 : Int32) ≤ v2 then (bindv (wI m v0 4 (((m.1 v0 4) - (1 : Int32)))) fun m1 => ((m1.2.2 v0 2).bind fun a2 => ((rdL s m1 a2 (((m1.1 v0 4) - (1 : Int32)))).bind fun x3 => (bindv (Int64.toInt32 x3) fun x4 => ((m1.2.2 v0 2).bind fun a5 => ((rdL s m1 a5 (m1.1 v0 4)).bind fun x6 => (bindv (Int64.toInt32 x6) fun x7 => (swN v1 (-5) [if v2 = 0 then none else (bindv ((remI (x4 * x7) v2)) fun x8 => (nb_X4_joinBy_135 F s m1 v0 x8)), if v2 = 0 then none else (bindv ((remI (((x4 - x7) + v2)) v2)) fun x9 => (nb_X4_joinBy_135 F s m1 v0 x9)), if v2 = 0 then none else (bindv ((remI (x4 + x7) v2)) fun x10 => (nb_X4_joinBy_135 F s m1 v0 x10))] ((m_X9_inverseBy F x7 v2).bind fun x11 => (if x11 = (-1 : Int32) then (rZM (0 : Int32) m1) else (if v2 = 0 then none else (bindv ((remI (x4 * x11) v2)) fun x12 => (nb_X4_joinBy_135 F s m1 v0 x12))))))))))))) else (rZM (0 : Int32) m))
set_option maxRecDepth 20000 in
theorem u_X4_joinBy_0 {F : Nat} {s : List Sh} {m m' : Mem} {r : Int32} {v0 : Nat} {v1 : Int32} {v2 : Int32} (hw : GS s m) (o_v0 : ok s v0 4) (hf : nb_X4_joinBy_0 F s m v0 v1 v2 = some (r, m')) : J3 (b_X4_joinBy_0 F (bl s m) v0 v1 v2) (r, bl s m') (GS s m') := by
  unfold nb_X4_joinBy_0 at hf
  unfold b_X4_joinBy_0
  refine k_gI (ok_o o_v0 (by decide)) rfl ?_
  refine k_if hf (fun hf => ?_) (fun hf => ?_)
  · exact k_rZ hw hf
  · refine k_if hf (fun hf => ?_) (fun hf => ?_)
    · refine k_gI (ok_o o_v0 (by decide)) rfl ?_
      refine k_pI hw (ok_o o_v0 (by decide)) rfl hf fun m1 hw hf => ?_
      refine k_gR hw (ok_o o_v0 (by decide)) rfl hf fun a2 o_a2 hf => ?_
      refine k_gI (ok_o o_v0 (by decide)) rfl ?_
      refine k_aL (ka rfl o_a2) hf fun x3 hf => ?_
      refine k_bv hf fun x4 hf => ?_
      refine k_gR hw (ok_o o_v0 (by decide)) rfl hf fun a5 o_a5 hf => ?_
      refine k_gI (ok_o o_v0 (by decide)) rfl ?_
      refine k_aL (ka rfl o_a5) hf fun x6 hf => ?_
      refine k_bv hf fun x7 hf => ?_
      refine k_sw hf rfl (fun i hi hf => ?_) (fun hf => ?_)
      · rcases (show i = 0 ∨ i = 1 ∨ i = 2 by simp only [List.length_cons, List.length_nil] at hi; omega) with rfl | rfl | rfl
        · have hf := gd_at hf rfl
          refine gd_goal rfl ?_
          refine k_if hf (fun hf => by cases hf) (fun hf => ?_)
          refine k_bv hf fun x8 hf => ?_
          exact u_X4_joinBy_135 hw o_v0 hf
        · have hf := gd_at hf rfl
          refine gd_goal rfl ?_
          refine k_if hf (fun hf => by cases hf) (fun hf => ?_)
          refine k_bv hf fun x9 hf => ?_
          exact u_X4_joinBy_135 hw o_v0 hf
        · have hf := gd_at hf rfl
          refine gd_goal rfl ?_
          refine k_if hf (fun hf => by cases hf) (fun hf => ?_)
          refine k_bv hf fun x10 hf => ?_
          exact u_X4_joinBy_135 hw o_v0 hf
      · refine k_pure hf fun x11 hf => ?_
        refine k_if hf (fun hf => ?_) (fun hf => ?_)
        · exact k_rZ hw hf
        · refine k_if hf (fun hf => by cases hf) (fun hf => ?_)
          refine k_bv hf fun x12 hf => ?_
          exact u_X4_joinBy_135 hw o_v0 hf
    · exact k_rZ hw hf
def n_X4_joinBy (F : Nat) (s : List Sh) (m : Mem) (p0 : Nat) (p1 : Int32) (p2 : Int32) : Option (Int32 × Mem) := nb_X4_joinBy_0 F s m p0 p1 p2
theorem un_X4_joinBy {F : Nat} {s : List Sh} {m m' : Mem} {p0 : Nat} {p1 : Int32} {p2 : Int32} {r : Int32} (hw : GS s m) (o_p0 : ok s p0 4) (ex : n_X4_joinBy F s m p0 p1 p2 = some (r, m')) : J3 (m_X4_joinBy F (bl s m) p0 p1 p2) (r, bl s m') (GS s m') := u_X4_joinBy_0 hw o_p0 ex
/-! FractionLift$Reckoner.remainderLed(LFractionLift$House;III)I over the memory -/
def nb_X4_remainderLed_130 (F : Nat) (s : List Sh) (nself26 : Mem → Nat → Nat → Int32 → Int32 → Int32 → Int32 → Option (Int32 × Mem)) (m : Mem) (v0 : Nat) (v1 : Nat) (v3 : Int32) (v4 : Int32) (v5 : Int32) (v6 : Int32) : Option (Int32 × Mem) := bindv (v6 + (1)) fun x1 => (nself26 m v0 v1 v3 v4 v5 x1)
set_option maxRecDepth 20000 in
theorem u_X4_remainderLed_130 {F : Nat} {s : List Sh} {self26 : PH → Nat → Nat → Int32 → Int32 → Int32 → Int32 → Option (Int32 × PH)} {nself26 : Mem → Nat → Nat → Int32 → Int32 → Int32 → Int32 → Option (Int32 × Mem)} {m m' : Mem} {r : Int32} {v0 : Nat} {v1 : Nat} {v3 : Int32} {v4 : Int32} {v5 : Int32} {v6 : Int32} (hw : GS s m) (o_v0 : ok s v0 4) (o_v1 : ok s v1 0) (ih26 : ∀ (m : Mem) (v0 : Nat) (v1 : Nat) (v3 : Int32) (v4 : Int32) (v5 : Int32) (v6 : Int32), GS s m → ok s v0 4 → ok s v1 0 → nself26 m v0 v1 v3 v4 v5 v6 = some (r, m') → J3 (self26 (bl s m) v0 v1 v3 v4 v5 v6) (r, bl s m') (GS s m')) (hf : nb_X4_remainderLed_130 F s nself26 m v0 v1 v3 v4 v5 v6 = some (r, m')) : J3 (b_X4_remainderLed_130 F self26 (bl s m) v0 v1 v3 v4 v5 v6) (r, bl s m') (GS s m') := by
  unfold nb_X4_remainderLed_130 at hf
  unfold b_X4_remainderLed_130
  refine k_bv hf fun x1 hf => ?_
  exact ih26 _ _ _ _ _ _ _ hw o_v0 o_v1 hf
def nb_X4_remainderLed_43 (F : Nat) (s : List Sh) (nself26 : Mem → Nat → Nat → Int32 → Int32 → Int32 → Int32 → Option (Int32 × Mem)) (m : Mem) (v0 : Nat) (v1 : Nat) (v3 : Int32) (v4 : Int32) (v5 : Int32) (v6 : Int32) : Option (Int32 × Mem) := if v5 ≤ v6 then (if (m.1 v0 4) = (1 : Int32) then ((m.2.2 v0 2).bind fun a1 => ((rdL s m a1 (0 : Int32)).bind fun x2 => (some ((Int64.toInt32 x2), m)))) else (some ((-1 : Int32), m))) else ((m.2.2 v1 8).bind fun a3 => ((rdI s m a3 v6).bind fun x4 => (if x4 < 0 then (if x4 = (-1 : Int32) then (bind2 (n_X4_pile s m v0 (Int32.toInt64 v3) (1 : Int64)) fun _ m10 => (nb_X4_remainderLed_130 F s nself26 m10 v0 v1 v3 v4 v5 v6)) else (if x4 = (-2 : Int32) then (if v4 = 0 then none else (bind2 (n_X4_pile s m v0 ((Int32.toInt64 ((remI (m.1 v1 0) v4)))) (1 : Int64)) fun _ m8 => (nb_X4_remainderLed_130 F s nself26 m8 v0 v1 v3 v4 v5 v6))) else (bind2 (n_X4_joinBy F s m v0 x4 v4) fun x5 m6 => (if x5 = 0 then (some ((-1 : Int32), m6)) else (nb_X4_remainderLed_130 F s nself26 m6 v0 v1 v3 v4 v5 v6))))) else (if v4 = 0 then none else (bind2 (n_X4_pile s m v0 ((Int32.toInt64 (remI x4 v4))) (1 : Int64)) fun _ m12 => (nb_X4_remainderLed_130 F s nself26 m12 v0 v1 v3 v4 v5 v6))))))
set_option maxRecDepth 20000 in
theorem ub_X4_remainderLed_43 {F : Nat} {s : List Sh} {self26 : PH → Nat → Nat → Int32 → Int32 → Int32 → Int32 → Option (Int32 × PH)} {nself26 : Mem → Nat → Nat → Int32 → Int32 → Int32 → Int32 → Option (Int32 × Mem)} {m m' : Mem} {r : Int32} {v0 : Nat} {v1 : Nat} {v3 : Int32} {v4 : Int32} {v5 : Int32} {v6 : Int32} (hw : GS s m) (o_v0 : ok s v0 4) (o_v1 : ok s v1 0) (ih26 : ∀ (m : Mem) (v0 : Nat) (v1 : Nat) (v3 : Int32) (v4 : Int32) (v5 : Int32) (v6 : Int32), GS s m → ok s v0 4 → ok s v1 0 → nself26 m v0 v1 v3 v4 v5 v6 = some (r, m') → J3 (self26 (bl s m) v0 v1 v3 v4 v5 v6) (r, bl s m') (GS s m')) (hf : nb_X4_remainderLed_43 F s nself26 m v0 v1 v3 v4 v5 v6 = some (r, m')) : J3 (b_X4_remainderLed_43 F self26 (bl s m) v0 v1 v3 v4 v5 v6) (r, bl s m') (GS s m') := by
  unfold nb_X4_remainderLed_43 at hf
  unfold b_X4_remainderLed_43
  refine k_if hf (fun hf => ?_) (fun hf => ?_)
  · refine k_gI (ok_o o_v0 (by decide)) rfl ?_
    refine k_if hf (fun hf => ?_) (fun hf => ?_)
    · refine k_gR hw (ok_o o_v0 (by decide)) rfl hf fun a1 o_a1 hf => ?_
      refine k_aL (ka rfl o_a1) hf fun x2 hf => ?_
      exact k_ret hw hf
    · exact k_ret hw hf
  · refine k_gR hw (ok_o o_v1 (by decide)) rfl hf fun a3 o_a3 hf => ?_
    refine k_aI (Or.inl rfl) (ka rfl o_a3) hf fun x4 hf => ?_
    refine k_if hf (fun hf => ?_) (fun hf => ?_)
    · refine k_if hf (fun hf => ?_) (fun hf => ?_)
      · refine k_cO (ok_o o_v0 (by decide)) ?_
        refine ob2 hf fun u m10 ex hf => ?_
        refine k_b2 (un_X4_pile hw o_v0 ex) fun hw => ?_
        exact u_X4_remainderLed_130 hw o_v0 o_v1 ih26 hf
      · refine k_if hf (fun hf => ?_) (fun hf => ?_)
        · refine k_gI (ok_o o_v1 (by decide)) rfl ?_
          refine k_if hf (fun hf => by cases hf) (fun hf => ?_)
          refine k_cO (ok_o o_v0 (by decide)) ?_
          refine ob2 hf fun u m8 ex hf => ?_
          refine k_b2 (un_X4_pile hw o_v0 ex) fun hw => ?_
          exact u_X4_remainderLed_130 hw o_v0 o_v1 ih26 hf
        · refine k_cO (ok_o o_v0 (by decide)) ?_
          refine ob2 hf fun x5 m6 ex hf => ?_
          refine k_b2 (un_X4_joinBy hw o_v0 ex) fun hw => ?_
          refine k_if hf (fun hf => ?_) (fun hf => ?_)
          · exact k_ret hw hf
          · exact u_X4_remainderLed_130 hw o_v0 o_v1 ih26 hf
    · refine k_if hf (fun hf => by cases hf) (fun hf => ?_)
      refine k_cO (ok_o o_v0 (by decide)) ?_
      refine ob2 hf fun u m12 ex hf => ?_
      refine k_b2 (un_X4_pile hw o_v0 ex) fun hw => ?_
      exact u_X4_remainderLed_130 hw o_v0 o_v1 ih26 hf
def nl_X4_remainderLed_43 (F : Nat) (s : List Sh) : Nat → Mem → Nat → Nat → Int32 → Int32 → Int32 → Int32 → Option (Int32 × Mem)
  | 0 => fun _ _ _ _ _ _ _ => none
  | n + 1 => fun m v0 v1 v3 v4 v5 v6 => nb_X4_remainderLed_43 F s (nl_X4_remainderLed_43 F s n) m v0 v1 v3 v4 v5 v6
theorem ul_X4_remainderLed_43 {F : Nat} {s : List Sh} {m' : Mem} {r : Int32} (n : Nat) : ∀ (m : Mem) (v0 : Nat) (v1 : Nat) (v3 : Int32) (v4 : Int32) (v5 : Int32) (v6 : Int32), GS s m → ok s v0 4 → ok s v1 0 → nl_X4_remainderLed_43 F s n m v0 v1 v3 v4 v5 v6 = some (r, m') → J3 (l_X4_remainderLed_43 F n (bl s m) v0 v1 v3 v4 v5 v6) (r, bl s m') (GS s m') := by
  induction n with
  | zero => intro m v0 v1 v3 v4 v5 v6 hw o_v0 o_v1 hf; cases hf
  | succ n ih => intro m v0 v1 v3 v4 v5 v6 hw o_v0 o_v1 hf; exact ub_X4_remainderLed_43 (F := F) hw o_v0 o_v1 ih hf
def nb_X4_remainderLed_0 (F : Nat) (s : List Sh) (m : Mem) (v0 : Nat) (v1 : Nat) (v2 : Int32) (v3 : Int32) (v4 : Int32) : Option (Int32 × Mem) := if v2 < 0 then (some ((-1 : Int32), m)) else (if (m.1 v1 6) ≤ v2 then (some ((-1 : Int32), m)) else (if (2 : Int32) ≤ v4 then (bindv (wI m v0 4 (0 : Int32)) fun m1 => ((m1.2.2 v1 7).bind fun a2 => ((rdI s m1 a2 ((v2 + (1 : Int32)))).bind fun x3 => ((m1.2.2 v1 7).bind fun a4 => ((rdI s m1 a4 v2).bind fun x5 => (nl_X4_remainderLed_43 F s F m1 v0 v1 v3 v4 x3 x5)))))) else (some ((-1 : Int32), m))))
set_option maxRecDepth 20000 in
theorem u_X4_remainderLed_0 {F : Nat} {s : List Sh} {m m' : Mem} {r : Int32} {v0 : Nat} {v1 : Nat} {v2 : Int32} {v3 : Int32} {v4 : Int32} (hw : GS s m) (o_v0 : ok s v0 4) (o_v1 : ok s v1 0) (hf : nb_X4_remainderLed_0 F s m v0 v1 v2 v3 v4 = some (r, m')) : J3 (b_X4_remainderLed_0 F (bl s m) v0 v1 v2 v3 v4) (r, bl s m') (GS s m') := by
  unfold nb_X4_remainderLed_0 at hf
  unfold b_X4_remainderLed_0
  refine k_if hf (fun hf => ?_) (fun hf => ?_)
  · exact k_ret hw hf
  · refine k_gI (ok_o o_v1 (by decide)) rfl ?_
    refine k_if hf (fun hf => ?_) (fun hf => ?_)
    · exact k_ret hw hf
    · refine k_if hf (fun hf => ?_) (fun hf => ?_)
      · refine k_pI hw (ok_o o_v0 (by decide)) rfl hf fun m1 hw hf => ?_
        refine k_gR hw (ok_o o_v1 (by decide)) rfl hf fun a2 o_a2 hf => ?_
        refine k_aI (Or.inl rfl) (ka rfl o_a2) hf fun x3 hf => ?_
        refine k_gR hw (ok_o o_v1 (by decide)) rfl hf fun a4 o_a4 hf => ?_
        refine k_aI (Or.inl rfl) (ka rfl o_a4) hf fun x5 hf => ?_
        exact ul_X4_remainderLed_43 F _ _ _ _ _ _ _ hw o_v0 o_v1 hf
      · exact k_ret hw hf
def n_X4_remainderLed (F : Nat) (s : List Sh) (m : Mem) (p0 : Nat) (p1 : Nat) (p2 : Int32) (p3 : Int32) (p4 : Int32) : Option (Int32 × Mem) := nb_X4_remainderLed_0 F s m p0 p1 p2 p3 p4
theorem un_X4_remainderLed {F : Nat} {s : List Sh} {m m' : Mem} {p0 : Nat} {p1 : Nat} {p2 : Int32} {p3 : Int32} {p4 : Int32} {r : Int32} (hw : GS s m) (o_p0 : ok s p0 4) (o_p1 : ok s p1 0) (ex : n_X4_remainderLed F s m p0 p1 p2 p3 p4 = some (r, m')) : J3 (m_X4_remainderLed F (bl s m) p0 p1 p2 p3 p4) (r, bl s m') (GS s m') := u_X4_remainderLed_0 hw o_p0 o_p1 ex
/-! FractionLift$Routes.begin(LFractionLift$House;)V over the memory -/
def nb_X5_begin_0 (F : Nat) (s : List Sh) (m : Mem) (v0 : Nat) (v1 : Nat) : Option (Unit × Mem) := bindv (wR m v0 5 (some v1)) fun m1 => ((m1.2.2 v0 0).bind fun a2 => (bind2 (n_X1_clearAll F s m1 a2) fun _ m4 => ((m4.2.2 v0 0).bind fun a5 => (bind2 (n_X1_put s m4 a5 (m4.1 v1 4) (m4.1 v1 5) (-1 : Int32)) fun _ m7 => (some ((), m7))))))
set_option maxRecDepth 20000 in
theorem u_X5_begin_0 {F : Nat} {s : List Sh} {m m' : Mem} {r : Unit} {v0 : Nat} {v1 : Nat} (hw : GS s m) (o_v0 : ok s v0 5) (o_v1 : ok s v1 0) (hf : nb_X5_begin_0 F s m v0 v1 = some (r, m')) : J3 (b_X5_begin_0 F (bl s m) v0 v1) (r, bl s m') (GS s m') := by
  unfold nb_X5_begin_0 at hf
  unfold b_X5_begin_0
  refine k_pR hw (ok_o o_v0 (by decide)) rfl o_v1 hf fun m1 hw hf => ?_
  refine k_gR hw (ok_o o_v0 (by decide)) rfl hf fun a2 o_a2 hf => ?_
  refine k_cO (ok_o o_a2 (by decide)) ?_
  refine ob2 hf fun u m4 ex hf => ?_
  refine k_b2 (un_X1_clearAll hw o_a2 ex) fun hw => ?_
  refine k_gR hw (ok_o o_v0 (by decide)) rfl hf fun a5 o_a5 hf => ?_
  refine k_gI (ok_o o_v1 (by decide)) rfl ?_
  refine k_gI (ok_o o_v1 (by decide)) rfl ?_
  refine k_cO (ok_o o_a5 (by decide)) ?_
  refine ob2 hf fun u m7 ex hf => ?_
  refine k_b2 (un_X1_put hw o_a5 ex) fun hw => ?_
  exact k_ret hw hf
def n_X5_begin (F : Nat) (s : List Sh) (m : Mem) (p0 : Nat) (p1 : Nat) : Option (Unit × Mem) := nb_X5_begin_0 F s m p0 p1
theorem un_X5_begin {F : Nat} {s : List Sh} {m m' : Mem} {p0 : Nat} {p1 : Nat} {r : Unit} (hw : GS s m) (o_p0 : ok s p0 5) (o_p1 : ok s p1 0) (ex : n_X5_begin F s m p0 p1 = some (r, m')) : J3 (m_X5_begin F (bl s m) p0 p1) (r, bl s m') (GS s m') := u_X5_begin_0 hw o_p0 o_p1 ex
/-! FractionLift$Routes.stepTowards(IIII)Z over the memory -/
def nb_X5_stepTowards_177 (F : Nat) (s : List Sh) (nself2 : Mem → Nat → Int32 → Int32 → Int32 → Int32 → Option (Int32 × Mem)) (nself7 : Mem → Nat → Int32 → Int32 → Int32 → Int32 → Int32 → Option (Int32 × Mem)) (m : Mem) (v0 : Nat) (v1 : Int32) (v2 : Int32) (v4 : Int32) (v5 : Int32) (v6 : Int32) : Option (Int32 × Mem) := bindv (v6 + (1)) fun x1 => (nself7 m v0 v1 v2 v4 v5 x1)
set_option maxRecDepth 20000 in
theorem u_X5_stepTowards_177 {F : Nat} {s : List Sh} {self2 : PH → Nat → Int32 → Int32 → Int32 → Int32 → Option (Int32 × PH)} {nself2 : Mem → Nat → Int32 → Int32 → Int32 → Int32 → Option (Int32 × Mem)} {self7 : PH → Nat → Int32 → Int32 → Int32 → Int32 → Int32 → Option (Int32 × PH)} {nself7 : Mem → Nat → Int32 → Int32 → Int32 → Int32 → Int32 → Option (Int32 × Mem)} {m m' : Mem} {r : Int32} {v0 : Nat} {v1 : Int32} {v2 : Int32} {v4 : Int32} {v5 : Int32} {v6 : Int32} (hw : GS s m) (o_v0 : ok s v0 5) (ih2 : ∀ (m : Mem) (v0 : Nat) (v1 : Int32) (v2 : Int32) (v4 : Int32) (v5 : Int32), GS s m → ok s v0 5 → nself2 m v0 v1 v2 v4 v5 = some (r, m') → J3 (self2 (bl s m) v0 v1 v2 v4 v5) (r, bl s m') (GS s m')) (ih7 : ∀ (m : Mem) (v0 : Nat) (v1 : Int32) (v2 : Int32) (v4 : Int32) (v5 : Int32) (v6 : Int32), GS s m → ok s v0 5 → nself7 m v0 v1 v2 v4 v5 v6 = some (r, m') → J3 (self7 (bl s m) v0 v1 v2 v4 v5 v6) (r, bl s m') (GS s m')) (hf : nb_X5_stepTowards_177 F s nself2 nself7 m v0 v1 v2 v4 v5 v6 = some (r, m')) : J3 (b_X5_stepTowards_177 F self2 self7 (bl s m) v0 v1 v2 v4 v5 v6) (r, bl s m') (GS s m') := by
  unfold nb_X5_stepTowards_177 at hf
  unfold b_X5_stepTowards_177
  refine k_bv hf fun x1 hf => ?_
  exact ih7 _ _ _ _ _ _ _ hw o_v0 hf
def nb_X5_stepTowards_102 (F : Nat) (s : List Sh) (nself2 : Mem → Nat → Int32 → Int32 → Int32 → Int32 → Option (Int32 × Mem)) (nself7 : Mem → Nat → Int32 → Int32 → Int32 → Int32 → Int32 → Option (Int32 × Mem)) (m : Mem) (v0 : Nat) (v1 : Int32) (v2 : Int32) (v4 : Int32) (v5 : Int32) (v6 : Int32) : Option (Int32 × Mem) := (m.2.2 v0 0).bind fun a1 => (if (2000 : Int32) < (m.1 a1 4) then (nb_X5_stepTowards_177 F s nself2 nself7 m v0 v1 v2 v4 v5 v6) else ((m.2.2 v0 0).bind fun a2 => ((m.2.2 v0 4).bind fun a3 => ((m.2.2 v0 4).bind fun a4 => ((m.2.2 v0 0).bind fun a5 => ((n_X1_find F s m a2 (m.1 a3 0) (m.1 a4 1) (0 : Int32) (m.1 a5 4)).bind fun x6 => (if x6 = (-1 : Int32) then ((m.2.2 v0 0).bind fun a7 => ((m.2.2 v0 4).bind fun a8 => ((m.2.2 v0 4).bind fun a9 => (bind2 (n_X1_put s m a7 (m.1 a8 0) (m.1 a9 1) ((((v5 * (6 : Int32))) + v6))) fun _ m11 => (nb_X5_stepTowards_177 F s nself2 nself7 m11 v0 v1 v2 v4 v5 v6))))) else (nb_X5_stepTowards_177 F s nself2 nself7 m v0 v1 v2 v4 v5 v6))))))))
set_option maxRecDepth 20000 in
theorem u_X5_stepTowards_102 {F : Nat} {s : List Sh} {self2 : PH → Nat → Int32 → Int32 → Int32 → Int32 → Option (Int32 × PH)} {nself2 : Mem → Nat → Int32 → Int32 → Int32 → Int32 → Option (Int32 × Mem)} {self7 : PH → Nat → Int32 → Int32 → Int32 → Int32 → Int32 → Option (Int32 × PH)} {nself7 : Mem → Nat → Int32 → Int32 → Int32 → Int32 → Int32 → Option (Int32 × Mem)} {m m' : Mem} {r : Int32} {v0 : Nat} {v1 : Int32} {v2 : Int32} {v4 : Int32} {v5 : Int32} {v6 : Int32} (hw : GS s m) (o_v0 : ok s v0 5) (ih2 : ∀ (m : Mem) (v0 : Nat) (v1 : Int32) (v2 : Int32) (v4 : Int32) (v5 : Int32), GS s m → ok s v0 5 → nself2 m v0 v1 v2 v4 v5 = some (r, m') → J3 (self2 (bl s m) v0 v1 v2 v4 v5) (r, bl s m') (GS s m')) (ih7 : ∀ (m : Mem) (v0 : Nat) (v1 : Int32) (v2 : Int32) (v4 : Int32) (v5 : Int32) (v6 : Int32), GS s m → ok s v0 5 → nself7 m v0 v1 v2 v4 v5 v6 = some (r, m') → J3 (self7 (bl s m) v0 v1 v2 v4 v5 v6) (r, bl s m') (GS s m')) (hf : nb_X5_stepTowards_102 F s nself2 nself7 m v0 v1 v2 v4 v5 v6 = some (r, m')) : J3 (b_X5_stepTowards_102 F self2 self7 (bl s m) v0 v1 v2 v4 v5 v6) (r, bl s m') (GS s m') := by
  unfold nb_X5_stepTowards_102 at hf
  unfold b_X5_stepTowards_102
  refine k_gR hw (ok_o o_v0 (by decide)) rfl hf fun a1 o_a1 hf => ?_
  refine k_gI (ok_o o_a1 (by decide)) rfl ?_
  refine k_if hf (fun hf => ?_) (fun hf => ?_)
  · exact u_X5_stepTowards_177 hw o_v0 ih2 ih7 hf
  · refine k_gR hw (ok_o o_v0 (by decide)) rfl hf fun a2 o_a2 hf => ?_
    refine k_gR hw (ok_o o_v0 (by decide)) rfl hf fun a3 o_a3 hf => ?_
    refine k_gI (ok_o o_a3 (by decide)) rfl ?_
    refine k_gR hw (ok_o o_v0 (by decide)) rfl hf fun a4 o_a4 hf => ?_
    refine k_gI (ok_o o_a4 (by decide)) rfl ?_
    refine k_gR hw (ok_o o_v0 (by decide)) rfl hf fun a5 o_a5 hf => ?_
    refine k_gI (ok_o o_a5 (by decide)) rfl ?_
    refine k_cO (ok_o o_a2 (by decide)) ?_
    refine ob hf fun x6 ex hf => ?_
    refine k_b1 (un_X1_find hw o_a2 ex) ?_
    refine k_if hf (fun hf => ?_) (fun hf => ?_)
    · refine k_gR hw (ok_o o_v0 (by decide)) rfl hf fun a7 o_a7 hf => ?_
      refine k_gR hw (ok_o o_v0 (by decide)) rfl hf fun a8 o_a8 hf => ?_
      refine k_gI (ok_o o_a8 (by decide)) rfl ?_
      refine k_gR hw (ok_o o_v0 (by decide)) rfl hf fun a9 o_a9 hf => ?_
      refine k_gI (ok_o o_a9 (by decide)) rfl ?_
      refine k_cO (ok_o o_a7 (by decide)) ?_
      refine ob2 hf fun u m11 ex hf => ?_
      refine k_b2 (un_X1_put hw o_a7 ex) fun hw => ?_
      exact u_X5_stepTowards_177 hw o_v0 ih2 ih7 hf
    · exact u_X5_stepTowards_177 hw o_v0 ih2 ih7 hf
def nb_X5_stepTowards_13 (F : Nat) (s : List Sh) (nself2 : Mem → Nat → Int32 → Int32 → Int32 → Int32 → Option (Int32 × Mem)) (nself7 : Mem → Nat → Int32 → Int32 → Int32 → Int32 → Int32 → Option (Int32 × Mem)) (m : Mem) (v0 : Nat) (v1 : Int32) (v2 : Int32) (v4 : Int32) (v5 : Int32) (v6 : Int32) : Option (Int32 × Mem) := (m.2.2 v0 5).bind fun a1 => (if (m.1 a1 6) ≤ v6 then (bindv (v5 + (1)) fun x2 => (nself2 m v0 v1 v2 v4 x2)) else ((m.2.2 v0 4).bind fun a3 => ((m.2.2 v0 5).bind fun a4 => ((m.2.2 v0 0).bind fun a5 => ((m.2.2 a5 0).bind fun a6 => ((rdI s m a6 v5).bind fun x7 => ((m.2.2 v0 0).bind fun a8 => ((m.2.2 a8 1).bind fun a9 => ((rdI s m a9 v5).bind fun x10 => (bind2 (n_X4_lead F s m a3 a4 v6 (Int32.toInt64 x7) (Int32.toInt64 x10)) fun x11 m12 => (if x11 = 0 then ((m12.2.2 v0 4).bind fun a13 => (if (m12.1 a13 0) = v1 then ((m12.2.2 v0 4).bind fun a14 => (if (m12.1 a14 1) = v2 then (bindv (wI m12 v0 6 ((((v5 * (6 : Int32))) + v6))) fun m15 => (rZM (1 : Int32) m15)) else (nb_X5_stepTowards_102 F s nself2 nself7 m12 v0 v1 v2 v4 v5 v6))) else (nb_X5_stepTowards_102 F s nself2 nself7 m12 v0 v1 v2 v4 v5 v6))) else (nb_X5_stepTowards_177 F s nself2 nself7 m12 v0 v1 v2 v4 v5 v6))))))))))))
set_option maxRecDepth 20000 in
theorem ub_X5_stepTowards_13 {F : Nat} {s : List Sh} {self2 : PH → Nat → Int32 → Int32 → Int32 → Int32 → Option (Int32 × PH)} {nself2 : Mem → Nat → Int32 → Int32 → Int32 → Int32 → Option (Int32 × Mem)} {self7 : PH → Nat → Int32 → Int32 → Int32 → Int32 → Int32 → Option (Int32 × PH)} {nself7 : Mem → Nat → Int32 → Int32 → Int32 → Int32 → Int32 → Option (Int32 × Mem)} {m m' : Mem} {r : Int32} {v0 : Nat} {v1 : Int32} {v2 : Int32} {v4 : Int32} {v5 : Int32} {v6 : Int32} (hw : GS s m) (o_v0 : ok s v0 5) (ih2 : ∀ (m : Mem) (v0 : Nat) (v1 : Int32) (v2 : Int32) (v4 : Int32) (v5 : Int32), GS s m → ok s v0 5 → nself2 m v0 v1 v2 v4 v5 = some (r, m') → J3 (self2 (bl s m) v0 v1 v2 v4 v5) (r, bl s m') (GS s m')) (ih7 : ∀ (m : Mem) (v0 : Nat) (v1 : Int32) (v2 : Int32) (v4 : Int32) (v5 : Int32) (v6 : Int32), GS s m → ok s v0 5 → nself7 m v0 v1 v2 v4 v5 v6 = some (r, m') → J3 (self7 (bl s m) v0 v1 v2 v4 v5 v6) (r, bl s m') (GS s m')) (hf : nb_X5_stepTowards_13 F s nself2 nself7 m v0 v1 v2 v4 v5 v6 = some (r, m')) : J3 (b_X5_stepTowards_13 F self2 self7 (bl s m) v0 v1 v2 v4 v5 v6) (r, bl s m') (GS s m') := by
  unfold nb_X5_stepTowards_13 at hf
  unfold b_X5_stepTowards_13
  refine k_gR hw (ok_o o_v0 (by decide)) rfl hf fun a1 o_a1 hf => ?_
  refine k_gI (ok_o o_a1 (by decide)) rfl ?_
  refine k_if hf (fun hf => ?_) (fun hf => ?_)
  · refine k_bv hf fun x2 hf => ?_
    exact ih2 _ _ _ _ _ _ hw o_v0 hf
  · refine k_gR hw (ok_o o_v0 (by decide)) rfl hf fun a3 o_a3 hf => ?_
    refine k_gR hw (ok_o o_v0 (by decide)) rfl hf fun a4 o_a4 hf => ?_
    refine k_gR hw (ok_o o_v0 (by decide)) rfl hf fun a5 o_a5 hf => ?_
    refine k_gR hw (ok_o o_a5 (by decide)) rfl hf fun a6 o_a6 hf => ?_
    refine k_aI (Or.inl rfl) (ka rfl o_a6) hf fun x7 hf => ?_
    refine k_gR hw (ok_o o_v0 (by decide)) rfl hf fun a8 o_a8 hf => ?_
    refine k_gR hw (ok_o o_a8 (by decide)) rfl hf fun a9 o_a9 hf => ?_
    refine k_aI (Or.inl rfl) (ka rfl o_a9) hf fun x10 hf => ?_
    refine k_cO (ok_o o_a3 (by decide)) ?_
    refine ob2 hf fun x11 m12 ex hf => ?_
    refine k_b2 (un_X4_lead hw o_a3 o_a4 ex) fun hw => ?_
    refine k_if hf (fun hf => ?_) (fun hf => ?_)
    · refine k_gR hw (ok_o o_v0 (by decide)) rfl hf fun a13 o_a13 hf => ?_
      refine k_gI (ok_o o_a13 (by decide)) rfl ?_
      refine k_if hf (fun hf => ?_) (fun hf => ?_)
      · refine k_gR hw (ok_o o_v0 (by decide)) rfl hf fun a14 o_a14 hf => ?_
        refine k_gI (ok_o o_a14 (by decide)) rfl ?_
        refine k_if hf (fun hf => ?_) (fun hf => ?_)
        · refine k_pI hw (ok_o o_v0 (by decide)) rfl hf fun m15 hw hf => ?_
          exact k_rZ hw hf
        · exact u_X5_stepTowards_102 hw o_v0 ih2 ih7 hf
      · exact u_X5_stepTowards_102 hw o_v0 ih2 ih7 hf
    · exact u_X5_stepTowards_177 hw o_v0 ih2 ih7 hf
def nl_X5_stepTowards_13 (F : Nat) (s : List Sh) (nself2 : Mem → Nat → Int32 → Int32 → Int32 → Int32 → Option (Int32 × Mem)) : Nat → Mem → Nat → Int32 → Int32 → Int32 → Int32 → Int32 → Option (Int32 × Mem)
  | 0 => fun _ _ _ _ _ _ _ => none
  | n + 1 => fun m v0 v1 v2 v4 v5 v6 => nb_X5_stepTowards_13 F s nself2 (nl_X5_stepTowards_13 F s nself2 n) m v0 v1 v2 v4 v5 v6
theorem ul_X5_stepTowards_13 {F : Nat} {s : List Sh} {self2 : PH → Nat → Int32 → Int32 → Int32 → Int32 → Option (Int32 × PH)} {nself2 : Mem → Nat → Int32 → Int32 → Int32 → Int32 → Option (Int32 × Mem)} {m' : Mem} {r : Int32} (ih2 : ∀ (m : Mem) (v0 : Nat) (v1 : Int32) (v2 : Int32) (v4 : Int32) (v5 : Int32), GS s m → ok s v0 5 → nself2 m v0 v1 v2 v4 v5 = some (r, m') → J3 (self2 (bl s m) v0 v1 v2 v4 v5) (r, bl s m') (GS s m')) (n : Nat) : ∀ (m : Mem) (v0 : Nat) (v1 : Int32) (v2 : Int32) (v4 : Int32) (v5 : Int32) (v6 : Int32), GS s m → ok s v0 5 → nl_X5_stepTowards_13 F s nself2 n m v0 v1 v2 v4 v5 v6 = some (r, m') → J3 (l_X5_stepTowards_13 F self2 n (bl s m) v0 v1 v2 v4 v5 v6) (r, bl s m') (GS s m') := by
  induction n with
  | zero => intro m v0 v1 v2 v4 v5 v6 hw o_v0 hf; cases hf
  | succ n ih => intro m v0 v1 v2 v4 v5 v6 hw o_v0 hf; exact ub_X5_stepTowards_13 (F := F) hw o_v0 ih2 ih hf
def nb_X5_stepTowards_3 (F : Nat) (s : List Sh) (nself2 : Mem → Nat → Int32 → Int32 → Int32 → Int32 → Option (Int32 × Mem)) (m : Mem) (v0 : Nat) (v1 : Int32) (v2 : Int32) (v4 : Int32) (v5 : Int32) : Option (Int32 × Mem) := if v4 ≤ v5 then (rZM (0 : Int32) m) else (nl_X5_stepTowards_13 F s nself2 F m v0 v1 v2 v4 v5 (0 : Int32))
set_option maxRecDepth 20000 in
theorem ub_X5_stepTowards_3 {F : Nat} {s : List Sh} {self2 : PH → Nat → Int32 → Int32 → Int32 → Int32 → Option (Int32 × PH)} {nself2 : Mem → Nat → Int32 → Int32 → Int32 → Int32 → Option (Int32 × Mem)} {m m' : Mem} {r : Int32} {v0 : Nat} {v1 : Int32} {v2 : Int32} {v4 : Int32} {v5 : Int32} (hw : GS s m) (o_v0 : ok s v0 5) (ih2 : ∀ (m : Mem) (v0 : Nat) (v1 : Int32) (v2 : Int32) (v4 : Int32) (v5 : Int32), GS s m → ok s v0 5 → nself2 m v0 v1 v2 v4 v5 = some (r, m') → J3 (self2 (bl s m) v0 v1 v2 v4 v5) (r, bl s m') (GS s m')) (hf : nb_X5_stepTowards_3 F s nself2 m v0 v1 v2 v4 v5 = some (r, m')) : J3 (b_X5_stepTowards_3 F self2 (bl s m) v0 v1 v2 v4 v5) (r, bl s m') (GS s m') := by
  unfold nb_X5_stepTowards_3 at hf
  unfold b_X5_stepTowards_3
  refine k_if hf (fun hf => ?_) (fun hf => ?_)
  · exact k_rZ hw hf
  · exact ul_X5_stepTowards_13 ih2 F _ _ _ _ _ _ _ hw o_v0 hf
def nl_X5_stepTowards_3 (F : Nat) (s : List Sh) : Nat → Mem → Nat → Int32 → Int32 → Int32 → Int32 → Option (Int32 × Mem)
  | 0 => fun _ _ _ _ _ _ => none
  | n + 1 => fun m v0 v1 v2 v4 v5 => nb_X5_stepTowards_3 F s (nl_X5_stepTowards_3 F s n) m v0 v1 v2 v4 v5
theorem ul_X5_stepTowards_3 {F : Nat} {s : List Sh} {m' : Mem} {r : Int32} (n : Nat) : ∀ (m : Mem) (v0 : Nat) (v1 : Int32) (v2 : Int32) (v4 : Int32) (v5 : Int32), GS s m → ok s v0 5 → nl_X5_stepTowards_3 F s n m v0 v1 v2 v4 v5 = some (r, m') → J3 (l_X5_stepTowards_3 F n (bl s m) v0 v1 v2 v4 v5) (r, bl s m') (GS s m') := by
  induction n with
  | zero => intro m v0 v1 v2 v4 v5 hw o_v0 hf; cases hf
  | succ n ih => intro m v0 v1 v2 v4 v5 hw o_v0 hf; exact ub_X5_stepTowards_3 (F := F) hw o_v0 ih hf
def nb_X5_stepTowards_0 (F : Nat) (s : List Sh) (m : Mem) (v0 : Nat) (v1 : Int32) (v2 : Int32) (v3 : Int32) (v4 : Int32) : Option (Int32 × Mem) := nl_X5_stepTowards_3 F s F m v0 v1 v2 v4 v3
set_option maxRecDepth 20000 in
theorem u_X5_stepTowards_0 {F : Nat} {s : List Sh} {m m' : Mem} {r : Int32} {v0 : Nat} {v1 : Int32} {v2 : Int32} {v3 : Int32} {v4 : Int32} (hw : GS s m) (o_v0 : ok s v0 5) (hf : nb_X5_stepTowards_0 F s m v0 v1 v2 v3 v4 = some (r, m')) : J3 (b_X5_stepTowards_0 F (bl s m) v0 v1 v2 v3 v4) (r, bl s m') (GS s m') := by
  unfold nb_X5_stepTowards_0 at hf
  unfold b_X5_stepTowards_0
  exact ul_X5_stepTowards_3 F _ _ _ _ _ _ hw o_v0 hf
def n_X5_stepTowards (F : Nat) (s : List Sh) (m : Mem) (p0 : Nat) (p1 : Int32) (p2 : Int32) (p3 : Int32) (p4 : Int32) : Option (Int32 × Mem) := nb_X5_stepTowards_0 F s m p0 p1 p2 p3 p4
theorem un_X5_stepTowards {F : Nat} {s : List Sh} {m m' : Mem} {p0 : Nat} {p1 : Int32} {p2 : Int32} {p3 : Int32} {p4 : Int32} {r : Int32} (hw : GS s m) (o_p0 : ok s p0 5) (ex : n_X5_stepTowards F s m p0 p1 p2 p3 p4 = some (r, m')) : J3 (m_X5_stepTowards F (bl s m) p0 p1 p2 p3 p4) (r, bl s m') (GS s m') := u_X5_stepTowards_0 hw o_p0 ex
/-! FractionLift$Routes.traceRow(II[I)V over the memory -/
def nb_X5_traceRow_67 (F : Nat) (s : List Sh) (nself6 : Mem → Nat → Nat → Int32 → Int32 → Option (Unit × Mem)) (m : Mem) (v0 : Nat) (v3 : Nat) (v5 : Int32) (s0 : Int32) : Option (Unit × Mem) := bindv (v5 + (-1)) fun x1 => (nself6 m v0 v3 s0 x1)
set_option maxRecDepth 20000 in
theorem u_X5_traceRow_67 {F : Nat} {s : List Sh} {self6 : PH → Nat → Nat → Int32 → Int32 → Option (Unit × PH)} {nself6 : Mem → Nat → Nat → Int32 → Int32 → Option (Unit × Mem)} {m m' : Mem} {r : Unit} {v0 : Nat} {v3 : Nat} {v5 : Int32} {s0 : Int32} (hw : GS s m) (o_v0 : ok s v0 5) (o_v3 : ok s v3 100) (ih6 : ∀ (m : Mem) (v0 : Nat) (v3 : Nat) (v4 : Int32) (v5 : Int32), GS s m → ok s v0 5 → ok s v3 100 → nself6 m v0 v3 v4 v5 = some (r, m') → J3 (self6 (bl s m) v0 v3 v4 v5) (r, bl s m') (GS s m')) (hf : nb_X5_traceRow_67 F s nself6 m v0 v3 v5 s0 = some (r, m')) : J3 (b_X5_traceRow_67 F self6 (bl s m) v0 v3 v5 s0) (r, bl s m') (GS s m') := by
  unfold nb_X5_traceRow_67 at hf
  unfold b_X5_traceRow_67
  refine k_bv hf fun x1 hf => ?_
  exact ih6 _ _ _ _ _ hw o_v0 o_v3 hf
def nb_X5_traceRow_8 (F : Nat) (s : List Sh) (nself6 : Mem → Nat → Nat → Int32 → Int32 → Option (Unit × Mem)) (m : Mem) (v0 : Nat) (v3 : Nat) (v4 : Int32) (v5 : Int32) : Option (Unit × Mem) := if v5 < 0 then (some ((), m)) else (if ((Int32.ofNat (ln s v3))) ≤ v5 then (some ((), m)) else (if v4 < 0 then (some ((), m)) else (if (6 : Int32) = 0 then none else ((stI s m v3 v5 ((remI v4 (6 : Int32)))).bind fun m1 => (if (6 : Int32) = 0 then none else (bindv ((v4 / (6 : Int32))) fun x2 => ((m1.2.2 v0 0).bind fun a3 => (if (m1.1 a3 4) ≤ x2 then (nb_X5_traceRow_67 F s nself6 m1 v0 v3 v5 (-1 : Int32)) else ((m1.2.2 v0 0).bind fun a4 => ((m1.2.2 a4 2).bind fun a5 => ((rdI s m1 a5 x2).bind fun x6 => (nb_X5_traceRow_67 F s nself6 m1 v0 v3 v5 x6))))))))))))
set_option maxRecDepth 20000 in
theorem ub_X5_traceRow_8 {F : Nat} {s : List Sh} {self6 : PH → Nat → Nat → Int32 → Int32 → Option (Unit × PH)} {nself6 : Mem → Nat → Nat → Int32 → Int32 → Option (Unit × Mem)} {m m' : Mem} {r : Unit} {v0 : Nat} {v3 : Nat} {v4 : Int32} {v5 : Int32} (hw : GS s m) (o_v0 : ok s v0 5) (o_v3 : ok s v3 100) (ih6 : ∀ (m : Mem) (v0 : Nat) (v3 : Nat) (v4 : Int32) (v5 : Int32), GS s m → ok s v0 5 → ok s v3 100 → nself6 m v0 v3 v4 v5 = some (r, m') → J3 (self6 (bl s m) v0 v3 v4 v5) (r, bl s m') (GS s m')) (hf : nb_X5_traceRow_8 F s nself6 m v0 v3 v4 v5 = some (r, m')) : J3 (b_X5_traceRow_8 F self6 (bl s m) v0 v3 v4 v5) (r, bl s m') (GS s m') := by
  unfold nb_X5_traceRow_8 at hf
  unfold b_X5_traceRow_8
  refine k_if hf (fun hf => ?_) (fun hf => ?_)
  · exact k_ret hw hf
  · refine k_len (t := 0) (by decide) (ka rfl o_v3) ?_
    refine k_if hf (fun hf => ?_) (fun hf => ?_)
    · exact k_ret hw hf
    · refine k_if hf (fun hf => ?_) (fun hf => ?_)
      · exact k_ret hw hf
      · refine k_if hf (fun hf => by cases hf) (fun hf => ?_)
        refine k_sI hw (ka rfl o_v3) hf fun m1 hw hf => ?_
        refine k_if hf (fun hf => by cases hf) (fun hf => ?_)
        refine k_bv hf fun x2 hf => ?_
        refine k_gR hw (ok_o o_v0 (by decide)) rfl hf fun a3 o_a3 hf => ?_
        refine k_gI (ok_o o_a3 (by decide)) rfl ?_
        refine k_if hf (fun hf => ?_) (fun hf => ?_)
        · exact u_X5_traceRow_67 hw o_v0 o_v3 ih6 hf
        · refine k_gR hw (ok_o o_v0 (by decide)) rfl hf fun a4 o_a4 hf => ?_
          refine k_gR hw (ok_o o_a4 (by decide)) rfl hf fun a5 o_a5 hf => ?_
          refine k_aI (Or.inl rfl) (ka rfl o_a5) hf fun x6 hf => ?_
          exact u_X5_traceRow_67 hw o_v0 o_v3 ih6 hf
def nl_X5_traceRow_8 (F : Nat) (s : List Sh) : Nat → Mem → Nat → Nat → Int32 → Int32 → Option (Unit × Mem)
  | 0 => fun _ _ _ _ _ => none
  | n + 1 => fun m v0 v3 v4 v5 => nb_X5_traceRow_8 F s (nl_X5_traceRow_8 F s n) m v0 v3 v4 v5
theorem ul_X5_traceRow_8 {F : Nat} {s : List Sh} {m' : Mem} {r : Unit} (n : Nat) : ∀ (m : Mem) (v0 : Nat) (v3 : Nat) (v4 : Int32) (v5 : Int32), GS s m → ok s v0 5 → ok s v3 100 → nl_X5_traceRow_8 F s n m v0 v3 v4 v5 = some (r, m') → J3 (l_X5_traceRow_8 F n (bl s m) v0 v3 v4 v5) (r, bl s m') (GS s m') := by
  induction n with
  | zero => intro m v0 v3 v4 v5 hw o_v0 o_v3 hf; cases hf
  | succ n ih => intro m v0 v3 v4 v5 hw o_v0 o_v3 hf; exact ub_X5_traceRow_8 (F := F) hw o_v0 o_v3 ih hf
def nb_X5_traceRow_0 (F : Nat) (s : List Sh) (m : Mem) (v0 : Nat) (v1 : Int32) (v2 : Int32) (v3 : Nat) : Option (Unit × Mem) := bindv ((v2 - (1 : Int32))) fun x1 => (nl_X5_traceRow_8 F s F m v0 v3 v1 x1)
set_option maxRecDepth 20000 in
theorem u_X5_traceRow_0 {F : Nat} {s : List Sh} {m m' : Mem} {r : Unit} {v0 : Nat} {v1 : Int32} {v2 : Int32} {v3 : Nat} (hw : GS s m) (o_v0 : ok s v0 5) (o_v3 : ok s v3 100) (hf : nb_X5_traceRow_0 F s m v0 v1 v2 v3 = some (r, m')) : J3 (b_X5_traceRow_0 F (bl s m) v0 v1 v2 v3) (r, bl s m') (GS s m') := by
  unfold nb_X5_traceRow_0 at hf
  unfold b_X5_traceRow_0
  refine k_bv hf fun x1 hf => ?_
  exact ul_X5_traceRow_8 F _ _ _ _ _ hw o_v0 o_v3 hf
def n_X5_traceRow (F : Nat) (s : List Sh) (m : Mem) (p0 : Nat) (p1 : Int32) (p2 : Int32) (p3 : Nat) : Option (Unit × Mem) := nb_X5_traceRow_0 F s m p0 p1 p2 p3
theorem un_X5_traceRow {F : Nat} {s : List Sh} {m m' : Mem} {p0 : Nat} {p1 : Int32} {p2 : Int32} {p3 : Nat} {r : Unit} (hw : GS s m) (o_p0 : ok s p0 5) (o_p3 : ok s p3 100) (ex : n_X5_traceRow F s m p0 p1 p2 p3 = some (r, m')) : J3 (m_X5_traceRow F (bl s m) p0 p1 p2 p3) (r, bl s m') (GS s m') := u_X5_traceRow_0 hw o_p0 o_p3 ex
/-! FractionLift$Routes.seekFewest(II)I over the memory -/
def nb_X5_seekFewest_29 (F : Nat) (s : List Sh) (nself16 : Mem → Nat → Int32 → Int32 → Int32 → Int32 → Option (Int32 × Mem)) (m : Mem) (v0 : Nat) (v1 : Int32) (v2 : Int32) (v3 : Int32) (v4 : Int32) : Option (Int32 × Mem) := if (8 : Int32) < v4 then (some ((-1 : Int32), m)) else ((m.2.2 v0 0).bind fun a1 => (bind2 (n_X5_stepTowards F s m v0 v1 v2 v3 (m.1 a1 4)) fun x2 m3 => (if x2 = 0 then ((m3.2.2 v0 0).bind fun a4 => (if (m3.1 a4 4) ≤ (2000 : Int32) then ((m3.2.2 v0 0).bind fun a5 => (if (m3.1 a5 4) = (m.1 a1 4) then (some ((-1 : Int32), m3)) else (bindv (v4 + (1)) fun x6 => (nself16 m3 v0 v1 v2 (m.1 a1 4) x6)))) else (some ((-1000 : Int32), m3)))) else ((m3.2.2 v0 1).bind fun a7 => (bind2 (n_X5_traceRow F s m3 v0 (m3.1 v0 6) v4 a7) fun _ m9 => (some (v4, m9)))))))
set_option maxRecDepth 20000 in
theorem ub_X5_seekFewest_29 {F : Nat} {s : List Sh} {self16 : PH → Nat → Int32 → Int32 → Int32 → Int32 → Option (Int32 × PH)} {nself16 : Mem → Nat → Int32 → Int32 → Int32 → Int32 → Option (Int32 × Mem)} {m m' : Mem} {r : Int32} {v0 : Nat} {v1 : Int32} {v2 : Int32} {v3 : Int32} {v4 : Int32} (hw : GS s m) (o_v0 : ok s v0 5) (ih16 : ∀ (m : Mem) (v0 : Nat) (v1 : Int32) (v2 : Int32) (v3 : Int32) (v4 : Int32), GS s m → ok s v0 5 → nself16 m v0 v1 v2 v3 v4 = some (r, m') → J3 (self16 (bl s m) v0 v1 v2 v3 v4) (r, bl s m') (GS s m')) (hf : nb_X5_seekFewest_29 F s nself16 m v0 v1 v2 v3 v4 = some (r, m')) : J3 (b_X5_seekFewest_29 F self16 (bl s m) v0 v1 v2 v3 v4) (r, bl s m') (GS s m') := by
  unfold nb_X5_seekFewest_29 at hf
  unfold b_X5_seekFewest_29
  refine k_if hf (fun hf => ?_) (fun hf => ?_)
  · exact k_ret hw hf
  · refine k_gR hw (ok_o o_v0 (by decide)) rfl hf fun a1 o_a1 hf => ?_
    refine k_gI (ok_o o_a1 (by decide)) rfl ?_
    refine k_cO (ok_o o_v0 (by decide)) ?_
    refine ob2 hf fun x2 m3 ex hf => ?_
    refine k_b2 (un_X5_stepTowards hw o_v0 ex) fun hw => ?_
    refine k_if hf (fun hf => ?_) (fun hf => ?_)
    · refine k_gR hw (ok_o o_v0 (by decide)) rfl hf fun a4 o_a4 hf => ?_
      refine k_gI (ok_o o_a4 (by decide)) rfl ?_
      refine k_if hf (fun hf => ?_) (fun hf => ?_)
      · refine k_gR hw (ok_o o_v0 (by decide)) rfl hf fun a5 o_a5 hf => ?_
        refine k_gI (ok_o o_a5 (by decide)) rfl ?_
        refine k_if hf (fun hf => ?_) (fun hf => ?_)
        · exact k_ret hw hf
        · refine k_bv hf fun x6 hf => ?_
          exact ih16 _ _ _ _ _ _ hw o_v0 hf
      · exact k_ret hw hf
    · refine k_gI (ok_o o_v0 (by decide)) rfl ?_
      refine k_gR hw (ok_o o_v0 (by decide)) rfl hf fun a7 o_a7 hf => ?_
      refine k_cO (ok_o o_v0 (by decide)) ?_
      refine ob2 hf fun u m9 ex hf => ?_
      refine k_b2 (un_X5_traceRow hw o_v0 o_a7 ex) fun hw => ?_
      exact k_ret hw hf
def nl_X5_seekFewest_29 (F : Nat) (s : List Sh) : Nat → Mem → Nat → Int32 → Int32 → Int32 → Int32 → Option (Int32 × Mem)
  | 0 => fun _ _ _ _ _ _ => none
  | n + 1 => fun m v0 v1 v2 v3 v4 => nb_X5_seekFewest_29 F s (nl_X5_seekFewest_29 F s n) m v0 v1 v2 v3 v4
theorem ul_X5_seekFewest_29 {F : Nat} {s : List Sh} {m' : Mem} {r : Int32} (n : Nat) : ∀ (m : Mem) (v0 : Nat) (v1 : Int32) (v2 : Int32) (v3 : Int32) (v4 : Int32), GS s m → ok s v0 5 → nl_X5_seekFewest_29 F s n m v0 v1 v2 v3 v4 = some (r, m') → J3 (l_X5_seekFewest_29 F n (bl s m) v0 v1 v2 v3 v4) (r, bl s m') (GS s m') := by
  induction n with
  | zero => intro m v0 v1 v2 v3 v4 hw o_v0 hf; cases hf
  | succ n ih => intro m v0 v1 v2 v3 v4 hw o_v0 hf; exact ub_X5_seekFewest_29 (F := F) hw o_v0 ih hf
def nb_X5_seekFewest_24 (F : Nat) (s : List Sh) (m : Mem) (v0 : Nat) (v1 : Int32) (v2 : Int32) : Option (Int32 × Mem) := nl_X5_seekFewest_29 F s F m v0 v1 v2 (0 : Int32) (1 : Int32)
set_option maxRecDepth 20000 in
theorem u_X5_seekFewest_24 {F : Nat} {s : List Sh} {m m' : Mem} {r : Int32} {v0 : Nat} {v1 : Int32} {v2 : Int32} (hw : GS s m) (o_v0 : ok s v0 5) (hf : nb_X5_seekFewest_24 F s m v0 v1 v2 = some (r, m')) : J3 (b_X5_seekFewest_24 F (bl s m) v0 v1 v2) (r, bl s m') (GS s m') := by
  unfold nb_X5_seekFewest_24 at hf
  unfold b_X5_seekFewest_24
  exact ul_X5_seekFewest_29 F _ _ _ _ _ _ hw o_v0 hf
def nb_X5_seekFewest_0 (F : Nat) (s : List Sh) (m : Mem) (v0 : Nat) (v1 : Int32) (v2 : Int32) : Option (Int32 × Mem) := (m.2.2 v0 5).bind fun a1 => (if (m.1 a1 4) = v1 then ((m.2.2 v0 5).bind fun a2 => (if (m.1 a2 5) = v2 then (some ((0 : Int32), m)) else (nb_X5_seekFewest_24 F s m v0 v1 v2))) else (nb_X5_seekFewest_24 F s m v0 v1 v2))
set_option maxRecDepth 20000 in
theorem u_X5_seekFewest_0 {F : Nat} {s : List Sh} {m m' : Mem} {r : Int32} {v0 : Nat} {v1 : Int32} {v2 : Int32} (hw : GS s m) (o_v0 : ok s v0 5) (hf : nb_X5_seekFewest_0 F s m v0 v1 v2 = some (r, m')) : J3 (b_X5_seekFewest_0 F (bl s m) v0 v1 v2) (r, bl s m') (GS s m') := by
  unfold nb_X5_seekFewest_0 at hf
  unfold b_X5_seekFewest_0
  refine k_gR hw (ok_o o_v0 (by decide)) rfl hf fun a1 o_a1 hf => ?_
  refine k_gI (ok_o o_a1 (by decide)) rfl ?_
  refine k_if hf (fun hf => ?_) (fun hf => ?_)
  · refine k_gR hw (ok_o o_v0 (by decide)) rfl hf fun a2 o_a2 hf => ?_
    refine k_gI (ok_o o_a2 (by decide)) rfl ?_
    refine k_if hf (fun hf => ?_) (fun hf => ?_)
    · exact k_ret hw hf
    · exact u_X5_seekFewest_24 hw o_v0 hf
  · exact u_X5_seekFewest_24 hw o_v0 hf
def n_X5_seekFewest (F : Nat) (s : List Sh) (m : Mem) (p0 : Nat) (p1 : Int32) (p2 : Int32) : Option (Int32 × Mem) := nb_X5_seekFewest_0 F s m p0 p1 p2
theorem un_X5_seekFewest {F : Nat} {s : List Sh} {m m' : Mem} {p0 : Nat} {p1 : Int32} {p2 : Int32} {r : Int32} (hw : GS s m) (o_p0 : ok s p0 5) (ex : n_X5_seekFewest F s m p0 p1 p2 = some (r, m')) : J3 (m_X5_seekFewest F (bl s m) p0 p1 p2) (r, bl s m') (GS s m') := u_X5_seekFewest_0 hw o_p0 ex
/-! FractionLift$Routes.spread(III)V over the memory -/
def nb_X5_spread_124 (F : Nat) (s : List Sh) (nself2 : Mem → Nat → Int32 → Int32 → Int32 → Option (Unit × Mem)) (nself7 : Mem → Nat → Int32 → Int32 → Int32 → Int32 → Option (Unit × Mem)) (m : Mem) (v0 : Nat) (v2 : Int32) (v3 : Int32) (v4 : Int32) (v5 : Int32) : Option (Unit × Mem) := bindv (v5 + (1)) fun x1 => (nself7 m v0 v2 v3 v4 x1)
set_option maxRecDepth 20000 in
theorem u_X5_spread_124 {F : Nat} {s : List Sh} {self2 : PH → Nat → Int32 → Int32 → Int32 → Option (Unit × PH)} {nself2 : Mem → Nat → Int32 → Int32 → Int32 → Option (Unit × Mem)} {self7 : PH → Nat → Int32 → Int32 → Int32 → Int32 → Option (Unit × PH)} {nself7 : Mem → Nat → Int32 → Int32 → Int32 → Int32 → Option (Unit × Mem)} {m m' : Mem} {r : Unit} {v0 : Nat} {v2 : Int32} {v3 : Int32} {v4 : Int32} {v5 : Int32} (hw : GS s m) (o_v0 : ok s v0 5) (ih2 : ∀ (m : Mem) (v0 : Nat) (v2 : Int32) (v3 : Int32) (v4 : Int32), GS s m → ok s v0 5 → nself2 m v0 v2 v3 v4 = some (r, m') → J3 (self2 (bl s m) v0 v2 v3 v4) (r, bl s m') (GS s m')) (ih7 : ∀ (m : Mem) (v0 : Nat) (v2 : Int32) (v3 : Int32) (v4 : Int32) (v5 : Int32), GS s m → ok s v0 5 → nself7 m v0 v2 v3 v4 v5 = some (r, m') → J3 (self7 (bl s m) v0 v2 v3 v4 v5) (r, bl s m') (GS s m')) (hf : nb_X5_spread_124 F s nself2 nself7 m v0 v2 v3 v4 v5 = some (r, m')) : J3 (b_X5_spread_124 F self2 self7 (bl s m) v0 v2 v3 v4 v5) (r, bl s m') (GS s m') := by
  unfold nb_X5_spread_124 at hf
  unfold b_X5_spread_124
  refine k_bv hf fun x1 hf => ?_
  exact ih7 _ _ _ _ _ _ hw o_v0 hf
def nb_X5_spread_12 (F : Nat) (s : List Sh) (nself2 : Mem → Nat → Int32 → Int32 → Int32 → Option (Unit × Mem)) (nself7 : Mem → Nat → Int32 → Int32 → Int32 → Int32 → Option (Unit × Mem)) (m : Mem) (v0 : Nat) (v2 : Int32) (v3 : Int32) (v4 : Int32) (v5 : Int32) : Option (Unit × Mem) := (m.2.2 v0 5).bind fun a1 => (if (m.1 a1 6) ≤ v5 then (bindv (v4 + (1)) fun x2 => (nself2 m v0 v2 v3 x2)) else ((m.2.2 v0 4).bind fun a3 => ((m.2.2 v0 5).bind fun a4 => ((m.2.2 v0 0).bind fun a5 => ((m.2.2 a5 0).bind fun a6 => ((rdI s m a6 v4).bind fun x7 => ((m.2.2 v0 0).bind fun a8 => ((m.2.2 a8 1).bind fun a9 => ((rdI s m a9 v4).bind fun x10 => (bind2 (n_X4_lead F s m a3 a4 v5 (Int32.toInt64 x7) (Int32.toInt64 x10)) fun x11 m12 => (if x11 = 0 then ((m12.2.2 v0 0).bind fun a13 => ((m12.2.2 v0 4).bind fun a14 => ((m12.2.2 v0 4).bind fun a15 => ((m12.2.2 v0 0).bind fun a16 => ((n_X1_find F s m12 a13 (m12.1 a14 0) (m12.1 a15 1) v3 (m12.1 a16 4)).bind fun x17 => (if x17 = (-1 : Int32) then ((m12.2.2 v0 0).bind fun a18 => ((m12.2.2 v0 4).bind fun a19 => ((m12.2.2 v0 4).bind fun a20 => (bind2 (n_X1_put s m12 a18 (m12.1 a19 0) (m12.1 a20 1) ((((v4 * (6 : Int32))) + v5))) fun _ m22 => (nb_X5_spread_124 F s nself2 nself7 m22 v0 v2 v3 v4 v5))))) else (nb_X5_spread_124 F s nself2 nself7 m12 v0 v2 v3 v4 v5))))))) else (nb_X5_spread_124 F s nself2 nself7 m12 v0 v2 v3 v4 v5))))))))))))
set_option maxRecDepth 20000 in
theorem ub_X5_spread_12 {F : Nat} {s : List Sh} {self2 : PH → Nat → Int32 → Int32 → Int32 → Option (Unit × PH)} {nself2 : Mem → Nat → Int32 → Int32 → Int32 → Option (Unit × Mem)} {self7 : PH → Nat → Int32 → Int32 → Int32 → Int32 → Option (Unit × PH)} {nself7 : Mem → Nat → Int32 → Int32 → Int32 → Int32 → Option (Unit × Mem)} {m m' : Mem} {r : Unit} {v0 : Nat} {v2 : Int32} {v3 : Int32} {v4 : Int32} {v5 : Int32} (hw : GS s m) (o_v0 : ok s v0 5) (ih2 : ∀ (m : Mem) (v0 : Nat) (v2 : Int32) (v3 : Int32) (v4 : Int32), GS s m → ok s v0 5 → nself2 m v0 v2 v3 v4 = some (r, m') → J3 (self2 (bl s m) v0 v2 v3 v4) (r, bl s m') (GS s m')) (ih7 : ∀ (m : Mem) (v0 : Nat) (v2 : Int32) (v3 : Int32) (v4 : Int32) (v5 : Int32), GS s m → ok s v0 5 → nself7 m v0 v2 v3 v4 v5 = some (r, m') → J3 (self7 (bl s m) v0 v2 v3 v4 v5) (r, bl s m') (GS s m')) (hf : nb_X5_spread_12 F s nself2 nself7 m v0 v2 v3 v4 v5 = some (r, m')) : J3 (b_X5_spread_12 F self2 self7 (bl s m) v0 v2 v3 v4 v5) (r, bl s m') (GS s m') := by
  unfold nb_X5_spread_12 at hf
  unfold b_X5_spread_12
  refine k_gR hw (ok_o o_v0 (by decide)) rfl hf fun a1 o_a1 hf => ?_
  refine k_gI (ok_o o_a1 (by decide)) rfl ?_
  refine k_if hf (fun hf => ?_) (fun hf => ?_)
  · refine k_bv hf fun x2 hf => ?_
    exact ih2 _ _ _ _ _ hw o_v0 hf
  · refine k_gR hw (ok_o o_v0 (by decide)) rfl hf fun a3 o_a3 hf => ?_
    refine k_gR hw (ok_o o_v0 (by decide)) rfl hf fun a4 o_a4 hf => ?_
    refine k_gR hw (ok_o o_v0 (by decide)) rfl hf fun a5 o_a5 hf => ?_
    refine k_gR hw (ok_o o_a5 (by decide)) rfl hf fun a6 o_a6 hf => ?_
    refine k_aI (Or.inl rfl) (ka rfl o_a6) hf fun x7 hf => ?_
    refine k_gR hw (ok_o o_v0 (by decide)) rfl hf fun a8 o_a8 hf => ?_
    refine k_gR hw (ok_o o_a8 (by decide)) rfl hf fun a9 o_a9 hf => ?_
    refine k_aI (Or.inl rfl) (ka rfl o_a9) hf fun x10 hf => ?_
    refine k_cO (ok_o o_a3 (by decide)) ?_
    refine ob2 hf fun x11 m12 ex hf => ?_
    refine k_b2 (un_X4_lead hw o_a3 o_a4 ex) fun hw => ?_
    refine k_if hf (fun hf => ?_) (fun hf => ?_)
    · refine k_gR hw (ok_o o_v0 (by decide)) rfl hf fun a13 o_a13 hf => ?_
      refine k_gR hw (ok_o o_v0 (by decide)) rfl hf fun a14 o_a14 hf => ?_
      refine k_gI (ok_o o_a14 (by decide)) rfl ?_
      refine k_gR hw (ok_o o_v0 (by decide)) rfl hf fun a15 o_a15 hf => ?_
      refine k_gI (ok_o o_a15 (by decide)) rfl ?_
      refine k_gR hw (ok_o o_v0 (by decide)) rfl hf fun a16 o_a16 hf => ?_
      refine k_gI (ok_o o_a16 (by decide)) rfl ?_
      refine k_cO (ok_o o_a13 (by decide)) ?_
      refine ob hf fun x17 ex hf => ?_
      refine k_b1 (un_X1_find hw o_a13 ex) ?_
      refine k_if hf (fun hf => ?_) (fun hf => ?_)
      · refine k_gR hw (ok_o o_v0 (by decide)) rfl hf fun a18 o_a18 hf => ?_
        refine k_gR hw (ok_o o_v0 (by decide)) rfl hf fun a19 o_a19 hf => ?_
        refine k_gI (ok_o o_a19 (by decide)) rfl ?_
        refine k_gR hw (ok_o o_v0 (by decide)) rfl hf fun a20 o_a20 hf => ?_
        refine k_gI (ok_o o_a20 (by decide)) rfl ?_
        refine k_cO (ok_o o_a18 (by decide)) ?_
        refine ob2 hf fun u m22 ex hf => ?_
        refine k_b2 (un_X1_put hw o_a18 ex) fun hw => ?_
        exact u_X5_spread_124 hw o_v0 ih2 ih7 hf
      · exact u_X5_spread_124 hw o_v0 ih2 ih7 hf
    · exact u_X5_spread_124 hw o_v0 ih2 ih7 hf
def nl_X5_spread_12 (F : Nat) (s : List Sh) (nself2 : Mem → Nat → Int32 → Int32 → Int32 → Option (Unit × Mem)) : Nat → Mem → Nat → Int32 → Int32 → Int32 → Int32 → Option (Unit × Mem)
  | 0 => fun _ _ _ _ _ _ => none
  | n + 1 => fun m v0 v2 v3 v4 v5 => nb_X5_spread_12 F s nself2 (nl_X5_spread_12 F s nself2 n) m v0 v2 v3 v4 v5
theorem ul_X5_spread_12 {F : Nat} {s : List Sh} {self2 : PH → Nat → Int32 → Int32 → Int32 → Option (Unit × PH)} {nself2 : Mem → Nat → Int32 → Int32 → Int32 → Option (Unit × Mem)} {m' : Mem} {r : Unit} (ih2 : ∀ (m : Mem) (v0 : Nat) (v2 : Int32) (v3 : Int32) (v4 : Int32), GS s m → ok s v0 5 → nself2 m v0 v2 v3 v4 = some (r, m') → J3 (self2 (bl s m) v0 v2 v3 v4) (r, bl s m') (GS s m')) (n : Nat) : ∀ (m : Mem) (v0 : Nat) (v2 : Int32) (v3 : Int32) (v4 : Int32) (v5 : Int32), GS s m → ok s v0 5 → nl_X5_spread_12 F s nself2 n m v0 v2 v3 v4 v5 = some (r, m') → J3 (l_X5_spread_12 F self2 n (bl s m) v0 v2 v3 v4 v5) (r, bl s m') (GS s m') := by
  induction n with
  | zero => intro m v0 v2 v3 v4 v5 hw o_v0 hf; cases hf
  | succ n ih => intro m v0 v2 v3 v4 v5 hw o_v0 hf; exact ub_X5_spread_12 (F := F) hw o_v0 ih2 ih hf
def nb_X5_spread_3 (F : Nat) (s : List Sh) (nself2 : Mem → Nat → Int32 → Int32 → Int32 → Option (Unit × Mem)) (m : Mem) (v0 : Nat) (v2 : Int32) (v3 : Int32) (v4 : Int32) : Option (Unit × Mem) := if v2 ≤ v4 then (some ((), m)) else (nl_X5_spread_12 F s nself2 F m v0 v2 v3 v4 (0 : Int32))
set_option maxRecDepth 20000 in
theorem ub_X5_spread_3 {F : Nat} {s : List Sh} {self2 : PH → Nat → Int32 → Int32 → Int32 → Option (Unit × PH)} {nself2 : Mem → Nat → Int32 → Int32 → Int32 → Option (Unit × Mem)} {m m' : Mem} {r : Unit} {v0 : Nat} {v2 : Int32} {v3 : Int32} {v4 : Int32} (hw : GS s m) (o_v0 : ok s v0 5) (ih2 : ∀ (m : Mem) (v0 : Nat) (v2 : Int32) (v3 : Int32) (v4 : Int32), GS s m → ok s v0 5 → nself2 m v0 v2 v3 v4 = some (r, m') → J3 (self2 (bl s m) v0 v2 v3 v4) (r, bl s m') (GS s m')) (hf : nb_X5_spread_3 F s nself2 m v0 v2 v3 v4 = some (r, m')) : J3 (b_X5_spread_3 F self2 (bl s m) v0 v2 v3 v4) (r, bl s m') (GS s m') := by
  unfold nb_X5_spread_3 at hf
  unfold b_X5_spread_3
  refine k_if hf (fun hf => ?_) (fun hf => ?_)
  · exact k_ret hw hf
  · exact ul_X5_spread_12 ih2 F _ _ _ _ _ _ hw o_v0 hf
def nl_X5_spread_3 (F : Nat) (s : List Sh) : Nat → Mem → Nat → Int32 → Int32 → Int32 → Option (Unit × Mem)
  | 0 => fun _ _ _ _ _ => none
  | n + 1 => fun m v0 v2 v3 v4 => nb_X5_spread_3 F s (nl_X5_spread_3 F s n) m v0 v2 v3 v4
theorem ul_X5_spread_3 {F : Nat} {s : List Sh} {m' : Mem} {r : Unit} (n : Nat) : ∀ (m : Mem) (v0 : Nat) (v2 : Int32) (v3 : Int32) (v4 : Int32), GS s m → ok s v0 5 → nl_X5_spread_3 F s n m v0 v2 v3 v4 = some (r, m') → J3 (l_X5_spread_3 F n (bl s m) v0 v2 v3 v4) (r, bl s m') (GS s m') := by
  induction n with
  | zero => intro m v0 v2 v3 v4 hw o_v0 hf; cases hf
  | succ n ih => intro m v0 v2 v3 v4 hw o_v0 hf; exact ub_X5_spread_3 (F := F) hw o_v0 ih hf
def nb_X5_spread_0 (F : Nat) (s : List Sh) (m : Mem) (v0 : Nat) (v1 : Int32) (v2 : Int32) (v3 : Int32) : Option (Unit × Mem) := nl_X5_spread_3 F s F m v0 v2 v3 v1
set_option maxRecDepth 20000 in
theorem u_X5_spread_0 {F : Nat} {s : List Sh} {m m' : Mem} {r : Unit} {v0 : Nat} {v1 : Int32} {v2 : Int32} {v3 : Int32} (hw : GS s m) (o_v0 : ok s v0 5) (hf : nb_X5_spread_0 F s m v0 v1 v2 v3 = some (r, m')) : J3 (b_X5_spread_0 F (bl s m) v0 v1 v2 v3) (r, bl s m') (GS s m') := by
  unfold nb_X5_spread_0 at hf
  unfold b_X5_spread_0
  exact ul_X5_spread_3 F _ _ _ _ _ hw o_v0 hf
def n_X5_spread (F : Nat) (s : List Sh) (m : Mem) (p0 : Nat) (p1 : Int32) (p2 : Int32) (p3 : Int32) : Option (Unit × Mem) := nb_X5_spread_0 F s m p0 p1 p2 p3
theorem un_X5_spread {F : Nat} {s : List Sh} {m m' : Mem} {p0 : Nat} {p1 : Int32} {p2 : Int32} {p3 : Int32} {r : Unit} (hw : GS s m) (o_p0 : ok s p0 5) (ex : n_X5_spread F s m p0 p1 p2 p3 = some (r, m')) : J3 (m_X5_spread F (bl s m) p0 p1 p2 p3) (r, bl s m') (GS s m') := u_X5_spread_0 hw o_p0 ex
/-! FractionLift$Routes.layFloors(I)I over the memory -/
def nb_X5_layFloors_4 (F : Nat) (s : List Sh) (nself4 : Mem → Nat → Int32 → Int32 → Int32 → Option (Int32 × Mem)) (m : Mem) (v0 : Nat) (v1 : Int32) (v2 : Int32) (v3 : Int32) : Option (Int32 × Mem) := if v1 < v3 then (some (v2, m)) else ((m.2.2 v0 0).bind fun a1 => (bind2 (n_X5_spread F s m v0 v2 (m.1 a1 4) (m.1 a1 4)) fun _ m3 => (bindv (v3 + (1)) fun x4 => (nself4 m3 v0 v1 (m.1 a1 4) x4))))
set_option maxRecDepth 20000 in
theorem ub_X5_layFloors_4 {F : Nat} {s : List Sh} {self4 : PH → Nat → Int32 → Int32 → Int32 → Option (Int32 × PH)} {nself4 : Mem → Nat → Int32 → Int32 → Int32 → Option (Int32 × Mem)} {m m' : Mem} {r : Int32} {v0 : Nat} {v1 : Int32} {v2 : Int32} {v3 : Int32} (hw : GS s m) (o_v0 : ok s v0 5) (ih4 : ∀ (m : Mem) (v0 : Nat) (v1 : Int32) (v2 : Int32) (v3 : Int32), GS s m → ok s v0 5 → nself4 m v0 v1 v2 v3 = some (r, m') → J3 (self4 (bl s m) v0 v1 v2 v3) (r, bl s m') (GS s m')) (hf : nb_X5_layFloors_4 F s nself4 m v0 v1 v2 v3 = some (r, m')) : J3 (b_X5_layFloors_4 F self4 (bl s m) v0 v1 v2 v3) (r, bl s m') (GS s m') := by
  unfold nb_X5_layFloors_4 at hf
  unfold b_X5_layFloors_4
  refine k_if hf (fun hf => ?_) (fun hf => ?_)
  · exact k_ret hw hf
  · refine k_gR hw (ok_o o_v0 (by decide)) rfl hf fun a1 o_a1 hf => ?_
    refine k_gI (ok_o o_a1 (by decide)) rfl ?_
    refine k_cO (ok_o o_v0 (by decide)) ?_
    refine ob2 hf fun u m3 ex hf => ?_
    refine k_b2 (un_X5_spread hw o_v0 ex) fun hw => ?_
    refine k_bv hf fun x4 hf => ?_
    exact ih4 _ _ _ _ _ hw o_v0 hf
def nl_X5_layFloors_4 (F : Nat) (s : List Sh) : Nat → Mem → Nat → Int32 → Int32 → Int32 → Option (Int32 × Mem)
  | 0 => fun _ _ _ _ _ => none
  | n + 1 => fun m v0 v1 v2 v3 => nb_X5_layFloors_4 F s (nl_X5_layFloors_4 F s n) m v0 v1 v2 v3
theorem ul_X5_layFloors_4 {F : Nat} {s : List Sh} {m' : Mem} {r : Int32} (n : Nat) : ∀ (m : Mem) (v0 : Nat) (v1 : Int32) (v2 : Int32) (v3 : Int32), GS s m → ok s v0 5 → nl_X5_layFloors_4 F s n m v0 v1 v2 v3 = some (r, m') → J3 (l_X5_layFloors_4 F n (bl s m) v0 v1 v2 v3) (r, bl s m') (GS s m') := by
  induction n with
  | zero => intro m v0 v1 v2 v3 hw o_v0 hf; cases hf
  | succ n ih => intro m v0 v1 v2 v3 hw o_v0 hf; exact ub_X5_layFloors_4 (F := F) hw o_v0 ih hf
def nb_X5_layFloors_0 (F : Nat) (s : List Sh) (m : Mem) (v0 : Nat) (v1 : Int32) : Option (Int32 × Mem) := nl_X5_layFloors_4 F s F m v0 v1 (0 : Int32) (1 : Int32)
set_option maxRecDepth 20000 in
theorem u_X5_layFloors_0 {F : Nat} {s : List Sh} {m m' : Mem} {r : Int32} {v0 : Nat} {v1 : Int32} (hw : GS s m) (o_v0 : ok s v0 5) (hf : nb_X5_layFloors_0 F s m v0 v1 = some (r, m')) : J3 (b_X5_layFloors_0 F (bl s m) v0 v1) (r, bl s m') (GS s m') := by
  unfold nb_X5_layFloors_0 at hf
  unfold b_X5_layFloors_0
  exact ul_X5_layFloors_4 F _ _ _ _ _ hw o_v0 hf
def n_X5_layFloors (F : Nat) (s : List Sh) (m : Mem) (p0 : Nat) (p1 : Int32) : Option (Int32 × Mem) := nb_X5_layFloors_0 F s m p0 p1
theorem un_X5_layFloors {F : Nat} {s : List Sh} {m m' : Mem} {p0 : Nat} {p1 : Int32} {r : Int32} (hw : GS s m) (o_p0 : ok s p0 5) (ex : n_X5_layFloors F s m p0 p1 = some (r, m')) : J3 (m_X5_layFloors F (bl s m) p0 p1) (r, bl s m') (GS s m') := u_X5_layFloors_0 hw o_p0 ex
/-! FractionLift$Routes.greatestFrom(I)I over the memory -/
def nb_X5_greatestFrom_34 (F : Nat) (s : List Sh) (nself4 : Nat → Int32 → Int32 → Option Int32) (m : Mem) (v0 : Nat) (v2 : Int32) (v3 : Int32) : Option Int32 := bindv (v3 + (1)) fun x1 => (nself4 v0 v2 x1)
set_option maxRecDepth 20000 in
theorem u_X5_greatestFrom_34 {F : Nat} {s : List Sh} {self4 : Nat → Int32 → Int32 → Option Int32} {nself4 : Nat → Int32 → Int32 → Option Int32} {m : Mem} {r : Int32} {v0 : Nat} {v2 : Int32} {v3 : Int32} (hw : GS s m) (o_v0 : ok s v0 5) (ih4 : ∀ (v0 : Nat) (v2 : Int32) (v3 : Int32), ok s v0 5 → nself4 v0 v2 v3 = some r → J3 (self4 v0 v2 v3) r True) (hf : nb_X5_greatestFrom_34 F s nself4 m v0 v2 v3 = some r) : J3 (b_X5_greatestFrom_34 F self4 (bl s m) v0 v2 v3) r True := by
  unfold nb_X5_greatestFrom_34 at hf
  unfold b_X5_greatestFrom_34
  refine k_bv hf fun x1 hf => ?_
  exact ih4 _ _ _ o_v0 hf
def nb_X5_greatestFrom_32 (F : Nat) (s : List Sh) (nself4 : Nat → Int32 → Int32 → Option Int32) (m : Mem) (v0 : Nat) (v3 : Int32) : Option Int32 := nb_X5_greatestFrom_34 F s nself4 m v0 v3 v3
set_option maxRecDepth 20000 in
theorem u_X5_greatestFrom_32 {F : Nat} {s : List Sh} {self4 : Nat → Int32 → Int32 → Option Int32} {nself4 : Nat → Int32 → Int32 → Option Int32} {m : Mem} {r : Int32} {v0 : Nat} {v3 : Int32} (hw : GS s m) (o_v0 : ok s v0 5) (ih4 : ∀ (v0 : Nat) (v2 : Int32) (v3 : Int32), ok s v0 5 → nself4 v0 v2 v3 = some r → J3 (self4 v0 v2 v3) r True) (hf : nb_X5_greatestFrom_32 F s nself4 m v0 v3 = some r) : J3 (b_X5_greatestFrom_32 F self4 (bl s m) v0 v3) r True := by
  unfold nb_X5_greatestFrom_32 at hf
  unfold b_X5_greatestFrom_32
  exact u_X5_greatestFrom_34 hw o_v0 ih4 hf
def nb_X5_greatestFrom_4 (F : Nat) (s : List Sh) (nself4 : Nat → Int32 → Int32 → Option Int32) (m : Mem) (v0 : Nat) (v2 : Int32) (v3 : Int32) : Option Int32 := (m.2.2 v0 0).bind fun a1 => (if (m.1 a1 4) ≤ v3 then (some v2) else (if v2 = (-1 : Int32) then (nb_X5_greatestFrom_32 F s nself4 m v0 v3) else ((m.2.2 v0 0).bind fun a2 => ((n_X1_isBelow s m a2 v2 v3).bind fun x3 => (if x3 = 0 then (nb_X5_greatestFrom_34 F s nself4 m v0 v2 v3) else (nb_X5_greatestFrom_32 F s nself4 m v0 v3))))))
set_option maxRecDepth 20000 in
theorem ub_X5_greatestFrom_4 {F : Nat} {s : List Sh} {self4 : Nat → Int32 → Int32 → Option Int32} {nself4 : Nat → Int32 → Int32 → Option Int32} {m : Mem} {r : Int32} {v0 : Nat} {v2 : Int32} {v3 : Int32} (hw : GS s m) (o_v0 : ok s v0 5) (ih4 : ∀ (v0 : Nat) (v2 : Int32) (v3 : Int32), ok s v0 5 → nself4 v0 v2 v3 = some r → J3 (self4 v0 v2 v3) r True) (hf : nb_X5_greatestFrom_4 F s nself4 m v0 v2 v3 = some r) : J3 (b_X5_greatestFrom_4 F self4 (bl s m) v0 v2 v3) r True := by
  unfold nb_X5_greatestFrom_4 at hf
  unfold b_X5_greatestFrom_4
  refine k_gR hw (ok_o o_v0 (by decide)) rfl hf fun a1 o_a1 hf => ?_
  refine k_gI (ok_o o_a1 (by decide)) rfl ?_
  refine k_if hf (fun hf => ?_) (fun hf => ?_)
  · exact k_retP hf
  · refine k_if hf (fun hf => ?_) (fun hf => ?_)
    · exact u_X5_greatestFrom_32 hw o_v0 ih4 hf
    · refine k_gR hw (ok_o o_v0 (by decide)) rfl hf fun a2 o_a2 hf => ?_
      refine k_cO (ok_o o_a2 (by decide)) ?_
      refine ob hf fun x3 ex hf => ?_
      refine k_b1 (un_X1_isBelow hw o_a2 ex) ?_
      refine k_if hf (fun hf => ?_) (fun hf => ?_)
      · exact u_X5_greatestFrom_34 hw o_v0 ih4 hf
      · exact u_X5_greatestFrom_32 hw o_v0 ih4 hf
def nl_X5_greatestFrom_4 (F : Nat) (s : List Sh) (m : Mem) : Nat → Nat → Int32 → Int32 → Option Int32
  | 0 => fun _ _ _ => none
  | n + 1 => fun v0 v2 v3 => nb_X5_greatestFrom_4 F s (nl_X5_greatestFrom_4 F s m n) m v0 v2 v3
theorem ul_X5_greatestFrom_4 {F : Nat} {s : List Sh} {m : Mem} {r : Int32} (hw : GS s m) (n : Nat) : ∀ (v0 : Nat) (v2 : Int32) (v3 : Int32), ok s v0 5 → nl_X5_greatestFrom_4 F s m n v0 v2 v3 = some r → J3 (l_X5_greatestFrom_4 F (bl s m) n v0 v2 v3) r True := by
  induction n with
  | zero => intro v0 v2 v3 o_v0 hf; cases hf
  | succ n ih => intro v0 v2 v3 o_v0 hf; exact ub_X5_greatestFrom_4 (F := F) hw o_v0 ih hf
def nb_X5_greatestFrom_0 (F : Nat) (s : List Sh) (m : Mem) (v0 : Nat) (v1 : Int32) : Option Int32 := nl_X5_greatestFrom_4 F s m F v0 (-1 : Int32) v1
set_option maxRecDepth 20000 in
theorem u_X5_greatestFrom_0 {F : Nat} {s : List Sh} {m : Mem} {r : Int32} {v0 : Nat} {v1 : Int32} (hw : GS s m) (o_v0 : ok s v0 5) (hf : nb_X5_greatestFrom_0 F s m v0 v1 = some r) : J3 (b_X5_greatestFrom_0 F (bl s m) v0 v1) r True := by
  unfold nb_X5_greatestFrom_0 at hf
  unfold b_X5_greatestFrom_0
  exact ul_X5_greatestFrom_4 hw F _ _ _ o_v0 hf
def n_X5_greatestFrom (F : Nat) (s : List Sh) (m : Mem) (p0 : Nat) (p1 : Int32) : Option Int32 := nb_X5_greatestFrom_0 F s m p0 p1
theorem un_X5_greatestFrom {F : Nat} {s : List Sh} {m : Mem} {p0 : Nat} {p1 : Int32} {r : Int32} (hw : GS s m) (o_p0 : ok s p0 5) (ex : n_X5_greatestFrom F s m p0 p1 = some r) : J3 (m_X5_greatestFrom F (bl s m) p0 p1) r True := u_X5_greatestFrom_0 hw o_p0 ex
/-! FractionLift$Routes.stepToTwins(III)Z over the memory -/
def nb_X5_stepToTwins_167 (F : Nat) (s : List Sh) (nself2 : Mem → Nat → Int32 → Int32 → Int32 → Option (Int32 × Mem)) (nself7 : Mem → Nat → Int32 → Int32 → Int32 → Int32 → Option (Int32 × Mem)) (m : Mem) (v0 : Nat) (v2 : Int32) (v3 : Int32) (v4 : Int32) (v5 : Int32) : Option (Int32 × Mem) := bindv (v5 + (1)) fun x1 => (nself7 m v0 v2 v3 v4 x1)
set_option maxRecDepth 20000 in
theorem u_X5_stepToTwins_167 {F : Nat} {s : List Sh} {self2 : PH → Nat → Int32 → Int32 → Int32 → Option (Int32 × PH)} {nself2 : Mem → Nat → Int32 → Int32 → Int32 → Option (Int32 × Mem)} {self7 : PH → Nat → Int32 → Int32 → Int32 → Int32 → Option (Int32 × PH)} {nself7 : Mem → Nat → Int32 → Int32 → Int32 → Int32 → Option (Int32 × Mem)} {m m' : Mem} {r : Int32} {v0 : Nat} {v2 : Int32} {v3 : Int32} {v4 : Int32} {v5 : Int32} (hw : GS s m) (o_v0 : ok s v0 5) (ih2 : ∀ (m : Mem) (v0 : Nat) (v2 : Int32) (v3 : Int32) (v4 : Int32), GS s m → ok s v0 5 → nself2 m v0 v2 v3 v4 = some (r, m') → J3 (self2 (bl s m) v0 v2 v3 v4) (r, bl s m') (GS s m')) (ih7 : ∀ (m : Mem) (v0 : Nat) (v2 : Int32) (v3 : Int32) (v4 : Int32) (v5 : Int32), GS s m → ok s v0 5 → nself7 m v0 v2 v3 v4 v5 = some (r, m') → J3 (self7 (bl s m) v0 v2 v3 v4 v5) (r, bl s m') (GS s m')) (hf : nb_X5_stepToTwins_167 F s nself2 nself7 m v0 v2 v3 v4 v5 = some (r, m')) : J3 (b_X5_stepToTwins_167 F self2 self7 (bl s m) v0 v2 v3 v4 v5) (r, bl s m') (GS s m') := by
  unfold nb_X5_stepToTwins_167 at hf
  unfold b_X5_stepToTwins_167
  refine k_bv hf fun x1 hf => ?_
  exact ih7 _ _ _ _ _ _ hw o_v0 hf
def nb_X5_stepToTwins_12 (F : Nat) (s : List Sh) (nself2 : Mem → Nat → Int32 → Int32 → Int32 → Option (Int32 × Mem)) (nself7 : Mem → Nat → Int32 → Int32 → Int32 → Int32 → Option (Int32 × Mem)) (m : Mem) (v0 : Nat) (v2 : Int32) (v3 : Int32) (v4 : Int32) (v5 : Int32) : Option (Int32 × Mem) := (m.2.2 v0 5).bind fun a1 => (if (m.1 a1 6) ≤ v5 then (bindv (v4 + (1)) fun x2 => (nself2 m v0 v2 v3 x2)) else ((m.2.2 v0 4).bind fun a3 => ((m.2.2 v0 5).bind fun a4 => ((m.2.2 v0 0).bind fun a5 => ((m.2.2 a5 0).bind fun a6 => ((rdI s m a6 v4).bind fun x7 => ((m.2.2 v0 0).bind fun a8 => ((m.2.2 a8 1).bind fun a9 => ((rdI s m a9 v4).bind fun x10 => (bind2 (n_X4_lead F s m a3 a4 v5 (Int32.toInt64 x7) (Int32.toInt64 x10)) fun x11 m12 => (if x11 = 0 then (bindv ((((v4 * (6 : Int32))) + v5)) fun x13 => ((m12.2.2 v0 0).bind fun a14 => ((m12.2.2 v0 4).bind fun a15 => ((m12.2.2 v0 4).bind fun a16 => ((m12.2.2 v0 0).bind fun a17 => ((n_X1_find F s m12 a14 (m12.1 a15 0) (m12.1 a16 1) v2 (m12.1 a17 4)).bind fun x18 => (if x18 = (-1 : Int32) then ((m12.2.2 v0 0).bind fun a19 => ((m12.2.2 v0 4).bind fun a20 => ((m12.2.2 v0 4).bind fun a21 => (bind2 (n_X1_put s m12 a19 (m12.1 a20 0) (m12.1 a21 1) x13) fun _ m23 => (nb_X5_stepToTwins_167 F s nself2 nself7 m23 v0 v2 v3 v4 v5))))) else ((m12.2.2 v0 0).bind fun a24 => ((m12.2.2 a24 2).bind fun a25 => ((rdI s m12 a25 x18).bind fun x26 => ((m12.2.2 v0 1).bind fun a27 => (bind2 (n_X5_traceRow F s m12 v0 x26 v3 a27) fun _ m29 => ((m29.2.2 v0 2).bind fun a30 => (bind2 (n_X5_traceRow F s m29 v0 x13 v3 a30) fun _ m32 => (rZM (1 : Int32) m32))))))))))))))) else (nb_X5_stepToTwins_167 F s nself2 nself7 m12 v0 v2 v3 v4 v5))))))))))))
set_option maxRecDepth 20000 in
theorem ub_X5_stepToTwins_12 {F : Nat} {s : List Sh} {self2 : PH → Nat → Int32 → Int32 → Int32 → Option (Int32 × PH)} {nself2 : Mem → Nat → Int32 → Int32 → Int32 → Option (Int32 × Mem)} {self7 : PH → Nat → Int32 → Int32 → Int32 → Int32 → Option (Int32 × PH)} {nself7 : Mem → Nat → Int32 → Int32 → Int32 → Int32 → Option (Int32 × Mem)} {m m' : Mem} {r : Int32} {v0 : Nat} {v2 : Int32} {v3 : Int32} {v4 : Int32} {v5 : Int32} (hw : GS s m) (o_v0 : ok s v0 5) (ih2 : ∀ (m : Mem) (v0 : Nat) (v2 : Int32) (v3 : Int32) (v4 : Int32), GS s m → ok s v0 5 → nself2 m v0 v2 v3 v4 = some (r, m') → J3 (self2 (bl s m) v0 v2 v3 v4) (r, bl s m') (GS s m')) (ih7 : ∀ (m : Mem) (v0 : Nat) (v2 : Int32) (v3 : Int32) (v4 : Int32) (v5 : Int32), GS s m → ok s v0 5 → nself7 m v0 v2 v3 v4 v5 = some (r, m') → J3 (self7 (bl s m) v0 v2 v3 v4 v5) (r, bl s m') (GS s m')) (hf : nb_X5_stepToTwins_12 F s nself2 nself7 m v0 v2 v3 v4 v5 = some (r, m')) : J3 (b_X5_stepToTwins_12 F self2 self7 (bl s m) v0 v2 v3 v4 v5) (r, bl s m') (GS s m') := by
  unfold nb_X5_stepToTwins_12 at hf
  unfold b_X5_stepToTwins_12
  refine k_gR hw (ok_o o_v0 (by decide)) rfl hf fun a1 o_a1 hf => ?_
  refine k_gI (ok_o o_a1 (by decide)) rfl ?_
  refine k_if hf (fun hf => ?_) (fun hf => ?_)
  · refine k_bv hf fun x2 hf => ?_
    exact ih2 _ _ _ _ _ hw o_v0 hf
  · refine k_gR hw (ok_o o_v0 (by decide)) rfl hf fun a3 o_a3 hf => ?_
    refine k_gR hw (ok_o o_v0 (by decide)) rfl hf fun a4 o_a4 hf => ?_
    refine k_gR hw (ok_o o_v0 (by decide)) rfl hf fun a5 o_a5 hf => ?_
    refine k_gR hw (ok_o o_a5 (by decide)) rfl hf fun a6 o_a6 hf => ?_
    refine k_aI (Or.inl rfl) (ka rfl o_a6) hf fun x7 hf => ?_
    refine k_gR hw (ok_o o_v0 (by decide)) rfl hf fun a8 o_a8 hf => ?_
    refine k_gR hw (ok_o o_a8 (by decide)) rfl hf fun a9 o_a9 hf => ?_
    refine k_aI (Or.inl rfl) (ka rfl o_a9) hf fun x10 hf => ?_
    refine k_cO (ok_o o_a3 (by decide)) ?_
    refine ob2 hf fun x11 m12 ex hf => ?_
    refine k_b2 (un_X4_lead hw o_a3 o_a4 ex) fun hw => ?_
    refine k_if hf (fun hf => ?_) (fun hf => ?_)
    · refine k_bv hf fun x13 hf => ?_
      refine k_gR hw (ok_o o_v0 (by decide)) rfl hf fun a14 o_a14 hf => ?_
      refine k_gR hw (ok_o o_v0 (by decide)) rfl hf fun a15 o_a15 hf => ?_
      refine k_gI (ok_o o_a15 (by decide)) rfl ?_
      refine k_gR hw (ok_o o_v0 (by decide)) rfl hf fun a16 o_a16 hf => ?_
      refine k_gI (ok_o o_a16 (by decide)) rfl ?_
      refine k_gR hw (ok_o o_v0 (by decide)) rfl hf fun a17 o_a17 hf => ?_
      refine k_gI (ok_o o_a17 (by decide)) rfl ?_
      refine k_cO (ok_o o_a14 (by decide)) ?_
      refine ob hf fun x18 ex hf => ?_
      refine k_b1 (un_X1_find hw o_a14 ex) ?_
      refine k_if hf (fun hf => ?_) (fun hf => ?_)
      · refine k_gR hw (ok_o o_v0 (by decide)) rfl hf fun a19 o_a19 hf => ?_
        refine k_gR hw (ok_o o_v0 (by decide)) rfl hf fun a20 o_a20 hf => ?_
        refine k_gI (ok_o o_a20 (by decide)) rfl ?_
        refine k_gR hw (ok_o o_v0 (by decide)) rfl hf fun a21 o_a21 hf => ?_
        refine k_gI (ok_o o_a21 (by decide)) rfl ?_
        refine k_cO (ok_o o_a19 (by decide)) ?_
        refine ob2 hf fun u m23 ex hf => ?_
        refine k_b2 (un_X1_put hw o_a19 ex) fun hw => ?_
        exact u_X5_stepToTwins_167 hw o_v0 ih2 ih7 hf
      · refine k_gR hw (ok_o o_v0 (by decide)) rfl hf fun a24 o_a24 hf => ?_
        refine k_gR hw (ok_o o_a24 (by decide)) rfl hf fun a25 o_a25 hf => ?_
        refine k_aI (Or.inl rfl) (ka rfl o_a25) hf fun x26 hf => ?_
        refine k_gR hw (ok_o o_v0 (by decide)) rfl hf fun a27 o_a27 hf => ?_
        refine k_cO (ok_o o_v0 (by decide)) ?_
        refine ob2 hf fun u m29 ex hf => ?_
        refine k_b2 (un_X5_traceRow hw o_v0 o_a27 ex) fun hw => ?_
        refine k_gR hw (ok_o o_v0 (by decide)) rfl hf fun a30 o_a30 hf => ?_
        refine k_cO (ok_o o_v0 (by decide)) ?_
        refine ob2 hf fun u m32 ex hf => ?_
        refine k_b2 (un_X5_traceRow hw o_v0 o_a30 ex) fun hw => ?_
        exact k_rZ hw hf
    · exact u_X5_stepToTwins_167 hw o_v0 ih2 ih7 hf
def nl_X5_stepToTwins_12 (F : Nat) (s : List Sh) (nself2 : Mem → Nat → Int32 → Int32 → Int32 → Option (Int32 × Mem)) : Nat → Mem → Nat → Int32 → Int32 → Int32 → Int32 → Option (Int32 × Mem)
  | 0 => fun _ _ _ _ _ _ => none
  | n + 1 => fun m v0 v2 v3 v4 v5 => nb_X5_stepToTwins_12 F s nself2 (nl_X5_stepToTwins_12 F s nself2 n) m v0 v2 v3 v4 v5
theorem ul_X5_stepToTwins_12 {F : Nat} {s : List Sh} {self2 : PH → Nat → Int32 → Int32 → Int32 → Option (Int32 × PH)} {nself2 : Mem → Nat → Int32 → Int32 → Int32 → Option (Int32 × Mem)} {m' : Mem} {r : Int32} (ih2 : ∀ (m : Mem) (v0 : Nat) (v2 : Int32) (v3 : Int32) (v4 : Int32), GS s m → ok s v0 5 → nself2 m v0 v2 v3 v4 = some (r, m') → J3 (self2 (bl s m) v0 v2 v3 v4) (r, bl s m') (GS s m')) (n : Nat) : ∀ (m : Mem) (v0 : Nat) (v2 : Int32) (v3 : Int32) (v4 : Int32) (v5 : Int32), GS s m → ok s v0 5 → nl_X5_stepToTwins_12 F s nself2 n m v0 v2 v3 v4 v5 = some (r, m') → J3 (l_X5_stepToTwins_12 F self2 n (bl s m) v0 v2 v3 v4 v5) (r, bl s m') (GS s m') := by
  induction n with
  | zero => intro m v0 v2 v3 v4 v5 hw o_v0 hf; cases hf
  | succ n ih => intro m v0 v2 v3 v4 v5 hw o_v0 hf; exact ub_X5_stepToTwins_12 (F := F) hw o_v0 ih2 ih hf
def nb_X5_stepToTwins_3 (F : Nat) (s : List Sh) (nself2 : Mem → Nat → Int32 → Int32 → Int32 → Option (Int32 × Mem)) (m : Mem) (v0 : Nat) (v2 : Int32) (v3 : Int32) (v4 : Int32) : Option (Int32 × Mem) := if v2 ≤ v4 then (rZM (0 : Int32) m) else (nl_X5_stepToTwins_12 F s nself2 F m v0 v2 v3 v4 (0 : Int32))
set_option maxRecDepth 20000 in
theorem ub_X5_stepToTwins_3 {F : Nat} {s : List Sh} {self2 : PH → Nat → Int32 → Int32 → Int32 → Option (Int32 × PH)} {nself2 : Mem → Nat → Int32 → Int32 → Int32 → Option (Int32 × Mem)} {m m' : Mem} {r : Int32} {v0 : Nat} {v2 : Int32} {v3 : Int32} {v4 : Int32} (hw : GS s m) (o_v0 : ok s v0 5) (ih2 : ∀ (m : Mem) (v0 : Nat) (v2 : Int32) (v3 : Int32) (v4 : Int32), GS s m → ok s v0 5 → nself2 m v0 v2 v3 v4 = some (r, m') → J3 (self2 (bl s m) v0 v2 v3 v4) (r, bl s m') (GS s m')) (hf : nb_X5_stepToTwins_3 F s nself2 m v0 v2 v3 v4 = some (r, m')) : J3 (b_X5_stepToTwins_3 F self2 (bl s m) v0 v2 v3 v4) (r, bl s m') (GS s m') := by
  unfold nb_X5_stepToTwins_3 at hf
  unfold b_X5_stepToTwins_3
  refine k_if hf (fun hf => ?_) (fun hf => ?_)
  · exact k_rZ hw hf
  · exact ul_X5_stepToTwins_12 ih2 F _ _ _ _ _ _ hw o_v0 hf
def nl_X5_stepToTwins_3 (F : Nat) (s : List Sh) : Nat → Mem → Nat → Int32 → Int32 → Int32 → Option (Int32 × Mem)
  | 0 => fun _ _ _ _ _ => none
  | n + 1 => fun m v0 v2 v3 v4 => nb_X5_stepToTwins_3 F s (nl_X5_stepToTwins_3 F s n) m v0 v2 v3 v4
theorem ul_X5_stepToTwins_3 {F : Nat} {s : List Sh} {m' : Mem} {r : Int32} (n : Nat) : ∀ (m : Mem) (v0 : Nat) (v2 : Int32) (v3 : Int32) (v4 : Int32), GS s m → ok s v0 5 → nl_X5_stepToTwins_3 F s n m v0 v2 v3 v4 = some (r, m') → J3 (l_X5_stepToTwins_3 F n (bl s m) v0 v2 v3 v4) (r, bl s m') (GS s m') := by
  induction n with
  | zero => intro m v0 v2 v3 v4 hw o_v0 hf; cases hf
  | succ n ih => intro m v0 v2 v3 v4 hw o_v0 hf; exact ub_X5_stepToTwins_3 (F := F) hw o_v0 ih hf
def nb_X5_stepToTwins_0 (F : Nat) (s : List Sh) (m : Mem) (v0 : Nat) (v1 : Int32) (v2 : Int32) (v3 : Int32) : Option (Int32 × Mem) := nl_X5_stepToTwins_3 F s F m v0 v2 v3 v1
set_option maxRecDepth 20000 in
theorem u_X5_stepToTwins_0 {F : Nat} {s : List Sh} {m m' : Mem} {r : Int32} {v0 : Nat} {v1 : Int32} {v2 : Int32} {v3 : Int32} (hw : GS s m) (o_v0 : ok s v0 5) (hf : nb_X5_stepToTwins_0 F s m v0 v1 v2 v3 = some (r, m')) : J3 (b_X5_stepToTwins_0 F (bl s m) v0 v1 v2 v3) (r, bl s m') (GS s m') := by
  unfold nb_X5_stepToTwins_0 at hf
  unfold b_X5_stepToTwins_0
  exact ul_X5_stepToTwins_3 F _ _ _ _ _ hw o_v0 hf
def n_X5_stepToTwins (F : Nat) (s : List Sh) (m : Mem) (p0 : Nat) (p1 : Int32) (p2 : Int32) (p3 : Int32) : Option (Int32 × Mem) := nb_X5_stepToTwins_0 F s m p0 p1 p2 p3
theorem un_X5_stepToTwins {F : Nat} {s : List Sh} {m m' : Mem} {p0 : Nat} {p1 : Int32} {p2 : Int32} {p3 : Int32} {r : Int32} (hw : GS s m) (o_p0 : ok s p0 5) (ex : n_X5_stepToTwins F s m p0 p1 p2 p3 = some (r, m')) : J3 (m_X5_stepToTwins F (bl s m) p0 p1 p2 p3) (r, bl s m') (GS s m') := u_X5_stepToTwins_0 hw o_p0 ex
/-! FractionLift$Routes.seekTwins()I over the memory -/
def nb_X5_seekTwins_4 (F : Nat) (s : List Sh) (nself4 : Mem → Nat → Int32 → Int32 → Option (Int32 × Mem)) (m : Mem) (v0 : Nat) (v1 : Int32) (v2 : Int32) : Option (Int32 × Mem) := if (5 : Int32) < v2 then (some ((-1 : Int32), m)) else ((m.2.2 v0 0).bind fun a1 => (bind2 (n_X5_stepToTwins F s m v0 v1 (m.1 a1 4) v2) fun x2 m3 => (if x2 = 0 then (bindv (v2 + (1)) fun x4 => (nself4 m3 v0 (m.1 a1 4) x4)) else (some (v2, m3)))))
set_option maxRecDepth 20000 in
theorem ub_X5_seekTwins_4 {F : Nat} {s : List Sh} {self4 : PH → Nat → Int32 → Int32 → Option (Int32 × PH)} {nself4 : Mem → Nat → Int32 → Int32 → Option (Int32 × Mem)} {m m' : Mem} {r : Int32} {v0 : Nat} {v1 : Int32} {v2 : Int32} (hw : GS s m) (o_v0 : ok s v0 5) (ih4 : ∀ (m : Mem) (v0 : Nat) (v1 : Int32) (v2 : Int32), GS s m → ok s v0 5 → nself4 m v0 v1 v2 = some (r, m') → J3 (self4 (bl s m) v0 v1 v2) (r, bl s m') (GS s m')) (hf : nb_X5_seekTwins_4 F s nself4 m v0 v1 v2 = some (r, m')) : J3 (b_X5_seekTwins_4 F self4 (bl s m) v0 v1 v2) (r, bl s m') (GS s m') := by
  unfold nb_X5_seekTwins_4 at hf
  unfold b_X5_seekTwins_4
  refine k_if hf (fun hf => ?_) (fun hf => ?_)
  · exact k_ret hw hf
  · refine k_gR hw (ok_o o_v0 (by decide)) rfl hf fun a1 o_a1 hf => ?_
    refine k_gI (ok_o o_a1 (by decide)) rfl ?_
    refine k_cO (ok_o o_v0 (by decide)) ?_
    refine ob2 hf fun x2 m3 ex hf => ?_
    refine k_b2 (un_X5_stepToTwins hw o_v0 ex) fun hw => ?_
    refine k_if hf (fun hf => ?_) (fun hf => ?_)
    · refine k_bv hf fun x4 hf => ?_
      exact ih4 _ _ _ _ hw o_v0 hf
    · exact k_ret hw hf
def nl_X5_seekTwins_4 (F : Nat) (s : List Sh) : Nat → Mem → Nat → Int32 → Int32 → Option (Int32 × Mem)
  | 0 => fun _ _ _ _ => none
  | n + 1 => fun m v0 v1 v2 => nb_X5_seekTwins_4 F s (nl_X5_seekTwins_4 F s n) m v0 v1 v2
theorem ul_X5_seekTwins_4 {F : Nat} {s : List Sh} {m' : Mem} {r : Int32} (n : Nat) : ∀ (m : Mem) (v0 : Nat) (v1 : Int32) (v2 : Int32), GS s m → ok s v0 5 → nl_X5_seekTwins_4 F s n m v0 v1 v2 = some (r, m') → J3 (l_X5_seekTwins_4 F n (bl s m) v0 v1 v2) (r, bl s m') (GS s m') := by
  induction n with
  | zero => intro m v0 v1 v2 hw o_v0 hf; cases hf
  | succ n ih => intro m v0 v1 v2 hw o_v0 hf; exact ub_X5_seekTwins_4 (F := F) hw o_v0 ih hf
def nb_X5_seekTwins_0 (F : Nat) (s : List Sh) (m : Mem) (v0 : Nat) : Option (Int32 × Mem) := nl_X5_seekTwins_4 F s F m v0 (0 : Int32) (1 : Int32)
set_option maxRecDepth 20000 in
theorem u_X5_seekTwins_0 {F : Nat} {s : List Sh} {m m' : Mem} {r : Int32} {v0 : Nat} (hw : GS s m) (o_v0 : ok s v0 5) (hf : nb_X5_seekTwins_0 F s m v0 = some (r, m')) : J3 (b_X5_seekTwins_0 F (bl s m) v0) (r, bl s m') (GS s m') := by
  unfold nb_X5_seekTwins_0 at hf
  unfold b_X5_seekTwins_0
  exact ul_X5_seekTwins_4 F _ _ _ _ hw o_v0 hf
def n_X5_seekTwins (F : Nat) (s : List Sh) (m : Mem) (p0 : Nat) : Option (Int32 × Mem) := nb_X5_seekTwins_0 F s m p0
theorem un_X5_seekTwins {F : Nat} {s : List Sh} {m m' : Mem} {p0 : Nat} {r : Int32} (hw : GS s m) (o_p0 : ok s p0 5) (ex : n_X5_seekTwins F s m p0 = some (r, m')) : J3 (m_X5_seekTwins F (bl s m) p0) (r, bl s m') (GS s m') := u_X5_seekTwins_0 hw o_p0 ex
/-! FractionLift$Routes.leastCommon(III)I over the memory -/
def nb_X5_leastCommon_69 (F : Nat) (s : List Sh) (nself4 : Nat → Int32 → Int32 → Int32 → Int32 → Int32 → Option Int32) (m : Mem) (v0 : Nat) (v1 : Int32) (v2 : Int32) (v3 : Int32) (v4 : Int32) (v5 : Int32) : Option Int32 := bindv (v5 + (1)) fun x1 => (nself4 v0 v1 v2 v3 v4 x1)
set_option maxRecDepth 20000 in
theorem u_X5_leastCommon_69 {F : Nat} {s : List Sh} {self4 : Nat → Int32 → Int32 → Int32 → Int32 → Int32 → Option Int32} {nself4 : Nat → Int32 → Int32 → Int32 → Int32 → Int32 → Option Int32} {m : Mem} {r : Int32} {v0 : Nat} {v1 : Int32} {v2 : Int32} {v3 : Int32} {v4 : Int32} {v5 : Int32} (hw : GS s m) (o_v0 : ok s v0 5) (ih4 : ∀ (v0 : Nat) (v1 : Int32) (v2 : Int32) (v3 : Int32) (v4 : Int32) (v5 : Int32), ok s v0 5 → nself4 v0 v1 v2 v3 v4 v5 = some r → J3 (self4 v0 v1 v2 v3 v4 v5) r True) (hf : nb_X5_leastCommon_69 F s nself4 m v0 v1 v2 v3 v4 v5 = some r) : J3 (b_X5_leastCommon_69 F self4 (bl s m) v0 v1 v2 v3 v4 v5) r True := by
  unfold nb_X5_leastCommon_69 at hf
  unfold b_X5_leastCommon_69
  refine k_bv hf fun x1 hf => ?_
  exact ih4 _ _ _ _ _ _ o_v0 hf
def nb_X5_leastCommon_32 (F : Nat) (s : List Sh) (nself4 : Nat → Int32 → Int32 → Int32 → Int32 → Int32 → Option Int32) (m : Mem) (v0 : Nat) (v1 : Int32) (v2 : Int32) (v3 : Int32) (v4 : Int32) (v5 : Int32) : Option Int32 := (m.2.2 v0 0).bind fun a1 => ((m.2.2 v0 0).bind fun a2 => ((m.2.2 a2 0).bind fun a3 => ((rdI s m a3 v5).bind fun x4 => ((m.2.2 v0 0).bind fun a5 => ((m.2.2 a5 1).bind fun a6 => ((rdI s m a6 v5).bind fun x7 => ((n_X1_find F s m a1 x4 x7 v1 v2).bind fun x8 => (if x8 = (-1 : Int32) then (nb_X5_leastCommon_69 F s nself4 m v0 v1 v2 v3 v4 v5) else (nb_X5_leastCommon_69 F s nself4 m v0 v1 v2 v3 v5 v5)))))))))
set_option maxRecDepth 20000 in
theorem u_X5_leastCommon_32 {F : Nat} {s : List Sh} {self4 : Nat → Int32 → Int32 → Int32 → Int32 → Int32 → Option Int32} {nself4 : Nat → Int32 → Int32 → Int32 → Int32 → Int32 → Option Int32} {m : Mem} {r : Int32} {v0 : Nat} {v1 : Int32} {v2 : Int32} {v3 : Int32} {v4 : Int32} {v5 : Int32} (hw : GS s m) (o_v0 : ok s v0 5) (ih4 : ∀ (v0 : Nat) (v1 : Int32) (v2 : Int32) (v3 : Int32) (v4 : Int32) (v5 : Int32), ok s v0 5 → nself4 v0 v1 v2 v3 v4 v5 = some r → J3 (self4 v0 v1 v2 v3 v4 v5) r True) (hf : nb_X5_leastCommon_32 F s nself4 m v0 v1 v2 v3 v4 v5 = some r) : J3 (b_X5_leastCommon_32 F self4 (bl s m) v0 v1 v2 v3 v4 v5) r True := by
  unfold nb_X5_leastCommon_32 at hf
  unfold b_X5_leastCommon_32
  refine k_gR hw (ok_o o_v0 (by decide)) rfl hf fun a1 o_a1 hf => ?_
  refine k_gR hw (ok_o o_v0 (by decide)) rfl hf fun a2 o_a2 hf => ?_
  refine k_gR hw (ok_o o_a2 (by decide)) rfl hf fun a3 o_a3 hf => ?_
  refine k_aI (Or.inl rfl) (ka rfl o_a3) hf fun x4 hf => ?_
  refine k_gR hw (ok_o o_v0 (by decide)) rfl hf fun a5 o_a5 hf => ?_
  refine k_gR hw (ok_o o_a5 (by decide)) rfl hf fun a6 o_a6 hf => ?_
  refine k_aI (Or.inl rfl) (ka rfl o_a6) hf fun x7 hf => ?_
  refine k_cO (ok_o o_a1 (by decide)) ?_
  refine ob hf fun x8 ex hf => ?_
  refine k_b1 (un_X1_find hw o_a1 ex) ?_
  refine k_if hf (fun hf => ?_) (fun hf => ?_)
  · exact u_X5_leastCommon_69 hw o_v0 ih4 hf
  · exact u_X5_leastCommon_69 hw o_v0 ih4 hf
def nb_X5_leastCommon_6 (F : Nat) (s : List Sh) (nself4 : Nat → Int32 → Int32 → Int32 → Int32 → Int32 → Option Int32) (m : Mem) (v0 : Nat) (v1 : Int32) (v2 : Int32) (v3 : Int32) (v4 : Int32) (v5 : Int32) : Option Int32 := if v3 ≤ v5 then (some v4) else (if v4 = (-1 : Int32) then (nb_X5_leastCommon_32 F s nself4 m v0 v1 v2 v3 v4 v5) else ((m.2.2 v0 0).bind fun a1 => ((n_X1_isBelow s m a1 v5 v4).bind fun x2 => (if x2 = 0 then (nb_X5_leastCommon_69 F s nself4 m v0 v1 v2 v3 v4 v5) else (nb_X5_leastCommon_32 F s nself4 m v0 v1 v2 v3 v4 v5)))))
set_option maxRecDepth 20000 in
theorem ub_X5_leastCommon_6 {F : Nat} {s : List Sh} {self4 : Nat → Int32 → Int32 → Int32 → Int32 → Int32 → Option Int32} {nself4 : Nat → Int32 → Int32 → Int32 → Int32 → Int32 → Option Int32} {m : Mem} {r : Int32} {v0 : Nat} {v1 : Int32} {v2 : Int32} {v3 : Int32} {v4 : Int32} {v5 : Int32} (hw : GS s m) (o_v0 : ok s v0 5) (ih4 : ∀ (v0 : Nat) (v1 : Int32) (v2 : Int32) (v3 : Int32) (v4 : Int32) (v5 : Int32), ok s v0 5 → nself4 v0 v1 v2 v3 v4 v5 = some r → J3 (self4 v0 v1 v2 v3 v4 v5) r True) (hf : nb_X5_leastCommon_6 F s nself4 m v0 v1 v2 v3 v4 v5 = some r) : J3 (b_X5_leastCommon_6 F self4 (bl s m) v0 v1 v2 v3 v4 v5) r True := by
  unfold nb_X5_leastCommon_6 at hf
  unfold b_X5_leastCommon_6
  refine k_if hf (fun hf => ?_) (fun hf => ?_)
  · exact k_retP hf
  · refine k_if hf (fun hf => ?_) (fun hf => ?_)
    · exact u_X5_leastCommon_32 hw o_v0 ih4 hf
    · refine k_gR hw (ok_o o_v0 (by decide)) rfl hf fun a1 o_a1 hf => ?_
      refine k_cO (ok_o o_a1 (by decide)) ?_
      refine ob hf fun x2 ex hf => ?_
      refine k_b1 (un_X1_isBelow hw o_a1 ex) ?_
      refine k_if hf (fun hf => ?_) (fun hf => ?_)
      · exact u_X5_leastCommon_69 hw o_v0 ih4 hf
      · exact u_X5_leastCommon_32 hw o_v0 ih4 hf
def nl_X5_leastCommon_6 (F : Nat) (s : List Sh) (m : Mem) : Nat → Nat → Int32 → Int32 → Int32 → Int32 → Int32 → Option Int32
  | 0 => fun _ _ _ _ _ _ => none
  | n + 1 => fun v0 v1 v2 v3 v4 v5 => nb_X5_leastCommon_6 F s (nl_X5_leastCommon_6 F s m n) m v0 v1 v2 v3 v4 v5
theorem ul_X5_leastCommon_6 {F : Nat} {s : List Sh} {m : Mem} {r : Int32} (hw : GS s m) (n : Nat) : ∀ (v0 : Nat) (v1 : Int32) (v2 : Int32) (v3 : Int32) (v4 : Int32) (v5 : Int32), ok s v0 5 → nl_X5_leastCommon_6 F s m n v0 v1 v2 v3 v4 v5 = some r → J3 (l_X5_leastCommon_6 F (bl s m) n v0 v1 v2 v3 v4 v5) r True := by
  induction n with
  | zero => intro v0 v1 v2 v3 v4 v5 o_v0 hf; cases hf
  | succ n ih => intro v0 v1 v2 v3 v4 v5 o_v0 hf; exact ub_X5_leastCommon_6 (F := F) hw o_v0 ih hf
def nb_X5_leastCommon_0 (F : Nat) (s : List Sh) (m : Mem) (v0 : Nat) (v1 : Int32) (v2 : Int32) (v3 : Int32) : Option Int32 := nl_X5_leastCommon_6 F s m F v0 v1 v2 v3 (-1 : Int32) v2
set_option maxRecDepth 20000 in
theorem u_X5_leastCommon_0 {F : Nat} {s : List Sh} {m : Mem} {r : Int32} {v0 : Nat} {v1 : Int32} {v2 : Int32} {v3 : Int32} (hw : GS s m) (o_v0 : ok s v0 5) (hf : nb_X5_leastCommon_0 F s m v0 v1 v2 v3 = some r) : J3 (b_X5_leastCommon_0 F (bl s m) v0 v1 v2 v3) r True := by
  unfold nb_X5_leastCommon_0 at hf
  unfold b_X5_leastCommon_0
  exact ul_X5_leastCommon_6 hw F _ _ _ _ _ _ o_v0 hf
def n_X5_leastCommon (F : Nat) (s : List Sh) (m : Mem) (p0 : Nat) (p1 : Int32) (p2 : Int32) (p3 : Int32) : Option Int32 := nb_X5_leastCommon_0 F s m p0 p1 p2 p3
theorem un_X5_leastCommon {F : Nat} {s : List Sh} {m : Mem} {p0 : Nat} {p1 : Int32} {p2 : Int32} {p3 : Int32} {r : Int32} (hw : GS s m) (o_p0 : ok s p0 5) (ex : n_X5_leastCommon F s m p0 p1 p2 p3 = some r) : J3 (m_X5_leastCommon F (bl s m) p0 p1 p2 p3) r True := u_X5_leastCommon_0 hw o_p0 ex
/-! FractionLift$Routes.stay(II)V over the memory -/
def nb_X5_stay_2 (F : Nat) (s : List Sh) (nself2 : Mem → Nat → Int32 → Int32 → Option (Unit × Mem)) (m : Mem) (v0 : Nat) (v2 : Int32) (v3 : Int32) : Option (Unit × Mem) := if v2 ≤ v3 then (some ((), m)) else ((m.2.2 v0 0).bind fun a1 => ((m.2.2 v0 0).bind fun a2 => ((m.2.2 a2 0).bind fun a3 => ((rdI s m a3 v3).bind fun x4 => ((m.2.2 v0 0).bind fun a5 => ((m.2.2 a5 1).bind fun a6 => ((rdI s m a6 v3).bind fun x7 => (bind2 (n_X1_put s m a1 x4 x7 (-1 : Int32)) fun _ m9 => (bindv (v3 + (1)) fun x10 => (nself2 m9 v0 v2 x10))))))))))
set_option maxRecDepth 20000 in
theorem ub_X5_stay_2 {F : Nat} {s : List Sh} {self2 : PH → Nat → Int32 → Int32 → Option (Unit × PH)} {nself2 : Mem → Nat → Int32 → Int32 → Option (Unit × Mem)} {m m' : Mem} {r : Unit} {v0 : Nat} {v2 : Int32} {v3 : Int32} (hw : GS s m) (o_v0 : ok s v0 5) (ih2 : ∀ (m : Mem) (v0 : Nat) (v2 : Int32) (v3 : Int32), GS s m → ok s v0 5 → nself2 m v0 v2 v3 = some (r, m') → J3 (self2 (bl s m) v0 v2 v3) (r, bl s m') (GS s m')) (hf : nb_X5_stay_2 F s nself2 m v0 v2 v3 = some (r, m')) : J3 (b_X5_stay_2 F self2 (bl s m) v0 v2 v3) (r, bl s m') (GS s m') := by
  unfold nb_X5_stay_2 at hf
  unfold b_X5_stay_2
  refine k_if hf (fun hf => ?_) (fun hf => ?_)
  · exact k_ret hw hf
  · refine k_gR hw (ok_o o_v0 (by decide)) rfl hf fun a1 o_a1 hf => ?_
    refine k_gR hw (ok_o o_v0 (by decide)) rfl hf fun a2 o_a2 hf => ?_
    refine k_gR hw (ok_o o_a2 (by decide)) rfl hf fun a3 o_a3 hf => ?_
    refine k_aI (Or.inl rfl) (ka rfl o_a3) hf fun x4 hf => ?_
    refine k_gR hw (ok_o o_v0 (by decide)) rfl hf fun a5 o_a5 hf => ?_
    refine k_gR hw (ok_o o_a5 (by decide)) rfl hf fun a6 o_a6 hf => ?_
    refine k_aI (Or.inl rfl) (ka rfl o_a6) hf fun x7 hf => ?_
    refine k_cO (ok_o o_a1 (by decide)) ?_
    refine ob2 hf fun u m9 ex hf => ?_
    refine k_b2 (un_X1_put hw o_a1 ex) fun hw => ?_
    refine k_bv hf fun x10 hf => ?_
    exact ih2 _ _ _ _ hw o_v0 hf
def nl_X5_stay_2 (F : Nat) (s : List Sh) : Nat → Mem → Nat → Int32 → Int32 → Option (Unit × Mem)
  | 0 => fun _ _ _ _ => none
  | n + 1 => fun m v0 v2 v3 => nb_X5_stay_2 F s (nl_X5_stay_2 F s n) m v0 v2 v3
theorem ul_X5_stay_2 {F : Nat} {s : List Sh} {m' : Mem} {r : Unit} (n : Nat) : ∀ (m : Mem) (v0 : Nat) (v2 : Int32) (v3 : Int32), GS s m → ok s v0 5 → nl_X5_stay_2 F s n m v0 v2 v3 = some (r, m') → J3 (l_X5_stay_2 F n (bl s m) v0 v2 v3) (r, bl s m') (GS s m') := by
  induction n with
  | zero => intro m v0 v2 v3 hw o_v0 hf; cases hf
  | succ n ih => intro m v0 v2 v3 hw o_v0 hf; exact ub_X5_stay_2 (F := F) hw o_v0 ih hf
def nb_X5_stay_0 (F : Nat) (s : List Sh) (m : Mem) (v0 : Nat) (v1 : Int32) (v2 : Int32) : Option (Unit × Mem) := nl_X5_stay_2 F s F m v0 v2 v1
set_option maxRecDepth 20000 in
theorem u_X5_stay_0 {F : Nat} {s : List Sh} {m m' : Mem} {r : Unit} {v0 : Nat} {v1 : Int32} {v2 : Int32} (hw : GS s m) (o_v0 : ok s v0 5) (hf : nb_X5_stay_0 F s m v0 v1 v2 = some (r, m')) : J3 (b_X5_stay_0 F (bl s m) v0 v1 v2) (r, bl s m') (GS s m') := by
  unfold nb_X5_stay_0 at hf
  unfold b_X5_stay_0
  exact ul_X5_stay_2 F _ _ _ _ hw o_v0 hf
def n_X5_stay (F : Nat) (s : List Sh) (m : Mem) (p0 : Nat) (p1 : Int32) (p2 : Int32) : Option (Unit × Mem) := nb_X5_stay_0 F s m p0 p1 p2
theorem un_X5_stay {F : Nat} {s : List Sh} {m m' : Mem} {p0 : Nat} {p1 : Int32} {p2 : Int32} {r : Unit} (hw : GS s m) (o_p0 : ok s p0 5) (ex : n_X5_stay F s m p0 p1 p2 = some (r, m')) : J3 (m_X5_stay F (bl s m) p0 p1 p2) (r, bl s m') (GS s m') := u_X5_stay_0 hw o_p0 ex
/-! FractionLift$Routes.seekMeeting(IIZ)I over the memory -/
def nb_X5_seekMeeting_168 (F : Nat) (s : List Sh) (nself38 : Mem → Nat → Int32 → Int32 → Int32 → Int32 → Option (Int32 × Mem)) (m : Mem) (v0 : Nat) (v3 : Int32) (v4 : Int32) (v5 : Int32) (v6 : Int32) : Option (Int32 × Mem) := bindv (v6 + (1)) fun x1 => (nself38 m v0 v3 v4 v5 x1)
set_option maxRecDepth 20000 in
theorem u_X5_seekMeeting_168 {F : Nat} {s : List Sh} {self38 : PH → Nat → Int32 → Int32 → Int32 → Int32 → Option (Int32 × PH)} {nself38 : Mem → Nat → Int32 → Int32 → Int32 → Int32 → Option (Int32 × Mem)} {m m' : Mem} {r : Int32} {v0 : Nat} {v3 : Int32} {v4 : Int32} {v5 : Int32} {v6 : Int32} (hw : GS s m) (o_v0 : ok s v0 5) (ih38 : ∀ (m : Mem) (v0 : Nat) (v3 : Int32) (v4 : Int32) (v5 : Int32) (v6 : Int32), GS s m → ok s v0 5 → nself38 m v0 v3 v4 v5 v6 = some (r, m') → J3 (self38 (bl s m) v0 v3 v4 v5 v6) (r, bl s m') (GS s m')) (hf : nb_X5_seekMeeting_168 F s nself38 m v0 v3 v4 v5 v6 = some (r, m')) : J3 (b_X5_seekMeeting_168 F self38 (bl s m) v0 v3 v4 v5 v6) (r, bl s m') (GS s m') := by
  unfold nb_X5_seekMeeting_168 at hf
  unfold b_X5_seekMeeting_168
  refine k_bv hf fun x1 hf => ?_
  exact ih38 _ _ _ _ _ _ hw o_v0 hf
def nb_X5_seekMeeting_150 (F : Nat) (s : List Sh) (nself38 : Mem → Nat → Int32 → Int32 → Int32 → Int32 → Option (Int32 × Mem)) (m : Mem) (v0 : Nat) (v3 : Int32) (v5 : Int32) (v6 : Int32) (v7 : Int32) (v8 : Int32) : Option (Int32 × Mem) := bind2 (n_X5_spread F s m v0 v5 v7 v8) fun _ m2 => (nb_X5_seekMeeting_168 F s nself38 m2 v0 v3 v7 v8 v6)
set_option maxRecDepth 20000 in
theorem u_X5_seekMeeting_150 {F : Nat} {s : List Sh} {self38 : PH → Nat → Int32 → Int32 → Int32 → Int32 → Option (Int32 × PH)} {nself38 : Mem → Nat → Int32 → Int32 → Int32 → Int32 → Option (Int32 × Mem)} {m m' : Mem} {r : Int32} {v0 : Nat} {v3 : Int32} {v5 : Int32} {v6 : Int32} {v7 : Int32} {v8 : Int32} (hw : GS s m) (o_v0 : ok s v0 5) (ih38 : ∀ (m : Mem) (v0 : Nat) (v3 : Int32) (v4 : Int32) (v5 : Int32) (v6 : Int32), GS s m → ok s v0 5 → nself38 m v0 v3 v4 v5 v6 = some (r, m') → J3 (self38 (bl s m) v0 v3 v4 v5 v6) (r, bl s m') (GS s m')) (hf : nb_X5_seekMeeting_150 F s nself38 m v0 v3 v5 v6 v7 v8 = some (r, m')) : J3 (b_X5_seekMeeting_150 F self38 (bl s m) v0 v3 v5 v6 v7 v8) (r, bl s m') (GS s m') := by
  unfold nb_X5_seekMeeting_150 at hf
  unfold b_X5_seekMeeting_150
  refine k_cO (ok_o o_v0 (by decide)) ?_
  refine ob2 hf fun u m2 ex hf => ?_
  refine k_b2 (un_X5_spread hw o_v0 ex) fun hw => ?_
  exact u_X5_seekMeeting_168 hw o_v0 ih38 hf
def nb_X5_seekMeeting_73 (F : Nat) (s : List Sh) (nself38 : Mem → Nat → Int32 → Int32 → Int32 → Int32 → Option (Int32 × Mem)) (m : Mem) (v0 : Nat) (v3 : Int32) (v4 : Int32) (v5 : Int32) (v6 : Int32) : Option (Int32 × Mem) := if (4 : Int32) < v6 then (some ((-1 : Int32), m)) else ((m.2.2 v0 0).bind fun a1 => ((n_X5_leastCommon F s m v0 v4 v5 (m.1 a1 4)).bind fun x2 => (bindv (wI m v0 3 x2) fun m3 => (if (m3.1 v0 3) = (-1 : Int32) then (if (4 : Int32) ≤ v6 then (nb_X5_seekMeeting_168 F s nself38 m3 v0 v3 v4 v5 v6) else (bind2 (n_X5_spread F s m3 v0 v4 v5 (m.1 a1 4)) fun _ m5 => ((m5.2.2 v0 0).bind fun a6 => (if v3 = 0 then (nb_X5_seekMeeting_150 F s nself38 m5 v0 v3 v5 v6 (m.1 a1 4) (m5.1 a6 4)) else (bind2 (n_X5_stay F s m5 v0 v5 (m.1 a1 4)) fun _ m8 => (nb_X5_seekMeeting_150 F s nself38 m8 v0 v3 v5 v6 (m.1 a1 4) (m5.1 a6 4))))))) else (some (v6, m3))))))
set_option maxRecDepth 20000 in
theorem ub_X5_seekMeeting_73 {F : Nat} {s : List Sh} {self38 : PH → Nat → Int32 → Int32 → Int32 → Int32 → Option (Int32 × PH)} {nself38 : Mem → Nat → Int32 → Int32 → Int32 → Int32 → Option (Int32 × Mem)} {m m' : Mem} {r : Int32} {v0 : Nat} {v3 : Int32} {v4 : Int32} {v5 : Int32} {v6 : Int32} (hw : GS s m) (o_v0 : ok s v0 5) (ih38 : ∀ (m : Mem) (v0 : Nat) (v3 : Int32) (v4 : Int32) (v5 : Int32) (v6 : Int32), GS s m → ok s v0 5 → nself38 m v0 v3 v4 v5 v6 = some (r, m') → J3 (self38 (bl s m) v0 v3 v4 v5 v6) (r, bl s m') (GS s m')) (hf : nb_X5_seekMeeting_73 F s nself38 m v0 v3 v4 v5 v6 = some (r, m')) : J3 (b_X5_seekMeeting_73 F self38 (bl s m) v0 v3 v4 v5 v6) (r, bl s m') (GS s m') := by
  unfold nb_X5_seekMeeting_73 at hf
  unfold b_X5_seekMeeting_73
  refine k_if hf (fun hf => ?_) (fun hf => ?_)
  · exact k_ret hw hf
  · refine k_gR hw (ok_o o_v0 (by decide)) rfl hf fun a1 o_a1 hf => ?_
    refine k_gI (ok_o o_a1 (by decide)) rfl ?_
    refine k_cO (ok_o o_v0 (by decide)) ?_
    refine ob hf fun x2 ex hf => ?_
    refine k_b1 (un_X5_leastCommon hw o_v0 ex) ?_
    refine k_pI hw (ok_o o_v0 (by decide)) rfl hf fun m3 hw hf => ?_
    refine k_gI (ok_o o_v0 (by decide)) rfl ?_
    refine k_if hf (fun hf => ?_) (fun hf => ?_)
    · refine k_if hf (fun hf => ?_) (fun hf => ?_)
      · exact u_X5_seekMeeting_168 hw o_v0 ih38 hf
      · refine k_cO (ok_o o_v0 (by decide)) ?_
        refine ob2 hf fun u m5 ex hf => ?_
        refine k_b2 (un_X5_spread hw o_v0 ex) fun hw => ?_
        refine k_gR hw (ok_o o_v0 (by decide)) rfl hf fun a6 o_a6 hf => ?_
        refine k_gI (ok_o o_a6 (by decide)) rfl ?_
        refine k_if hf (fun hf => ?_) (fun hf => ?_)
        · exact u_X5_seekMeeting_150 hw o_v0 ih38 hf
        · refine k_cO (ok_o o_v0 (by decide)) ?_
          refine ob2 hf fun u m8 ex hf => ?_
          refine k_b2 (un_X5_stay hw o_v0 ex) fun hw => ?_
          exact u_X5_seekMeeting_150 hw o_v0 ih38 hf
    · exact k_ret hw hf
def nl_X5_seekMeeting_73 (F : Nat) (s : List Sh) : Nat → Mem → Nat → Int32 → Int32 → Int32 → Int32 → Option (Int32 × Mem)
  | 0 => fun _ _ _ _ _ _ => none
  | n + 1 => fun m v0 v3 v4 v5 v6 => nb_X5_seekMeeting_73 F s (nl_X5_seekMeeting_73 F s n) m v0 v3 v4 v5 v6
theorem ul_X5_seekMeeting_73 {F : Nat} {s : List Sh} {m' : Mem} {r : Int32} (n : Nat) : ∀ (m : Mem) (v0 : Nat) (v3 : Int32) (v4 : Int32) (v5 : Int32) (v6 : Int32), GS s m → ok s v0 5 → nl_X5_seekMeeting_73 F s n m v0 v3 v4 v5 v6 = some (r, m') → J3 (l_X5_seekMeeting_73 F n (bl s m) v0 v3 v4 v5 v6) (r, bl s m') (GS s m') := by
  induction n with
  | zero => intro m v0 v3 v4 v5 v6 hw o_v0 hf; cases hf
  | succ n ih => intro m v0 v3 v4 v5 v6 hw o_v0 hf; exact ub_X5_seekMeeting_73 (F := F) hw o_v0 ih hf
def nb_X5_seekMeeting_0 (F : Nat) (s : List Sh) (m : Mem) (v0 : Nat) (v1 : Int32) (v2 : Int32) (v3 : Int32) : Option (Int32 × Mem) := (m.2.2 v0 0).bind fun a1 => ((m.2.2 v0 0).bind fun a2 => ((m.2.2 v0 5).bind fun a3 => ((m.2.2 a3 16).bind fun a4 => ((rdI s m a4 v1).bind fun x5 => ((m.2.2 v0 5).bind fun a6 => ((m.2.2 a6 17).bind fun a7 => ((rdI s m a7 v1).bind fun x8 => (bind2 (n_X1_put s m a2 x5 x8 (-1 : Int32)) fun _ m10 => ((m10.2.2 v0 0).bind fun a11 => ((m10.2.2 v0 0).bind fun a12 => ((m10.2.2 v0 5).bind fun a13 => ((m10.2.2 a13 16).bind fun a14 => ((rdI s m10 a14 v2).bind fun x15 => ((m10.2.2 v0 5).bind fun a16 => ((m10.2.2 a16 17).bind fun a17 => ((rdI s m10 a17 v2).bind fun x18 => (bind2 (n_X1_put s m10 a12 x15 x18 (-1 : Int32)) fun _ m20 => (nl_X5_seekMeeting_73 F s F m20 v0 v3 (m.1 a1 4) (m10.1 a11 4) (0 : Int32)))))))))))))))))))
set_option maxRecDepth 20000 in
theorem u_X5_seekMeeting_0 {F : Nat} {s : List Sh} {m m' : Mem} {r : Int32} {v0 : Nat} {v1 : Int32} {v2 : Int32} {v3 : Int32} (hw : GS s m) (o_v0 : ok s v0 5) (hf : nb_X5_seekMeeting_0 F s m v0 v1 v2 v3 = some (r, m')) : J3 (b_X5_seekMeeting_0 F (bl s m) v0 v1 v2 v3) (r, bl s m') (GS s m') := by
  unfold nb_X5_seekMeeting_0 at hf
  unfold b_X5_seekMeeting_0
  refine k_gR hw (ok_o o_v0 (by decide)) rfl hf fun a1 o_a1 hf => ?_
  refine k_gI (ok_o o_a1 (by decide)) rfl ?_
  refine k_gR hw (ok_o o_v0 (by decide)) rfl hf fun a2 o_a2 hf => ?_
  refine k_gR hw (ok_o o_v0 (by decide)) rfl hf fun a3 o_a3 hf => ?_
  refine k_gR hw (ok_o o_a3 (by decide)) rfl hf fun a4 o_a4 hf => ?_
  refine k_aI (Or.inl rfl) (ka rfl o_a4) hf fun x5 hf => ?_
  refine k_gR hw (ok_o o_v0 (by decide)) rfl hf fun a6 o_a6 hf => ?_
  refine k_gR hw (ok_o o_a6 (by decide)) rfl hf fun a7 o_a7 hf => ?_
  refine k_aI (Or.inl rfl) (ka rfl o_a7) hf fun x8 hf => ?_
  refine k_cO (ok_o o_a2 (by decide)) ?_
  refine ob2 hf fun u m10 ex hf => ?_
  refine k_b2 (un_X1_put hw o_a2 ex) fun hw => ?_
  refine k_gR hw (ok_o o_v0 (by decide)) rfl hf fun a11 o_a11 hf => ?_
  refine k_gI (ok_o o_a11 (by decide)) rfl ?_
  refine k_gR hw (ok_o o_v0 (by decide)) rfl hf fun a12 o_a12 hf => ?_
  refine k_gR hw (ok_o o_v0 (by decide)) rfl hf fun a13 o_a13 hf => ?_
  refine k_gR hw (ok_o o_a13 (by decide)) rfl hf fun a14 o_a14 hf => ?_
  refine k_aI (Or.inl rfl) (ka rfl o_a14) hf fun x15 hf => ?_
  refine k_gR hw (ok_o o_v0 (by decide)) rfl hf fun a16 o_a16 hf => ?_
  refine k_gR hw (ok_o o_a16 (by decide)) rfl hf fun a17 o_a17 hf => ?_
  refine k_aI (Or.inl rfl) (ka rfl o_a17) hf fun x18 hf => ?_
  refine k_cO (ok_o o_a12 (by decide)) ?_
  refine ob2 hf fun u m20 ex hf => ?_
  refine k_b2 (un_X1_put hw o_a12 ex) fun hw => ?_
  exact ul_X5_seekMeeting_73 F _ _ _ _ _ _ hw o_v0 hf
def n_X5_seekMeeting (F : Nat) (s : List Sh) (m : Mem) (p0 : Nat) (p1 : Int32) (p2 : Int32) (p3 : Int32) : Option (Int32 × Mem) := nb_X5_seekMeeting_0 F s m p0 p1 p2 p3
theorem un_X5_seekMeeting {F : Nat} {s : List Sh} {m m' : Mem} {p0 : Nat} {p1 : Int32} {p2 : Int32} {p3 : Int32} {r : Int32} (hw : GS s m) (o_p0 : ok s p0 5) (ex : n_X5_seekMeeting F s m p0 p1 p2 p3 = some (r, m')) : J3 (m_X5_seekMeeting F (bl s m) p0 p1 p2 p3) (r, bl s m') (GS s m') := u_X5_seekMeeting_0 hw o_p0 ex
/-! FractionLift$Tray.smallAt(I)I over the memory -/
def nb_X7_smallAt_0 (s : List Sh) (m : Mem) (v0 : Nat) (v1 : Int32) : Option Int32 := if v1 < 0 then (some (-1 : Int32)) else (if v1 < (m.1 v0 1) then ((m.2.2 v0 2).bind fun a1 => ((rdL s m a1 v1).bind fun x2 => (if x2 < (0 : Int64) then (some (-1 : Int32)) else ((m.2.2 v0 2).bind fun a3 => ((rdL s m a3 v1).bind fun x4 => (if (100 : Int64) ≤ x4 then (some (-1 : Int32)) else ((m.2.2 v0 2).bind fun a5 => ((rdL s m a5 v1).bind fun x6 => (some (Int64.toInt32 x6)))))))))) else (some (-1 : Int32)))
set_option maxRecDepth 20000 in
theorem u_X7_smallAt_0 {s : List Sh} {m : Mem} {r : Int32} {v0 : Nat} {v1 : Int32} (hw : GS s m) (o_v0 : ok s v0 7) (hf : nb_X7_smallAt_0 s m v0 v1 = some r) : J3 (b_X7_smallAt_0 (bl s m) v0 v1) r True := by
  unfold nb_X7_smallAt_0 at hf
  unfold b_X7_smallAt_0
  refine k_if hf (fun hf => ?_) (fun hf => ?_)
  · exact k_retP hf
  · refine k_gI (ok_o o_v0 (by decide)) rfl ?_
    refine k_if hf (fun hf => ?_) (fun hf => ?_)
    · refine k_gR hw (ok_o o_v0 (by decide)) rfl hf fun a1 o_a1 hf => ?_
      refine k_aL (ka rfl o_a1) hf fun x2 hf => ?_
      refine k_if hf (fun hf => ?_) (fun hf => ?_)
      · exact k_retP hf
      · refine k_gR hw (ok_o o_v0 (by decide)) rfl hf fun a3 o_a3 hf => ?_
        refine k_aL (ka rfl o_a3) hf fun x4 hf => ?_
        refine k_if hf (fun hf => ?_) (fun hf => ?_)
        · exact k_retP hf
        · refine k_gR hw (ok_o o_v0 (by decide)) rfl hf fun a5 o_a5 hf => ?_
          refine k_aL (ka rfl o_a5) hf fun x6 hf => ?_
          exact k_retP hf
    · exact k_retP hf
def n_X7_smallAt (s : List Sh) (m : Mem) (p0 : Nat) (p1 : Int32) : Option Int32 := nb_X7_smallAt_0 s m p0 p1
theorem un_X7_smallAt {s : List Sh} {m : Mem} {p0 : Nat} {p1 : Int32} {r : Int32} (hw : GS s m) (o_p0 : ok s p0 7) (ex : n_X7_smallAt s m p0 p1 = some r) : J3 (m_X7_smallAt (bl s m) p0 p1) r True := u_X7_smallAt_0 hw o_p0 ex
/-! FractionLift$Routes.branch(III)V over the memory -/
def nb_X5_branch_0 (F : Nat) (s : List Sh) (m : Mem) (v0 : Nat) (v1 : Int32) (v2 : Int32) (v3 : Int32) : Option (Unit × Mem) := (m.2.2 v0 0).bind fun a1 => ((m.2.2 a1 3).bind fun a2 => ((rdL s m a2 v1).bind fun x3 => ((m.2.2 v0 0).bind fun a4 => ((m.2.2 a4 0).bind fun a5 => ((rdI s m a5 v1).bind fun x6 => ((m.2.2 v0 0).bind fun a7 => ((m.2.2 a7 1).bind fun a8 => ((rdI s m a8 v1).bind fun x9 => ((m.2.2 v0 4).bind fun a10 => ((m.2.2 v0 5).bind fun a11 => (bind2 (n_X4_lead F s m a10 a11 v2 (Int32.toInt64 x6) (Int32.toInt64 x9)) fun x12 m13 => (if x12 = 0 then ((m13.2.2 v0 0).bind fun a14 => ((m13.2.2 v0 4).bind fun a15 => ((m13.2.2 v0 4).bind fun a16 => ((m13.2.2 v0 5).bind fun a17 => (bind2 (n_X1_addWeight F s m13 a14 (m13.1 a15 0) (m13.1 a16 1) v3 ((x3 * ((Int32.toInt64 (((10 : Int32) - (m13.1 a17 1)))))))) fun _ m19 => ((m19.2.2 v0 5).bind fun a20 => (if (m19.1 a20 1) ≤ 0 then (some ((), m19)) else ((m19.2.2 v0 0).bind fun a21 => ((m19.2.2 v0 5).bind fun a22 => (bind2 (n_X1_addWeight F s m19 a21 x6 x9 v3 ((x3 * ((Int32.toInt64 (m19.1 a22 1)))))) fun _ m24 => (some ((), m24)))))))))))) else ((m13.2.2 v0 0).bind fun a25 => (bind2 (n_X1_addWeight F s m13 a25 x6 x9 v3 ((x3 * (10 : Int64)))) fun _ m27 => (some ((), m27))))))))))))))))
set_option maxRecDepth 20000 in
theorem u_X5_branch_0 {F : Nat} {s : List Sh} {m m' : Mem} {r : Unit} {v0 : Nat} {v1 : Int32} {v2 : Int32} {v3 : Int32} (hw : GS s m) (o_v0 : ok s v0 5) (hf : nb_X5_branch_0 F s m v0 v1 v2 v3 = some (r, m')) : J3 (b_X5_branch_0 F (bl s m) v0 v1 v2 v3) (r, bl s m') (GS s m') := by
  unfold nb_X5_branch_0 at hf
  unfold b_X5_branch_0
  refine k_gR hw (ok_o o_v0 (by decide)) rfl hf fun a1 o_a1 hf => ?_
  refine k_gR hw (ok_o o_a1 (by decide)) rfl hf fun a2 o_a2 hf => ?_
  refine k_aL (ka rfl o_a2) hf fun x3 hf => ?_
  refine k_gR hw (ok_o o_v0 (by decide)) rfl hf fun a4 o_a4 hf => ?_
  refine k_gR hw (ok_o o_a4 (by decide)) rfl hf fun a5 o_a5 hf => ?_
  refine k_aI (Or.inl rfl) (ka rfl o_a5) hf fun x6 hf => ?_
  refine k_gR hw (ok_o o_v0 (by decide)) rfl hf fun a7 o_a7 hf => ?_
  refine k_gR hw (ok_o o_a7 (by decide)) rfl hf fun a8 o_a8 hf => ?_
  refine k_aI (Or.inl rfl) (ka rfl o_a8) hf fun x9 hf => ?_
  refine k_gR hw (ok_o o_v0 (by decide)) rfl hf fun a10 o_a10 hf => ?_
  refine k_gR hw (ok_o o_v0 (by decide)) rfl hf fun a11 o_a11 hf => ?_
  refine k_cO (ok_o o_a10 (by decide)) ?_
  refine ob2 hf fun x12 m13 ex hf => ?_
  refine k_b2 (un_X4_lead hw o_a10 o_a11 ex) fun hw => ?_
  refine k_if hf (fun hf => ?_) (fun hf => ?_)
  · refine k_gR hw (ok_o o_v0 (by decide)) rfl hf fun a14 o_a14 hf => ?_
    refine k_gR hw (ok_o o_v0 (by decide)) rfl hf fun a15 o_a15 hf => ?_
    refine k_gI (ok_o o_a15 (by decide)) rfl ?_
    refine k_gR hw (ok_o o_v0 (by decide)) rfl hf fun a16 o_a16 hf => ?_
    refine k_gI (ok_o o_a16 (by decide)) rfl ?_
    refine k_gR hw (ok_o o_v0 (by decide)) rfl hf fun a17 o_a17 hf => ?_
    refine k_gI (ok_o o_a17 (by decide)) rfl ?_
    refine k_cO (ok_o o_a14 (by decide)) ?_
    refine ob2 hf fun u m19 ex hf => ?_
    refine k_b2 (un_X1_addWeight hw o_a14 ex) fun hw => ?_
    refine k_gR hw (ok_o o_v0 (by decide)) rfl hf fun a20 o_a20 hf => ?_
    refine k_gI (ok_o o_a20 (by decide)) rfl ?_
    refine k_if hf (fun hf => ?_) (fun hf => ?_)
    · exact k_ret hw hf
    · refine k_gR hw (ok_o o_v0 (by decide)) rfl hf fun a21 o_a21 hf => ?_
      refine k_gR hw (ok_o o_v0 (by decide)) rfl hf fun a22 o_a22 hf => ?_
      refine k_gI (ok_o o_a22 (by decide)) rfl ?_
      refine k_cO (ok_o o_a21 (by decide)) ?_
      refine ob2 hf fun u m24 ex hf => ?_
      refine k_b2 (un_X1_addWeight hw o_a21 ex) fun hw => ?_
      exact k_ret hw hf
  · refine k_gR hw (ok_o o_v0 (by decide)) rfl hf fun a25 o_a25 hf => ?_
    refine k_cO (ok_o o_a25 (by decide)) ?_
    refine ob2 hf fun u m27 ex hf => ?_
    refine k_b2 (un_X1_addWeight hw o_a25 ex) fun hw => ?_
    exact k_ret hw hf
def n_X5_branch (F : Nat) (s : List Sh) (m : Mem) (p0 : Nat) (p1 : Int32) (p2 : Int32) (p3 : Int32) : Option (Unit × Mem) := nb_X5_branch_0 F s m p0 p1 p2 p3
theorem un_X5_branch {F : Nat} {s : List Sh} {m m' : Mem} {p0 : Nat} {p1 : Int32} {p2 : Int32} {p3 : Int32} {r : Unit} (hw : GS s m) (o_p0 : ok s p0 5) (ex : n_X5_branch F s m p0 p1 p2 p3 = some (r, m')) : J3 (m_X5_branch F (bl s m) p0 p1 p2 p3) (r, bl s m') (GS s m') := u_X5_branch_0 hw o_p0 ex
/-! FractionLift$Routes.layChances(LFractionLift$Tray;)I over the memory -/
def nb_X5_layChances_72 (F : Nat) (s : List Sh) (nself10 : Mem → Nat → Nat → Int32 → Int32 → Option (Int32 × Mem)) (m : Mem) (v0 : Nat) (v1 : Nat) (v3 : Int32) (v4 : Int32) : Option (Int32 × Mem) := bindv (v3 + (1)) fun x1 => (nself10 m v0 v1 v4 x1)
set_option maxRecDepth 20000 in
theorem u_X5_layChances_72 {F : Nat} {s : List Sh} {self10 : PH → Nat → Nat → Int32 → Int32 → Option (Int32 × PH)} {nself10 : Mem → Nat → Nat → Int32 → Int32 → Option (Int32 × Mem)} {m m' : Mem} {r : Int32} {v0 : Nat} {v1 : Nat} {v3 : Int32} {v4 : Int32} (hw : GS s m) (o_v0 : ok s v0 5) (o_v1 : ok s v1 7) (ih10 : ∀ (m : Mem) (v0 : Nat) (v1 : Nat) (v2 : Int32) (v3 : Int32), GS s m → ok s v0 5 → ok s v1 7 → nself10 m v0 v1 v2 v3 = some (r, m') → J3 (self10 (bl s m) v0 v1 v2 v3) (r, bl s m') (GS s m')) (hf : nb_X5_layChances_72 F s nself10 m v0 v1 v3 v4 = some (r, m')) : J3 (b_X5_layChances_72 F self10 (bl s m) v0 v1 v3 v4) (r, bl s m') (GS s m') := by
  unfold nb_X5_layChances_72 at hf
  unfold b_X5_layChances_72
  refine k_bv hf fun x1 hf => ?_
  exact ih10 _ _ _ _ _ hw o_v0 o_v1 hf
def nb_X5_layChances_41 (F : Nat) (s : List Sh) (nself10 : Mem → Nat → Nat → Int32 → Int32 → Option (Int32 × Mem)) (nself24 : Mem → Nat → Nat → Int32 → Int32 → Int32 → Int32 → Option (Int32 × Mem)) (m : Mem) (v0 : Nat) (v1 : Nat) (v3 : Int32) (v4 : Int32) (v5 : Int32) (v6 : Int32) : Option (Int32 × Mem) := if v4 ≤ v6 then (nb_X5_layChances_72 F s nself10 m v0 v1 v3 v4) else (if (511 : Int32) ≤ v6 then (nb_X5_layChances_72 F s nself10 m v0 v1 v3 v4) else (bind2 (n_X5_branch F s m v0 v6 v5 v4) fun _ m2 => (bindv (v6 + (1)) fun x3 => (nself24 m2 v0 v1 v3 v4 v5 x3))))
set_option maxRecDepth 20000 in
theorem ub_X5_layChances_41 {F : Nat} {s : List Sh} {self10 : PH → Nat → Nat → Int32 → Int32 → Option (Int32 × PH)} {nself10 : Mem → Nat → Nat → Int32 → Int32 → Option (Int32 × Mem)} {self24 : PH → Nat → Nat → Int32 → Int32 → Int32 → Int32 → Option (Int32 × PH)} {nself24 : Mem → Nat → Nat → Int32 → Int32 → Int32 → Int32 → Option (Int32 × Mem)} {m m' : Mem} {r : Int32} {v0 : Nat} {v1 : Nat} {v3 : Int32} {v4 : Int32} {v5 : Int32} {v6 : Int32} (hw : GS s m) (o_v0 : ok s v0 5) (o_v1 : ok s v1 7) (ih10 : ∀ (m : Mem) (v0 : Nat) (v1 : Nat) (v2 : Int32) (v3 : Int32), GS s m → ok s v0 5 → ok s v1 7 → nself10 m v0 v1 v2 v3 = some (r, m') → J3 (self10 (bl s m) v0 v1 v2 v3) (r, bl s m') (GS s m')) (ih24 : ∀ (m : Mem) (v0 : Nat) (v1 : Nat) (v3 : Int32) (v4 : Int32) (v5 : Int32) (v6 : Int32), GS s m → ok s v0 5 → ok s v1 7 → nself24 m v0 v1 v3 v4 v5 v6 = some (r, m') → J3 (self24 (bl s m) v0 v1 v3 v4 v5 v6) (r, bl s m') (GS s m')) (hf : nb_X5_layChances_41 F s nself10 nself24 m v0 v1 v3 v4 v5 v6 = some (r, m')) : J3 (b_X5_layChances_41 F self10 self24 (bl s m) v0 v1 v3 v4 v5 v6) (r, bl s m') (GS s m') := by
  unfold nb_X5_layChances_41 at hf
  unfold b_X5_layChances_41
  refine k_if hf (fun hf => ?_) (fun hf => ?_)
  · exact u_X5_layChances_72 hw o_v0 o_v1 ih10 hf
  · refine k_if hf (fun hf => ?_) (fun hf => ?_)
    · exact u_X5_layChances_72 hw o_v0 o_v1 ih10 hf
    · refine k_cO (ok_o o_v0 (by decide)) ?_
      refine ob2 hf fun u m2 ex hf => ?_
      refine k_b2 (un_X5_branch hw o_v0 ex) fun hw => ?_
      refine k_bv hf fun x3 hf => ?_
      exact ih24 _ _ _ _ _ _ _ hw o_v0 o_v1 hf
def nl_X5_layChances_41 (F : Nat) (s : List Sh) (nself10 : Mem → Nat → Nat → Int32 → Int32 → Option (Int32 × Mem)) : Nat → Mem → Nat → Nat → Int32 → Int32 → Int32 → Int32 → Option (Int32 × Mem)
  | 0 => fun _ _ _ _ _ _ _ => none
  | n + 1 => fun m v0 v1 v3 v4 v5 v6 => nb_X5_layChances_41 F s nself10 (nl_X5_layChances_41 F s nself10 n) m v0 v1 v3 v4 v5 v6
theorem ul_X5_layChances_41 {F : Nat} {s : List Sh} {self10 : PH → Nat → Nat → Int32 → Int32 → Option (Int32 × PH)} {nself10 : Mem → Nat → Nat → Int32 → Int32 → Option (Int32 × Mem)} {m' : Mem} {r : Int32} (ih10 : ∀ (m : Mem) (v0 : Nat) (v1 : Nat) (v2 : Int32) (v3 : Int32), GS s m → ok s v0 5 → ok s v1 7 → nself10 m v0 v1 v2 v3 = some (r, m') → J3 (self10 (bl s m) v0 v1 v2 v3) (r, bl s m') (GS s m')) (n : Nat) : ∀ (m : Mem) (v0 : Nat) (v1 : Nat) (v3 : Int32) (v4 : Int32) (v5 : Int32) (v6 : Int32), GS s m → ok s v0 5 → ok s v1 7 → nl_X5_layChances_41 F s nself10 n m v0 v1 v3 v4 v5 v6 = some (r, m') → J3 (l_X5_layChances_41 F self10 n (bl s m) v0 v1 v3 v4 v5 v6) (r, bl s m') (GS s m') := by
  induction n with
  | zero => intro m v0 v1 v3 v4 v5 v6 hw o_v0 o_v1 hf; cases hf
  | succ n ih => intro m v0 v1 v3 v4 v5 v6 hw o_v0 o_v1 hf; exact ub_X5_layChances_41 (F := F) hw o_v0 o_v1 ih10 ih hf
def nb_X5_layChances_14 (F : Nat) (s : List Sh) (nself10 : Mem → Nat → Nat → Int32 → Int32 → Option (Int32 × Mem)) (m : Mem) (v0 : Nat) (v1 : Nat) (v2 : Int32) (v3 : Int32) : Option (Int32 × Mem) := if (m.1 v1 1) ≤ v3 then (some (v2, m)) else ((m.2.2 v0 0).bind fun a1 => ((n_X7_smallAt s m v1 v3).bind fun x2 => (nl_X5_layChances_41 F s nself10 F m v0 v1 v3 (m.1 a1 4) x2 v2)))
set_option maxRecDepth 20000 in
theorem ub_X5_layChances_14 {F : Nat} {s : List Sh} {self10 : PH → Nat → Nat → Int32 → Int32 → Option (Int32 × PH)} {nself10 : Mem → Nat → Nat → Int32 → Int32 → Option (Int32 × Mem)} {m m' : Mem} {r : Int32} {v0 : Nat} {v1 : Nat} {v2 : Int32} {v3 : Int32} (hw : GS s m) (o_v0 : ok s v0 5) (o_v1 : ok s v1 7) (ih10 : ∀ (m : Mem) (v0 : Nat) (v1 : Nat) (v2 : Int32) (v3 : Int32), GS s m → ok s v0 5 → ok s v1 7 → nself10 m v0 v1 v2 v3 = some (r, m') → J3 (self10 (bl s m) v0 v1 v2 v3) (r, bl s m') (GS s m')) (hf : nb_X5_layChances_14 F s nself10 m v0 v1 v2 v3 = some (r, m')) : J3 (b_X5_layChances_14 F self10 (bl s m) v0 v1 v2 v3) (r, bl s m') (GS s m') := by
  unfold nb_X5_layChances_14 at hf
  unfold b_X5_layChances_14
  refine k_gI (ok_o o_v1 (by decide)) rfl ?_
  refine k_if hf (fun hf => ?_) (fun hf => ?_)
  · exact k_ret hw hf
  · refine k_gR hw (ok_o o_v0 (by decide)) rfl hf fun a1 o_a1 hf => ?_
    refine k_gI (ok_o o_a1 (by decide)) rfl ?_
    refine k_cO (ok_o o_v1 (by decide)) ?_
    refine ob hf fun x2 ex hf => ?_
    refine k_b1 (un_X7_smallAt hw o_v1 ex) ?_
    exact ul_X5_layChances_41 ih10 F _ _ _ _ _ _ _ hw o_v0 o_v1 hf
def nl_X5_layChances_14 (F : Nat) (s : List Sh) : Nat → Mem → Nat → Nat → Int32 → Int32 → Option (Int32 × Mem)
  | 0 => fun _ _ _ _ _ => none
  | n + 1 => fun m v0 v1 v2 v3 => nb_X5_layChances_14 F s (nl_X5_layChances_14 F s n) m v0 v1 v2 v3
theorem ul_X5_layChances_14 {F : Nat} {s : List Sh} {m' : Mem} {r : Int32} (n : Nat) : ∀ (m : Mem) (v0 : Nat) (v1 : Nat) (v2 : Int32) (v3 : Int32), GS s m → ok s v0 5 → ok s v1 7 → nl_X5_layChances_14 F s n m v0 v1 v2 v3 = some (r, m') → J3 (l_X5_layChances_14 F n (bl s m) v0 v1 v2 v3) (r, bl s m') (GS s m') := by
  induction n with
  | zero => intro m v0 v1 v2 v3 hw o_v0 o_v1 hf; cases hf
  | succ n ih => intro m v0 v1 v2 v3 hw o_v0 o_v1 hf; exact ub_X5_layChances_14 (F := F) hw o_v0 o_v1 ih hf
def nb_X5_layChances_0 (F : Nat) (s : List Sh) (m : Mem) (v0 : Nat) (v1 : Nat) : Option (Int32 × Mem) := (m.2.2 v0 0).bind fun a1 => ((m.2.2 a1 3).bind fun a2 => ((stL s m a2 (0 : Int32) (1 : Int64)).bind fun m3 => (nl_X5_layChances_14 F s F m3 v0 v1 (0 : Int32) (0 : Int32))))
set_option maxRecDepth 20000 in
theorem u_X5_layChances_0 {F : Nat} {s : List Sh} {m m' : Mem} {r : Int32} {v0 : Nat} {v1 : Nat} (hw : GS s m) (o_v0 : ok s v0 5) (o_v1 : ok s v1 7) (hf : nb_X5_layChances_0 F s m v0 v1 = some (r, m')) : J3 (b_X5_layChances_0 F (bl s m) v0 v1) (r, bl s m') (GS s m') := by
  unfold nb_X5_layChances_0 at hf
  unfold b_X5_layChances_0
  refine k_gR hw (ok_o o_v0 (by decide)) rfl hf fun a1 o_a1 hf => ?_
  refine k_gR hw (ok_o o_a1 (by decide)) rfl hf fun a2 o_a2 hf => ?_
  refine k_sL hw (ka rfl o_a2) hf fun m3 hw hf => ?_
  exact ul_X5_layChances_14 F _ _ _ _ _ hw o_v0 o_v1 hf
def n_X5_layChances (F : Nat) (s : List Sh) (m : Mem) (p0 : Nat) (p1 : Nat) : Option (Int32 × Mem) := nb_X5_layChances_0 F s m p0 p1
theorem un_X5_layChances {F : Nat} {s : List Sh} {m m' : Mem} {p0 : Nat} {p1 : Nat} {r : Int32} (hw : GS s m) (o_p0 : ok s p0 5) (o_p1 : ok s p1 7) (ex : n_X5_layChances F s m p0 p1 = some (r, m')) : J3 (m_X5_layChances F (bl s m) p0 p1) (r, bl s m') (GS s m') := u_X5_layChances_0 hw o_p0 o_p1 ex
