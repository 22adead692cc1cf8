/-! FractionLiftModel.readTenant()V over the memory -/
def nb_X10_readTenant_18 (F : Nat) (s : List Sh) (m : Mem) (v0 : Nat) (v1 : Int32) : Option (Unit × Mem) := if (m.1 v0 11) = 0 then (bind2 (n_X10_next F s m v0) fun _ m2 => (bind2 (n_X10_readAt F s m2 v0 (((49 : Int32) + v1)) (((55 : Int32) + v1))) fun _ m4 => ((m4.2.2 v0 4).bind fun a5 => ((rdI s m4 a5 (4 : Int32)).bind fun x6 => ((stI s m4 a5 (4 : Int32) ((x6 + (1 : Int32)))).bind fun m7 => ((ptZ m7 v0 18 (1 : Int32)).bind fun m8 => (some ((), m8)))))))) else (some ((), m))
set_option maxRecDepth 20000 in
theorem u_X10_readTenant_18 {F : Nat} {s : List Sh} {m m' : Mem} {r : Unit} {v0 : Nat} {v1 : Int32} (hw : GS s m) (o_v0 : ok s v0 10) (hf : nb_X10_readTenant_18 F s m v0 v1 = some (r, m')) : J3 (b_X10_readTenant_18 F (bl s m) v0 v1) (r, bl s m') (GS s m') := by
  unfold nb_X10_readTenant_18 at hf
  unfold b_X10_readTenant_18
  refine k_gI (ok_o o_v0 (by decide)) rfl ?_
  refine k_if hf (fun hf => ?_) (fun hf => ?_)
  · refine k_cO (ok_o o_v0 (by decide)) ?_
    refine ob2 hf fun u m2 ex hf => ?_
    refine k_b2 (un_X10_next hw o_v0 ex) fun hw => ?_
    refine k_cO (ok_o o_v0 (by decide)) ?_
    refine ob2 hf fun u m4 ex hf => ?_
    refine k_b2 (un_X10_readAt hw o_v0 ex) fun hw => ?_
    refine k_gR hw (ok_o o_v0 (by decide)) rfl hf fun a5 o_a5 hf => ?_
    refine k_aI (Or.inl rfl) (ka rfl o_a5) hf fun x6 hf => ?_
    refine k_sI hw (ka rfl o_a5) hf fun m7 hw hf => ?_
    refine k_pZ hw (ok_o o_v0 (by decide)) rfl hf fun m8 hw hf => ?_
    exact k_ret hw hf
  · exact k_ret hw hf
def nb_X10_readTenant_0 (F : Nat) (s : List Sh) (m : Mem) (v0 : Nat) : Option (Unit × Mem) := (m.2.2 v0 4).bind fun a1 => ((rdI s m a1 (4 : Int32)).bind fun x2 => (if x2 = (6 : Int32) then (bind2 (n_X10_fails s m v0 (4 : Int32)) fun _ m4 => (nb_X10_readTenant_18 F s m4 v0 x2)) else (nb_X10_readTenant_18 F s m v0 x2)))
set_option maxRecDepth 20000 in
theorem u_X10_readTenant_0 {F : Nat} {s : List Sh} {m m' : Mem} {r : Unit} {v0 : Nat} (hw : GS s m) (o_v0 : ok s v0 10) (hf : nb_X10_readTenant_0 F s m v0 = some (r, m')) : J3 (b_X10_readTenant_0 F (bl s m) v0) (r, bl s m') (GS s m') := by
  unfold nb_X10_readTenant_0 at hf
  unfold b_X10_readTenant_0
  refine k_gR hw (ok_o o_v0 (by decide)) rfl hf fun a1 o_a1 hf => ?_
  refine k_aI (Or.inl rfl) (ka rfl o_a1) hf fun x2 hf => ?_
  refine k_if hf (fun hf => ?_) (fun hf => ?_)
  · refine k_cO (ok_o o_v0 (by decide)) ?_
    refine ob2 hf fun u m4 ex hf => ?_
    refine k_b2 (un_X10_fails hw o_v0 ex) fun hw => ?_
    exact u_X10_readTenant_18 hw o_v0 hf
  · exact u_X10_readTenant_18 hw o_v0 hf
def n_X10_readTenant (F : Nat) (s : List Sh) (m : Mem) (p0 : Nat) : Option (Unit × Mem) := nb_X10_readTenant_0 F s m p0
theorem un_X10_readTenant {F : Nat} {s : List Sh} {m m' : Mem} {p0 : Nat} {r : Unit} (hw : GS s m) (o_p0 : ok s p0 10) (ex : n_X10_readTenant F s m p0 = some (r, m')) : J3 (m_X10_readTenant F (bl s m) p0) (r, bl s m') (GS s m') := u_X10_readTenant_0 hw o_p0 ex
/-! FractionLiftModel.tellsCode(I)V over the memory -/
def nb_X10_tellsCode_0 (s : List Sh) (m : Mem) (v0 : Nat) (v1 : Int32) : Option (Unit × Mem) := if (m.1 v0 11) = 0 then ((m.2.2 v0 4).bind fun a1 => ((m.2.2 v0 4).bind fun a2 => ((rdI s m a2 (98 : Int32)).bind fun x3 => ((stI s m a1 (((99 : Int32) + x3)) v1).bind fun m4 => ((m4.2.2 v0 4).bind fun a5 => ((rdI s m4 a5 (98 : Int32)).bind fun x6 => ((stI s m4 a5 (98 : Int32) ((x6 + (1 : Int32)))).bind fun m7 => (some ((), m7))))))))) else (some ((), m))
set_option maxRecDepth 20000 in
theorem u_X10_tellsCode_0 {s : List Sh} {m m' : Mem} {r : Unit} {v0 : Nat} {v1 : Int32} (hw : GS s m) (o_v0 : ok s v0 10) (hf : nb_X10_tellsCode_0 s m v0 v1 = some (r, m')) : J3 (b_X10_tellsCode_0 (bl s m) v0 v1) (r, bl s m') (GS s m') := by
  unfold nb_X10_tellsCode_0 at hf
  unfold b_X10_tellsCode_0
  refine k_gI (ok_o o_v0 (by decide)) rfl ?_
  refine k_if hf (fun hf => ?_) (fun hf => ?_)
  · refine k_gR hw (ok_o o_v0 (by decide)) rfl hf fun a1 o_a1 hf => ?_
    refine k_gR hw (ok_o o_v0 (by decide)) rfl hf fun a2 o_a2 hf => ?_
    refine k_aI (Or.inl rfl) (ka rfl o_a2) hf fun x3 hf => ?_
    refine k_sI hw (ka rfl o_a1) hf fun m4 hw hf => ?_
    refine k_gR hw (ok_o o_v0 (by decide)) rfl hf fun a5 o_a5 hf => ?_
    refine k_aI (Or.inl rfl) (ka rfl o_a5) hf fun x6 hf => ?_
    refine k_sI hw (ka rfl o_a5) hf fun m7 hw hf => ?_
    exact k_ret hw hf
  · exact k_ret hw hf
def n_X10_tellsCode (s : List Sh) (m : Mem) (p0 : Nat) (p1 : Int32) : Option (Unit × Mem) := nb_X10_tellsCode_0 s m p0 p1
theorem un_X10_tellsCode {s : List Sh} {m m' : Mem} {p0 : Nat} {p1 : Int32} {r : Unit} (hw : GS s m) (o_p0 : ok s p0 10) (ex : n_X10_tellsCode s m p0 p1 = some (r, m')) : J3 (m_X10_tellsCode (bl s m) p0 p1) (r, bl s m') (GS s m') := u_X10_tellsCode_0 hw o_p0 ex
/-! FractionLiftModel.readAtom(I)V over the memory -/
def nb_X10_readAtom_81 (nrc : Mem → Nat → Int32 → Option (Unit × Mem)) (F : Nat) (s : List Sh) (m : Mem) (v0 : Nat) (v1 : Int32) : Option (Unit × Mem) := if (m.1 v0 11) = 0 then (bind2 (n_X10_next F s m v0) fun _ m2 => (bind2 (nrc m2 v0 ((v1 + (1 : Int32)))) fun _ m4 => (bind2 (n_X10_eats F s m4 v0 (27 : Int32)) fun x5 m6 => (if x5 = 0 then (bind2 (n_X10_fails s m6 v0 (2 : Int32)) fun _ m8 => (some ((), m8))) else (some ((), m6)))))) else (some ((), m))
set_option maxRecDepth 20000 in
theorem u_X10_readAtom_81 {rc : PH → Nat → Int32 → Option (Unit × PH)} {nrc : Mem → Nat → Int32 → Option (Unit × Mem)} {F : Nat} {s : List Sh} {m m' : Mem} {r : Unit} {v0 : Nat} {v1 : Int32} (hw : GS s m) (o_v0 : ok s v0 10) (hrc : ∀ {m m' : Mem} {p0 : Nat} {p1 : Int32} {r : Unit}, GS s m → ok s p0 10 → nrc m p0 p1 = some (r, m') → J3 (rc (bl s m) p0 p1) (r, bl s m') (GS s m')) (hf : nb_X10_readAtom_81 nrc F s m v0 v1 = some (r, m')) : J3 (b_X10_readAtom_81 rc F (bl s m) v0 v1) (r, bl s m') (GS s m') := by
  unfold nb_X10_readAtom_81 at hf
  unfold b_X10_readAtom_81
  refine k_gI (ok_o o_v0 (by decide)) rfl ?_
  refine k_if hf (fun hf => ?_) (fun hf => ?_)
  · refine k_cO (ok_o o_v0 (by decide)) ?_
    refine ob2 hf fun u m2 ex hf => ?_
    refine k_b2 (un_X10_next hw o_v0 ex) fun hw => ?_
    refine k_cO (ok_o o_v0 (by decide)) ?_
    refine ob2 hf fun u m4 ex hf => ?_
    refine k_b2 (hrc hw o_v0 ex) fun hw => ?_
    refine k_cO (ok_o o_v0 (by decide)) ?_
    refine ob2 hf fun x5 m6 ex hf => ?_
    refine k_b2 (un_X10_eats hw o_v0 ex) fun hw => ?_
    refine k_if hf (fun hf => ?_) (fun hf => ?_)
    · refine k_cO (ok_o o_v0 (by decide)) ?_
      refine ob2 hf fun u m8 ex hf => ?_
      refine k_b2 (un_X10_fails hw o_v0 ex) fun hw => ?_
      exact k_ret hw hf
    · exact k_ret hw hf
  · exact k_ret hw hf
def nb_X10_readAtom_0 (nrc : Mem → Nat → Int32 → Option (Unit × Mem)) (F : Nat) (s : List Sh) (m : Mem) (v0 : Nat) (v1 : Int32) : Option (Unit × Mem) := (n_X10_is s m v0 (16 : Int32)).bind fun x1 => (if x1 = 0 then (bind2 (n_X10_eats F s m v0 (7 : Int32)) fun x2 m3 => (if x2 = 0 then (bind2 (n_X10_eats F s m3 v0 (0 : Int32)) fun x4 m5 => (if x4 = 0 then ((n_X10_is s m5 v0 (26 : Int32)).bind fun x6 => (if x6 = 0 then (bind2 (n_X10_fails s m5 v0 (2 : Int32)) fun _ m8 => (some ((), m8))) else (if v1 = (6 : Int32) then (bind2 (n_X10_fails s m5 v0 (4 : Int32)) fun _ m10 => (nb_X10_readAtom_81 nrc F s m10 v0 v1)) else (nb_X10_readAtom_81 nrc F s m5 v0 v1)))) else (bind2 (n_X10_tellsCode s m5 v0 (1001 : Int32)) fun _ m12 => (some ((), m12))))) else (bind2 (n_X10_tellsCode s m3 v0 (1000 : Int32)) fun _ m14 => (some ((), m14))))) else (bind2 (n_X10_tellsCode s m v0 (m.1 v0 10)) fun _ m16 => (bind2 (n_X10_next F s m16 v0) fun _ m18 => (some ((), m18)))))
set_option maxRecDepth 20000 in
theorem u_X10_readAtom_0 {rc : PH → Nat → Int32 → Option (Unit × PH)} {nrc : Mem → Nat → Int32 → Option (Unit × Mem)} {F : Nat} {s : List Sh} {m m' : Mem} {r : Unit} {v0 : Nat} {v1 : Int32} (hw : GS s m) (o_v0 : ok s v0 10) (hrc : ∀ {m m' : Mem} {p0 : Nat} {p1 : Int32} {r : Unit}, GS s m → ok s p0 10 → nrc m p0 p1 = some (r, m') → J3 (rc (bl s m) p0 p1) (r, bl s m') (GS s m')) (hf : nb_X10_readAtom_0 nrc F s m v0 v1 = some (r, m')) : J3 (b_X10_readAtom_0 rc F (bl s m) v0 v1) (r, bl s m') (GS s m') := by
  unfold nb_X10_readAtom_0 at hf
  unfold b_X10_readAtom_0
  refine k_cO (ok_o o_v0 (by decide)) ?_
  refine ob hf fun x1 ex hf => ?_
  refine k_b1 (un_X10_is hw o_v0 ex) ?_
  refine k_if hf (fun hf => ?_) (fun hf => ?_)
  · refine k_cO (ok_o o_v0 (by decide)) ?_
    refine ob2 hf fun x2 m3 ex hf => ?_
    refine k_b2 (un_X10_eats hw o_v0 ex) fun hw => ?_
    refine k_if hf (fun hf => ?_) (fun hf => ?_)
    · refine k_cO (ok_o o_v0 (by decide)) ?_
      refine ob2 hf fun x4 m5 ex hf => ?_
      refine k_b2 (un_X10_eats hw o_v0 ex) fun hw => ?_
      refine k_if hf (fun hf => ?_) (fun hf => ?_)
      · refine k_cO (ok_o o_v0 (by decide)) ?_
        refine ob hf fun x6 ex hf => ?_
        refine k_b1 (un_X10_is hw o_v0 ex) ?_
        refine k_if hf (fun hf => ?_) (fun hf => ?_)
        · refine k_cO (ok_o o_v0 (by decide)) ?_
          refine ob2 hf fun u m8 ex hf => ?_
          refine k_b2 (un_X10_fails hw o_v0 ex) fun hw => ?_
          exact k_ret hw hf
        · refine k_if hf (fun hf => ?_) (fun hf => ?_)
          · refine k_cO (ok_o o_v0 (by decide)) ?_
            refine ob2 hf fun u m10 ex hf => ?_
            refine k_b2 (un_X10_fails hw o_v0 ex) fun hw => ?_
            exact u_X10_readAtom_81 hw o_v0 hrc hf
          · exact u_X10_readAtom_81 hw o_v0 hrc hf
      · refine k_cO (ok_o o_v0 (by decide)) ?_
        refine ob2 hf fun u m12 ex hf => ?_
        refine k_b2 (un_X10_tellsCode hw o_v0 ex) fun hw => ?_
        exact k_ret hw hf
    · refine k_cO (ok_o o_v0 (by decide)) ?_
      refine ob2 hf fun u m14 ex hf => ?_
      refine k_b2 (un_X10_tellsCode hw o_v0 ex) fun hw => ?_
      exact k_ret hw hf
  · refine k_gI (ok_o o_v0 (by decide)) rfl ?_
    refine k_cO (ok_o o_v0 (by decide)) ?_
    refine ob2 hf fun u m16 ex hf => ?_
    refine k_b2 (un_X10_tellsCode hw o_v0 ex) fun hw => ?_
    refine k_cO (ok_o o_v0 (by decide)) ?_
    refine ob2 hf fun u m18 ex hf => ?_
    refine k_b2 (un_X10_next hw o_v0 ex) fun hw => ?_
    exact k_ret hw hf
def ng_X10_readAtom (nrc : Mem → Nat → Int32 → Option (Unit × Mem)) (F : Nat) (s : List Sh) (m : Mem) (p0 : Nat) (p1 : Int32) : Option (Unit × Mem) := nb_X10_readAtom_0 nrc F s m p0 p1
theorem ug_X10_readAtom {rc : PH → Nat → Int32 → Option (Unit × PH)} {nrc : Mem → Nat → Int32 → Option (Unit × Mem)} {F : Nat} {s : List Sh} {m m' : Mem} {p0 : Nat} {p1 : Int32} {r : Unit} (hrc : ∀ {m m' : Mem} {p0 : Nat} {p1 : Int32} {r : Unit}, GS s m → ok s p0 10 → nrc m p0 p1 = some (r, m') → J3 (rc (bl s m) p0 p1) (r, bl s m') (GS s m')) (hw : GS s m) (o_p0 : ok s p0 10) (ex : ng_X10_readAtom nrc F s m p0 p1 = some (r, m')) : J3 (g_X10_readAtom rc F (bl s m) p0 p1) (r, bl s m') (GS s m') := u_X10_readAtom_0 hw o_p0 hrc ex
/-! FractionLiftModel.readTerm(I)V over the memory -/
def nb_X10_readTerm_41 (nrc : Mem → Nat → Int32 → Option (Unit × Mem)) (F : Nat) (s : List Sh) (nself3 : Mem → Nat → Int32 → Option (Unit × Mem)) (m : Mem) (v0 : Nat) (v1 : Int32) (s0 : Int32) : Option (Unit × Mem) := bind2 (n_X10_next F s m v0) fun _ m2 => (bind2 (ng_X10_readAtom nrc F s m2 v0 v1) fun _ m4 => (bind2 (n_X10_tellsCode s m4 v0 s0) fun _ m6 => (nself3 m6 v0 v1)))
set_option maxRecDepth 20000 in
theorem u_X10_readTerm_41 {rc : PH → Nat → Int32 → Option (Unit × PH)} {nrc : Mem → Nat → Int32 → Option (Unit × Mem)} {F : Nat} {s : List Sh} {self3 : PH → Nat → Int32 → Option (Unit × PH)} {nself3 : Mem → Nat → Int32 → Option (Unit × Mem)} {m m' : Mem} {r : Unit} {v0 : Nat} {v1 : Int32} {s0 : Int32} (hw : GS s m) (o_v0 : ok s v0 10) (hrc : ∀ {m m' : Mem} {p0 : Nat} {p1 : Int32} {r : Unit}, GS s m → ok s p0 10 → nrc m p0 p1 = some (r, m') → J3 (rc (bl s m) p0 p1) (r, bl s m') (GS s m')) (ih3 : ∀ (m : Mem) (v0 : Nat) (v1 : Int32), GS s m → ok s v0 10 → nself3 m v0 v1 = some (r, m') → J3 (self3 (bl s m) v0 v1) (r, bl s m') (GS s m')) (hf : nb_X10_readTerm_41 nrc F s nself3 m v0 v1 s0 = some (r, m')) : J3 (b_X10_readTerm_41 rc F self3 (bl s m) v0 v1 s0) (r, bl s m') (GS s m') := by
  unfold nb_X10_readTerm_41 at hf
  unfold b_X10_readTerm_41
  refine k_cO (ok_o o_v0 (by decide)) ?_
  refine ob2 hf fun u m2 ex hf => ?_
  refine k_b2 (un_X10_next hw o_v0 ex) fun hw => ?_
  refine k_cO (ok_o o_v0 (by decide)) ?_
  refine ob2 hf fun u m4 ex hf => ?_
  refine k_b2 (ug_X10_readAtom hrc hw o_v0 ex) fun hw => ?_
  refine k_cO (ok_o o_v0 (by decide)) ?_
  refine ob2 hf fun u m6 ex hf => ?_
  refine k_b2 (un_X10_tellsCode hw o_v0 ex) fun hw => ?_
  exact ih3 _ _ _ hw o_v0 hf
def nb_X10_readTerm_23 (nrc : Mem → Nat → Int32 → Option (Unit × Mem)) (F : Nat) (s : List Sh) (nself3 : Mem → Nat → Int32 → Option (Unit × Mem)) (m : Mem) (v0 : Nat) (v1 : Int32) : Option (Unit × Mem) := if (m.1 v0 9) = (24 : Int32) then (nb_X10_readTerm_41 nrc F s nself3 m v0 v1 (3002 : Int32)) else (nb_X10_readTerm_41 nrc F s nself3 m v0 v1 (3003 : Int32))
set_option maxRecDepth 20000 in
theorem u_X10_readTerm_23 {rc : PH → Nat → Int32 → Option (Unit × PH)} {nrc : Mem → Nat → Int32 → Option (Unit × Mem)} {F : Nat} {s : List Sh} {self3 : PH → Nat → Int32 → Option (Unit × PH)} {nself3 : Mem → Nat → Int32 → Option (Unit × Mem)} {m m' : Mem} {r : Unit} {v0 : Nat} {v1 : Int32} (hw : GS s m) (o_v0 : ok s v0 10) (hrc : ∀ {m m' : Mem} {p0 : Nat} {p1 : Int32} {r : Unit}, GS s m → ok s p0 10 → nrc m p0 p1 = some (r, m') → J3 (rc (bl s m) p0 p1) (r, bl s m') (GS s m')) (ih3 : ∀ (m : Mem) (v0 : Nat) (v1 : Int32), GS s m → ok s v0 10 → nself3 m v0 v1 = some (r, m') → J3 (self3 (bl s m) v0 v1) (r, bl s m') (GS s m')) (hf : nb_X10_readTerm_23 nrc F s nself3 m v0 v1 = some (r, m')) : J3 (b_X10_readTerm_23 rc F self3 (bl s m) v0 v1) (r, bl s m') (GS s m') := by
  unfold nb_X10_readTerm_23 at hf
  unfold b_X10_readTerm_23
  refine k_gI (ok_o o_v0 (by decide)) rfl ?_
  refine k_if hf (fun hf => ?_) (fun hf => ?_)
  · exact u_X10_readTerm_41 hw o_v0 hrc ih3 hf
  · exact u_X10_readTerm_41 hw o_v0 hrc ih3 hf
def nb_X10_readTerm_5 (nrc : Mem → Nat → Int32 → Option (Unit × Mem)) (F : Nat) (s : List Sh) (nself3 : Mem → Nat → Int32 → Option (Unit × Mem)) (m : Mem) (v0 : Nat) (v1 : Int32) : Option (Unit × Mem) := (n_X10_is s m v0 (24 : Int32)).bind fun x1 => (if x1 = 0 then ((n_X10_is s m v0 (25 : Int32)).bind fun x2 => (if x2 = 0 then (some ((), m)) else (nb_X10_readTerm_23 nrc F s nself3 m v0 v1))) else (nb_X10_readTerm_23 nrc F s nself3 m v0 v1))
set_option maxRecDepth 20000 in
theorem ub_X10_readTerm_5 {rc : PH → Nat → Int32 → Option (Unit × PH)} {nrc : Mem → Nat → Int32 → Option (Unit × Mem)} {F : Nat} {s : List Sh} {self3 : PH → Nat → Int32 → Option (Unit × PH)} {nself3 : Mem → Nat → Int32 → Option (Unit × Mem)} {m m' : Mem} {r : Unit} {v0 : Nat} {v1 : Int32} (hw : GS s m) (o_v0 : ok s v0 10) (hrc : ∀ {m m' : Mem} {p0 : Nat} {p1 : Int32} {r : Unit}, GS s m → ok s p0 10 → nrc m p0 p1 = some (r, m') → J3 (rc (bl s m) p0 p1) (r, bl s m') (GS s m')) (ih3 : ∀ (m : Mem) (v0 : Nat) (v1 : Int32), GS s m → ok s v0 10 → nself3 m v0 v1 = some (r, m') → J3 (self3 (bl s m) v0 v1) (r, bl s m') (GS s m')) (hf : nb_X10_readTerm_5 nrc F s nself3 m v0 v1 = some (r, m')) : J3 (b_X10_readTerm_5 rc F self3 (bl s m) v0 v1) (r, bl s m') (GS s m') := by
  unfold nb_X10_readTerm_5 at hf
  unfold b_X10_readTerm_5
  refine k_cO (ok_o o_v0 (by decide)) ?_
  refine ob hf fun x1 ex hf => ?_
  refine k_b1 (un_X10_is hw o_v0 ex) ?_
  refine k_if hf (fun hf => ?_) (fun hf => ?_)
  · refine k_cO (ok_o o_v0 (by decide)) ?_
    refine ob hf fun x2 ex hf => ?_
    refine k_b1 (un_X10_is hw o_v0 ex) ?_
    refine k_if hf (fun hf => ?_) (fun hf => ?_)
    · exact k_ret hw hf
    · exact u_X10_readTerm_23 hw o_v0 hrc ih3 hf
  · exact u_X10_readTerm_23 hw o_v0 hrc ih3 hf
def nl_X10_readTerm_5 (nrc : Mem → Nat → Int32 → Option (Unit × Mem)) (F : Nat) (s : List Sh) : Nat → Mem → Nat → Int32 → Option (Unit × Mem)
  | 0 => fun _ _ _ => none
  | n + 1 => fun m v0 v1 => nb_X10_readTerm_5 nrc F s (nl_X10_readTerm_5 nrc F s n) m v0 v1
theorem ul_X10_readTerm_5 {rc : PH → Nat → Int32 → Option (Unit × PH)} {nrc : Mem → Nat → Int32 → Option (Unit × Mem)} {F : Nat} {s : List Sh} {m' : Mem} {r : Unit} (hrc : ∀ {m m' : Mem} {p0 : Nat} {p1 : Int32} {r : Unit}, GS s m → ok s p0 10 → nrc m p0 p1 = some (r, m') → J3 (rc (bl s m) p0 p1) (r, bl s m') (GS s m')) (n : Nat) : ∀ (m : Mem) (v0 : Nat) (v1 : Int32), GS s m → ok s v0 10 → nl_X10_readTerm_5 nrc F s n m v0 v1 = some (r, m') → J3 (l_X10_readTerm_5 rc F n (bl s m) v0 v1) (r, bl s m') (GS s m') := by
  induction n with
  | zero => intro m v0 v1 hw o_v0 hf; cases hf
  | succ n ih => intro m v0 v1 hw o_v0 hf; exact ub_X10_readTerm_5 (F := F) hw o_v0 hrc ih hf
def nb_X10_readTerm_0 (nrc : Mem → Nat → Int32 → Option (Unit × Mem)) (F : Nat) (s : List Sh) (m : Mem) (v0 : Nat) (v1 : Int32) : Option (Unit × Mem) := bind2 (ng_X10_readAtom nrc F s m v0 v1) fun _ m2 => (nl_X10_readTerm_5 nrc F s F m2 v0 v1)
set_option maxRecDepth 20000 in
theorem u_X10_readTerm_0 {rc : PH → Nat → Int32 → Option (Unit × PH)} {nrc : Mem → Nat → Int32 → Option (Unit × Mem)} {F : Nat} {s : List Sh} {m m' : Mem} {r : Unit} {v0 : Nat} {v1 : Int32} (hw : GS s m) (o_v0 : ok s v0 10) (hrc : ∀ {m m' : Mem} {p0 : Nat} {p1 : Int32} {r : Unit}, GS s m → ok s p0 10 → nrc m p0 p1 = some (r, m') → J3 (rc (bl s m) p0 p1) (r, bl s m') (GS s m')) (hf : nb_X10_readTerm_0 nrc F s m v0 v1 = some (r, m')) : J3 (b_X10_readTerm_0 rc F (bl s m) v0 v1) (r, bl s m') (GS s m') := by
  unfold nb_X10_readTerm_0 at hf
  unfold b_X10_readTerm_0
  refine k_cO (ok_o o_v0 (by decide)) ?_
  refine ob2 hf fun u m2 ex hf => ?_
  refine k_b2 (ug_X10_readAtom hrc hw o_v0 ex) fun hw => ?_
  exact ul_X10_readTerm_5 hrc F _ _ _ hw o_v0 hf
def ng_X10_readTerm (nrc : Mem → Nat → Int32 → Option (Unit × Mem)) (F : Nat) (s : List Sh) (m : Mem) (p0 : Nat) (p1 : Int32) : Option (Unit × Mem) := nb_X10_readTerm_0 nrc F s m p0 p1
theorem ug_X10_readTerm {rc : PH → Nat → Int32 → Option (Unit × PH)} {nrc : Mem → Nat → Int32 → Option (Unit × Mem)} {F : Nat} {s : List Sh} {m m' : Mem} {p0 : Nat} {p1 : Int32} {r : Unit} (hrc : ∀ {m m' : Mem} {p0 : Nat} {p1 : Int32} {r : Unit}, GS s m → ok s p0 10 → nrc m p0 p1 = some (r, m') → J3 (rc (bl s m) p0 p1) (r, bl s m') (GS s m')) (hw : GS s m) (o_p0 : ok s p0 10) (ex : ng_X10_readTerm nrc F s m p0 p1 = some (r, m')) : J3 (g_X10_readTerm rc F (bl s m) p0 p1) (r, bl s m') (GS s m') := u_X10_readTerm_0 hw o_p0 hrc ex
/-! FractionLiftModel.readSum(I)V over the memory -/
def nb_X10_readSum_41 (nrc : Mem → Nat → Int32 → Option (Unit × Mem)) (F : Nat) (s : List Sh) (nself3 : Mem → Nat → Int32 → Option (Unit × Mem)) (m : Mem) (v0 : Nat) (v1 : Int32) (s0 : Int32) : Option (Unit × Mem) := bind2 (n_X10_next F s m v0) fun _ m2 => (bind2 (ng_X10_readTerm nrc F s m2 v0 v1) fun _ m4 => (bind2 (n_X10_tellsCode s m4 v0 s0) fun _ m6 => (nself3 m6 v0 v1)))
set_option maxRecDepth 20000 in
theorem u_X10_readSum_41 {rc : PH → Nat → Int32 → Option (Unit × PH)} {nrc : Mem → Nat → Int32 → Option (Unit × Mem)} {F : Nat} {s : List Sh} {self3 : PH → Nat → Int32 → Option (Unit × PH)} {nself3 : Mem → Nat → Int32 → Option (Unit × Mem)} {m m' : Mem} {r : Unit} {v0 : Nat} {v1 : Int32} {s0 : Int32} (hw : GS s m) (o_v0 : ok s v0 10) (hrc : ∀ {m m' : Mem} {p0 : Nat} {p1 : Int32} {r : Unit}, GS s m → ok s p0 10 → nrc m p0 p1 = some (r, m') → J3 (rc (bl s m) p0 p1) (r, bl s m') (GS s m')) (ih3 : ∀ (m : Mem) (v0 : Nat) (v1 : Int32), GS s m → ok s v0 10 → nself3 m v0 v1 = some (r, m') → J3 (self3 (bl s m) v0 v1) (r, bl s m') (GS s m')) (hf : nb_X10_readSum_41 nrc F s nself3 m v0 v1 s0 = some (r, m')) : J3 (b_X10_readSum_41 rc F self3 (bl s m) v0 v1 s0) (r, bl s m') (GS s m') := by
  unfold nb_X10_readSum_41 at hf
  unfold b_X10_readSum_41
  refine k_cO (ok_o o_v0 (by decide)) ?_
  refine ob2 hf fun u m2 ex hf => ?_
  refine k_b2 (un_X10_next hw o_v0 ex) fun hw => ?_
  refine k_cO (ok_o o_v0 (by decide)) ?_
  refine ob2 hf fun u m4 ex hf => ?_
  refine k_b2 (ug_X10_readTerm hrc hw o_v0 ex) fun hw => ?_
  refine k_cO (ok_o o_v0 (by decide)) ?_
  refine ob2 hf fun u m6 ex hf => ?_
  refine k_b2 (un_X10_tellsCode hw o_v0 ex) fun hw => ?_
  exact ih3 _ _ _ hw o_v0 hf
def nb_X10_readSum_23 (nrc : Mem → Nat → Int32 → Option (Unit × Mem)) (F : Nat) (s : List Sh) (nself3 : Mem → Nat → Int32 → Option (Unit × Mem)) (m : Mem) (v0 : Nat) (v1 : Int32) : Option (Unit × Mem) := if (m.1 v0 9) = (22 : Int32) then (nb_X10_readSum_41 nrc F s nself3 m v0 v1 (3000 : Int32)) else (nb_X10_readSum_41 nrc F s nself3 m v0 v1 (3001 : Int32))
set_option maxRecDepth 20000 in
theorem u_X10_readSum_23 {rc : PH → Nat → Int32 → Option (Unit × PH)} {nrc : Mem → Nat → Int32 → Option (Unit × Mem)} {F : Nat} {s : List Sh} {self3 : PH → Nat → Int32 → Option (Unit × PH)} {nself3 : Mem → Nat → Int32 → Option (Unit × Mem)} {m m' : Mem} {r : Unit} {v0 : Nat} {v1 : Int32} (hw : GS s m) (o_v0 : ok s v0 10) (hrc : ∀ {m m' : Mem} {p0 : Nat} {p1 : Int32} {r : Unit}, GS s m → ok s p0 10 → nrc m p0 p1 = some (r, m') → J3 (rc (bl s m) p0 p1) (r, bl s m') (GS s m')) (ih3 : ∀ (m : Mem) (v0 : Nat) (v1 : Int32), GS s m → ok s v0 10 → nself3 m v0 v1 = some (r, m') → J3 (self3 (bl s m) v0 v1) (r, bl s m') (GS s m')) (hf : nb_X10_readSum_23 nrc F s nself3 m v0 v1 = some (r, m')) : J3 (b_X10_readSum_23 rc F self3 (bl s m) v0 v1) (r, bl s m') (GS s m') := by
  unfold nb_X10_readSum_23 at hf
  unfold b_X10_readSum_23
  refine k_gI (ok_o o_v0 (by decide)) rfl ?_
  refine k_if hf (fun hf => ?_) (fun hf => ?_)
  · exact u_X10_readSum_41 hw o_v0 hrc ih3 hf
  · exact u_X10_readSum_41 hw o_v0 hrc ih3 hf
def nb_X10_readSum_5 (nrc : Mem → Nat → Int32 → Option (Unit × Mem)) (F : Nat) (s : List Sh) (nself3 : Mem → Nat → Int32 → Option (Unit × Mem)) (m : Mem) (v0 : Nat) (v1 : Int32) : Option (Unit × Mem) := (n_X10_is s m v0 (22 : Int32)).bind fun x1 => (if x1 = 0 then ((n_X10_is s m v0 (23 : Int32)).bind fun x2 => (if x2 = 0 then (some ((), m)) else (nb_X10_readSum_23 nrc F s nself3 m v0 v1))) else (nb_X10_readSum_23 nrc F s nself3 m v0 v1))
set_option maxRecDepth 20000 in
theorem ub_X10_readSum_5 {rc : PH → Nat → Int32 → Option (Unit × PH)} {nrc : Mem → Nat → Int32 → Option (Unit × Mem)} {F : Nat} {s : List Sh} {self3 : PH → Nat → Int32 → Option (Unit × PH)} {nself3 : Mem → Nat → Int32 → Option (Unit × Mem)} {m m' : Mem} {r : Unit} {v0 : Nat} {v1 : Int32} (hw : GS s m) (o_v0 : ok s v0 10) (hrc : ∀ {m m' : Mem} {p0 : Nat} {p1 : Int32} {r : Unit}, GS s m → ok s p0 10 → nrc m p0 p1 = some (r, m') → J3 (rc (bl s m) p0 p1) (r, bl s m') (GS s m')) (ih3 : ∀ (m : Mem) (v0 : Nat) (v1 : Int32), GS s m → ok s v0 10 → nself3 m v0 v1 = some (r, m') → J3 (self3 (bl s m) v0 v1) (r, bl s m') (GS s m')) (hf : nb_X10_readSum_5 nrc F s nself3 m v0 v1 = some (r, m')) : J3 (b_X10_readSum_5 rc F self3 (bl s m) v0 v1) (r, bl s m') (GS s m') := by
  unfold nb_X10_readSum_5 at hf
  unfold b_X10_readSum_5
  refine k_cO (ok_o o_v0 (by decide)) ?_
  refine ob hf fun x1 ex hf => ?_
  refine k_b1 (un_X10_is hw o_v0 ex) ?_
  refine k_if hf (fun hf => ?_) (fun hf => ?_)
  · refine k_cO (ok_o o_v0 (by decide)) ?_
    refine ob hf fun x2 ex hf => ?_
    refine k_b1 (un_X10_is hw o_v0 ex) ?_
    refine k_if hf (fun hf => ?_) (fun hf => ?_)
    · exact k_ret hw hf
    · exact u_X10_readSum_23 hw o_v0 hrc ih3 hf
  · exact u_X10_readSum_23 hw o_v0 hrc ih3 hf
def nl_X10_readSum_5 (nrc : Mem → Nat → Int32 → Option (Unit × Mem)) (F : Nat) (s : List Sh) : Nat → Mem → Nat → Int32 → Option (Unit × Mem)
  | 0 => fun _ _ _ => none
  | n + 1 => fun m v0 v1 => nb_X10_readSum_5 nrc F s (nl_X10_readSum_5 nrc F s n) m v0 v1
theorem ul_X10_readSum_5 {rc : PH → Nat → Int32 → Option (Unit × PH)} {nrc : Mem → Nat → Int32 → Option (Unit × Mem)} {F : Nat} {s : List Sh} {m' : Mem} {r : Unit} (hrc : ∀ {m m' : Mem} {p0 : Nat} {p1 : Int32} {r : Unit}, GS s m → ok s p0 10 → nrc m p0 p1 = some (r, m') → J3 (rc (bl s m) p0 p1) (r, bl s m') (GS s m')) (n : Nat) : ∀ (m : Mem) (v0 : Nat) (v1 : Int32), GS s m → ok s v0 10 → nl_X10_readSum_5 nrc F s n m v0 v1 = some (r, m') → J3 (l_X10_readSum_5 rc F n (bl s m) v0 v1) (r, bl s m') (GS s m') := by
  induction n with
  | zero => intro m v0 v1 hw o_v0 hf; cases hf
  | succ n ih => intro m v0 v1 hw o_v0 hf; exact ub_X10_readSum_5 (F := F) hw o_v0 hrc ih hf
def nb_X10_readSum_0 (nrc : Mem → Nat → Int32 → Option (Unit × Mem)) (F : Nat) (s : List Sh) (m : Mem) (v0 : Nat) (v1 : Int32) : Option (Unit × Mem) := bind2 (ng_X10_readTerm nrc F s m v0 v1) fun _ m2 => (nl_X10_readSum_5 nrc F s F m2 v0 v1)
set_option maxRecDepth 20000 in
theorem u_X10_readSum_0 {rc : PH → Nat → Int32 → Option (Unit × PH)} {nrc : Mem → Nat → Int32 → Option (Unit × Mem)} {F : Nat} {s : List Sh} {m m' : Mem} {r : Unit} {v0 : Nat} {v1 : Int32} (hw : GS s m) (o_v0 : ok s v0 10) (hrc : ∀ {m m' : Mem} {p0 : Nat} {p1 : Int32} {r : Unit}, GS s m → ok s p0 10 → nrc m p0 p1 = some (r, m') → J3 (rc (bl s m) p0 p1) (r, bl s m') (GS s m')) (hf : nb_X10_readSum_0 nrc F s m v0 v1 = some (r, m')) : J3 (b_X10_readSum_0 rc F (bl s m) v0 v1) (r, bl s m') (GS s m') := by
  unfold nb_X10_readSum_0 at hf
  unfold b_X10_readSum_0
  refine k_cO (ok_o o_v0 (by decide)) ?_
  refine ob2 hf fun u m2 ex hf => ?_
  refine k_b2 (ug_X10_readTerm hrc hw o_v0 ex) fun hw => ?_
  exact ul_X10_readSum_5 hrc F _ _ _ hw o_v0 hf
def ng_X10_readSum (nrc : Mem → Nat → Int32 → Option (Unit × Mem)) (F : Nat) (s : List Sh) (m : Mem) (p0 : Nat) (p1 : Int32) : Option (Unit × Mem) := nb_X10_readSum_0 nrc F s m p0 p1
theorem ug_X10_readSum {rc : PH → Nat → Int32 → Option (Unit × PH)} {nrc : Mem → Nat → Int32 → Option (Unit × Mem)} {F : Nat} {s : List Sh} {m m' : Mem} {p0 : Nat} {p1 : Int32} {r : Unit} (hrc : ∀ {m m' : Mem} {p0 : Nat} {p1 : Int32} {r : Unit}, GS s m → ok s p0 10 → nrc m p0 p1 = some (r, m') → J3 (rc (bl s m) p0 p1) (r, bl s m') (GS s m')) (hw : GS s m) (o_p0 : ok s p0 10) (ex : ng_X10_readSum nrc F s m p0 p1 = some (r, m')) : J3 (g_X10_readSum rc F (bl s m) p0 p1) (r, bl s m') (GS s m') := u_X10_readSum_0 hw o_p0 hrc ex
def nd_X10_readSum (F : Nat) (s : List Sh) : Nat → Mem → Nat → Int32 → Option (Unit × Mem)
  | 0 => fun _ _ _ => none
  | d + 1 => fun m p0 p1 => ng_X10_readSum (nd_X10_readSum F s d) F s m p0 p1
def n_X10_readSum (F : Nat) (d : Nat) (s : List Sh) (m : Mem) (p0 : Nat) (p1 : Int32) : Option (Unit × Mem) := nd_X10_readSum F s d m p0 p1
theorem ud_X10_readSum {F : Nat} {s : List Sh} (d : Nat) : ∀ {m m' : Mem} {p0 : Nat} {p1 : Int32} {r : Unit}, GS s m → ok s p0 10 → nd_X10_readSum F s d m p0 p1 = some (r, m') → J3 (m_X10_readSum F d (bl s m) p0 p1) (r, bl s m') (GS s m') := by
  induction d with
  | zero => intro _ _ _ _ _ hw o_p0 hf; cases hf
  | succ d ih => intro _ _ _ _ _ hw o_p0 hf; exact ug_X10_readSum ih hw o_p0 hf
theorem un_X10_readSum {F : Nat} {d : Nat} {s : List Sh} {m m' : Mem} {p0 : Nat} {p1 : Int32} {r : Unit} (hw : GS s m) (o_p0 : ok s p0 10) (ex : n_X10_readSum F d s m p0 p1 = some (r, m')) : J3 (m_X10_readSum F d (bl s m) p0 p1) (r, bl s m') (GS s m') := ud_X10_readSum d hw o_p0 ex
/-! FractionLiftModel.readButton()V over the memory -/
def nb_X10_readButton_44 (F : Nat) (s : List Sh) (m : Mem) (v0 : Nat) (v1 : Int32) : Option (Unit × Mem) := (m.2.2 v0 4).bind fun a1 => ((rdI s m a1 (98 : Int32)).bind fun x2 => (bind2 (n_X10_readSum F 10 s m v0 (0 : Int32)) fun _ m4 => (if (m4.1 v0 11) = 0 then ((m4.2.2 v0 4).bind fun a5 => ((stI s m4 a5 (((61 : Int32) + v1)) x2).bind fun m6 => ((m6.2.2 v0 4).bind fun a7 => ((m6.2.2 v0 4).bind fun a8 => ((rdI s m6 a8 (98 : Int32)).bind fun x9 => ((stI s m6 a7 (((67 : Int32) + v1)) (x9 - x2)).bind fun m10 => ((m10.2.2 v0 4).bind fun a11 => ((rdI s m10 a11 (2 : Int32)).bind fun x12 => ((stI s m10 a11 (2 : Int32) ((x12 + (1 : Int32)))).bind fun m13 => (some ((), m13))))))))))) else (some ((), m4)))))
set_option maxRecDepth 20000 in
theorem u_X10_readButton_44 {F : Nat} {s : List Sh} {m m' : Mem} {r : Unit} {v0 : Nat} {v1 : Int32} (hw : GS s m) (o_v0 : ok s v0 10) (hf : nb_X10_readButton_44 F s m v0 v1 = some (r, m')) : J3 (b_X10_readButton_44 F (bl s m) v0 v1) (r, bl s m') (GS s m') := by
  unfold nb_X10_readButton_44 at hf
  unfold b_X10_readButton_44
  refine k_gR hw (ok_o o_v0 (by decide)) rfl hf fun a1 o_a1 hf => ?_
  refine k_aI (Or.inl rfl) (ka rfl o_a1) hf fun x2 hf => ?_
  refine k_cO (ok_o o_v0 (by decide)) ?_
  refine ob2 hf fun u m4 ex hf => ?_
  refine k_b2 (un_X10_readSum hw o_v0 ex) fun hw => ?_
  refine k_gI (ok_o o_v0 (by decide)) rfl ?_
  refine k_if hf (fun hf => ?_) (fun hf => ?_)
  · refine k_gR hw (ok_o o_v0 (by decide)) rfl hf fun a5 o_a5 hf => ?_
    refine k_sI hw (ka rfl o_a5) hf fun m6 hw hf => ?_
    refine k_gR hw (ok_o o_v0 (by decide)) rfl hf fun a7 o_a7 hf => ?_
    refine k_gR hw (ok_o o_v0 (by decide)) rfl hf fun a8 o_a8 hf => ?_
    refine k_aI (Or.inl rfl) (ka rfl o_a8) hf fun x9 hf => ?_
    refine k_sI hw (ka rfl o_a7) hf fun m10 hw hf => ?_
    refine k_gR hw (ok_o o_v0 (by decide)) rfl hf fun a11 o_a11 hf => ?_
    refine k_aI (Or.inl rfl) (ka rfl o_a11) hf fun x12 hf => ?_
    refine k_sI hw (ka rfl o_a11) hf fun m13 hw hf => ?_
    exact k_ret hw hf
  · exact k_ret hw hf
def nb_X10_readButton_18 (F : Nat) (s : List Sh) (m : Mem) (v0 : Nat) (v1 : Int32) : Option (Unit × Mem) := if (m.1 v0 11) = 0 then (bind2 (n_X10_next F s m v0) fun _ m2 => (bind2 (n_X10_eats F s m2 v0 (21 : Int32)) fun x3 m4 => (if x3 = 0 then (bind2 (n_X10_fails s m4 v0 (2 : Int32)) fun _ m6 => (nb_X10_readButton_44 F s m6 v0 v1)) else (nb_X10_readButton_44 F s m4 v0 v1)))) else (some ((), m))
set_option maxRecDepth 20000 in
theorem u_X10_readButton_18 {F : Nat} {s : List Sh} {m m' : Mem} {r : Unit} {v0 : Nat} {v1 : Int32} (hw : GS s m) (o_v0 : ok s v0 10) (hf : nb_X10_readButton_18 F s m v0 v1 = some (r, m')) : J3 (b_X10_readButton_18 F (bl s m) v0 v1) (r, bl s m') (GS s m') := by
  unfold nb_X10_readButton_18 at hf
  unfold b_X10_readButton_18
  refine k_gI (ok_o o_v0 (by decide)) rfl ?_
  refine k_if hf (fun hf => ?_) (fun hf => ?_)
  · refine k_cO (ok_o o_v0 (by decide)) ?_
    refine ob2 hf fun u m2 ex hf => ?_
    refine k_b2 (un_X10_next hw o_v0 ex) fun hw => ?_
    refine k_cO (ok_o o_v0 (by decide)) ?_
    refine ob2 hf fun x3 m4 ex hf => ?_
    refine k_b2 (un_X10_eats hw o_v0 ex) fun hw => ?_
    refine k_if hf (fun hf => ?_) (fun hf => ?_)
    · refine k_cO (ok_o o_v0 (by decide)) ?_
      refine ob2 hf fun u m6 ex hf => ?_
      refine k_b2 (un_X10_fails hw o_v0 ex) fun hw => ?_
      exact u_X10_readButton_44 hw o_v0 hf
    · exact u_X10_readButton_44 hw o_v0 hf
  · exact k_ret hw hf
def nb_X10_readButton_0 (F : Nat) (s : List Sh) (m : Mem) (v0 : Nat) : Option (Unit × Mem) := (m.2.2 v0 4).bind fun a1 => ((rdI s m a1 (2 : Int32)).bind fun x2 => (if x2 = (6 : Int32) then (bind2 (n_X10_fails s m v0 (4 : Int32)) fun _ m4 => (nb_X10_readButton_18 F s m4 v0 x2)) else (nb_X10_readButton_18 F s m v0 x2)))
set_option maxRecDepth 20000 in
theorem u_X10_readButton_0 {F : Nat} {s : List Sh} {m m' : Mem} {r : Unit} {v0 : Nat} (hw : GS s m) (o_v0 : ok s v0 10) (hf : nb_X10_readButton_0 F s m v0 = some (r, m')) : J3 (b_X10_readButton_0 F (bl s m) v0) (r, bl s m') (GS s m') := by
  unfold nb_X10_readButton_0 at hf
  unfold b_X10_readButton_0
  refine k_gR hw (ok_o o_v0 (by decide)) rfl hf fun a1 o_a1 hf => ?_
  refine k_aI (Or.inl rfl) (ka rfl o_a1) hf fun x2 hf => ?_
  refine k_if hf (fun hf => ?_) (fun hf => ?_)
  · refine k_cO (ok_o o_v0 (by decide)) ?_
    refine ob2 hf fun u m4 ex hf => ?_
    refine k_b2 (un_X10_fails hw o_v0 ex) fun hw => ?_
    exact u_X10_readButton_18 hw o_v0 hf
  · exact u_X10_readButton_18 hw o_v0 hf
def n_X10_readButton (F : Nat) (s : List Sh) (m : Mem) (p0 : Nat) : Option (Unit × Mem) := nb_X10_readButton_0 F s m p0
theorem un_X10_readButton {F : Nat} {s : List Sh} {m m' : Mem} {p0 : Nat} {r : Unit} (hw : GS s m) (o_p0 : ok s p0 10) (ex : n_X10_readButton F s m p0 = some (r, m')) : J3 (m_X10_readButton F (bl s m) p0) (r, bl s m') (GS s m') := u_X10_readButton_0 hw o_p0 ex
/-! FractionLiftModel.readLine()V over the memory -/
def nb_X10_readLine_35 (F : Nat) (s : List Sh) (m : Mem) (v0 : Nat) : Option (Unit × Mem) := (n_X10_is s m v0 (1 : Int32)).bind fun x1 => (if x1 = 0 then ((n_X10_is s m v0 (2 : Int32)).bind fun x2 => (if x2 = 0 then ((n_X10_is s m v0 (4 : Int32)).bind fun x3 => (if x3 = 0 then (bind2 (n_X10_eats F s m v0 (5 : Int32)) fun x4 m5 => (if x4 = 0 then (bind2 (n_X10_eats F s m5 v0 (6 : Int32)) fun x6 m7 => (if x6 = 0 then (bind2 (n_X10_fails s m7 v0 (2 : Int32)) fun _ m9 => (some ((), m9))) else ((m7.2.2 v0 4).bind fun a10 => (bind2 (n_X10_takes F s m7 v0 (0 : Int32) (9 : Int32)) fun x11 m12 => ((stI s m12 a10 (5 : Int32) x11).bind fun m13 => (some ((), m13))))))) else (bind2 (n_X10_readAt F s m5 v0 (7 : Int32) (8 : Int32)) fun _ m15 => ((ptZ m15 v0 18 (1 : Int32)).bind fun m16 => (some ((), m16)))))) else (bind2 (n_X10_readTenant F s m v0) fun _ m18 => (some ((), m18))))) else (bind2 (n_X10_readFloor F s m v0) fun _ m20 => ((ptZ m20 v0 18 (1 : Int32)).bind fun m21 => (some ((), m21)))))) else (bind2 (n_X10_readButton F s m v0) fun _ m23 => (some ((), m23))))
set_option maxRecDepth 20000 in
theorem u_X10_readLine_35 {F : Nat} {s : List Sh} {m m' : Mem} {r : Unit} {v0 : Nat} (hw : GS s m) (o_v0 : ok s v0 10) (hf : nb_X10_readLine_35 F s m v0 = some (r, m')) : J3 (b_X10_readLine_35 F (bl s m) v0) (r, bl s m') (GS s m') := by
  unfold nb_X10_readLine_35 at hf
  unfold b_X10_readLine_35
  refine k_cO (ok_o o_v0 (by decide)) ?_
  refine ob hf fun x1 ex hf => ?_
  refine k_b1 (un_X10_is hw o_v0 ex) ?_
  refine k_if hf (fun hf => ?_) (fun hf => ?_)
  · refine k_cO (ok_o o_v0 (by decide)) ?_
    refine ob hf fun x2 ex hf => ?_
    refine k_b1 (un_X10_is hw o_v0 ex) ?_
    refine k_if hf (fun hf => ?_) (fun hf => ?_)
    · refine k_cO (ok_o o_v0 (by decide)) ?_
      refine ob hf fun x3 ex hf => ?_
      refine k_b1 (un_X10_is hw o_v0 ex) ?_
      refine k_if hf (fun hf => ?_) (fun hf => ?_)
      · refine k_cO (ok_o o_v0 (by decide)) ?_
        refine ob2 hf fun x4 m5 ex hf => ?_
        refine k_b2 (un_X10_eats hw o_v0 ex) fun hw => ?_
        refine k_if hf (fun hf => ?_) (fun hf => ?_)
        · refine k_cO (ok_o o_v0 (by decide)) ?_
          refine ob2 hf fun x6 m7 ex hf => ?_
          refine k_b2 (un_X10_eats hw o_v0 ex) fun hw => ?_
          refine k_if hf (fun hf => ?_) (fun hf => ?_)
          · refine k_cO (ok_o o_v0 (by decide)) ?_
            refine ob2 hf fun u m9 ex hf => ?_
            refine k_b2 (un_X10_fails hw o_v0 ex) fun hw => ?_
            exact k_ret hw hf
          · refine k_gR hw (ok_o o_v0 (by decide)) rfl hf fun a10 o_a10 hf => ?_
            refine k_cO (ok_o o_v0 (by decide)) ?_
            refine ob2 hf fun x11 m12 ex hf => ?_
            refine k_b2 (un_X10_takes hw o_v0 ex) fun hw => ?_
            refine k_sI hw (ka rfl o_a10) hf fun m13 hw hf => ?_
            exact k_ret hw hf
        · refine k_cO (ok_o o_v0 (by decide)) ?_
          refine ob2 hf fun u m15 ex hf => ?_
          refine k_b2 (un_X10_readAt hw o_v0 ex) fun hw => ?_
          refine k_pZ hw (ok_o o_v0 (by decide)) rfl hf fun m16 hw hf => ?_
          exact k_ret hw hf
      · refine k_cO (ok_o o_v0 (by decide)) ?_
        refine ob2 hf fun u m18 ex hf => ?_
        refine k_b2 (un_X10_readTenant hw o_v0 ex) fun hw => ?_
        exact k_ret hw hf
    · refine k_cO (ok_o o_v0 (by decide)) ?_
      refine ob2 hf fun u m20 ex hf => ?_
      refine k_b2 (un_X10_readFloor hw o_v0 ex) fun hw => ?_
      refine k_pZ hw (ok_o o_v0 (by decide)) rfl hf fun m21 hw hf => ?_
      exact k_ret hw hf
  · refine k_cO (ok_o o_v0 (by decide)) ?_
    refine ob2 hf fun u m23 ex hf => ?_
    refine k_b2 (un_X10_readButton hw o_v0 ex) fun hw => ?_
    exact k_ret hw hf
def nb_X10_readLine_0 (F : Nat) (s : List Sh) (m : Mem) (v0 : Nat) : Option (Unit × Mem) := (n_X10_is s m v0 (0 : Int32)).bind fun x1 => (if x1 = 0 then (nb_X10_readLine_35 F s m v0) else (if (m.1 v0 18) = 0 then (bind2 (n_X10_next F s m v0) fun _ m3 => ((m3.2.2 v0 4).bind fun a4 => (bind2 (n_X10_takes F s m3 v0 (1 : Int32) (9 : Int32)) fun x5 m6 => ((stI s m6 a4 (1 : Int32) x5).bind fun m7 => (some ((), m7)))))) else (nb_X10_readLine_35 F s m v0)))
set_option maxRecDepth 20000 in
theorem u_X10_readLine_0 {F : Nat} {s : List Sh} {m m' : Mem} {r : Unit} {v0 : Nat} (hw : GS s m) (o_v0 : ok s v0 10) (hf : nb_X10_readLine_0 F s m v0 = some (r, m')) : J3 (b_X10_readLine_0 F (bl s m) v0) (r, bl s m') (GS s m') := by
  unfold nb_X10_readLine_0 at hf
  unfold b_X10_readLine_0
  refine k_cO (ok_o o_v0 (by decide)) ?_
  refine ob hf fun x1 ex hf => ?_
  refine k_b1 (un_X10_is hw o_v0 ex) ?_
  refine k_if hf (fun hf => ?_) (fun hf => ?_)
  · exact u_X10_readLine_35 hw o_v0 hf
  · refine k_gI (ok_o o_v0 (by decide)) rfl ?_
    refine k_if hf (fun hf => ?_) (fun hf => ?_)
    · refine k_cO (ok_o o_v0 (by decide)) ?_
      refine ob2 hf fun u m3 ex hf => ?_
      refine k_b2 (un_X10_next hw o_v0 ex) fun hw => ?_
      refine k_gR hw (ok_o o_v0 (by decide)) rfl hf fun a4 o_a4 hf => ?_
      refine k_cO (ok_o o_v0 (by decide)) ?_
      refine ob2 hf fun x5 m6 ex hf => ?_
      refine k_b2 (un_X10_takes hw o_v0 ex) fun hw => ?_
      refine k_sI hw (ka rfl o_a4) hf fun m7 hw hf => ?_
      exact k_ret hw hf
    · exact u_X10_readLine_35 hw o_v0 hf
def n_X10_readLine (F : Nat) (s : List Sh) (m : Mem) (p0 : Nat) : Option (Unit × Mem) := nb_X10_readLine_0 F s m p0
theorem un_X10_readLine {F : Nat} {s : List Sh} {m m' : Mem} {p0 : Nat} {r : Unit} (hw : GS s m) (o_p0 : ok s p0 10) (ex : n_X10_readLine F s m p0 = some (r, m')) : J3 (m_X10_readLine F (bl s m) p0) (r, bl s m') (GS s m') := u_X10_readLine_0 hw o_p0 ex
/-! FractionLiftModel.house(I)I over the memory -/
def nb_X10_house_92 (F : Nat) (s : List Sh) (nself33 : Mem → Nat → Option (Int32 × Mem)) (m : Mem) (v0 : Nat) : Option (Int32 × Mem) := (m.2.2 v0 4).bind fun a1 => ((rdI s m a1 (0 : Int32)).bind fun x2 => ((stI s m a1 (0 : Int32) ((x2 + (1 : Int32)))).bind fun m3 => (nself33 m3 v0)))
set_option maxRecDepth 20000 in
theorem u_X10_house_92 {F : Nat} {s : List Sh} {self33 : PH → Nat → Option (Int32 × PH)} {nself33 : Mem → Nat → Option (Int32 × Mem)} {m m' : Mem} {r : Int32} {v0 : Nat} (hw : GS s m) (o_v0 : ok s v0 10) (ih33 : ∀ (m : Mem) (v0 : Nat), GS s m → ok s v0 10 → nself33 m v0 = some (r, m') → J3 (self33 (bl s m) v0) (r, bl s m') (GS s m')) (hf : nb_X10_house_92 F s nself33 m v0 = some (r, m')) : J3 (b_X10_house_92 F self33 (bl s m) v0) (r, bl s m') (GS s m') := by
  unfold nb_X10_house_92 at hf
  unfold b_X10_house_92
  refine k_gR hw (ok_o o_v0 (by decide)) rfl hf fun a1 o_a1 hf => ?_
  refine k_aI (Or.inl rfl) (ka rfl o_a1) hf fun x2 hf => ?_
  refine k_sI hw (ka rfl o_a1) hf fun m3 hw hf => ?_
  exact ih33 _ _ hw o_v0 hf
def nb_X10_house_149 (F : Nat) (s : List Sh) (nself81 : Mem → Nat → Int32 → Option (Int32 × Mem)) (m : Mem) (v0 : Nat) (v2 : Int32) : Option (Int32 × Mem) := if (999 : Int32) ≤ v2 then ((m.2.2 v0 1).bind fun a1 => ((rdI s m a1 (0 : Int32)).bind fun x2 => (some (x2, m)))) else ((m.2.2 v0 1).bind fun a3 => ((m.2.2 v0 4).bind fun a4 => ((rdI s m a4 v2).bind fun x5 => ((stI s m a3 v2 x5).bind fun m6 => (bindv (v2 + (1)) fun x7 => (nself81 m6 v0 x7))))))
set_option maxRecDepth 20000 in
theorem ub_X10_house_149 {F : Nat} {s : List Sh} {self81 : PH → Nat → Int32 → Option (Int32 × PH)} {nself81 : Mem → Nat → Int32 → Option (Int32 × Mem)} {m m' : Mem} {r : Int32} {v0 : Nat} {v2 : Int32} (hw : GS s m) (o_v0 : ok s v0 10) (ih81 : ∀ (m : Mem) (v0 : Nat) (v2 : Int32), GS s m → ok s v0 10 → nself81 m v0 v2 = some (r, m') → J3 (self81 (bl s m) v0 v2) (r, bl s m') (GS s m')) (hf : nb_X10_house_149 F s nself81 m v0 v2 = some (r, m')) : J3 (b_X10_house_149 F self81 (bl s m) v0 v2) (r, bl s m') (GS s m') := by
  unfold nb_X10_house_149 at hf
  unfold b_X10_house_149
  refine k_if hf (fun hf => ?_) (fun hf => ?_)
  · refine k_gR hw (ok_o o_v0 (by decide)) rfl hf fun a1 o_a1 hf => ?_
    refine k_aI (Or.inl rfl) (ka rfl o_a1) hf fun x2 hf => ?_
    exact k_ret hw hf
  · refine k_gR hw (ok_o o_v0 (by decide)) rfl hf fun a3 o_a3 hf => ?_
    refine k_gR hw (ok_o o_v0 (by decide)) rfl hf fun a4 o_a4 hf => ?_
    refine k_aI (Or.inl rfl) (ka rfl o_a4) hf fun x5 hf => ?_
    refine k_sI hw (ka rfl o_a3) hf fun m6 hw hf => ?_
    refine k_bv hf fun x7 hf => ?_
    exact ih81 _ _ _ hw o_v0 hf
def nl_X10_house_149 (F : Nat) (s : List Sh) : Nat → Mem → Nat → Int32 → Option (Int32 × Mem)
  | 0 => fun _ _ _ => none
  | n + 1 => fun m v0 v2 => nb_X10_house_149 F s (nl_X10_house_149 F s n) m v0 v2
theorem ul_X10_house_149 {F : Nat} {s : List Sh} {m' : Mem} {r : Int32} (n : Nat) : ∀ (m : Mem) (v0 : Nat) (v2 : Int32), GS s m → ok s v0 10 → nl_X10_house_149 F s n m v0 v2 = some (r, m') → J3 (l_X10_house_149 F n (bl s m) v0 v2) (r, bl s m') (GS s m') := by
  induction n with
  | zero => intro m v0 v2 hw o_v0 hf; cases hf
  | succ n ih => intro m v0 v2 hw o_v0 hf; exact ub_X10_house_149 (F := F) hw o_v0 ih hf
def nb_X10_house_129 (F : Nat) (s : List Sh) (m : Mem) (v0 : Nat) (s0 : Nat) (s1 : Int32) : Option (Int32 × Mem) := bindv (wI m s0 14 s1) fun m1 => (if (m1.1 v0 11) = 0 then (nl_X10_house_149 F s F m1 v0 (0 : Int32)) else (some ((((-30 : Int32) - (m1.1 v0 11))), m1)))
set_option maxRecDepth 20000 in
theorem u_X10_house_129 {F : Nat} {s : List Sh} {m m' : Mem} {r : Int32} {v0 : Nat} {s0 : Nat} {s1 : Int32} (hw : GS s m) (o_v0 : ok s v0 10) (o_s0 : ok s s0 10) (hf : nb_X10_house_129 F s m v0 s0 s1 = some (r, m')) : J3 (b_X10_house_129 F (bl s m) v0 s0 s1) (r, bl s m') (GS s m') := by
  unfold nb_X10_house_129 at hf
  unfold b_X10_house_129
  refine k_pI hw (ok_o o_s0 (by decide)) rfl hf fun m1 hw hf => ?_
  refine k_gI (ok_o o_v0 (by decide)) rfl ?_
  refine k_if hf (fun hf => ?_) (fun hf => ?_)
  · exact ul_X10_house_149 F _ _ _ hw o_v0 hf
  · refine k_gI (ok_o o_v0 (by decide)) rfl ?_
    exact k_ret hw hf
def nb_X10_house_105 (F : Nat) (s : List Sh) (m : Mem) (v0 : Nat) : Option (Int32 × Mem) := bindv (wI m v0 13 (m.1 v0 11)) fun m1 => (if (m1.1 v0 11) = 0 then (nb_X10_house_129 F s m1 v0 v0 (-1 : Int32)) else (nb_X10_house_129 F s m1 v0 v0 (m1.1 v0 12)))
set_option maxRecDepth 20000 in
theorem u_X10_house_105 {F : Nat} {s : List Sh} {m m' : Mem} {r : Int32} {v0 : Nat} (hw : GS s m) (o_v0 : ok s v0 10) (hf : nb_X10_house_105 F s m v0 = some (r, m')) : J3 (b_X10_house_105 F (bl s m) v0) (r, bl s m') (GS s m') := by
  unfold nb_X10_house_105 at hf
  unfold b_X10_house_105
  refine k_gI (ok_o o_v0 (by decide)) rfl ?_
  refine k_pI hw (ok_o o_v0 (by decide)) rfl hf fun m1 hw hf => ?_
  refine k_gI (ok_o o_v0 (by decide)) rfl ?_
  refine k_if hf (fun hf => ?_) (fun hf => ?_)
  · exact u_X10_house_129 hw o_v0 o_v0 hf
  · refine k_gI (ok_o o_v0 (by decide)) rfl ?_
    exact u_X10_house_129 hw o_v0 o_v0 hf
def nb_X10_house_58 (F : Nat) (s : List Sh) (nself33 : Mem → Nat → Option (Int32 × Mem)) (m : Mem) (v0 : Nat) : Option (Int32 × Mem) := if (m.1 v0 11) = 0 then (if (m.1 v0 9) = (17 : Int32) then (nb_X10_house_105 F s m v0) else (bind2 (n_X10_readLine F s m v0) fun _ m2 => (bind2 (n_X10_eats F s m2 v0 (20 : Int32)) fun x3 m4 => (if x3 = 0 then (bind2 (n_X10_fails s m4 v0 (2 : Int32)) fun _ m6 => (nb_X10_house_92 F s nself33 m6 v0)) else (nb_X10_house_92 F s nself33 m4 v0))))) else (nb_X10_house_105 F s m v0)
set_option maxRecDepth 20000 in
theorem ub_X10_house_58 {F : Nat} {s : List Sh} {self33 : PH → Nat → Option (Int32 × PH)} {nself33 : Mem → Nat → Option (Int32 × Mem)} {m m' : Mem} {r : Int32} {v0 : Nat} (hw : GS s m) (o_v0 : ok s v0 10) (ih33 : ∀ (m : Mem) (v0 : Nat), GS s m → ok s v0 10 → nself33 m v0 = some (r, m') → J3 (self33 (bl s m) v0) (r, bl s m') (GS s m')) (hf : nb_X10_house_58 F s nself33 m v0 = some (r, m')) : J3 (b_X10_house_58 F self33 (bl s m) v0) (r, bl s m') (GS s m') := by
  unfold nb_X10_house_58 at hf
  unfold b_X10_house_58
  refine k_gI (ok_o o_v0 (by decide)) rfl ?_
  refine k_if hf (fun hf => ?_) (fun hf => ?_)
  · refine k_gI (ok_o o_v0 (by decide)) rfl ?_
    refine k_if hf (fun hf => ?_) (fun hf => ?_)
    · exact u_X10_house_105 hw o_v0 hf
    · refine k_cO (ok_o o_v0 (by decide)) ?_
      refine ob2 hf fun u m2 ex hf => ?_
      refine k_b2 (un_X10_readLine hw o_v0 ex) fun hw => ?_
      refine k_cO (ok_o o_v0 (by decide)) ?_
      refine ob2 hf fun x3 m4 ex hf => ?_
      refine k_b2 (un_X10_eats hw o_v0 ex) fun hw => ?_
      refine k_if hf (fun hf => ?_) (fun hf => ?_)
      · refine k_cO (ok_o o_v0 (by decide)) ?_
        refine ob2 hf fun u m6 ex hf => ?_
        refine k_b2 (un_X10_fails hw o_v0 ex) fun hw => ?_
        exact u_X10_house_92 hw o_v0 ih33 hf
      · exact u_X10_house_92 hw o_v0 ih33 hf
  · exact u_X10_house_105 hw o_v0 hf
def nl_X10_house_58 (F : Nat) (s : List Sh) : Nat → Mem → Nat → Option (Int32 × Mem)
  | 0 => fun _ _ => none
  | n + 1 => fun m v0 => nb_X10_house_58 F s (nl_X10_house_58 F s n) m v0
theorem ul_X10_house_58 {F : Nat} {s : List Sh} {m' : Mem} {r : Int32} (n : Nat) : ∀ (m : Mem) (v0 : Nat), GS s m → ok s v0 10 → nl_X10_house_58 F s n m v0 = some (r, m') → J3 (l_X10_house_58 F n (bl s m) v0) (r, bl s m') (GS s m') := by
  induction n with
  | zero => intro m v0 hw o_v0 hf; cases hf
  | succ n ih => intro m v0 hw o_v0 hf; exact ub_X10_house_58 (F := F) hw o_v0 ih hf
def nb_X10_house_0 (F : Nat) (s : List Sh) (m : Mem) (v0 : Nat) (v1 : Int32) : Option (Int32 × Mem) := bindv (wI m v0 0 (0 : Int32)) fun m1 => ((m_X10_within (Int32.toInt64 v1) (0 : Int64) ((Int32.toInt64 (m1.1 v0 5)))).bind fun x2 => (if x2 = 0 then (some ((-3 : Int32), m1)) else (bindv (wI m1 v0 8 v1) fun m3 => (bindv (wI m3 v0 5 (0 : Int32)) fun m4 => (bindv (wI m4 v0 7 (0 : Int32)) fun m5 => (bindv (wI m5 v0 11 (0 : Int32)) fun m6 => ((ptZ m6 v0 18 (0 : Int32)).bind fun m7 => ((m7.2.2 v0 4).bind fun a8 => (bind2 (n_X10_plain F s m7 a8) fun _ m10 => (bind2 (n_X10_next F s m10 v0) fun _ m12 => (nl_X10_house_58 F s F m12 v0)))))))))))
set_option maxRecDepth 20000 in
theorem u_X10_house_0 {F : Nat} {s : List Sh} {m m' : Mem} {r : Int32} {v0 : Nat} {v1 : Int32} (hw : GS s m) (o_v0 : ok s v0 10) (hf : nb_X10_house_0 F s m v0 v1 = some (r, m')) : J3 (b_X10_house_0 F (bl s m) v0 v1) (r, bl s m') (GS s m') := by
  unfold nb_X10_house_0 at hf
  unfold b_X10_house_0
  refine k_pI hw (ok_o o_v0 (by decide)) rfl hf fun m1 hw hf => ?_
  refine k_gI (ok_o o_v0 (by decide)) rfl ?_
  refine k_pure hf fun x2 hf => ?_
  refine k_if hf (fun hf => ?_) (fun hf => ?_)
  · exact k_ret hw hf
  · refine k_pI hw (ok_o o_v0 (by decide)) rfl hf fun m3 hw hf => ?_
    refine k_pI hw (ok_o o_v0 (by decide)) rfl hf fun m4 hw hf => ?_
    refine k_pI hw (ok_o o_v0 (by decide)) rfl hf fun m5 hw hf => ?_
    refine k_pI hw (ok_o o_v0 (by decide)) rfl hf fun m6 hw hf => ?_
    refine k_pZ hw (ok_o o_v0 (by decide)) rfl hf fun m7 hw hf => ?_
    refine k_gR hw (ok_o o_v0 (by decide)) rfl hf fun a8 o_a8 hf => ?_
    refine ob2 hf fun u m10 ex hf => ?_
    refine k_b2 (un_X10_plain hw o_a8 ex) fun hw => ?_
    refine k_cO (ok_o o_v0 (by decide)) ?_
    refine ob2 hf fun u m12 ex hf => ?_
    refine k_b2 (un_X10_next hw o_v0 ex) fun hw => ?_
    exact ul_X10_house_58 F _ _ hw o_v0 hf
def n_X10_house (F : Nat) (s : List Sh) (m : Mem) (p0 : Nat) (p1 : Int32) : Option (Int32 × Mem) := nb_X10_house_0 F s m p0 p1
theorem un_X10_house {F : Nat} {s : List Sh} {m m' : Mem} {p0 : Nat} {p1 : Int32} {r : Int32} (hw : GS s m) (o_p0 : ok s p0 10) (ex : n_X10_house F s m p0 p1 = some (r, m')) : J3 (m_X10_house F (bl s m) p0 p1) (r, bl s m') (GS s m') := u_X10_house_0 hw o_p0 ex
/-! FractionLiftModel.fault(I)I over the memory -/
def nb_X10_fault_0 (s : List Sh) (m : Mem) (v0 : Nat) (v1 : Int32) : Option (Int32 × Mem) := bindv (wI m v0 0 (0 : Int32)) fun m1 => (if v1 = 0 then (some ((m1.1 v0 13), m1)) else (if v1 = (1 : Int32) then (some ((m1.1 v0 14), m1)) else (some ((-1 : Int32), m1))))
set_option maxRecDepth 20000 in
theorem u_X10_fault_0 {s : List Sh} {m m' : Mem} {r : Int32} {v0 : Nat} {v1 : Int32} (hw : GS s m) (o_v0 : ok s v0 10) (hf : nb_X10_fault_0 s m v0 v1 = some (r, m')) : J3 (b_X10_fault_0 (bl s m) v0 v1) (r, bl s m') (GS s m') := by
  unfold nb_X10_fault_0 at hf
  unfold b_X10_fault_0
  refine k_pI hw (ok_o o_v0 (by decide)) rfl hf fun m1 hw hf => ?_
  refine k_if hf (fun hf => ?_) (fun hf => ?_)
  · refine k_gI (ok_o o_v0 (by decide)) rfl ?_
    exact k_ret hw hf
  · refine k_if hf (fun hf => ?_) (fun hf => ?_)
    · refine k_gI (ok_o o_v0 (by decide)) rfl ?_
      exact k_ret hw hf
    · exact k_ret hw hf
def n_X10_fault (s : List Sh) (m : Mem) (p0 : Nat) (p1 : Int32) : Option (Int32 × Mem) := nb_X10_fault_0 s m p0 p1
theorem un_X10_fault {s : List Sh} {m m' : Mem} {p0 : Nat} {p1 : Int32} {r : Int32} (hw : GS s m) (o_p0 : ok s p0 10) (ex : n_X10_fault s m p0 p1 = some (r, m')) : J3 (m_X10_fault (bl s m) p0 p1) (r, bl s m') (GS s m') := u_X10_fault_0 hw o_p0 ex
/-! FractionLiftModel.at(I)I over the memory -/
def nb_X10_at_0 (s : List Sh) (m : Mem) (v0 : Nat) (v1 : Int32) : Option (Int32 × Mem) := bindv (wI m v0 0 (0 : Int32)) fun m1 => ((m_X10_within (Int32.toInt64 v1) (0 : Int64) (1 : Int64)).bind fun x2 => (if x2 = 0 then (some ((-2 : Int32), m1)) else ((m1.2.2 v0 1).bind fun a3 => ((rdI s m1 a3 (((7 : Int32) + v1))).bind fun x4 => (some (x4, m1))))))
set_option maxRecDepth 20000 in
theorem u_X10_at_0 {s : List Sh} {m m' : Mem} {r : Int32} {v0 : Nat} {v1 : Int32} (hw : GS s m) (o_v0 : ok s v0 10) (hf : nb_X10_at_0 s m v0 v1 = some (r, m')) : J3 (b_X10_at_0 (bl s m) v0 v1) (r, bl s m') (GS s m') := by
  unfold nb_X10_at_0 at hf
  unfold b_X10_at_0
  refine k_pI hw (ok_o o_v0 (by decide)) rfl hf fun m1 hw hf => ?_
  refine k_pure hf fun x2 hf => ?_
  refine k_if hf (fun hf => ?_) (fun hf => ?_)
  · exact k_ret hw hf
  · refine k_gR hw (ok_o o_v0 (by decide)) rfl hf fun a3 o_a3 hf => ?_
    refine k_aI (Or.inl rfl) (ka rfl o_a3) hf fun x4 hf => ?_
    exact k_ret hw hf
def n_X10_at (s : List Sh) (m : Mem) (p0 : Nat) (p1 : Int32) : Option (Int32 × Mem) := nb_X10_at_0 s m p0 p1
theorem un_X10_at {s : List Sh} {m m' : Mem} {p0 : Nat} {p1 : Int32} {r : Int32} (hw : GS s m) (o_p0 : ok s p0 10) (ex : n_X10_at s m p0 p1 = some (r, m')) : J3 (m_X10_at (bl s m) p0 p1) (r, bl s m') (GS s m') := u_X10_at_0 hw o_p0 ex
/-! FractionLiftModel.isTold(J)Z over the memory -/
def nb_X10_isTold_0 (s : List Sh) (m : Mem) (v0 : Nat) (v1 : Int64) : Option Int32 := (m.2.2 v0 1).bind fun a1 => ((rdI s m a1 (3 : Int32)).bind fun x2 => ((m_X10_within v1 (0 : Int64) ((Int32.toInt64 ((x2 - (1 : Int32)))))).bind fun x3 => (rZP x3)))
set_option maxRecDepth 20000 in
theorem u_X10_isTold_0 {s : List Sh} {m : Mem} {r : Int32} {v0 : Nat} {v1 : Int64} (hw : GS s m) (o_v0 : ok s v0 10) (hf : nb_X10_isTold_0 s m v0 v1 = some r) : J3 (b_X10_isTold_0 (bl s m) v0 v1) r True := by
  unfold nb_X10_isTold_0 at hf
  unfold b_X10_isTold_0
  refine k_gR hw (ok_o o_v0 (by decide)) rfl hf fun a1 o_a1 hf => ?_
  refine k_aI (Or.inl rfl) (ka rfl o_a1) hf fun x2 hf => ?_
  refine k_pure hf fun x3 hf => ?_
  exact k_rZP hf
def n_X10_isTold (s : List Sh) (m : Mem) (p0 : Nat) (p1 : Int64) : Option Int32 := nb_X10_isTold_0 s m p0 p1
theorem un_X10_isTold {s : List Sh} {m : Mem} {p0 : Nat} {p1 : Int64} {r : Int32} (hw : GS s m) (o_p0 : ok s p0 10) (ex : n_X10_isTold s m p0 p1 = some r) : J3 (m_X10_isTold (bl s m) p0 p1) r True := u_X10_isTold_0 hw o_p0 ex
/-! FractionLiftModel.isTenant(I)Z over the memory -/
def nb_X10_isTenant_0 (s : List Sh) (m : Mem) (v0 : Nat) (v1 : Int32) : Option Int32 := (m.2.2 v0 1).bind fun a1 => ((rdI s m a1 (4 : Int32)).bind fun x2 => ((m_X10_within (Int32.toInt64 v1) (0 : Int64) ((Int32.toInt64 ((x2 - (1 : Int32)))))).bind fun x3 => (rZP x3)))
set_option maxRecDepth 20000 in
theorem u_X10_isTenant_0 {s : List Sh} {m : Mem} {r : Int32} {v0 : Nat} {v1 : Int32} (hw : GS s m) (o_v0 : ok s v0 10) (hf : nb_X10_isTenant_0 s m v0 v1 = some r) : J3 (b_X10_isTenant_0 (bl s m) v0 v1) r True := by
  unfold nb_X10_isTenant_0 at hf
  unfold b_X10_isTenant_0
  refine k_gR hw (ok_o o_v0 (by decide)) rfl hf fun a1 o_a1 hf => ?_
  refine k_aI (Or.inl rfl) (ka rfl o_a1) hf fun x2 hf => ?_
  refine k_pure hf fun x3 hf => ?_
  exact k_rZP hf
def n_X10_isTenant (s : List Sh) (m : Mem) (p0 : Nat) (p1 : Int32) : Option Int32 := nb_X10_isTenant_0 s m p0 p1
theorem un_X10_isTenant {s : List Sh} {m : Mem} {p0 : Nat} {p1 : Int32} {r : Int32} (hw : GS s m) (o_p0 : ok s p0 10) (ex : n_X10_isTenant s m p0 p1 = some r) : J3 (m_X10_isTenant (bl s m) p0 p1) r True := u_X10_isTenant_0 hw o_p0 ex
/-! FractionLiftModel.placeOf(I)I over the memory -/
def nb_X10_placeOf_66 (F : Nat) (s : List Sh) (nself4 : Nat → Int32 → Int32 → Int32 → Option Int32) (m : Mem) (v0 : Nat) (v1 : Int32) (v3 : Int32) (s0 : Int32) (s1 : Int32) : Option Int32 := bindv (s0 + s1) fun x1 => (bindv (v3 + (1)) fun x2 => (nself4 v0 v1 x1 x2))
set_option maxRecDepth 20000 in
theorem u_X10_placeOf_66 {F : Nat} {s : List Sh} {self4 : Nat → Int32 → Int32 → Int32 → Option Int32} {nself4 : Nat → Int32 → Int32 → Int32 → Option Int32} {m : Mem} {r : Int32} {v0 : Nat} {v1 : Int32} {v3 : Int32} {s0 : Int32} {s1 : Int32} (hw : GS s m) (o_v0 : ok s v0 10) (ih4 : ∀ (v0 : Nat) (v1 : Int32) (v2 : Int32) (v3 : Int32), ok s v0 10 → nself4 v0 v1 v2 v3 = some r → J3 (self4 v0 v1 v2 v3) r True) (hf : nb_X10_placeOf_66 F s nself4 m v0 v1 v3 s0 s1 = some r) : J3 (b_X10_placeOf_66 F self4 (bl s m) v0 v1 v3 s0 s1) r True := by
  unfold nb_X10_placeOf_66 at hf
  unfold b_X10_placeOf_66
  refine k_bv hf fun x1 hf => ?_
  refine k_bv hf fun x2 hf => ?_
  exact ih4 _ _ _ _ o_v0 hf
def nb_X10_placeOf_4 (F : Nat) (s : List Sh) (nself4 : Nat → Int32 → Int32 → Int32 → Option Int32) (m : Mem) (v0 : Nat) (v1 : Int32) (v2 : Int32) (v3 : Int32) : Option Int32 := (m.2.2 v0 1).bind fun a1 => ((rdI s m a1 (3 : Int32)).bind fun x2 => (if x2 ≤ v3 then (some v2) else ((m.2.2 v0 1).bind fun a3 => ((rdI s m a3 (((9 : Int32) + v3))).bind fun x4 => ((m.2.2 v0 1).bind fun a5 => ((rdI s m a5 (((17 : Int32) + v3))).bind fun x6 => ((m.2.2 v0 1).bind fun a7 => ((rdI s m a7 (((9 : Int32) + v1))).bind fun x8 => ((m.2.2 v0 1).bind fun a9 => ((rdI s m a9 (((17 : Int32) + v1))).bind fun x10 => ((m_X10_against (Int32.toInt64 x4) (Int32.toInt64 x6) (Int32.toInt64 x8) (Int32.toInt64 x10)).bind fun x11 => (if 0 ≤ x11 then (nb_X10_placeOf_66 F s nself4 m v0 v1 v3 v2 (0 : Int32)) else (nb_X10_placeOf_66 F s nself4 m v0 v1 v3 v2 (1 : Int32))))))))))))))
set_option maxRecDepth 20000 in
theorem ub_X10_placeOf_4 {F : Nat} {s : List Sh} {self4 : Nat → Int32 → Int32 → Int32 → Option Int32} {nself4 : Nat → Int32 → Int32 → Int32 → Option Int32} {m : Mem} {r : Int32} {v0 : Nat} {v1 : Int32} {v2 : Int32} {v3 : Int32} (hw : GS s m) (o_v0 : ok s v0 10) (ih4 : ∀ (v0 : Nat) (v1 : Int32) (v2 : Int32) (v3 : Int32), ok s v0 10 → nself4 v0 v1 v2 v3 = some r → J3 (self4 v0 v1 v2 v3) r True) (hf : nb_X10_placeOf_4 F s nself4 m v0 v1 v2 v3 = some r) : J3 (b_X10_placeOf_4 F self4 (bl s m) v0 v1 v2 v3) r True := by
  unfold nb_X10_placeOf_4 at hf
  unfold b_X10_placeOf_4
  refine k_gR hw (ok_o o_v0 (by decide)) rfl hf fun a1 o_a1 hf => ?_
  refine k_aI (Or.inl rfl) (ka rfl o_a1) hf fun x2 hf => ?_
  refine k_if hf (fun hf => ?_) (fun hf => ?_)
  · exact k_retP hf
  · refine k_gR hw (ok_o o_v0 (by decide)) rfl hf fun a3 o_a3 hf => ?_
    refine k_aI (Or.inl rfl) (ka rfl o_a3) hf fun x4 hf => ?_
    refine k_gR hw (ok_o o_v0 (by decide)) rfl hf fun a5 o_a5 hf => ?_
    refine k_aI (Or.inl rfl) (ka rfl o_a5) hf fun x6 hf => ?_
    refine k_gR hw (ok_o o_v0 (by decide)) rfl hf fun a7 o_a7 hf => ?_
    refine k_aI (Or.inl rfl) (ka rfl o_a7) hf fun x8 hf => ?_
    refine k_gR hw (ok_o o_v0 (by decide)) rfl hf fun a9 o_a9 hf => ?_
    refine k_aI (Or.inl rfl) (ka rfl o_a9) hf fun x10 hf => ?_
    refine k_pure hf fun x11 hf => ?_
    refine k_if hf (fun hf => ?_) (fun hf => ?_)
    · exact u_X10_placeOf_66 hw o_v0 ih4 hf
    · exact u_X10_placeOf_66 hw o_v0 ih4 hf
def nl_X10_placeOf_4 (F : Nat) (s : List Sh) (m : Mem) : Nat → Nat → Int32 → Int32 → Int32 → Option Int32
  | 0 => fun _ _ _ _ => none
  | n + 1 => fun v0 v1 v2 v3 => nb_X10_placeOf_4 F s (nl_X10_placeOf_4 F s m n) m v0 v1 v2 v3
theorem ul_X10_placeOf_4 {F : Nat} {s : List Sh} {m : Mem} {r : Int32} (hw : GS s m) (n : Nat) : ∀ (v0 : Nat) (v1 : Int32) (v2 : Int32) (v3 : Int32), ok s v0 10 → nl_X10_placeOf_4 F s m n v0 v1 v2 v3 = some r → J3 (l_X10_placeOf_4 F (bl s m) n v0 v1 v2 v3) r True := by
  induction n with
  | zero => intro v0 v1 v2 v3 o_v0 hf; cases hf
  | succ n ih => intro v0 v1 v2 v3 o_v0 hf; exact ub_X10_placeOf_4 (F := F) hw o_v0 ih hf
def nb_X10_placeOf_0 (F : Nat) (s : List Sh) (m : Mem) (v0 : Nat) (v1 : Int32) : Option Int32 := nl_X10_placeOf_4 F s m F v0 v1 (0 : Int32) (0 : Int32)
set_option maxRecDepth 20000 in
theorem u_X10_placeOf_0 {F : Nat} {s : List Sh} {m : Mem} {r : Int32} {v0 : Nat} {v1 : Int32} (hw : GS s m) (o_v0 : ok s v0 10) (hf : nb_X10_placeOf_0 F s m v0 v1 = some r) : J3 (b_X10_placeOf_0 F (bl s m) v0 v1) r True := by
  unfold nb_X10_placeOf_0 at hf
  unfold b_X10_placeOf_0
  exact ul_X10_placeOf_4 hw F _ _ _ _ o_v0 hf
def n_X10_placeOf (F : Nat) (s : List Sh) (m : Mem) (p0 : Nat) (p1 : Int32) : Option Int32 := nb_X10_placeOf_0 F s m p0 p1
theorem un_X10_placeOf {F : Nat} {s : List Sh} {m : Mem} {p0 : Nat} {p1 : Int32} {r : Int32} (hw : GS s m) (o_p0 : ok s p0 10) (ex : n_X10_placeOf F s m p0 p1 = some r) : J3 (m_X10_placeOf F (bl s m) p0 p1) r True := u_X10_placeOf_0 hw o_p0 ex
/-! FractionLiftModel.floor(II)I over the memory -/
def nb_X10_floor_76 (F : Nat) (s : List Sh) (m : Mem) (v0 : Nat) (v1 : Int32) (v2 : Int32) : Option (Int32 × Mem) := (m.2.2 v0 1).bind fun a1 => ((rdI s m a1 (((((25 : Int32) + (((8 : Int32) * ((v2 - (2 : Int32))))))) + v1))).bind fun x2 => (some (x2, m)))
set_option maxRecDepth 20000 in
theorem u_X10_floor_76 {F : Nat} {s : List Sh} {m m' : Mem} {r : Int32} {v0 : Nat} {v1 : Int32} {v2 : Int32} (hw : GS s m) (o_v0 : ok s v0 10) (hf : nb_X10_floor_76 F s m v0 v1 v2 = some (r, m')) : J3 (b_X10_floor_76 F (bl s m) v0 v1 v2) (r, bl s m') (GS s m') := by
  unfold nb_X10_floor_76 at hf
  unfold b_X10_floor_76
  refine k_gR hw (ok_o o_v0 (by decide)) rfl hf fun a1 o_a1 hf => ?_
  refine k_aI (Or.inl rfl) (ka rfl o_a1) hf fun x2 hf => ?_
  exact k_ret hw hf
def nb_X10_floor_0 (F : Nat) (s : List Sh) (m : Mem) (v0 : Nat) (v1 : Int32) (v2 : Int32) : Option (Int32 × Mem) := bindv (wI m v0 0 (0 : Int32)) fun m1 => ((n_X10_isTold s m1 v0 (Int32.toInt64 v1)).bind fun x2 => (if x2 = 0 then (some ((-2 : Int32), m1)) else (swN v2 (0) [(m1.2.2 v0 1).bind fun a3 => ((rdI s m1 a3 (((9 : Int32) + v1))).bind fun x4 => (some (x4, m1))), (m1.2.2 v0 1).bind fun a5 => ((rdI s m1 a5 (((17 : Int32) + v1))).bind fun x6 => (some (x6, m1))), nb_X10_floor_76 F s m1 v0 v1 v2, nb_X10_floor_76 F s m1 v0 v1 v2, nb_X10_floor_76 F s m1 v0 v1 v2, (n_X10_placeOf F s m1 v0 v1).bind fun x7 => (some (x7, m1))] (some ((-2 : Int32), m1)))))
set_option maxRecDepth 20000 in
theorem u_X10_floor_0 {F : Nat} {s : List Sh} {m m' : Mem} {r : Int32} {v0 : Nat} {v1 : Int32} {v2 : Int32} (hw : GS s m) (o_v0 : ok s v0 10) (hf : nb_X10_floor_0 F s m v0 v1 v2 = some (r, m')) : J3 (b_X10_floor_0 F (bl s m) v0 v1 v2) (r, bl s m') (GS s m') := by
  unfold nb_X10_floor_0 at hf
  unfold b_X10_floor_0
  refine k_pI hw (ok_o o_v0 (by decide)) rfl hf fun m1 hw hf => ?_
  refine k_cO (ok_o o_v0 (by decide)) ?_
  refine ob hf fun x2 ex hf => ?_
  refine k_b1 (un_X10_isTold hw o_v0 ex) ?_
  refine k_if hf (fun hf => ?_) (fun hf => ?_)
  · exact k_ret hw hf
  · refine k_sw hf rfl (fun i hi hf => ?_) (fun hf => ?_)
    · rcases (show i = 0 ∨ i = 1 ∨ i = 2 ∨ i = 3 ∨ i = 4 ∨ i = 5 by simp only [List.length_cons, List.length_nil] at hi; omega) with rfl | rfl | rfl | rfl | rfl | rfl
      · have hf := gd_at hf rfl
        refine gd_goal rfl ?_
        refine k_gR hw (ok_o o_v0 (by decide)) rfl hf fun a3 o_a3 hf => ?_
        refine k_aI (Or.inl rfl) (ka rfl o_a3) hf fun x4 hf => ?_
        exact k_ret hw hf
      · have hf := gd_at hf rfl
        refine gd_goal rfl ?_
        refine k_gR hw (ok_o o_v0 (by decide)) rfl hf fun a5 o_a5 hf => ?_
        refine k_aI (Or.inl rfl) (ka rfl o_a5) hf fun x6 hf => ?_
        exact k_ret hw hf
      · have hf := gd_at hf rfl
        refine gd_goal rfl ?_
        exact u_X10_floor_76 hw o_v0 hf
      · have hf := gd_at hf rfl
        refine gd_goal rfl ?_
        exact u_X10_floor_76 hw o_v0 hf
      · have hf := gd_at hf rfl
        refine gd_goal rfl ?_
        exact u_X10_floor_76 hw o_v0 hf
      · have hf := gd_at hf rfl
        refine gd_goal rfl ?_
        refine k_cO (ok_o o_v0 (by decide)) ?_
        refine ob hf fun x7 ex hf => ?_
        refine k_b1 (un_X10_placeOf hw o_v0 ex) ?_
        exact k_ret hw hf
    · exact k_ret hw hf
def n_X10_floor (F : Nat) (s : List Sh) (m : Mem) (p0 : Nat) (p1 : Int32) (p2 : Int32) : Option (Int32 × Mem) := nb_X10_floor_0 F s m p0 p1 p2
theorem un_X10_floor {F : Nat} {s : List Sh} {m m' : Mem} {p0 : Nat} {p1 : Int32} {p2 : Int32} {r : Int32} (hw : GS s m) (o_p0 : ok s p0 10) (ex : n_X10_floor F s m p0 p1 p2 = some (r, m')) : J3 (m_X10_floor F (bl s m) p0 p1 p2) (r, bl s m') (GS s m') := u_X10_floor_0 hw o_p0 ex
/-! FractionLiftModel.tenant(II)I over the memory -/
def nb_X10_tenant_0 (s : List Sh) (m : Mem) (v0 : Nat) (v1 : Int32) (v2 : Int32) : Option (Int32 × Mem) := bindv (wI m v0 0 (0 : Int32)) fun m1 => ((n_X10_isTenant s m1 v0 v1).bind fun x2 => (if x2 = 0 then (some ((-2 : Int32), m1)) else ((m_X10_within (Int32.toInt64 v2) (0 : Int64) (1 : Int64)).bind fun x3 => (if x3 = 0 then (some ((-2 : Int32), m1)) else ((m1.2.2 v0 1).bind fun a4 => ((rdI s m1 a4 (((((49 : Int32) + (((6 : Int32) * v2)))) + v1))).bind fun x5 => (some (x5, m1))))))))
set_option maxRecDepth 20000 in
theorem u_X10_tenant_0 {s : List Sh} {m m' : Mem} {r : Int32} {v0 : Nat} {v1 : Int32} {v2 : Int32} (hw : GS s m) (o_v0 : ok s v0 10) (hf : nb_X10_tenant_0 s m v0 v1 v2 = some (r, m')) : J3 (b_X10_tenant_0 (bl s m) v0 v1 v2) (r, bl s m') (GS s m') := by
  unfold nb_X10_tenant_0 at hf
  unfold b_X10_tenant_0
  refine k_pI hw (ok_o o_v0 (by decide)) rfl hf fun m1 hw hf => ?_
  refine k_cO (ok_o o_v0 (by decide)) ?_
  refine ob hf fun x2 ex hf => ?_
  refine k_b1 (un_X10_isTenant hw o_v0 ex) ?_
  refine k_if hf (fun hf => ?_) (fun hf => ?_)
  · exact k_ret hw hf
  · refine k_pure hf fun x3 hf => ?_
    refine k_if hf (fun hf => ?_) (fun hf => ?_)
    · exact k_ret hw hf
    · refine k_gR hw (ok_o o_v0 (by decide)) rfl hf fun a4 o_a4 hf => ?_
      refine k_aI (Or.inl rfl) (ka rfl o_a4) hf fun x5 hf => ?_
      exact k_ret hw hf
def n_X10_tenant (s : List Sh) (m : Mem) (p0 : Nat) (p1 : Int32) (p2 : Int32) : Option (Int32 × Mem) := nb_X10_tenant_0 s m p0 p1 p2
theorem un_X10_tenant {s : List Sh} {m m' : Mem} {p0 : Nat} {p1 : Int32} {p2 : Int32} {r : Int32} (hw : GS s m) (o_p0 : ok s p0 10) (ex : n_X10_tenant s m p0 p1 p2 = some (r, m')) : J3 (m_X10_tenant (bl s m) p0 p1 p2) (r, bl s m') (GS s m') := u_X10_tenant_0 hw o_p0 ex
/-! FractionLiftModel.pushes(JJ)I over the memory -/
def nb_X10_pushes_0 (s : List Sh) (m : Mem) (v0 : Nat) (v1 : Int64) (v3 : Int64) : Option (Int32 × Mem) := bind2 (n_X10_lays s m v0 v1 v3) fun _ m2 => ((m2.2.2 v0 19).bind fun a3 => ((stL s m2 a3 (m2.1 v0 21) (m2.2.1 v0 15)).bind fun m4 => ((m4.2.2 v0 20).bind fun a5 => ((stL s m4 a5 (m4.1 v0 21) (m4.2.1 v0 16)).bind fun m6 => (bindv (wI m6 v0 21 (((m6.1 v0 21) + (1 : Int32)))) fun m7 => (if (1000000000 : Int64) < (m7.2.1 v0 15) then (some ((3 : Int32), m7)) else (if (1000000000 : Int64) < ((-(m7.2.1 v0 15))) then (some ((3 : Int32), m7)) else (if (m7.2.1 v0 16) ≤ (1000000000 : Int64) then (some ((0 : Int32), m7)) else (some ((3 : Int32), m7))))))))))
set_option maxRecDepth 20000 in
theorem u_X10_pushes_0 {s : List Sh} {m m' : Mem} {r : Int32} {v0 : Nat} {v1 : Int64} {v3 : Int64} (hw : GS s m) (o_v0 : ok s v0 10) (hf : nb_X10_pushes_0 s m v0 v1 v3 = some (r, m')) : J3 (b_X10_pushes_0 (bl s m) v0 v1 v3) (r, bl s m') (GS s m') := by
  unfold nb_X10_pushes_0 at hf
  unfold b_X10_pushes_0
  refine k_cO (ok_o o_v0 (by decide)) ?_
  refine ob2 hf fun u m2 ex hf => ?_
  refine k_b2 (un_X10_lays hw o_v0 ex) fun hw => ?_
  refine k_gR hw (ok_o o_v0 (by decide)) rfl hf fun a3 o_a3 hf => ?_
  refine k_gI (ok_o o_v0 (by decide)) rfl ?_
  refine k_gL (ok_o o_v0 (by decide)) rfl ?_
  refine k_sL hw (ka rfl o_a3) hf fun m4 hw hf => ?_
  refine k_gR hw (ok_o o_v0 (by decide)) rfl hf fun a5 o_a5 hf => ?_
  refine k_gI (ok_o o_v0 (by decide)) rfl ?_
  refine k_gL (ok_o o_v0 (by decide)) rfl ?_
  refine k_sL hw (ka rfl o_a5) hf fun m6 hw hf => ?_
  refine k_gI (ok_o o_v0 (by decide)) rfl ?_
  refine k_pI hw (ok_o o_v0 (by decide)) rfl hf fun m7 hw hf => ?_
  refine k_gL (ok_o o_v0 (by decide)) rfl ?_
  refine k_if hf (fun hf => ?_) (fun hf => ?_)
  · exact k_ret hw hf
  · refine k_gL (ok_o o_v0 (by decide)) rfl ?_
    refine k_if hf (fun hf => ?_) (fun hf => ?_)
    · exact k_ret hw hf
    · refine k_gL (ok_o o_v0 (by decide)) rfl ?_
      refine k_if hf (fun hf => ?_) (fun hf => ?_)
      · exact k_ret hw hf
      · exact k_ret hw hf
def n_X10_pushes (s : List Sh) (m : Mem) (p0 : Nat) (p1 : Int64) (p3 : Int64) : Option (Int32 × Mem) := nb_X10_pushes_0 s m p0 p1 p3
theorem un_X10_pushes {s : List Sh} {m m' : Mem} {p0 : Nat} {p1 : Int64} {p3 : Int64} {r : Int32} (hw : GS s m) (o_p0 : ok s p0 10) (ex : n_X10_pushes s m p0 p1 p3 = some (r, m')) : J3 (m_X10_pushes (bl s m) p0 p1 p3) (r, bl s m') (GS s m') := u_X10_pushes_0 hw o_p0 ex
/-! FractionLiftModel.steps(I)I over the memory -/
def nb_X10_steps_0 (s : List Sh) (m : Mem) (v0 : Nat) (v1 : Int32) : Option (Int32 × Mem) := bindv (wI m v0 21 (((m.1 v0 21) - (2 : Int32)))) fun m1 => ((m1.2.2 v0 19).bind fun a2 => ((rdL s m1 a2 (m1.1 v0 21)).bind fun x3 => ((m1.2.2 v0 20).bind fun a4 => ((rdL s m1 a4 (m1.1 v0 21)).bind fun x5 => ((m1.2.2 v0 19).bind fun a6 => ((rdL s m1 a6 (((m1.1 v0 21) + (1 : Int32)))).bind fun x7 => ((m1.2.2 v0 20).bind fun a8 => ((rdL s m1 a8 (((m1.1 v0 21) + (1 : Int32)))).bind fun x9 => (if v1 = (3000 : Int32) then (bind2 (n_X10_pushes s m1 v0 (((x3 * x9) + (x7 * x5))) (x5 * x9)) fun x16 m17 => (some (x16, m17))) else (if v1 = (3001 : Int32) then (bind2 (n_X10_pushes s m1 v0 (((x3 * x9) - (x7 * x5))) (x5 * x9)) fun x14 m15 => (some (x14, m15))) else (if v1 = (3002 : Int32) then (bind2 (n_X10_pushes s m1 v0 (x3 * x7) (x5 * x9)) fun x12 m13 => (some (x12, m13))) else (if x7 = (0 : Int64) then (some ((2 : Int32), m1)) else (bind2 (n_X10_pushes s m1 v0 (x3 * x9) (x5 * x7)) fun x10 m11 => (some (x10, m11)))))))))))))))
set_option maxRecDepth 20000 in
theorem u_X10_steps_0 {s : List Sh} {m m' : Mem} {r : Int32} {v0 : Nat} {v1 : Int32} (hw : GS s m) (o_v0 : ok s v0 10) (hf : nb_X10_steps_0 s m v0 v1 = some (r, m')) : J3 (b_X10_steps_0 (bl s m) v0 v1) (r, bl s m') (GS s m') := by
  unfold nb_X10_steps_0 at hf
  unfold b_X10_steps_0
  refine k_gI (ok_o o_v0 (by decide)) rfl ?_
  refine k_pI hw (ok_o o_v0 (by decide)) rfl hf fun m1 hw hf => ?_
  refine k_gR hw (ok_o o_v0 (by decide)) rfl hf fun a2 o_a2 hf => ?_
  refine k_gI (ok_o o_v0 (by decide)) rfl ?_
  refine k_aL (ka rfl o_a2) hf fun x3 hf => ?_
  refine k_gR hw (ok_o o_v0 (by decide)) rfl hf fun a4 o_a4 hf => ?_
  refine k_gI (ok_o o_v0 (by decide)) rfl ?_
  refine k_aL (ka rfl o_a4) hf fun x5 hf => ?_
  refine k_gR hw (ok_o o_v0 (by decide)) rfl hf fun a6 o_a6 hf => ?_
  refine k_gI (ok_o o_v0 (by decide)) rfl ?_
  refine k_aL (ka rfl o_a6) hf fun x7 hf => ?_
  refine k_gR hw (ok_o o_v0 (by decide)) rfl hf fun a8 o_a8 hf => ?_
  refine k_gI (ok_o o_v0 (by decide)) rfl ?_
  refine k_aL (ka rfl o_a8) hf fun x9 hf => ?_
  refine k_if hf (fun hf => ?_) (fun hf => ?_)
  · refine k_cO (ok_o o_v0 (by decide)) ?_
    refine ob2 hf fun x16 m17 ex hf => ?_
    refine k_b2 (un_X10_pushes hw o_v0 ex) fun hw => ?_
    exact k_ret hw hf
  · refine k_if hf (fun hf => ?_) (fun hf => ?_)
    · refine k_cO (ok_o o_v0 (by decide)) ?_
      refine ob2 hf fun x14 m15 ex hf => ?_
      refine k_b2 (un_X10_pushes hw o_v0 ex) fun hw => ?_
      exact k_ret hw hf
    · refine k_if hf (fun hf => ?_) (fun hf => ?_)
      · refine k_cO (ok_o o_v0 (by decide)) ?_
        refine ob2 hf fun x12 m13 ex hf => ?_
        refine k_b2 (un_X10_pushes hw o_v0 ex) fun hw => ?_
        exact k_ret hw hf
      · refine k_if hf (fun hf => ?_) (fun hf => ?_)
        · exact k_ret hw hf
        · refine k_cO (ok_o o_v0 (by decide)) ?_
          refine ob2 hf fun x10 m11 ex hf => ?_
          refine k_b2 (un_X10_pushes hw o_v0 ex) fun hw => ?_
          exact k_ret hw hf
def n_X10_steps (s : List Sh) (m : Mem) (p0 : Nat) (p1 : Int32) : Option (Int32 × Mem) := nb_X10_steps_0 s m p0 p1
theorem un_X10_steps {s : List Sh} {m m' : Mem} {p0 : Nat} {p1 : Int32} {r : Int32} (hw : GS s m) (o_p0 : ok s p0 10) (ex : n_X10_steps s m p0 p1 = some (r, m')) : J3 (m_X10_steps (bl s m) p0 p1) (r, bl s m') (GS s m') := u_X10_steps_0 hw o_p0 ex
/-! FractionLiftModel.isFloor(JJ)Z over the memory -/
def nb_X10_isFloor_0 (s : List Sh) (m : Mem) (v0 : Nat) (v1 : Int64) (v3 : Int64) : Option Int32 := (m_X10_within v1 (0 : Int64) (1000000 : Int64)).bind fun x1 => (if x1 = 0 then (rZP (0 : Int32)) else ((m_X10_within v3 (1 : Int64) (1000000 : Int64)).bind fun x2 => (if x2 = 0 then (rZP (0 : Int32)) else ((m.2.2 v0 1).bind fun a3 => ((rdI s m a3 (1 : Int32)).bind fun x4 => (if (((Int32.toInt64 x4) * v3)) < v1 then (rZP (0 : Int32)) else (rZP (1 : Int32))))))))
set_option maxRecDepth 20000 in
theorem u_X10_isFloor_0 {s : List Sh} {m : Mem} {r : Int32} {v0 : Nat} {v1 : Int64} {v3 : Int64} (hw : GS s m) (o_v0 : ok s v0 10) (hf : nb_X10_isFloor_0 s m v0 v1 v3 = some r) : J3 (b_X10_isFloor_0 (bl s m) v0 v1 v3) r True := by
  unfold nb_X10_isFloor_0 at hf
  unfold b_X10_isFloor_0
  refine k_pure hf fun x1 hf => ?_
  refine k_if hf (fun hf => ?_) (fun hf => ?_)
  · exact k_rZP hf
  · refine k_pure hf fun x2 hf => ?_
    refine k_if hf (fun hf => ?_) (fun hf => ?_)
    · exact k_rZP hf
    · refine k_gR hw (ok_o o_v0 (by decide)) rfl hf fun a3 o_a3 hf => ?_
      refine k_aI (Or.inl rfl) (ka rfl o_a3) hf fun x4 hf => ?_
      refine k_if hf (fun hf => ?_) (fun hf => ?_)
      · exact k_rZP hf
      · exact k_rZP hf
def n_X10_isFloor (s : List Sh) (m : Mem) (p0 : Nat) (p1 : Int64) (p3 : Int64) : Option Int32 := nb_X10_isFloor_0 s m p0 p1 p3
theorem un_X10_isFloor {s : List Sh} {m : Mem} {p0 : Nat} {p1 : Int64} {p3 : Int64} {r : Int32} (hw : GS s m) (o_p0 : ok s p0 10) (ex : n_X10_isFloor s m p0 p1 p3 = some r) : J3 (m_X10_isFloor (bl s m) p0 p1 p3) r True := u_X10_isFloor_0 hw o_p0 ex
/-! FractionLiftModel.leadsFrom(IJJ)I over the memory -/
def nb_X10_leadsFrom_130 (F : Nat) (s : List Sh) (nself19 : Mem → Nat → Int32 → Int64 → Int64 → Int32 → Option (Int32 × Mem)) (m : Mem) (v0 : Nat) (v1 : Int32) (v2 : Int64) (v4 : Int64) (v6 : Int32) (s0 : Int32) : Option (Int32 × Mem) := if s0 = 0 then (bindv (v6 + (1)) fun x1 => (nself19 m v0 v1 v2 v4 x1)) else (some (s0, m))
set_option maxRecDepth 20000 in
theorem u_X10_leadsFrom_130 {F : Nat} {s : List Sh} {self19 : PH → Nat → Int32 → Int64 → Int64 → Int32 → Option (Int32 × PH)} {nself19 : Mem → Nat → Int32 → Int64 → Int64 → Int32 → Option (Int32 × Mem)} {m m' : Mem} {r : Int32} {v0 : Nat} {v1 : Int32} {v2 : Int64} {v4 : Int64} {v6 : Int32} {s0 : Int32} (hw : GS s m) (o_v0 : ok s v0 10) (ih19 : ∀ (m : Mem) (v0 : Nat) (v1 : Int32) (v2 : Int64) (v4 : Int64) (v6 : Int32), GS s m → ok s v0 10 → nself19 m v0 v1 v2 v4 v6 = some (r, m') → J3 (self19 (bl s m) v0 v1 v2 v4 v6) (r, bl s m') (GS s m')) (hf : nb_X10_leadsFrom_130 F s nself19 m v0 v1 v2 v4 v6 s0 = some (r, m')) : J3 (b_X10_leadsFrom_130 F self19 (bl s m) v0 v1 v2 v4 v6 s0) (r, bl s m') (GS s m') := by
  unfold nb_X10_leadsFrom_130 at hf
  unfold b_X10_leadsFrom_130
  refine k_if hf (fun hf => ?_) (fun hf => ?_)
  · refine k_bv hf fun x1 hf => ?_
    exact ih19 _ _ _ _ _ _ hw o_v0 hf
  · exact k_ret hw hf
def nb_X10_leadsFrom_28 (F : Nat) (s : List Sh) (nself19 : Mem → Nat → Int32 → Int64 → Int64 → Int32 → Option (Int32 × Mem)) (m : Mem) (v0 : Nat) (v1 : Int32) (v2 : Int64) (v4 : Int64) (v6 : Int32) : Option (Int32 × Mem) := (m.2.2 v0 1).bind fun a1 => ((rdI s m a1 (((67 : Int32) + v1))).bind fun x2 => (if x2 ≤ v6 then ((m.2.2 v0 19).bind fun a3 => ((rdL s m a3 (0 : Int32)).bind fun x4 => (bindv (wL m v0 15 x4) fun m5 => ((m5.2.2 v0 20).bind fun a6 => ((rdL s m5 a6 (0 : Int32)).bind fun x7 => (bindv (wL m5 v0 16 x7) fun m8 => ((n_X10_isFloor s m8 v0 (m8.2.1 v0 15) (m8.2.1 v0 16)).bind fun x9 => (if x9 = 0 then (some ((4 : Int32), m8)) else (some ((0 : Int32), m8)))))))))) else ((m.2.2 v0 1).bind fun a10 => ((m.2.2 v0 1).bind fun a11 => ((rdI s m a11 (((61 : Int32) + v1))).bind fun x12 => ((rdI s m a10 (((((99 : Int32) + x12)) + v6))).bind fun x13 => (if (1000 : Int32) ≤ x13 then (if x13 = (1000 : Int32) then (bind2 (n_X10_pushes s m v0 v2 v4) fun x20 m21 => (nb_X10_leadsFrom_130 F s nself19 m21 v0 v1 v2 v4 v6 x20)) else (if x13 = (1001 : Int32) then ((m.2.2 v0 1).bind fun a16 => ((rdI s m a16 (1 : Int32)).bind fun x17 => (bind2 (n_X10_pushes s m v0 (Int32.toInt64 x17) (1 : Int64)) fun x18 m19 => (nb_X10_leadsFrom_130 F s nself19 m19 v0 v1 v2 v4 v6 x18)))) else (bind2 (n_X10_steps s m v0 x13) fun x14 m15 => (nb_X10_leadsFrom_130 F s nself19 m15 v0 v1 v2 v4 v6 x14)))) else (bind2 (n_X10_pushes s m v0 (Int32.toInt64 x13) (1 : Int64)) fun x22 m23 => (nb_X10_leadsFrom_130 F s nself19 m23 v0 v1 v2 v4 v6 x22)))))))))
set_option maxRecDepth 20000 in
theorem ub_X10_leadsFrom_28 {F : Nat} {s : List Sh} {self19 : PH → Nat → Int32 → Int64 → Int64 → Int32 → Option (Int32 × PH)} {nself19 : Mem → Nat → Int32 → Int64 → Int64 → Int32 → Option (Int32 × Mem)} {m m' : Mem} {r : Int32} {v0 : Nat} {v1 : Int32} {v2 : Int64} {v4 : Int64} {v6 : Int32} (hw : GS s m) (o_v0 : ok s v0 10) (ih19 : ∀ (m : Mem) (v0 : Nat) (v1 : Int32) (v2 : Int64) (v4 : Int64) (v6 : Int32), GS s m → ok s v0 10 → nself19 m v0 v1 v2 v4 v6 = some (r, m') → J3 (self19 (bl s m) v0 v1 v2 v4 v6) (r, bl s m') (GS s m')) (hf : nb_X10_leadsFrom_28 F s nself19 m v0 v1 v2 v4 v6 = some (r, m')) : J3 (b_X10_leadsFrom_28 F self19 (bl s m) v0 v1 v2 v4 v6) (r, bl s m') (GS s m') := by
  unfold nb_X10_leadsFrom_28 at hf
  unfold b_X10_leadsFrom_28
  refine k_gR hw (ok_o o_v0 (by decide)) rfl hf fun a1 o_a1 hf => ?_
  refine k_aI (Or.inl rfl) (ka rfl o_a1) hf fun x2 hf => ?_
  refine k_if hf (fun hf => ?_) (fun hf => ?_)
  · refine k_gR hw (ok_o o_v0 (by decide)) rfl hf fun a3 o_a3 hf => ?_
    refine k_aL (ka rfl o_a3) hf fun x4 hf => ?_
    refine k_pL hw (ok_o o_v0 (by decide)) rfl hf fun m5 hw hf => ?_
    refine k_gR hw (ok_o o_v0 (by decide)) rfl hf fun a6 o_a6 hf => ?_
    refine k_aL (ka rfl o_a6) hf fun x7 hf => ?_
    refine k_pL hw (ok_o o_v0 (by decide)) rfl hf fun m8 hw hf => ?_
    refine k_gL (ok_o o_v0 (by decide)) rfl ?_
    refine k_gL (ok_o o_v0 (by decide)) rfl ?_
    refine k_cO (ok_o o_v0 (by decide)) ?_
    refine ob hf fun x9 ex hf => ?_
    refine k_b1 (un_X10_isFloor hw o_v0 ex) ?_
    refine k_if hf (fun hf => ?_) (fun hf => ?_)
    · exact k_ret hw hf
    · exact k_ret hw hf
  · refine k_gR hw (ok_o o_v0 (by decide)) rfl hf fun a10 o_a10 hf => ?_
    refine k_gR hw (ok_o o_v0 (by decide)) rfl hf fun a11 o_a11 hf => ?_
    refine k_aI (Or.inl rfl) (ka rfl o_a11) hf fun x12 hf => ?_
    refine k_aI (Or.inl rfl) (ka rfl o_a10) hf fun x13 hf => ?_
    refine k_if hf (fun hf => ?_) (fun hf => ?_)
    · refine k_if hf (fun hf => ?_) (fun hf => ?_)
      · refine k_cO (ok_o o_v0 (by decide)) ?_
        refine ob2 hf fun x20 m21 ex hf => ?_
        refine k_b2 (un_X10_pushes hw o_v0 ex) fun hw => ?_
        exact u_X10_leadsFrom_130 hw o_v0 ih19 hf
      · refine k_if hf (fun hf => ?_) (fun hf => ?_)
        · refine k_gR hw (ok_o o_v0 (by decide)) rfl hf fun a16 o_a16 hf => ?_
          refine k_aI (Or.inl rfl) (ka rfl o_a16) hf fun x17 hf => ?_
          refine k_cO (ok_o o_v0 (by decide)) ?_
          refine ob2 hf fun x18 m19 ex hf => ?_
          refine k_b2 (un_X10_pushes hw o_v0 ex) fun hw => ?_
          exact u_X10_leadsFrom_130 hw o_v0 ih19 hf
        · refine k_cO (ok_o o_v0 (by decide)) ?_
          refine ob2 hf fun x14 m15 ex hf => ?_
          refine k_b2 (un_X10_steps hw o_v0 ex) fun hw => ?_
          exact u_X10_leadsFrom_130 hw o_v0 ih19 hf
    · refine k_cO (ok_o o_v0 (by decide)) ?_
      refine ob2 hf fun x22 m23 ex hf => ?_
      refine k_b2 (un_X10_pushes hw o_v0 ex) fun hw => ?_
      exact u_X10_leadsFrom_130 hw o_v0 ih19 hf
def nl_X10_leadsFrom_28 (F : Nat) (s : List Sh) : Nat → Mem → Nat → Int32 → Int64 → Int64 → Int32 → Option (Int32 × Mem)
  | 0 => fun _ _ _ _ _ _ => none
  | n + 1 => fun m v0 v1 v2 v4 v6 => nb_X10_leadsFrom_28 F s (nl_X10_leadsFrom_28 F s n) m v0 v1 v2 v4 v6
theorem ul_X10_leadsFrom_28 {F : Nat} {s : List Sh} {m' : Mem} {r : Int32} (n : Nat) : ∀ (m : Mem) (v0 : Nat) (v1 : Int32) (v2 : Int64) (v4 : Int64) (v6 : Int32), GS s m → ok s v0 10 → nl_X10_leadsFrom_28 F s n m v0 v1 v2 v4 v6 = some (r, m') → J3 (l_X10_leadsFrom_28 F n (bl s m) v0 v1 v2 v4 v6) (r, bl s m') (GS s m') := by
  induction n with
  | zero => intro m v0 v1 v2 v4 v6 hw o_v0 hf; cases hf
  | succ n ih => intro m v0 v1 v2 v4 v6 hw o_v0 hf; exact ub_X10_leadsFrom_28 (F := F) hw o_v0 ih hf
def nb_X10_leadsFrom_0 (F : Nat) (s : List Sh) (m : Mem) (v0 : Nat) (v1 : Int32) (v2 : Int64) (v4 : Int64) : Option (Int32 × Mem) := (m.2.2 v0 1).bind fun a1 => ((rdI s m a1 (2 : Int32)).bind fun x2 => ((m_X10_within (Int32.toInt64 v1) (0 : Int64) ((Int32.toInt64 ((x2 - (1 : Int32)))))).bind fun x3 => (if x3 = 0 then (some ((1 : Int32), m)) else (bindv (wI m v0 21 (0 : Int32)) fun m4 => (nl_X10_leadsFrom_28 F s F m4 v0 v1 v2 v4 (0 : Int32))))))
set_option maxRecDepth 20000 in
theorem u_X10_leadsFrom_0 {F : Nat} {s : List Sh} {m m' : Mem} {r : Int32} {v0 : Nat} {v1 : Int32} {v2 : Int64} {v4 : Int64} (hw : GS s m) (o_v0 : ok s v0 10) (hf : nb_X10_leadsFrom_0 F s m v0 v1 v2 v4 = some (r, m')) : J3 (b_X10_leadsFrom_0 F (bl s m) v0 v1 v2 v4) (r, bl s m') (GS s m') := by
  unfold nb_X10_leadsFrom_0 at hf
  unfold b_X10_leadsFrom_0
  refine k_gR hw (ok_o o_v0 (by decide)) rfl hf fun a1 o_a1 hf => ?_
  refine k_aI (Or.inl rfl) (ka rfl o_a1) hf fun x2 hf => ?_
  refine k_pure hf fun x3 hf => ?_
  refine k_if hf (fun hf => ?_) (fun hf => ?_)
  · exact k_ret hw hf
  · refine k_pI hw (ok_o o_v0 (by decide)) rfl hf fun m4 hw hf => ?_
    exact ul_X10_leadsFrom_28 F _ _ _ _ _ _ hw o_v0 hf
def n_X10_leadsFrom (F : Nat) (s : List Sh) (m : Mem) (p0 : Nat) (p1 : Int32) (p2 : Int64) (p4 : Int64) : Option (Int32 × Mem) := nb_X10_leadsFrom_0 F s m p0 p1 p2 p4
theorem un_X10_leadsFrom {F : Nat} {s : List Sh} {m m' : Mem} {p0 : Nat} {p1 : Int32} {p2 : Int64} {p4 : Int64} {r : Int32} (hw : GS s m) (o_p0 : ok s p0 10) (ex : n_X10_leadsFrom F s m p0 p1 p2 p4 = some (r, m')) : J3 (m_X10_leadsFrom F (bl s m) p0 p1 p2 p4) (r, bl s m') (GS s m') := u_X10_leadsFrom_0 hw o_p0 ex
/-! FractionLiftModel.leadsNow(I)I over the memory -/
def nb_X10_leadsNow_0 (F : Nat) (s : List Sh) (m : Mem) (v0 : Nat) (v1 : Int32) : Option (Int32 × Mem) := (m.2.2 v0 1).bind fun a1 => ((rdI s m a1 (7 : Int32)).bind fun x2 => ((m.2.2 v0 1).bind fun a3 => ((rdI s m a3 (8 : Int32)).bind fun x4 => (bind2 (n_X10_leadsFrom F s m v0 v1 (Int32.toInt64 x2) (Int32.toInt64 x4)) fun x5 m6 => (some (x5, m6))))))
set_option maxRecDepth 20000 in
theorem u_X10_leadsNow_0 {F : Nat} {s : List Sh} {m m' : Mem} {r : Int32} {v0 : Nat} {v1 : Int32} (hw : GS s m) (o_v0 : ok s v0 10) (hf : nb_X10_leadsNow_0 F s m v0 v1 = some (r, m')) : J3 (b_X10_leadsNow_0 F (bl s m) v0 v1) (r, bl s m') (GS s m') := by
  unfold nb_X10_leadsNow_0 at hf
  unfold b_X10_leadsNow_0
  refine k_gR hw (ok_o o_v0 (by decide)) rfl hf fun a1 o_a1 hf => ?_
  refine k_aI (Or.inl rfl) (ka rfl o_a1) hf fun x2 hf => ?_
  refine k_gR hw (ok_o o_v0 (by decide)) rfl hf fun a3 o_a3 hf => ?_
  refine k_aI (Or.inl rfl) (ka rfl o_a3) hf fun x4 hf => ?_
  refine k_cO (ok_o o_v0 (by decide)) ?_
  refine ob2 hf fun x5 m6 ex hf => ?_
  refine k_b2 (un_X10_leadsFrom hw o_v0 ex) fun hw => ?_
  exact k_ret hw hf
def n_X10_leadsNow (F : Nat) (s : List Sh) (m : Mem) (p0 : Nat) (p1 : Int32) : Option (Int32 × Mem) := nb_X10_leadsNow_0 F s m p0 p1
theorem un_X10_leadsNow {F : Nat} {s : List Sh} {m m' : Mem} {p0 : Nat} {p1 : Int32} {r : Int32} (hw : GS s m) (o_p0 : ok s p0 10) (ex : n_X10_leadsNow F s m p0 p1 = some (r, m')) : J3 (m_X10_leadsNow F (bl s m) p0 p1) (r, bl s m') (GS s m') := u_X10_leadsNow_0 hw o_p0 ex
/-! FractionLiftModel.asks(JJ)Z over the memory -/
def nb_X10_asks_0 (s : List Sh) (m : Mem) (v0 : Nat) (v1 : Int64) (v3 : Int64) : Option (Int32 × Mem) := if v3 < (1 : Int64) then (rZM (0 : Int32) m) else (if (0 : Int64) ≤ v1 then (bind2 (n_X10_lays s m v0 v1 v3) fun _ m2 => ((n_X10_isFloor s m2 v0 (m2.2.1 v0 15) (m2.2.1 v0 16)).bind fun x3 => (rZM x3 m2))) else (rZM (0 : Int32) m))
set_option maxRecDepth 20000 in
theorem u_X10_asks_0 {s : List Sh} {m m' : Mem} {r : Int32} {v0 : Nat} {v1 : Int64} {v3 : Int64} (hw : GS s m) (o_v0 : ok s v0 10) (hf : nb_X10_asks_0 s m v0 v1 v3 = some (r, m')) : J3 (b_X10_asks_0 (bl s m) v0 v1 v3) (r, bl s m') (GS s m') := by
  unfold nb_X10_asks_0 at hf
  unfold b_X10_asks_0
  refine k_if hf (fun hf => ?_) (fun hf => ?_)
  · exact k_rZ hw hf
  · refine k_if hf (fun hf => ?_) (fun hf => ?_)
    · refine k_cO (ok_o o_v0 (by decide)) ?_
      refine ob2 hf fun u m2 ex hf => ?_
      refine k_b2 (un_X10_lays hw o_v0 ex) fun hw => ?_
      refine k_gL (ok_o o_v0 (by decide)) rfl ?_
      refine k_gL (ok_o o_v0 (by decide)) rfl ?_
      refine k_cO (ok_o o_v0 (by decide)) ?_
      refine ob hf fun x3 ex hf => ?_
      refine k_b1 (un_X10_isFloor hw o_v0 ex) ?_
      exact k_rZ hw hf
    · exact k_rZ hw hf
def n_X10_asks (s : List Sh) (m : Mem) (p0 : Nat) (p1 : Int64) (p3 : Int64) : Option (Int32 × Mem) := nb_X10_asks_0 s m p0 p1 p3
theorem un_X10_asks {s : List Sh} {m m' : Mem} {p0 : Nat} {p1 : Int64} {p3 : Int64} {r : Int32} (hw : GS s m) (o_p0 : ok s p0 10) (ex : n_X10_asks s m p0 p1 p3 = some (r, m')) : J3 (m_X10_asks (bl s m) p0 p1 p3) (r, bl s m') (GS s m') := u_X10_asks_0 hw o_p0 ex
/-! FractionLiftModel.why(I)I over the memory -/
def nb_X10_why_0 (F : Nat) (s : List Sh) (m : Mem) (v0 : Nat) (v1 : Int32) : Option (Int32 × Mem) := bindv (wI m v0 0 (0 : Int32)) fun m1 => (bind2 (n_X10_leadsNow F s m1 v0 v1) fun x2 m3 => (some (x2, m3)))
set_option maxRecDepth 20000 in
theorem u_X10_why_0 {F : Nat} {s : List Sh} {m m' : Mem} {r : Int32} {v0 : Nat} {v1 : Int32} (hw : GS s m) (o_v0 : ok s v0 10) (hf : nb_X10_why_0 F s m v0 v1 = some (r, m')) : J3 (b_X10_why_0 F (bl s m) v0 v1) (r, bl s m') (GS s m') := by
  unfold nb_X10_why_0 at hf
  unfold b_X10_why_0
  refine k_pI hw (ok_o o_v0 (by decide)) rfl hf fun m1 hw hf => ?_
  refine k_cO (ok_o o_v0 (by decide)) ?_
  refine ob2 hf fun x2 m3 ex hf => ?_
  refine k_b2 (un_X10_leadsNow hw o_v0 ex) fun hw => ?_
  exact k_ret hw hf
def n_X10_why (F : Nat) (s : List Sh) (m : Mem) (p0 : Nat) (p1 : Int32) : Option (Int32 × Mem) := nb_X10_why_0 F s m p0 p1
theorem un_X10_why {F : Nat} {s : List Sh} {m m' : Mem} {p0 : Nat} {p1 : Int32} {r : Int32} (hw : GS s m) (o_p0 : ok s p0 10) (ex : n_X10_why F s m p0 p1 = some (r, m')) : J3 (m_X10_why F (bl s m) p0 p1) (r, bl s m') (GS s m') := u_X10_why_0 hw o_p0 ex
/-! FractionLiftModel.leads(IIII)I over the memory -/
def nb_X10_leads_0 (F : Nat) (s : List Sh) (m : Mem) (v0 : Nat) (v1 : Int32) (v2 : Int32) (v3 : Int32) (v4 : Int32) : Option (Int32 × Mem) := bindv (wI m v0 0 (0 : Int32)) fun m1 => ((m_X10_within (Int32.toInt64 v4) (0 : Int64) (1 : Int64)).bind fun x2 => (if x2 = 0 then (some ((-2 : Int32), m1)) else (bind2 (n_X10_asks s m1 v0 (Int32.toInt64 v2) (Int32.toInt64 v3)) fun x3 m4 => (if x3 = 0 then (some ((-3 : Int32), m4)) else (bind2 (n_X10_leadsFrom F s m4 v0 v1 (m4.2.1 v0 15) (m4.2.1 v0 16)) fun x5 m6 => (if x5 = 0 then (if v4 = 0 then (some (((Int64.toInt32 (m6.2.1 v0 15))), m6)) else (some (((Int64.toInt32 (m6.2.1 v0 16))), m6))) else (some ((((-10 : Int32) - x5)), m6))))))))
set_option maxRecDepth 20000 in
theorem u_X10_leads_0 {F : Nat} {s : List Sh} {m m' : Mem} {r : Int32} {v0 : Nat} {v1 : Int32} {v2 : Int32} {v3 : Int32} {v4 : Int32} (hw : GS s m) (o_v0 : ok s v0 10) (hf : nb_X10_leads_0 F s m v0 v1 v2 v3 v4 = some (r, m')) : J3 (b_X10_leads_0 F (bl s m) v0 v1 v2 v3 v4) (r, bl s m') (GS s m') := by
  unfold nb_X10_leads_0 at hf
  unfold b_X10_leads_0
  refine k_pI hw (ok_o o_v0 (by decide)) rfl hf fun m1 hw hf => ?_
  refine k_pure hf fun x2 hf => ?_
  refine k_if hf (fun hf => ?_) (fun hf => ?_)
  · exact k_ret hw hf
  · refine k_cO (ok_o o_v0 (by decide)) ?_
    refine ob2 hf fun x3 m4 ex hf => ?_
    refine k_b2 (un_X10_asks hw o_v0 ex) fun hw => ?_
    refine k_if hf (fun hf => ?_) (fun hf => ?_)
    · exact k_ret hw hf
    · refine k_gL (ok_o o_v0 (by decide)) rfl ?_
      refine k_gL (ok_o o_v0 (by decide)) rfl ?_
      refine k_cO (ok_o o_v0 (by decide)) ?_
      refine ob2 hf fun x5 m6 ex hf => ?_
      refine k_b2 (un_X10_leadsFrom hw o_v0 ex) fun hw => ?_
      refine k_if hf (fun hf => ?_) (fun hf => ?_)
      · refine k_if hf (fun hf => ?_) (fun hf => ?_)
        · refine k_gL (ok_o o_v0 (by decide)) rfl ?_
          exact k_ret hw hf
        · refine k_gL (ok_o o_v0 (by decide)) rfl ?_
          exact k_ret hw hf
      · exact k_ret hw hf
def n_X10_leads (F : Nat) (s : List Sh) (m : Mem) (p0 : Nat) (p1 : Int32) (p2 : Int32) (p3 : Int32) (p4 : Int32) : Option (Int32 × Mem) := nb_X10_leads_0 F s m p0 p1 p2 p3 p4
theorem un_X10_leads {F : Nat} {s : List Sh} {m m' : Mem} {p0 : Nat} {p1 : Int32} {p2 : Int32} {p3 : Int32} {p4 : Int32} {r : Int32} (hw : GS s m) (o_p0 : ok s p0 10) (ex : n_X10_leads F s m p0 p1 p2 p3 p4 = some (r, m')) : J3 (m_X10_leads F (bl s m) p0 p1 p2 p3 p4) (r, bl s m') (GS s m') := u_X10_leads_0 hw o_p0 ex
/-! FractionLiftModel.presses(I)I over the memory -/
def nb_X10_presses_89 (F : Nat) (s : List Sh) (m : Mem) (v0 : Nat) : Option (Int32 × Mem) := (m.2.2 v0 1).bind fun a1 => ((m.2.2 v0 1).bind fun a2 => ((rdI s m a2 (73 : Int32)).bind fun x3 => ((m.2.2 v0 1).bind fun a4 => ((rdI s m a4 (7 : Int32)).bind fun x5 => ((stI s m a1 (((74 : Int32) + x3)) x5).bind fun m6 => ((m6.2.2 v0 1).bind fun a7 => ((m6.2.2 v0 1).bind fun a8 => ((rdI s m6 a8 (73 : Int32)).bind fun x9 => ((m6.2.2 v0 1).bind fun a10 => ((rdI s m6 a10 (8 : Int32)).bind fun x11 => ((stI s m6 a7 (((86 : Int32) + x9)) x11).bind fun m12 => ((m12.2.2 v0 1).bind fun a13 => ((rdI s m12 a13 (73 : Int32)).bind fun x14 => ((stI s m12 a13 (73 : Int32) ((x14 + (1 : Int32)))).bind fun m15 => ((m15.2.2 v0 1).bind fun a16 => ((stI s m15 a16 (7 : Int32) ((Int64.toInt32 (m15.2.1 v0 15)))).bind fun m17 => ((m17.2.2 v0 1).bind fun a18 => ((stI s m17 a18 (8 : Int32) ((Int64.toInt32 (m17.2.1 v0 16)))).bind fun m19 => ((m19.2.2 v0 1).bind fun a20 => ((rdI s m19 a20 (6 : Int32)).bind fun x21 => ((stI s m19 a20 (6 : Int32) ((x21 + (1 : Int32)))).bind fun m22 => (some ((0 : Int32), m22)))))))))))))))))))))))
set_option maxRecDepth 20000 in
theorem u_X10_presses_89 {F : Nat} {s : List Sh} {m m' : Mem} {r : Int32} {v0 : Nat} (hw : GS s m) (o_v0 : ok s v0 10) (hf : nb_X10_presses_89 F s m v0 = some (r, m')) : J3 (b_X10_presses_89 F (bl s m) v0) (r, bl s m') (GS s m') := by
  unfold nb_X10_presses_89 at hf
  unfold b_X10_presses_89
  refine k_gR hw (ok_o o_v0 (by decide)) rfl hf fun a1 o_a1 hf => ?_
  refine k_gR hw (ok_o o_v0 (by decide)) rfl hf fun a2 o_a2 hf => ?_
  refine k_aI (Or.inl rfl) (ka rfl o_a2) hf fun x3 hf => ?_
  refine k_gR hw (ok_o o_v0 (by decide)) rfl hf fun a4 o_a4 hf => ?_
  refine k_aI (Or.inl rfl) (ka rfl o_a4) hf fun x5 hf => ?_
  refine k_sI hw (ka rfl o_a1) hf fun m6 hw hf => ?_
  refine k_gR hw (ok_o o_v0 (by decide)) rfl hf fun a7 o_a7 hf => ?_
  refine k_gR hw (ok_o o_v0 (by decide)) rfl hf fun a8 o_a8 hf => ?_
  refine k_aI (Or.inl rfl) (ka rfl o_a8) hf fun x9 hf => ?_
  refine k_gR hw (ok_o o_v0 (by decide)) rfl hf fun a10 o_a10 hf => ?_
  refine k_aI (Or.inl rfl) (ka rfl o_a10) hf fun x11 hf => ?_
  refine k_sI hw (ka rfl o_a7) hf fun m12 hw hf => ?_
  refine k_gR hw (ok_o o_v0 (by decide)) rfl hf fun a13 o_a13 hf => ?_
  refine k_aI (Or.inl rfl) (ka rfl o_a13) hf fun x14 hf => ?_
  refine k_sI hw (ka rfl o_a13) hf fun m15 hw hf => ?_
  refine k_gR hw (ok_o o_v0 (by decide)) rfl hf fun a16 o_a16 hf => ?_
  refine k_gL (ok_o o_v0 (by decide)) rfl ?_
  refine k_sI hw (ka rfl o_a16) hf fun m17 hw hf => ?_
  refine k_gR hw (ok_o o_v0 (by decide)) rfl hf fun a18 o_a18 hf => ?_
  refine k_gL (ok_o o_v0 (by decide)) rfl ?_
  refine k_sI hw (ka rfl o_a18) hf fun m19 hw hf => ?_
  refine k_gR hw (ok_o o_v0 (by decide)) rfl hf fun a20 o_a20 hf => ?_
  refine k_aI (Or.inl rfl) (ka rfl o_a20) hf fun x21 hf => ?_
  refine k_sI hw (ka rfl o_a20) hf fun m22 hw hf => ?_
  exact k_ret hw hf
def nb_X10_presses_26 (F : Nat) (s : List Sh) (nself16 : Mem → Nat → Int32 → Option (Int32 × Mem)) (m : Mem) (v0 : Nat) (v3 : Int32) : Option (Int32 × Mem) := if (11 : Int32) ≤ v3 then ((m.2.2 v0 1).bind fun a1 => ((rdI s m a1 (73 : Int32)).bind fun x2 => ((stI s m a1 (73 : Int32) ((x2 - (1 : Int32)))).bind fun m3 => (nb_X10_presses_89 F s m3 v0)))) else ((m.2.2 v0 1).bind fun a4 => ((m.2.2 v0 1).bind fun a5 => ((rdI s m a5 (((((74 : Int32) + v3)) + (1 : Int32)))).bind fun x6 => ((stI s m a4 (((74 : Int32) + v3)) x6).bind fun m7 => ((m7.2.2 v0 1).bind fun a8 => ((m7.2.2 v0 1).bind fun a9 => ((rdI s m7 a9 (((((86 : Int32) + v3)) + (1 : Int32)))).bind fun x10 => ((stI s m7 a8 (((86 : Int32) + v3)) x10).bind fun m11 => (bindv (v3 + (1)) fun x12 => (nself16 m11 v0 x12))))))))))
set_option maxRecDepth 20000 in
theorem ub_X10_presses_26 {F : Nat} {s : List Sh} {self16 : PH → Nat → Int32 → Option (Int32 × PH)} {nself16 : Mem → Nat → Int32 → Option (Int32 × Mem)} {m m' : Mem} {r : Int32} {v0 : Nat} {v3 : Int32} (hw : GS s m) (o_v0 : ok s v0 10) (ih16 : ∀ (m : Mem) (v0 : Nat) (v3 : Int32), GS s m → ok s v0 10 → nself16 m v0 v3 = some (r, m') → J3 (self16 (bl s m) v0 v3) (r, bl s m') (GS s m')) (hf : nb_X10_presses_26 F s nself16 m v0 v3 = some (r, m')) : J3 (b_X10_presses_26 F self16 (bl s m) v0 v3) (r, bl s m') (GS s m') := by
  unfold nb_X10_presses_26 at hf
  unfold b_X10_presses_26
  refine k_if hf (fun hf => ?_) (fun hf => ?_)
  · refine k_gR hw (ok_o o_v0 (by decide)) rfl hf fun a1 o_a1 hf => ?_
    refine k_aI (Or.inl rfl) (ka rfl o_a1) hf fun x2 hf => ?_
    refine k_sI hw (ka rfl o_a1) hf fun m3 hw hf => ?_
    exact u_X10_presses_89 hw o_v0 hf
  · refine k_gR hw (ok_o o_v0 (by decide)) rfl hf fun a4 o_a4 hf => ?_
    refine k_gR hw (ok_o o_v0 (by decide)) rfl hf fun a5 o_a5 hf => ?_
    refine k_aI (Or.inl rfl) (ka rfl o_a5) hf fun x6 hf => ?_
    refine k_sI hw (ka rfl o_a4) hf fun m7 hw hf => ?_
    refine k_gR hw (ok_o o_v0 (by decide)) rfl hf fun a8 o_a8 hf => ?_
    refine k_gR hw (ok_o o_v0 (by decide)) rfl hf fun a9 o_a9 hf => ?_
    refine k_aI (Or.inl rfl) (ka rfl o_a9) hf fun x10 hf => ?_
    refine k_sI hw (ka rfl o_a8) hf fun m11 hw hf => ?_
    refine k_bv hf fun x12 hf => ?_
    exact ih16 _ _ _ hw o_v0 hf
def nl_X10_presses_26 (F : Nat) (s : List Sh) : Nat → Mem → Nat → Int32 → Option (Int32 × Mem)
  | 0 => fun _ _ _ => none
  | n + 1 => fun m v0 v3 => nb_X10_presses_26 F s (nl_X10_presses_26 F s n) m v0 v3
theorem ul_X10_presses_26 {F : Nat} {s : List Sh} {m' : Mem} {r : Int32} (n : Nat) : ∀ (m : Mem) (v0 : Nat) (v3 : Int32), GS s m → ok s v0 10 → nl_X10_presses_26 F s n m v0 v3 = some (r, m') → J3 (l_X10_presses_26 F n (bl s m) v0 v3) (r, bl s m') (GS s m') := by
  induction n with
  | zero => intro m v0 v3 hw o_v0 hf; cases hf
  | succ n ih => intro m v0 v3 hw o_v0 hf; exact ub_X10_presses_26 (F := F) hw o_v0 ih hf
def nb_X10_presses_0 (F : Nat) (s : List Sh) (m : Mem) (v0 : Nat) (v1 : Int32) : Option (Int32 × Mem) := bind2 (n_X10_leadsNow F s m v0 v1) fun x1 m2 => (if x1 = 0 then ((m2.2.2 v0 1).bind fun a3 => ((rdI s m2 a3 (73 : Int32)).bind fun x4 => (if x4 = (12 : Int32) then (nl_X10_presses_26 F s F m2 v0 (0 : Int32)) else (nb_X10_presses_89 F s m2 v0)))) else (some (x1, m2)))
set_option maxRecDepth 20000 in
theorem u_X10_presses_0 {F : Nat} {s : List Sh} {m m' : Mem} {r : Int32} {v0 : Nat} {v1 : Int32} (hw : GS s m) (o_v0 : ok s v0 10) (hf : nb_X10_presses_0 F s m v0 v1 = some (r, m')) : J3 (b_X10_presses_0 F (bl s m) v0 v1) (r, bl s m') (GS s m') := by
  unfold nb_X10_presses_0 at hf
  unfold b_X10_presses_0
  refine k_cO (ok_o o_v0 (by decide)) ?_
  refine ob2 hf fun x1 m2 ex hf => ?_
  refine k_b2 (un_X10_leadsNow hw o_v0 ex) fun hw => ?_
  refine k_if hf (fun hf => ?_) (fun hf => ?_)
  · refine k_gR hw (ok_o o_v0 (by decide)) rfl hf fun a3 o_a3 hf => ?_
    refine k_aI (Or.inl rfl) (ka rfl o_a3) hf fun x4 hf => ?_
    refine k_if hf (fun hf => ?_) (fun hf => ?_)
    · exact ul_X10_presses_26 F _ _ _ hw o_v0 hf
    · exact u_X10_presses_89 hw o_v0 hf
  · exact k_ret hw hf
def n_X10_presses (F : Nat) (s : List Sh) (m : Mem) (p0 : Nat) (p1 : Int32) : Option (Int32 × Mem) := nb_X10_presses_0 F s m p0 p1
theorem un_X10_presses {F : Nat} {s : List Sh} {m m' : Mem} {p0 : Nat} {p1 : Int32} {r : Int32} (hw : GS s m) (o_p0 : ok s p0 10) (ex : n_X10_presses F s m p0 p1 = some (r, m')) : J3 (m_X10_presses F (bl s m) p0 p1) (r, bl s m') (GS s m') := u_X10_presses_0 hw o_p0 ex
/-! FractionLiftModel.press(I)I over the memory -/
def nb_X10_press_0 (F : Nat) (s : List Sh) (m : Mem) (v0 : Nat) (v1 : Int32) : Option (Int32 × Mem) := bindv (wI m v0 0 (0 : Int32)) fun m1 => (bind2 (n_X10_presses F s m1 v0 v1) fun x2 m3 => (if x2 = 0 then ((m3.2.2 v0 1).bind fun a4 => ((rdI s m3 a4 (73 : Int32)).bind fun x5 => (some (x5, m3)))) else (some ((((-10 : Int32) - x2)), m3))))
set_option maxRecDepth 20000 in
theorem u_X10_press_0 {F : Nat} {s : List Sh} {m m' : Mem} {r : Int32} {v0 : Nat} {v1 : Int32} (hw : GS s m) (o_v0 : ok s v0 10) (hf : nb_X10_press_0 F s m v0 v1 = some (r, m')) : J3 (b_X10_press_0 F (bl s m) v0 v1) (r, bl s m') (GS s m') := by
  unfold nb_X10_press_0 at hf
  unfold b_X10_press_0
  refine k_pI hw (ok_o o_v0 (by decide)) rfl hf fun m1 hw hf => ?_
  refine k_cO (ok_o o_v0 (by decide)) ?_
  refine ob2 hf fun x2 m3 ex hf => ?_
  refine k_b2 (un_X10_presses hw o_v0 ex) fun hw => ?_
  refine k_if hf (fun hf => ?_) (fun hf => ?_)
  · refine k_gR hw (ok_o o_v0 (by decide)) rfl hf fun a4 o_a4 hf => ?_
    refine k_aI (Or.inl rfl) (ka rfl o_a4) hf fun x5 hf => ?_
    exact k_ret hw hf
  · exact k_ret hw hf
def n_X10_press (F : Nat) (s : List Sh) (m : Mem) (p0 : Nat) (p1 : Int32) : Option (Int32 × Mem) := nb_X10_press_0 F s m p0 p1
theorem un_X10_press {F : Nat} {s : List Sh} {m m' : Mem} {p0 : Nat} {p1 : Int32} {r : Int32} (hw : GS s m) (o_p0 : ok s p0 10) (ex : n_X10_press F s m p0 p1 = some (r, m')) : J3 (m_X10_press F (bl s m) p0 p1) (r, bl s m') (GS s m') := u_X10_press_0 hw o_p0 ex
/-! FractionLiftModel.undo(I)I over the memory -/
def nb_X10_undo_0 (s : List Sh) (m : Mem) (v0 : Nat) (v1 : Int32) : Option (Int32 × Mem) := bindv (wI m v0 0 (0 : Int32)) fun m1 => ((m_X10_within (Int32.toInt64 v1) (1 : Int64) (12 : Int64)).bind fun x2 => (if x2 = 0 then (some ((-3 : Int32), m1)) else ((m1.2.2 v0 1).bind fun a3 => ((rdI s m1 a3 (73 : Int32)).bind fun x4 => (if v1 ≤ x4 then ((m1.2.2 v0 1).bind fun a5 => ((rdI s m1 a5 (73 : Int32)).bind fun x6 => ((stI s m1 a5 (73 : Int32) (x6 - v1)).bind fun m7 => ((m7.2.2 v0 1).bind fun a8 => ((m7.2.2 v0 1).bind fun a9 => ((m7.2.2 v0 1).bind fun a10 => ((rdI s m7 a10 (73 : Int32)).bind fun x11 => ((rdI s m7 a9 (((74 : Int32) + x11))).bind fun x12 => ((stI s m7 a8 (7 : Int32) x12).bind fun m13 => ((m13.2.2 v0 1).bind fun a14 => ((m13.2.2 v0 1).bind fun a15 => ((m13.2.2 v0 1).bind fun a16 => ((rdI s m13 a16 (73 : Int32)).bind fun x17 => ((rdI s m13 a15 (((86 : Int32) + x17))).bind fun x18 => ((stI s m13 a14 (8 : Int32) x18).bind fun m19 => ((m19.2.2 v0 1).bind fun a20 => ((rdI s m19 a20 (73 : Int32)).bind fun x21 => (some (x21, m19))))))))))))))))))) else (some ((-3 : Int32), m1)))))))
set_option maxRecDepth 20000 in
theorem u_X10_undo_0 {s : List Sh} {m m' : Mem} {r : Int32} {v0 : Nat} {v1 : Int32} (hw : GS s m) (o_v0 : ok s v0 10) (hf : nb_X10_undo_0 s m v0 v1 = some (r, m')) : J3 (b_X10_undo_0 (bl s m) v0 v1) (r, bl s m') (GS s m') := by
  unfold nb_X10_undo_0 at hf
  unfold b_X10_undo_0
  refine k_pI hw (ok_o o_v0 (by decide)) rfl hf fun m1 hw hf => ?_
  refine k_pure hf fun x2 hf => ?_
  refine k_if hf (fun hf => ?_) (fun hf => ?_)
  · exact k_ret hw hf
  · refine k_gR hw (ok_o o_v0 (by decide)) rfl hf fun a3 o_a3 hf => ?_
    refine k_aI (Or.inl rfl) (ka rfl o_a3) hf fun x4 hf => ?_
    refine k_if hf (fun hf => ?_) (fun hf => ?_)
    · refine k_gR hw (ok_o o_v0 (by decide)) rfl hf fun a5 o_a5 hf => ?_
      refine k_aI (Or.inl rfl) (ka rfl o_a5) hf fun x6 hf => ?_
      refine k_sI hw (ka rfl o_a5) hf fun m7 hw hf => ?_
      refine k_gR hw (ok_o o_v0 (by decide)) rfl hf fun a8 o_a8 hf => ?_
      refine k_gR hw (ok_o o_v0 (by decide)) rfl hf fun a9 o_a9 hf => ?_
      refine k_gR hw (ok_o o_v0 (by decide)) rfl hf fun a10 o_a10 hf => ?_
      refine k_aI (Or.inl rfl) (ka rfl o_a10) hf fun x11 hf => ?_
      refine k_aI (Or.inl rfl) (ka rfl o_a9) hf fun x12 hf => ?_
      refine k_sI hw (ka rfl o_a8) hf fun m13 hw hf => ?_
      refine k_gR hw (ok_o o_v0 (by decide)) rfl hf fun a14 o_a14 hf => ?_
      refine k_gR hw (ok_o o_v0 (by decide)) rfl hf fun a15 o_a15 hf => ?_
      refine k_gR hw (ok_o o_v0 (by decide)) rfl hf fun a16 o_a16 hf => ?_
      refine k_aI (Or.inl rfl) (ka rfl o_a16) hf fun x17 hf => ?_
      refine k_aI (Or.inl rfl) (ka rfl o_a15) hf fun x18 hf => ?_
      refine k_sI hw (ka rfl o_a14) hf fun m19 hw hf => ?_
      refine k_gR hw (ok_o o_v0 (by decide)) rfl hf fun a20 o_a20 hf => ?_
      refine k_aI (Or.inl rfl) (ka rfl o_a20) hf fun x21 hf => ?_
      exact k_ret hw hf
    · exact k_ret hw hf
def n_X10_undo (s : List Sh) (m : Mem) (p0 : Nat) (p1 : Int32) : Option (Int32 × Mem) := nb_X10_undo_0 s m p0 p1
theorem un_X10_undo {s : List Sh} {m m' : Mem} {p0 : Nat} {p1 : Int32} {r : Int32} (hw : GS s m) (o_p0 : ok s p0 10) (ex : n_X10_undo s m p0 p1 = some (r, m')) : J3 (m_X10_undo (bl s m) p0 p1) (r, bl s m') (GS s m') := u_X10_undo_0 hw o_p0 ex
/-! FractionLiftModel.noRow(II)I over the memory -/
def nb_X10_noRow_48 (s : List Sh) (m : Mem) (s0 : Int64) (s1 : Int64) : Option Int32 := (m_X10_within s0 s1 (8 : Int64)).bind fun x1 => (if x1 = 0 then (some (-4 : Int32)) else (some (0 : Int32)))
set_option maxRecDepth 20000 in
theorem u_X10_noRow_48 {s : List Sh} {m : Mem} {r : Int32} {s0 : Int64} {s1 : Int64} (hw : GS s m) (hf : nb_X10_noRow_48 s m s0 s1 = some r) : J3 (b_X10_noRow_48 (bl s m) s0 s1) r True := by
  unfold nb_X10_noRow_48 at hf
  unfold b_X10_noRow_48
  refine k_pure hf fun x1 hf => ?_
  refine k_if hf (fun hf => ?_) (fun hf => ?_)
  · exact k_retP hf
  · exact k_retP hf
def nb_X10_noRow_0 (s : List Sh) (m : Mem) (v0 : Nat) (v1 : Int32) (v2 : Int32) : Option Int32 := (m_X10_within (Int32.toInt64 v1) (0 : Int64) (3 : Int64)).bind fun x1 => (if x1 = 0 then (some (-2 : Int32)) else ((m.2.2 v0 52).bind fun a2 => ((rdI s m a2 v1).bind fun x3 => (if x3 = (-1 : Int32) then (some (-6 : Int32)) else ((m.2.2 v0 53).bind fun a4 => ((rdI s m a4 v1).bind fun x5 => (if v2 = (8 : Int32) then (nb_X10_noRow_48 s m (Int32.toInt64 x5) (1 : Int64)) else (nb_X10_noRow_48 s m (Int32.toInt64 x5) (2 : Int64)))))))))
set_option maxRecDepth 20000 in
theorem u_X10_noRow_0 {s : List Sh} {m : Mem} {r : Int32} {v0 : Nat} {v1 : Int32} {v2 : Int32} (hw : GS s m) (o_v0 : ok s v0 10) (hf : nb_X10_noRow_0 s m v0 v1 v2 = some r) : J3 (b_X10_noRow_0 (bl s m) v0 v1 v2) r True := by
  unfold nb_X10_noRow_0 at hf
  unfold b_X10_noRow_0
  refine k_pure hf fun x1 hf => ?_
  refine k_if hf (fun hf => ?_) (fun hf => ?_)
  · exact k_retP hf
  · refine k_gR hw (ok_o o_v0 (by decide)) rfl hf fun a2 o_a2 hf => ?_
    refine k_aI (Or.inl rfl) (ka rfl o_a2) hf fun x3 hf => ?_
    refine k_if hf (fun hf => ?_) (fun hf => ?_)
    · exact k_retP hf
    · refine k_gR hw (ok_o o_v0 (by decide)) rfl hf fun a4 o_a4 hf => ?_
      refine k_aI (Or.inl rfl) (ka rfl o_a4) hf fun x5 hf => ?_
      refine k_if hf (fun hf => ?_) (fun hf => ?_)
      · exact u_X10_noRow_48 hw hf
      · exact u_X10_noRow_48 hw hf
def n_X10_noRow (s : List Sh) (m : Mem) (p0 : Nat) (p1 : Int32) (p2 : Int32) : Option Int32 := nb_X10_noRow_0 s m p0 p1 p2
theorem un_X10_noRow {s : List Sh} {m : Mem} {p0 : Nat} {p1 : Int32} {p2 : Int32} {r : Int32} (hw : GS s m) (o_p0 : ok s p0 10) (ex : n_X10_noRow s m p0 p1 p2 = some r) : J3 (m_X10_noRow (bl s m) p0 p1 p2) r True := u_X10_noRow_0 hw o_p0 ex
/-! FractionLiftModel.told(II)I over the memory -/
def nb_X10_told_0 (s : List Sh) (m : Mem) (v0 : Nat) (v1 : Int32) (v2 : Int32) : Option Int32 := (m.2.2 v0 54).bind fun a1 => ((rdL s m a1 (((((40 : Int32) * v1)) + v2))).bind fun x2 => ((m.2.2 v0 1).bind fun a3 => ((rdI s m a3 (2 : Int32)).bind fun x4 => ((m_X10_within x2 (0 : Int64) ((Int32.toInt64 ((x4 - (1 : Int32)))))).bind fun x5 => (if x5 = 0 then (some (-1 : Int32)) else (some (Int64.toInt32 x2)))))))
set_option maxRecDepth 20000 in
theorem u_X10_told_0 {s : List Sh} {m : Mem} {r : Int32} {v0 : Nat} {v1 : Int32} {v2 : Int32} (hw : GS s m) (o_v0 : ok s v0 10) (hf : nb_X10_told_0 s m v0 v1 v2 = some r) : J3 (b_X10_told_0 (bl s m) v0 v1 v2) r True := by
  unfold nb_X10_told_0 at hf
  unfold b_X10_told_0
  refine k_gR hw (ok_o o_v0 (by decide)) rfl hf fun a1 o_a1 hf => ?_
  refine k_aL (ka rfl o_a1) hf fun x2 hf => ?_
  refine k_gR hw (ok_o o_v0 (by decide)) rfl hf fun a3 o_a3 hf => ?_
  refine k_aI (Or.inl rfl) (ka rfl o_a3) hf fun x4 hf => ?_
  refine k_pure hf fun x5 hf => ?_
  refine k_if hf (fun hf => ?_) (fun hf => ?_)
  · exact k_retP hf
  · exact k_retP hf
def n_X10_told (s : List Sh) (m : Mem) (p0 : Nat) (p1 : Int32) (p2 : Int32) : Option Int32 := nb_X10_told_0 s m p0 p1 p2
theorem un_X10_told {s : List Sh} {m : Mem} {p0 : Nat} {p1 : Int32} {p2 : Int32} {r : Int32} (hw : GS s m) (o_p0 : ok s p0 10) (ex : n_X10_told s m p0 p1 p2 = some r) : J3 (m_X10_told (bl s m) p0 p1 p2) r True := u_X10_told_0 hw o_p0 ex
/-! FractionLiftModel.judge(II)I over the memory -/
def nb_X10_judge_114 (F : Nat) (s : List Sh) (m : Mem) (v2 : Int32) (v4 : Int64) (v6 : Int64) (v8 : Int32) (v9 : Int32) : Option (Int32 × Mem) := if v2 = 0 then (if v9 = 0 then (some ((-1 : Int32), m)) else (some (v8, m))) else (if v2 = (1 : Int32) then (some (v9, m)) else (if v2 = (2 : Int32) then (some ((Int64.toInt32 v4), m)) else (some ((Int64.toInt32 v6), m))))
set_option maxRecDepth 20000 in
theorem u_X10_judge_114 {F : Nat} {s : List Sh} {m m' : Mem} {r : Int32} {v2 : Int32} {v4 : Int64} {v6 : Int64} {v8 : Int32} {v9 : Int32} (hw : GS s m) (hf : nb_X10_judge_114 F s m v2 v4 v6 v8 v9 = some (r, m')) : J3 (b_X10_judge_114 F (bl s m) v2 v4 v6 v8 v9) (r, bl s m') (GS s m') := by
  unfold nb_X10_judge_114 at hf
  unfold b_X10_judge_114
  refine k_if hf (fun hf => ?_) (fun hf => ?_)
  · refine k_if hf (fun hf => ?_) (fun hf => ?_)
    · exact k_ret hw hf
    · exact k_ret hw hf
  · refine k_if hf (fun hf => ?_) (fun hf => ?_)
    · exact k_ret hw hf
    · refine k_if hf (fun hf => ?_) (fun hf => ?_)
      · exact k_ret hw hf
      · exact k_ret hw hf
def nb_X10_judge_60 (F : Nat) (s : List Sh) (nself36 : Mem → Nat → Int32 → Int32 → Int64 → Int64 → Int32 → Int32 → Option (Int32 × Mem)) (m : Mem) (v0 : Nat) (v1 : Int32) (v2 : Int32) (v4 : Int64) (v6 : Int64) (v8 : Int32) (v9 : Int32) : Option (Int32 × Mem) := (m.2.2 v0 53).bind fun a1 => ((rdI s m a1 v1).bind fun x2 => (if x2 ≤ v8 then (nb_X10_judge_114 F s m v2 v4 v6 v8 v9) else ((n_X10_told s m v0 v1 v8).bind fun x3 => (bind2 (n_X10_leadsFrom F s m v0 x3 v4 v6) fun x4 m5 => (if x4 = 0 then (bindv (v8 + (1)) fun x6 => (nself36 m5 v0 v1 v2 (m5.2.1 v0 15) (m5.2.1 v0 16) x6 x4)) else (nb_X10_judge_114 F s m5 v2 v4 v6 v8 x4))))))
set_option maxRecDepth 20000 in
theorem ub_X10_judge_60 {F : Nat} {s : List Sh} {self36 : PH → Nat → Int32 → Int32 → Int64 → Int64 → Int32 → Int32 → Option (Int32 × PH)} {nself36 : Mem → Nat → Int32 → Int32 → Int64 → Int64 → Int32 → Int32 → Option (Int32 × Mem)} {m m' : Mem} {r : Int32} {v0 : Nat} {v1 : Int32} {v2 : Int32} {v4 : Int64} {v6 : Int64} {v8 : Int32} {v9 : Int32} (hw : GS s m) (o_v0 : ok s v0 10) (ih36 : ∀ (m : Mem) (v0 : Nat) (v1 : Int32) (v2 : Int32) (v4 : Int64) (v6 : Int64) (v8 : Int32) (v9 : Int32), GS s m → ok s v0 10 → nself36 m v0 v1 v2 v4 v6 v8 v9 = some (r, m') → J3 (self36 (bl s m) v0 v1 v2 v4 v6 v8 v9) (r, bl s m') (GS s m')) (hf : nb_X10_judge_60 F s nself36 m v0 v1 v2 v4 v6 v8 v9 = some (r, m')) : J3 (b_X10_judge_60 F self36 (bl s m) v0 v1 v2 v4 v6 v8 v9) (r, bl s m') (GS s m') := by
  unfold nb_X10_judge_60 at hf
  unfold b_X10_judge_60
  refine k_gR hw (ok_o o_v0 (by decide)) rfl hf fun a1 o_a1 hf => ?_
  refine k_aI (Or.inl rfl) (ka rfl o_a1) hf fun x2 hf => ?_
  refine k_if hf (fun hf => ?_) (fun hf => ?_)
  · exact u_X10_judge_114 hw hf
  · refine k_cO (ok_o o_v0 (by decide)) ?_
    refine ob hf fun x3 ex hf => ?_
    refine k_b1 (un_X10_told hw o_v0 ex) ?_
    refine k_cO (ok_o o_v0 (by decide)) ?_
    refine ob2 hf fun x4 m5 ex hf => ?_
    refine k_b2 (un_X10_leadsFrom hw o_v0 ex) fun hw => ?_
    refine k_if hf (fun hf => ?_) (fun hf => ?_)
    · refine k_gL (ok_o o_v0 (by decide)) rfl ?_
      refine k_gL (ok_o o_v0 (by decide)) rfl ?_
      refine k_bv hf fun x6 hf => ?_
      exact ih36 _ _ _ _ _ _ _ _ hw o_v0 hf
    · exact u_X10_judge_114 hw hf
def nl_X10_judge_60 (F : Nat) (s : List Sh) : Nat → Mem → Nat → Int32 → Int32 → Int64 → Int64 → Int32 → Int32 → Option (Int32 × Mem)
  | 0 => fun _ _ _ _ _ _ _ _ => none
  | n + 1 => fun m v0 v1 v2 v4 v6 v8 v9 => nb_X10_judge_60 F s (nl_X10_judge_60 F s n) m v0 v1 v2 v4 v6 v8 v9
theorem ul_X10_judge_60 {F : Nat} {s : List Sh} {m' : Mem} {r : Int32} (n : Nat) : ∀ (m : Mem) (v0 : Nat) (v1 : Int32) (v2 : Int32) (v4 : Int64) (v6 : Int64) (v8 : Int32) (v9 : Int32), GS s m → ok s v0 10 → nl_X10_judge_60 F s n m v0 v1 v2 v4 v6 v8 v9 = some (r, m') → J3 (l_X10_judge_60 F n (bl s m) v0 v1 v2 v4 v6 v8 v9) (r, bl s m') (GS s m') := by
  induction n with
  | zero => intro m v0 v1 v2 v4 v6 v8 v9 hw o_v0 hf; cases hf
  | succ n ih => intro m v0 v1 v2 v4 v6 v8 v9 hw o_v0 hf; exact ub_X10_judge_60 (F := F) hw o_v0 ih hf
def nb_X10_judge_0 (F : Nat) (s : List Sh) (m : Mem) (v0 : Nat) (v1 : Int32) (v2 : Int32) : Option (Int32 × Mem) := bindv (wI m v0 0 (0 : Int32)) fun m1 => ((m_X10_within (Int32.toInt64 v2) (0 : Int64) (3 : Int64)).bind fun x2 => (if x2 = 0 then (some ((-2 : Int32), m1)) else ((n_X10_noRow s m1 v0 v1 (8 : Int32)).bind fun x3 => (if x3 = 0 then ((m1.2.2 v0 1).bind fun a4 => ((rdI s m1 a4 (7 : Int32)).bind fun x5 => (bindv (Int32.toInt64 x5) fun x6 => ((m1.2.2 v0 1).bind fun a7 => ((rdI s m1 a7 (8 : Int32)).bind fun x8 => (bindv (Int32.toInt64 x8) fun x9 => (nl_X10_judge_60 F s F m1 v0 v1 v2 x6 x9 (0 : Int32) (0 : Int32)))))))) else (some (x3, m1))))))
set_option maxRecDepth 20000 in
theorem u_X10_judge_0 {F : Nat} {s : List Sh} {m m' : Mem} {r : Int32} {v0 : Nat} {v1 : Int32} {v2 : Int32} (hw : GS s m) (o_v0 : ok s v0 10) (hf : nb_X10_judge_0 F s m v0 v1 v2 = some (r, m')) : J3 (b_X10_judge_0 F (bl s m) v0 v1 v2) (r, bl s m') (GS s m') := by
  unfold nb_X10_judge_0 at hf
  unfold b_X10_judge_0
  refine k_pI hw (ok_o o_v0 (by decide)) rfl hf fun m1 hw hf => ?_
  refine k_pure hf fun x2 hf => ?_
  refine k_if hf (fun hf => ?_) (fun hf => ?_)
  · exact k_ret hw hf
  · refine k_cO (ok_o o_v0 (by decide)) ?_
    refine ob hf fun x3 ex hf => ?_
    refine k_b1 (un_X10_noRow hw o_v0 ex) ?_
    refine k_if hf (fun hf => ?_) (fun hf => ?_)
    · refine k_gR hw (ok_o o_v0 (by decide)) rfl hf fun a4 o_a4 hf => ?_
      refine k_aI (Or.inl rfl) (ka rfl o_a4) hf fun x5 hf => ?_
      refine k_bv hf fun x6 hf => ?_
      refine k_gR hw (ok_o o_v0 (by decide)) rfl hf fun a7 o_a7 hf => ?_
      refine k_aI (Or.inl rfl) (ka rfl o_a7) hf fun x8 hf => ?_
      refine k_bv hf fun x9 hf => ?_
      exact ul_X10_judge_60 F _ _ _ _ _ _ _ _ hw o_v0 hf
    · exact k_ret hw hf
def n_X10_judge (F : Nat) (s : List Sh) (m : Mem) (p0 : Nat) (p1 : Int32) (p2 : Int32) : Option (Int32 × Mem) := nb_X10_judge_0 F s m p0 p1 p2
theorem un_X10_judge {F : Nat} {s : List Sh} {m m' : Mem} {p0 : Nat} {p1 : Int32} {p2 : Int32} {r : Int32} (hw : GS s m) (o_p0 : ok s p0 10) (ex : n_X10_judge F s m p0 p1 p2 = some (r, m')) : J3 (m_X10_judge F (bl s m) p0 p1 p2) (r, bl s m') (GS s m') := u_X10_judge_0 hw o_p0 ex
/-! FractionLiftModel.perform(I)I over the memory -/
def nb_X10_perform_21 (F : Nat) (s : List Sh) (nself14 : Mem → Nat → Int32 → Int32 → Option (Int32 × Mem)) (m : Mem) (v0 : Nat) (v1 : Int32) (v3 : Int32) : Option (Int32 × Mem) := (m.2.2 v0 53).bind fun a1 => ((rdI s m a1 v1).bind fun x2 => (if x2 ≤ v3 then (some (v3, m)) else ((n_X10_told s m v0 v1 v3).bind fun x3 => (bind2 (n_X10_presses F s m v0 x3) fun x4 m5 => (if x4 = 0 then (bindv (v3 + (1)) fun x6 => (nself14 m5 v0 v1 x6)) else (some (v3, m5)))))))
set_option maxRecDepth 20000 in
theorem ub_X10_perform_21 {F : Nat} {s : List Sh} {self14 : PH → Nat → Int32 → Int32 → Option (Int32 × PH)} {nself14 : Mem → Nat → Int32 → Int32 → Option (Int32 × Mem)} {m m' : Mem} {r : Int32} {v0 : Nat} {v1 : Int32} {v3 : Int32} (hw : GS s m) (o_v0 : ok s v0 10) (ih14 : ∀ (m : Mem) (v0 : Nat) (v1 : Int32) (v3 : Int32), GS s m → ok s v0 10 → nself14 m v0 v1 v3 = some (r, m') → J3 (self14 (bl s m) v0 v1 v3) (r, bl s m') (GS s m')) (hf : nb_X10_perform_21 F s nself14 m v0 v1 v3 = some (r, m')) : J3 (b_X10_perform_21 F self14 (bl s m) v0 v1 v3) (r, bl s m') (GS s m') := by
  unfold nb_X10_perform_21 at hf
  unfold b_X10_perform_21
  refine k_gR hw (ok_o o_v0 (by decide)) rfl hf fun a1 o_a1 hf => ?_
  refine k_aI (Or.inl rfl) (ka rfl o_a1) hf fun x2 hf => ?_
  refine k_if hf (fun hf => ?_) (fun hf => ?_)
  · exact k_ret hw hf
  · refine k_cO (ok_o o_v0 (by decide)) ?_
    refine ob hf fun x3 ex hf => ?_
    refine k_b1 (un_X10_told hw o_v0 ex) ?_
    refine k_cO (ok_o o_v0 (by decide)) ?_
    refine ob2 hf fun x4 m5 ex hf => ?_
    refine k_b2 (un_X10_presses hw o_v0 ex) fun hw => ?_
    refine k_if hf (fun hf => ?_) (fun hf => ?_)
    · refine k_bv hf fun x6 hf => ?_
      exact ih14 _ _ _ _ hw o_v0 hf
    · exact k_ret hw hf
def nl_X10_perform_21 (F : Nat) (s : List Sh) : Nat → Mem → Nat → Int32 → Int32 → Option (Int32 × Mem)
  | 0 => fun _ _ _ _ => none
  | n + 1 => fun m v0 v1 v3 => nb_X10_perform_21 F s (nl_X10_perform_21 F s n) m v0 v1 v3
theorem ul_X10_perform_21 {F : Nat} {s : List Sh} {m' : Mem} {r : Int32} (n : Nat) : ∀ (m : Mem) (v0 : Nat) (v1 : Int32) (v3 : Int32), GS s m → ok s v0 10 → nl_X10_perform_21 F s n m v0 v1 v3 = some (r, m') → J3 (l_X10_perform_21 F n (bl s m) v0 v1 v3) (r, bl s m') (GS s m') := by
  induction n with
  | zero => intro m v0 v1 v3 hw o_v0 hf; cases hf
  | succ n ih => intro m v0 v1 v3 hw o_v0 hf; exact ub_X10_perform_21 (F := F) hw o_v0 ih hf
def nb_X10_perform_0 (F : Nat) (s : List Sh) (m : Mem) (v0 : Nat) (v1 : Int32) : Option (Int32 × Mem) := bindv (wI m v0 0 (0 : Int32)) fun m1 => ((n_X10_noRow s m1 v0 v1 (8 : Int32)).bind fun x2 => (if x2 = 0 then (nl_X10_perform_21 F s F m1 v0 v1 (0 : Int32)) else (some (x2, m1))))
set_option maxRecDepth 20000 in
theorem u_X10_perform_0 {F : Nat} {s : List Sh} {m m' : Mem} {r : Int32} {v0 : Nat} {v1 : Int32} (hw : GS s m) (o_v0 : ok s v0 10) (hf : nb_X10_perform_0 F s m v0 v1 = some (r, m')) : J3 (b_X10_perform_0 F (bl s m) v0 v1) (r, bl s m') (GS s m') := by
  unfold nb_X10_perform_0 at hf
  unfold b_X10_perform_0
  refine k_pI hw (ok_o o_v0 (by decide)) rfl hf fun m1 hw hf => ?_
  refine k_cO (ok_o o_v0 (by decide)) ?_
  refine ob hf fun x2 ex hf => ?_
  refine k_b1 (un_X10_noRow hw o_v0 ex) ?_
  refine k_if hf (fun hf => ?_) (fun hf => ?_)
  · exact ul_X10_perform_21 F _ _ _ _ hw o_v0 hf
  · exact k_ret hw hf
def n_X10_perform (F : Nat) (s : List Sh) (m : Mem) (p0 : Nat) (p1 : Int32) : Option (Int32 × Mem) := nb_X10_perform_0 F s m p0 p1
theorem un_X10_perform {F : Nat} {s : List Sh} {m m' : Mem} {p0 : Nat} {p1 : Int32} {r : Int32} (hw : GS s m) (o_p0 : ok s p0 10) (ex : n_X10_perform F s m p0 p1 = some (r, m')) : J3 (m_X10_perform F (bl s m) p0 p1) (r, bl s m') (GS s m') := u_X10_perform_0 hw o_p0 ex
/-! FractionLiftModel.draw(I)I over the memory -/
def nb_X10_draw_0 (s : List Sh) (m : Mem) (v0 : Nat) (v1 : Int32) : Option (Int32 × Mem) := bindv (wI m v0 22 (((((1103515245 : Int32) * (m.1 v0 22))) + (12345 : Int32)))) fun m1 => (if v1 = 0 then none else (some (((remI ((ushr (m1.1 v0 22) (16 : Int32))) v1)), m1)))
set_option maxRecDepth 20000 in
theorem u_X10_draw_0 {s : List Sh} {m m' : Mem} {r : Int32} {v0 : Nat} {v1 : Int32} (hw : GS s m) (o_v0 : ok s v0 10) (hf : nb_X10_draw_0 s m v0 v1 = some (r, m')) : J3 (b_X10_draw_0 (bl s m) v0 v1) (r, bl s m') (GS s m') := by
  unfold nb_X10_draw_0 at hf
  unfold b_X10_draw_0
  refine k_gI (ok_o o_v0 (by decide)) rfl ?_
  refine k_pI hw (ok_o o_v0 (by decide)) rfl hf fun m1 hw hf => ?_
  refine k_gI (ok_o o_v0 (by decide)) rfl ?_
  refine k_if hf (fun hf => by cases hf) (fun hf => ?_)
  exact k_ret hw hf
def n_X10_draw (s : List Sh) (m : Mem) (p0 : Nat) (p1 : Int32) : Option (Int32 × Mem) := nb_X10_draw_0 s m p0 p1
theorem un_X10_draw {s : List Sh} {m m' : Mem} {p0 : Nat} {p1 : Int32} {r : Int32} (hw : GS s m) (o_p0 : ok s p0 10) (ex : n_X10_draw s m p0 p1 = some (r, m')) : J3 (m_X10_draw (bl s m) p0 p1) (r, bl s m') (GS s m') := u_X10_draw_0 hw o_p0 ex
/-! FractionLiftModel.day(II)I over the memory -/
def nb_X10_day_87 (F : Nat) (s : List Sh) (nself25 : Mem → Nat → Int32 → Int32 → Int32 → Option (Int32 × Mem)) (m : Mem) (v0 : Nat) (v2 : Int32) (v3 : Int32) (v4 : Int32) : Option (Int32 × Mem) := bindv (v4 + (1)) fun x1 => (nself25 m v0 v2 v3 x1)
set_option maxRecDepth 20000 in
theorem u_X10_day_87 {F : Nat} {s : List Sh} {self25 : PH → Nat → Int32 → Int32 → Int32 → Option (Int32 × PH)} {nself25 : Mem → Nat → Int32 → Int32 → Int32 → Option (Int32 × Mem)} {m m' : Mem} {r : Int32} {v0 : Nat} {v2 : Int32} {v3 : Int32} {v4 : Int32} (hw : GS s m) (o_v0 : ok s v0 10) (ih25 : ∀ (m : Mem) (v0 : Nat) (v2 : Int32) (v3 : Int32) (v4 : Int32), GS s m → ok s v0 10 → nself25 m v0 v2 v3 v4 = some (r, m') → J3 (self25 (bl s m) v0 v2 v3 v4) (r, bl s m') (GS s m')) (hf : nb_X10_day_87 F s nself25 m v0 v2 v3 v4 = some (r, m')) : J3 (b_X10_day_87 F self25 (bl s m) v0 v2 v3 v4) (r, bl s m') (GS s m') := by
  unfold nb_X10_day_87 at hf
  unfold b_X10_day_87
  refine k_bv hf fun x1 hf => ?_
  exact ih25 _ _ _ _ _ hw o_v0 hf
def nb_X10_day_42 (F : Nat) (s : List Sh) (nself25 : Mem → Nat → Int32 → Int32 → Int32 → Option (Int32 × Mem)) (m : Mem) (v0 : Nat) (v2 : Int32) (v3 : Int32) (v4 : Int32) : Option (Int32 × Mem) := if v2 ≤ v4 then (some (v3, m)) else ((m.2.2 v0 1).bind fun a1 => ((rdI s m a1 (2 : Int32)).bind fun x2 => (bind2 (n_X10_draw s m v0 x2) fun x3 m4 => (bind2 (n_X10_draw s m4 v0 (10 : Int32)) fun x5 m6 => ((m6.2.2 v0 1).bind fun a7 => ((rdI s m6 a7 (5 : Int32)).bind fun x8 => (if x5 < x8 then (nb_X10_day_87 F s nself25 m6 v0 v2 v3 v4) else (bind2 (n_X10_presses F s m6 v0 x3) fun x9 m10 => (if x9 = 0 then (bindv (v3 + (1)) fun x11 => (nb_X10_day_87 F s nself25 m10 v0 v2 x11 v4)) else (nb_X10_day_87 F s nself25 m10 v0 v2 v3 v4))))))))))
set_option maxRecDepth 20000 in
theorem ub_X10_day_42 {F : Nat} {s : List Sh} {self25 : PH → Nat → Int32 → Int32 → Int32 → Option (Int32 × PH)} {nself25 : Mem → Nat → Int32 → Int32 → Int32 → Option (Int32 × Mem)} {m m' : Mem} {r : Int32} {v0 : Nat} {v2 : Int32} {v3 : Int32} {v4 : Int32} (hw : GS s m) (o_v0 : ok s v0 10) (ih25 : ∀ (m : Mem) (v0 : Nat) (v2 : Int32) (v3 : Int32) (v4 : Int32), GS s m → ok s v0 10 → nself25 m v0 v2 v3 v4 = some (r, m') → J3 (self25 (bl s m) v0 v2 v3 v4) (r, bl s m') (GS s m')) (hf : nb_X10_day_42 F s nself25 m v0 v2 v3 v4 = some (r, m')) : J3 (b_X10_day_42 F self25 (bl s m) v0 v2 v3 v4) (r, bl s m') (GS s m') := by
  unfold nb_X10_day_42 at hf
  unfold b_X10_day_42
  refine k_if hf (fun hf => ?_) (fun hf => ?_)
  · exact k_ret hw hf
  · refine k_gR hw (ok_o o_v0 (by decide)) rfl hf fun a1 o_a1 hf => ?_
    refine k_aI (Or.inl rfl) (ka rfl o_a1) hf fun x2 hf => ?_
    refine k_cO (ok_o o_v0 (by decide)) ?_
    refine ob2 hf fun x3 m4 ex hf => ?_
    refine k_b2 (un_X10_draw hw o_v0 ex) fun hw => ?_
    refine k_cO (ok_o o_v0 (by decide)) ?_
    refine ob2 hf fun x5 m6 ex hf => ?_
    refine k_b2 (un_X10_draw hw o_v0 ex) fun hw => ?_
    refine k_gR hw (ok_o o_v0 (by decide)) rfl hf fun a7 o_a7 hf => ?_
    refine k_aI (Or.inl rfl) (ka rfl o_a7) hf fun x8 hf => ?_
    refine k_if hf (fun hf => ?_) (fun hf => ?_)
    · exact u_X10_day_87 hw o_v0 ih25 hf
    · refine k_cO (ok_o o_v0 (by decide)) ?_
      refine ob2 hf fun x9 m10 ex hf => ?_
      refine k_b2 (un_X10_presses hw o_v0 ex) fun hw => ?_
      refine k_if hf (fun hf => ?_) (fun hf => ?_)
      · refine k_bv hf fun x11 hf => ?_
        exact u_X10_day_87 hw o_v0 ih25 hf
      · exact u_X10_day_87 hw o_v0 ih25 hf
def nl_X10_day_42 (F : Nat) (s : List Sh) : Nat → Mem → Nat → Int32 → Int32 → Int32 → Option (Int32 × Mem)
  | 0 => fun _ _ _ _ _ => none
  | n + 1 => fun m v0 v2 v3 v4 => nb_X10_day_42 F s (nl_X10_day_42 F s n) m v0 v2 v3 v4
theorem ul_X10_day_42 {F : Nat} {s : List Sh} {m' : Mem} {r : Int32} (n : Nat) : ∀ (m : Mem) (v0 : Nat) (v2 : Int32) (v3 : Int32) (v4 : Int32), GS s m → ok s v0 10 → nl_X10_day_42 F s n m v0 v2 v3 v4 = some (r, m') → J3 (l_X10_day_42 F n (bl s m) v0 v2 v3 v4) (r, bl s m') (GS s m') := by
  induction n with
  | zero => intro m v0 v2 v3 v4 hw o_v0 hf; cases hf
  | succ n ih => intro m v0 v2 v3 v4 hw o_v0 hf; exact ub_X10_day_42 (F := F) hw o_v0 ih hf
def nb_X10_day_0 (F : Nat) (s : List Sh) (m : Mem) (v0 : Nat) (v1 : Int32) (v2 : Int32) : Option (Int32 × Mem) := bindv (wI m v0 0 (0 : Int32)) fun m1 => ((m_X10_within (Int32.toInt64 v2) (1 : Int64) (60 : Int64)).bind fun x2 => (if x2 = 0 then (some ((-3 : Int32), m1)) else ((m1.2.2 v0 1).bind fun a3 => ((rdI s m1 a3 (2 : Int32)).bind fun x4 => (if x4 = 0 then (some ((-5 : Int32), m1)) else (bindv (wI m1 v0 22 v1) fun m5 => (nl_X10_day_42 F s F m5 v0 v2 (0 : Int32) (0 : Int32))))))))
set_option maxRecDepth 20000 in
theorem u_X10_day_0 {F : Nat} {s : List Sh} {m m' : Mem} {r : Int32} {v0 : Nat} {v1 : Int32} {v2 : Int32} (hw : GS s m) (o_v0 : ok s v0 10) (hf : nb_X10_day_0 F s m v0 v1 v2 = some (r, m')) : J3 (b_X10_day_0 F (bl s m) v0 v1 v2) (r, bl s m') (GS s m') := by
  unfold nb_X10_day_0 at hf
  unfold b_X10_day_0
  refine k_pI hw (ok_o o_v0 (by decide)) rfl hf fun m1 hw hf => ?_
  refine k_pure hf fun x2 hf => ?_
  refine k_if hf (fun hf => ?_) (fun hf => ?_)
  · exact k_ret hw hf
  · refine k_gR hw (ok_o o_v0 (by decide)) rfl hf fun a3 o_a3 hf => ?_
    refine k_aI (Or.inl rfl) (ka rfl o_a3) hf fun x4 hf => ?_
    refine k_if hf (fun hf => ?_) (fun hf => ?_)
    · exact k_ret hw hf
    · refine k_pI hw (ok_o o_v0 (by decide)) rfl hf fun m5 hw hf => ?_
      exact ul_X10_day_42 F _ _ _ _ _ hw o_v0 hf
def n_X10_day (F : Nat) (s : List Sh) (m : Mem) (p0 : Nat) (p1 : Int32) (p2 : Int32) : Option (Int32 × Mem) := nb_X10_day_0 F s m p0 p1 p2
theorem un_X10_day {F : Nat} {s : List Sh} {m m' : Mem} {p0 : Nat} {p1 : Int32} {p2 : Int32} {r : Int32} (hw : GS s m) (o_p0 : ok s p0 10) (ex : n_X10_day F s m p0 p1 p2 = some (r, m')) : J3 (m_X10_day F (bl s m) p0 p1 p2) (r, bl s m') (GS s m') := u_X10_day_0 hw o_p0 ex
/-! FractionLiftModel.laysOrder()V over the memory -/
def nb_X10_laysOrder_2 (F : Nat) (s : List Sh) (nself2 : Mem → Nat → Int32 → Option (Unit × Mem)) (m : Mem) (v0 : Nat) (v1 : Int32) : Option (Unit × Mem) := (m.2.2 v0 1).bind fun a1 => ((rdI s m a1 (3 : Int32)).bind fun x2 => (if x2 ≤ v1 then (some ((), m)) else ((m.2.2 v0 23).bind fun a3 => ((n_X10_placeOf F s m v0 v1).bind fun x4 => ((stI s m a3 x4 v1).bind fun m5 => (bindv (v1 + (1)) fun x6 => (nself2 m5 v0 x6)))))))
set_option maxRecDepth 20000 in
theorem ub_X10_laysOrder_2 {F : Nat} {s : List Sh} {self2 : PH → Nat → Int32 → Option (Unit × PH)} {nself2 : Mem → Nat → Int32 → Option (Unit × Mem)} {m m' : Mem} {r : Unit} {v0 : Nat} {v1 : Int32} (hw : GS s m) (o_v0 : ok s v0 10) (ih2 : ∀ (m : Mem) (v0 : Nat) (v1 : Int32), GS s m → ok s v0 10 → nself2 m v0 v1 = some (r, m') → J3 (self2 (bl s m) v0 v1) (r, bl s m') (GS s m')) (hf : nb_X10_laysOrder_2 F s nself2 m v0 v1 = some (r, m')) : J3 (b_X10_laysOrder_2 F self2 (bl s m) v0 v1) (r, bl s m') (GS s m') := by
  unfold nb_X10_laysOrder_2 at hf
  unfold b_X10_laysOrder_2
  refine k_gR hw (ok_o o_v0 (by decide)) rfl hf fun a1 o_a1 hf => ?_
  refine k_aI (Or.inl rfl) (ka rfl o_a1) hf fun x2 hf => ?_
  refine k_if hf (fun hf => ?_) (fun hf => ?_)
  · exact k_ret hw hf
  · refine k_gR hw (ok_o o_v0 (by decide)) rfl hf fun a3 o_a3 hf => ?_
    refine k_cO (ok_o o_v0 (by decide)) ?_
    refine ob hf fun x4 ex hf => ?_
    refine k_b1 (un_X10_placeOf hw o_v0 ex) ?_
    refine k_sI hw (ka rfl o_a3) hf fun m5 hw hf => ?_
    refine k_bv hf fun x6 hf => ?_
    exact ih2 _ _ _ hw o_v0 hf
def nl_X10_laysOrder_2 (F : Nat) (s : List Sh) : Nat → Mem → Nat → Int32 → Option (Unit × Mem)
  | 0 => fun _ _ _ => none
  | n + 1 => fun m v0 v1 => nb_X10_laysOrder_2 F s (nl_X10_laysOrder_2 F s n) m v0 v1
theorem ul_X10_laysOrder_2 {F : Nat} {s : List Sh} {m' : Mem} {r : Unit} (n : Nat) : ∀ (m : Mem) (v0 : Nat) (v1 : Int32), GS s m → ok s v0 10 → nl_X10_laysOrder_2 F s n m v0 v1 = some (r, m') → J3 (l_X10_laysOrder_2 F n (bl s m) v0 v1) (r, bl s m') (GS s m') := by
  induction n with
  | zero => intro m v0 v1 hw o_v0 hf; cases hf
  | succ n ih => intro m v0 v1 hw o_v0 hf; exact ub_X10_laysOrder_2 (F := F) hw o_v0 ih hf
def nb_X10_laysOrder_0 (F : Nat) (s : List Sh) (m : Mem) (v0 : Nat) : Option (Unit × Mem) := nl_X10_laysOrder_2 F s F m v0 (0 : Int32)
set_option maxRecDepth 20000 in
theorem u_X10_laysOrder_0 {F : Nat} {s : List Sh} {m m' : Mem} {r : Unit} {v0 : Nat} (hw : GS s m) (o_v0 : ok s v0 10) (hf : nb_X10_laysOrder_0 F s m v0 = some (r, m')) : J3 (b_X10_laysOrder_0 F (bl s m) v0) (r, bl s m') (GS s m') := by
  unfold nb_X10_laysOrder_0 at hf
  unfold b_X10_laysOrder_0
  exact ul_X10_laysOrder_2 F _ _ _ hw o_v0 hf
def n_X10_laysOrder (F : Nat) (s : List Sh) (m : Mem) (p0 : Nat) : Option (Unit × Mem) := nb_X10_laysOrder_0 F s m p0
theorem un_X10_laysOrder {F : Nat} {s : List Sh} {m m' : Mem} {p0 : Nat} {r : Unit} (hw : GS s m) (o_p0 : ok s p0 10) (ex : n_X10_laysOrder F s m p0 = some (r, m')) : J3 (m_X10_laysOrder F (bl s m) p0) (r, bl s m') (GS s m') := u_X10_laysOrder_0 hw o_p0 ex
/-! FractionLiftModel.stuffOf(II)I over the memory -/
def nb_X10_stuffOf_0 (s : List Sh) (m : Mem) (v0 : Nat) (v1 : Int32) (v2 : Int32) : Option Int32 := if (3 : Int32) ≤ v1 then (some (0 : Int32)) else ((m.2.2 v0 1).bind fun a1 => ((rdI s m a1 (((((25 : Int32) + (((8 : Int32) * v1)))) + v2))).bind fun x2 => (some x2)))
set_option maxRecDepth 20000 in
theorem u_X10_stuffOf_0 {s : List Sh} {m : Mem} {r : Int32} {v0 : Nat} {v1 : Int32} {v2 : Int32} (hw : GS s m) (o_v0 : ok s v0 10) (hf : nb_X10_stuffOf_0 s m v0 v1 v2 = some r) : J3 (b_X10_stuffOf_0 (bl s m) v0 v1 v2) r True := by
  unfold nb_X10_stuffOf_0 at hf
  unfold b_X10_stuffOf_0
  refine k_if hf (fun hf => ?_) (fun hf => ?_)
  · exact k_retP hf
  · refine k_gR hw (ok_o o_v0 (by decide)) rfl hf fun a1 o_a1 hf => ?_
    refine k_aI (Or.inl rfl) (ka rfl o_a1) hf fun x2 hf => ?_
    exact k_retP hf
def n_X10_stuffOf (s : List Sh) (m : Mem) (p0 : Nat) (p1 : Int32) (p2 : Int32) : Option Int32 := nb_X10_stuffOf_0 s m p0 p1 p2
theorem un_X10_stuffOf {s : List Sh} {m : Mem} {p0 : Nat} {p1 : Int32} {p2 : Int32} {r : Int32} (hw : GS s m) (o_p0 : ok s p0 10) (ex : n_X10_stuffOf s m p0 p1 p2 = some r) : J3 (m_X10_stuffOf (bl s m) p0 p1 p2) r True := u_X10_stuffOf_0 hw o_p0 ex
/-! FractionLiftModel.laysStuff(IIJJ)V over the memory -/
def nb_X10_laysStuff_181 (F : Nat) (s : List Sh) (m : Mem) (v0 : Nat) (v10 : Int64) : Option (Unit × Mem) := bind2 (n_X10_lays s m v0 v10 (1 : Int64)) fun _ m2 => (some ((), m2))
set_option maxRecDepth 20000 in
theorem u_X10_laysStuff_181 {F : Nat} {s : List Sh} {m m' : Mem} {r : Unit} {v0 : Nat} {v10 : Int64} (hw : GS s m) (o_v0 : ok s v0 10) (hf : nb_X10_laysStuff_181 F s m v0 v10 = some (r, m')) : J3 (b_X10_laysStuff_181 F (bl s m) v0 v10) (r, bl s m') (GS s m') := by
  unfold nb_X10_laysStuff_181 at hf
  unfold b_X10_laysStuff_181
  refine k_cO (ok_o o_v0 (by decide)) ?_
  refine ob2 hf fun u m2 ex hf => ?_
  refine k_b2 (un_X10_lays hw o_v0 ex) fun hw => ?_
  exact k_ret hw hf
def nb_X10_laysStuff_125 (F : Nat) (s : List Sh) (m : Mem) (v0 : Nat) (v1 : Int32) (v2 : Int32) (v3 : Int64) (v5 : Int64) (v8 : Int32) (s0 : Nat) (s1 : Int32) : Option (Unit × Mem) := (rdI s m s0 s1).bind fun x1 => ((n_X10_stuffOf s m v0 v1 v8).bind fun x2 => ((n_X10_stuffOf s m v0 v2 v8).bind fun x3 => (bindv ((Int32.toInt64 (x2 - x3))) fun x4 => ((n_X10_stuffOf s m v0 v1 x1).bind fun x5 => ((n_X10_stuffOf s m v0 v2 x1).bind fun x6 => (bindv ((((Int32.toInt64 (x5 - x6))) - x4)) fun x7 => (if v8 = x1 then (nb_X10_laysStuff_181 F s m v0 x4) else (if x7 = (0 : Int64) then (nb_X10_laysStuff_181 F s m v0 x4) else ((m.2.2 v0 1).bind fun a8 => ((rdI s m a8 (((9 : Int32) + v8))).bind fun x9 => (bindv (Int32.toInt64 x9) fun x10 => ((m.2.2 v0 1).bind fun a11 => ((rdI s m a11 (((17 : Int32) + v8))).bind fun x12 => (bindv (Int32.toInt64 x12) fun x13 => ((m.2.2 v0 1).bind fun a14 => ((rdI s m a14 (((9 : Int32) + x1))).bind fun x15 => (bindv (Int32.toInt64 x15) fun x16 => ((m.2.2 v0 1).bind fun a17 => ((rdI s m a17 (((17 : Int32) + x1))).bind fun x18 => (bindv (Int32.toInt64 x18) fun x19 => (bind2 (n_X10_lays s m v0 (((((v3 * x13) - (x10 * v5))) * x19)) ((v5 * (((x16 * x13) - (x10 * x19)))))) fun _ m21 => (bind2 (n_X10_lays s m21 v0 ((((x4 * (m21.2.1 v0 16))) + ((x7 * (m21.2.1 v0 15))))) (m21.2.1 v0 16)) fun _ m23 => (some ((), m23))))))))))))))))))))))))
set_option maxRecDepth 20000 in
theorem u_X10_laysStuff_125 {F : Nat} {s : List Sh} {m m' : Mem} {r : Unit} {v0 : Nat} {v1 : Int32} {v2 : Int32} {v3 : Int64} {v5 : Int64} {v8 : Int32} {s0 : Nat} {s1 : Int32} (hw : GS s m) (o_v0 : ok s v0 10) (o_s0 : ok s s0 100) (hf : nb_X10_laysStuff_125 F s m v0 v1 v2 v3 v5 v8 s0 s1 = some (r, m')) : J3 (b_X10_laysStuff_125 F (bl s m) v0 v1 v2 v3 v5 v8 s0 s1) (r, bl s m') (GS s m') := by
  unfold nb_X10_laysStuff_125 at hf
  unfold b_X10_laysStuff_125
  refine k_aI (Or.inl rfl) (ka rfl o_s0) hf fun x1 hf => ?_
  refine k_cO (ok_o o_v0 (by decide)) ?_
  refine ob hf fun x2 ex hf => ?_
  refine k_b1 (un_X10_stuffOf hw o_v0 ex) ?_
  refine k_cO (ok_o o_v0 (by decide)) ?_
  refine ob hf fun x3 ex hf => ?_
  refine k_b1 (un_X10_stuffOf hw o_v0 ex) ?_
  refine k_bv hf fun x4 hf => ?_
  refine k_cO (ok_o o_v0 (by decide)) ?_
  refine ob hf fun x5 ex hf => ?_
  refine k_b1 (un_X10_stuffOf hw o_v0 ex) ?_
  refine k_cO (ok_o o_v0 (by decide)) ?_
  refine ob hf fun x6 ex hf => ?_
  refine k_b1 (un_X10_stuffOf hw o_v0 ex) ?_
  refine k_bv hf fun x7 hf => ?_
  refine k_if hf (fun hf => ?_) (fun hf => ?_)
  · exact u_X10_laysStuff_181 hw o_v0 hf
  · refine k_if hf (fun hf => ?_) (fun hf => ?_)
    · exact u_X10_laysStuff_181 hw o_v0 hf
    · refine k_gR hw (ok_o o_v0 (by decide)) rfl hf fun a8 o_a8 hf => ?_
      refine k_aI (Or.inl rfl) (ka rfl o_a8) hf fun x9 hf => ?_
      refine k_bv hf fun x10 hf => ?_
      refine k_gR hw (ok_o o_v0 (by decide)) rfl hf fun a11 o_a11 hf => ?_
      refine k_aI (Or.inl rfl) (ka rfl o_a11) hf fun x12 hf => ?_
      refine k_bv hf fun x13 hf => ?_
      refine k_gR hw (ok_o o_v0 (by decide)) rfl hf fun a14 o_a14 hf => ?_
      refine k_aI (Or.inl rfl) (ka rfl o_a14) hf fun x15 hf => ?_
      refine k_bv hf fun x16 hf => ?_
      refine k_gR hw (ok_o o_v0 (by decide)) rfl hf fun a17 o_a17 hf => ?_
      refine k_aI (Or.inl rfl) (ka rfl o_a17) hf fun x18 hf => ?_
      refine k_bv hf fun x19 hf => ?_
      refine k_cO (ok_o o_v0 (by decide)) ?_
      refine ob2 hf fun u m21 ex hf => ?_
      refine k_b2 (un_X10_lays hw o_v0 ex) fun hw => ?_
      refine k_gL (ok_o o_v0 (by decide)) rfl ?_
      refine k_gL (ok_o o_v0 (by decide)) rfl ?_
      refine k_gL (ok_o o_v0 (by decide)) rfl ?_
      refine k_cO (ok_o o_v0 (by decide)) ?_
      refine ob2 hf fun u m23 ex hf => ?_
      refine k_b2 (un_X10_lays hw o_v0 ex) fun hw => ?_
      exact k_ret hw hf
def nb_X10_laysStuff_98 (F : Nat) (s : List Sh) (m : Mem) (v0 : Nat) (v1 : Int32) (v2 : Int32) (v3 : Int64) (v5 : Int64) (v7 : Int32) (s0 : Nat) (s1 : Int32) : Option (Unit × Mem) := (rdI s m s0 s1).bind fun x1 => ((m.2.2 v0 23).bind fun a2 => ((m.2.2 v0 1).bind fun a3 => ((rdI s m a3 (3 : Int32)).bind fun x4 => (if v7 = x4 then (nb_X10_laysStuff_125 F s m v0 v1 v2 v3 v5 x1 a2 ((v7 - (1 : Int32)))) else (nb_X10_laysStuff_125 F s m v0 v1 v2 v3 v5 x1 a2 v7)))))
set_option maxRecDepth 20000 in
theorem u_X10_laysStuff_98 {F : Nat} {s : List Sh} {m m' : Mem} {r : Unit} {v0 : Nat} {v1 : Int32} {v2 : Int32} {v3 : Int64} {v5 : Int64} {v7 : Int32} {s0 : Nat} {s1 : Int32} (hw : GS s m) (o_v0 : ok s v0 10) (o_s0 : ok s s0 100) (hf : nb_X10_laysStuff_98 F s m v0 v1 v2 v3 v5 v7 s0 s1 = some (r, m')) : J3 (b_X10_laysStuff_98 F (bl s m) v0 v1 v2 v3 v5 v7 s0 s1) (r, bl s m') (GS s m') := by
  unfold nb_X10_laysStuff_98 at hf
  unfold b_X10_laysStuff_98
  refine k_aI (Or.inl rfl) (ka rfl o_s0) hf fun x1 hf => ?_
  refine k_gR hw (ok_o o_v0 (by decide)) rfl hf fun a2 o_a2 hf => ?_
  refine k_gR hw (ok_o o_v0 (by decide)) rfl hf fun a3 o_a3 hf => ?_
  refine k_aI (Or.inl rfl) (ka rfl o_a3) hf fun x4 hf => ?_
  refine k_if hf (fun hf => ?_) (fun hf => ?_)
  · exact u_X10_laysStuff_125 hw o_v0 o_a2 hf
  · exact u_X10_laysStuff_125 hw o_v0 o_a2 hf
def nb_X10_laysStuff_65 (F : Nat) (s : List Sh) (m : Mem) (v0 : Nat) (v1 : Int32) (v2 : Int32) (v3 : Int64) (v5 : Int64) (v7 : Int32) : Option (Unit × Mem) := (m.2.2 v0 1).bind fun a1 => ((rdI s m a1 (3 : Int32)).bind fun x2 => (if x2 = 0 then (bind2 (n_X10_lays s m v0 (0 : Int64) (1 : Int64)) fun _ m5 => (some ((), m5))) else ((m.2.2 v0 23).bind fun a3 => (if v7 = 0 then (nb_X10_laysStuff_98 F s m v0 v1 v2 v3 v5 v7 a3 (0 : Int32)) else (nb_X10_laysStuff_98 F s m v0 v1 v2 v3 v5 v7 a3 ((v7 - (1 : Int32))))))))
set_option maxRecDepth 20000 in
theorem u_X10_laysStuff_65 {F : Nat} {s : List Sh} {m m' : Mem} {r : Unit} {v0 : Nat} {v1 : Int32} {v2 : Int32} {v3 : Int64} {v5 : Int64} {v7 : Int32} (hw : GS s m) (o_v0 : ok s v0 10) (hf : nb_X10_laysStuff_65 F s m v0 v1 v2 v3 v5 v7 = some (r, m')) : J3 (b_X10_laysStuff_65 F (bl s m) v0 v1 v2 v3 v5 v7) (r, bl s m') (GS s m') := by
  unfold nb_X10_laysStuff_65 at hf
  unfold b_X10_laysStuff_65
  refine k_gR hw (ok_o o_v0 (by decide)) rfl hf fun a1 o_a1 hf => ?_
  refine k_aI (Or.inl rfl) (ka rfl o_a1) hf fun x2 hf => ?_
  refine k_if hf (fun hf => ?_) (fun hf => ?_)
  · refine k_cO (ok_o o_v0 (by decide)) ?_
    refine ob2 hf fun u m5 ex hf => ?_
    refine k_b2 (un_X10_lays hw o_v0 ex) fun hw => ?_
    exact k_ret hw hf
  · refine k_gR hw (ok_o o_v0 (by decide)) rfl hf fun a3 o_a3 hf => ?_
    refine k_if hf (fun hf => ?_) (fun hf => ?_)
    · exact u_X10_laysStuff_98 hw o_v0 o_a3 hf
    · exact u_X10_laysStuff_98 hw o_v0 o_a3 hf
def nb_X10_laysStuff_7 (F : Nat) (s : List Sh) (nself4 : Mem → Nat → Int32 → Int32 → Int64 → Int64 → Int32 → Option (Unit × Mem)) (m : Mem) (v0 : Nat) (v1 : Int32) (v2 : Int32) (v3 : Int64) (v5 : Int64) (v7 : Int32) : Option (Unit × Mem) := (m.2.2 v0 1).bind fun a1 => ((rdI s m a1 (3 : Int32)).bind fun x2 => (if x2 ≤ v7 then (nb_X10_laysStuff_65 F s m v0 v1 v2 v3 v5 v7) else ((m.2.2 v0 1).bind fun a3 => ((m.2.2 v0 23).bind fun a4 => ((rdI s m a4 v7).bind fun x5 => ((rdI s m a3 (((9 : Int32) + x5))).bind fun x6 => ((m.2.2 v0 1).bind fun a7 => ((m.2.2 v0 23).bind fun a8 => ((rdI s m a8 v7).bind fun x9 => ((rdI s m a7 (((17 : Int32) + x9))).bind fun x10 => ((m_X10_against (Int32.toInt64 x6) (Int32.toInt64 x10) v3 v5).bind fun x11 => (if 0 ≤ x11 then (nb_X10_laysStuff_65 F s m v0 v1 v2 v3 v5 v7) else (bindv (v7 + (1)) fun x12 => (nself4 m v0 v1 v2 v3 v5 x12))))))))))))))
set_option maxRecDepth 20000 in
theorem ub_X10_laysStuff_7 {F : Nat} {s : List Sh} {self4 : PH → Nat → Int32 → Int32 → Int64 → Int64 → Int32 → Option (Unit × PH)} {nself4 : Mem → Nat → Int32 → Int32 → Int64 → Int64 → Int32 → Option (Unit × Mem)} {m m' : Mem} {r : Unit} {v0 : Nat} {v1 : Int32} {v2 : Int32} {v3 : Int64} {v5 : Int64} {v7 : Int32} (hw : GS s m) (o_v0 : ok s v0 10) (ih4 : ∀ (m : Mem) (v0 : Nat) (v1 : Int32) (v2 : Int32) (v3 : Int64) (v5 : Int64) (v7 : Int32), GS s m → ok s v0 10 → nself4 m v0 v1 v2 v3 v5 v7 = some (r, m') → J3 (self4 (bl s m) v0 v1 v2 v3 v5 v7) (r, bl s m') (GS s m')) (hf : nb_X10_laysStuff_7 F s nself4 m v0 v1 v2 v3 v5 v7 = some (r, m')) : J3 (b_X10_laysStuff_7 F self4 (bl s m) v0 v1 v2 v3 v5 v7) (r, bl s m') (GS s m') := by
  unfold nb_X10_laysStuff_7 at hf
  unfold b_X10_laysStuff_7
  refine k_gR hw (ok_o o_v0 (by decide)) rfl hf fun a1 o_a1 hf => ?_
  refine k_aI (Or.inl rfl) (ka rfl o_a1) hf fun x2 hf => ?_
  refine k_if hf (fun hf => ?_) (fun hf => ?_)
  · exact u_X10_laysStuff_65 hw o_v0 hf
  · refine k_gR hw (ok_o o_v0 (by decide)) rfl hf fun a3 o_a3 hf => ?_
    refine k_gR hw (ok_o o_v0 (by decide)) rfl hf fun a4 o_a4 hf => ?_
    refine k_aI (Or.inl rfl) (ka rfl o_a4) hf fun x5 hf => ?_
    refine k_aI (Or.inl rfl) (ka rfl o_a3) hf fun x6 hf => ?_
    refine k_gR hw (ok_o o_v0 (by decide)) rfl hf fun a7 o_a7 hf => ?_
    refine k_gR hw (ok_o o_v0 (by decide)) rfl hf fun a8 o_a8 hf => ?_
    refine k_aI (Or.inl rfl) (ka rfl o_a8) hf fun x9 hf => ?_
    refine k_aI (Or.inl rfl) (ka rfl o_a7) hf fun x10 hf => ?_
    refine k_pure hf fun x11 hf => ?_
    refine k_if hf (fun hf => ?_) (fun hf => ?_)
    · exact u_X10_laysStuff_65 hw o_v0 hf
    · refine k_bv hf fun x12 hf => ?_
      exact ih4 _ _ _ _ _ _ _ hw o_v0 hf
def nl_X10_laysStuff_7 (F : Nat) (s : List Sh) : Nat → Mem → Nat → Int32 → Int32 → Int64 → Int64 → Int32 → Option (Unit × Mem)
  | 0 => fun _ _ _ _ _ _ _ => none
  | n + 1 => fun m v0 v1 v2 v3 v5 v7 => nb_X10_laysStuff_7 F s (nl_X10_laysStuff_7 F s n) m v0 v1 v2 v3 v5 v7
theorem ul_X10_laysStuff_7 {F : Nat} {s : List Sh} {m' : Mem} {r : Unit} (n : Nat) : ∀ (m : Mem) (v0 : Nat) (v1 : Int32) (v2 : Int32) (v3 : Int64) (v5 : Int64) (v7 : Int32), GS s m → ok s v0 10 → nl_X10_laysStuff_7 F s n m v0 v1 v2 v3 v5 v7 = some (r, m') → J3 (l_X10_laysStuff_7 F n (bl s m) v0 v1 v2 v3 v5 v7) (r, bl s m') (GS s m') := by
  induction n with
  | zero => intro m v0 v1 v2 v3 v5 v7 hw o_v0 hf; cases hf
  | succ n ih => intro m v0 v1 v2 v3 v5 v7 hw o_v0 hf; exact ub_X10_laysStuff_7 (F := F) hw o_v0 ih hf
def nb_X10_laysStuff_0 (F : Nat) (s : List Sh) (m : Mem) (v0 : Nat) (v1 : Int32) (v2 : Int32) (v3 : Int64) (v5 : Int64) : Option (Unit × Mem) := bind2 (n_X10_laysOrder F s m v0) fun _ m2 => (nl_X10_laysStuff_7 F s F m2 v0 v1 v2 v3 v5 (0 : Int32))
set_option maxRecDepth 20000 in
theorem u_X10_laysStuff_0 {F : Nat} {s : List Sh} {m m' : Mem} {r : Unit} {v0 : Nat} {v1 : Int32} {v2 : Int32} {v3 : Int64} {v5 : Int64} (hw : GS s m) (o_v0 : ok s v0 10) (hf : nb_X10_laysStuff_0 F s m v0 v1 v2 v3 v5 = some (r, m')) : J3 (b_X10_laysStuff_0 F (bl s m) v0 v1 v2 v3 v5) (r, bl s m') (GS s m') := by
  unfold nb_X10_laysStuff_0 at hf
  unfold b_X10_laysStuff_0
  refine k_cO (ok_o o_v0 (by decide)) ?_
  refine ob2 hf fun u m2 ex hf => ?_
  refine k_b2 (un_X10_laysOrder hw o_v0 ex) fun hw => ?_
  exact ul_X10_laysStuff_7 F _ _ _ _ _ _ _ hw o_v0 hf
def n_X10_laysStuff (F : Nat) (s : List Sh) (m : Mem) (p0 : Nat) (p1 : Int32) (p2 : Int32) (p3 : Int64) (p5 : Int64) : Option (Unit × Mem) := nb_X10_laysStuff_0 F s m p0 p1 p2 p3 p5
theorem un_X10_laysStuff {F : Nat} {s : List Sh} {m m' : Mem} {p0 : Nat} {p1 : Int32} {p2 : Int32} {p3 : Int64} {p5 : Int64} {r : Unit} (hw : GS s m) (o_p0 : ok s p0 10) (ex : n_X10_laysStuff F s m p0 p1 p2 p3 p5 = some (r, m')) : J3 (m_X10_laysStuff F (bl s m) p0 p1 p2 p3 p5) (r, bl s m') (GS s m') := u_X10_laysStuff_0 hw o_p0 ex
