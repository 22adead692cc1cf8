/-! FractionLiftModel.laysWhere(III)Z over the memory -/
def nb_X10_laysWhere_253 (F : Nat) (s : List Sh) (nself4 : Mem → Nat → Int32 → Int32 → Int32 → Int32 → Option (Int32 × Mem)) (m : Mem) (v0 : Nat) (v1 : Int32) (v2 : Int32) (v3 : Int32) (v4 : Int32) : Option (Int32 × Mem) := bindv (v4 + (1)) fun x1 => (nself4 m v0 v1 v2 v3 x1)
set_option maxRecDepth 20000 in
theorem u_X10_laysWhere_253 {F : Nat} {s : List Sh} {self4 : PH → Nat → Int32 → Int32 → Int32 → Int32 → Option (Int32 × PH)} {nself4 : Mem → Nat → Int32 → Int32 → Int32 → Int32 → Option (Int32 × Mem)} {m m' : Mem} {r : Int32} {v0 : Nat} {v1 : Int32} {v2 : Int32} {v3 : Int32} {v4 : Int32} (hw : GS s m) (o_v0 : ok s v0 10) (ih4 : ∀ (m : Mem) (v0 : Nat) (v1 : Int32) (v2 : Int32) (v3 : Int32) (v4 : Int32), GS s m → ok s v0 10 → nself4 m v0 v1 v2 v3 v4 = some (r, m') → J3 (self4 (bl s m) v0 v1 v2 v3 v4) (r, bl s m') (GS s m')) (hf : nb_X10_laysWhere_253 F s nself4 m v0 v1 v2 v3 v4 = some (r, m')) : J3 (b_X10_laysWhere_253 F self4 (bl s m) v0 v1 v2 v3 v4) (r, bl s m') (GS s m') := by
  unfold nb_X10_laysWhere_253 at hf
  unfold b_X10_laysWhere_253
  refine k_bv hf fun x1 hf => ?_
  exact ih4 _ _ _ _ _ _ hw o_v0 hf
def nb_X10_laysWhere_108 (F : Nat) (s : List Sh) (nself4 : Mem → Nat → Int32 → Int32 → Int32 → Int32 → Option (Int32 × Mem)) (m : Mem) (v0 : Nat) (v1 : Int32) (v2 : Int32) (v3 : Int32) (v4 : Int32) (v5 : Int32) (v6 : Int64) (v8 : Int64) : Option (Int32 × Mem) := if v4 = 0 then (nb_X10_laysWhere_253 F s nself4 m v0 v1 v2 v3 v4) else (if v8 = v6 then (nb_X10_laysWhere_253 F s nself4 m v0 v1 v2 v3 v4) else (if ((((v8 - (Int32.toInt64 v3))) * ((v6 - (Int32.toInt64 v3))))) ≤ (0 : Int64) then ((m.2.2 v0 1).bind fun a1 => ((m.2.2 v0 23).bind fun a2 => ((rdI s m a2 ((v4 - (1 : Int32)))).bind fun x3 => ((rdI s m a1 (((9 : Int32) + x3))).bind fun x4 => (bindv (Int32.toInt64 x4) fun x5 => ((m.2.2 v0 1).bind fun a6 => ((m.2.2 v0 23).bind fun a7 => ((rdI s m a7 ((v4 - (1 : Int32)))).bind fun x8 => ((rdI s m a6 (((17 : Int32) + x8))).bind fun x9 => (bindv (Int32.toInt64 x9) fun x10 => ((m.2.2 v0 1).bind fun a11 => ((rdI s m a11 (((9 : Int32) + v5))).bind fun x12 => (bindv (Int32.toInt64 x12) fun x13 => ((m.2.2 v0 1).bind fun a14 => ((rdI s m a14 (((17 : Int32) + v5))).bind fun x15 => (bindv (Int32.toInt64 x15) fun x16 => (bindv (v6 - v8) fun x17 => (bind2 (n_X10_lays s m v0 (((((x5 * x16) * x17)) + (((((x13 * x10) - (x5 * x16))) * (((Int32.toInt64 v3) - v8)))))) (((x10 * x16) * x17))) fun _ m19 => (rZM (1 : Int32) m19))))))))))))))))))) else (nb_X10_laysWhere_253 F s nself4 m v0 v1 v2 v3 v4)))
set_option maxRecDepth 20000 in
theorem u_X10_laysWhere_108 {F : Nat} {s : List Sh} {self4 : PH → Nat → Int32 → Int32 → Int32 → Int32 → Option (Int32 × PH)} {nself4 : Mem → Nat → Int32 → Int32 → Int32 → Int32 → Option (Int32 × Mem)} {m m' : Mem} {r : Int32} {v0 : Nat} {v1 : Int32} {v2 : Int32} {v3 : Int32} {v4 : Int32} {v5 : Int32} {v6 : Int64} {v8 : Int64} (hw : GS s m) (o_v0 : ok s v0 10) (ih4 : ∀ (m : Mem) (v0 : Nat) (v1 : Int32) (v2 : Int32) (v3 : Int32) (v4 : Int32), GS s m → ok s v0 10 → nself4 m v0 v1 v2 v3 v4 = some (r, m') → J3 (self4 (bl s m) v0 v1 v2 v3 v4) (r, bl s m') (GS s m')) (hf : nb_X10_laysWhere_108 F s nself4 m v0 v1 v2 v3 v4 v5 v6 v8 = some (r, m')) : J3 (b_X10_laysWhere_108 F self4 (bl s m) v0 v1 v2 v3 v4 v5 v6 v8) (r, bl s m') (GS s m') := by
  unfold nb_X10_laysWhere_108 at hf
  unfold b_X10_laysWhere_108
  refine k_if hf (fun hf => ?_) (fun hf => ?_)
  · exact u_X10_laysWhere_253 hw o_v0 ih4 hf
  · refine k_if hf (fun hf => ?_) (fun hf => ?_)
    · exact u_X10_laysWhere_253 hw o_v0 ih4 hf
    · refine k_if hf (fun hf => ?_) (fun hf => ?_)
      · refine k_gR hw (ok_o o_v0 (by decide)) rfl hf fun a1 o_a1 hf => ?_
        refine k_gR hw (ok_o o_v0 (by decide)) rfl hf fun a2 o_a2 hf => ?_
        refine k_aI (Or.inl rfl) (ka rfl o_a2) hf fun x3 hf => ?_
        refine k_aI (Or.inl rfl) (ka rfl o_a1) hf fun x4 hf => ?_
        refine k_bv hf fun x5 hf => ?_
        refine k_gR hw (ok_o o_v0 (by decide)) rfl hf fun a6 o_a6 hf => ?_
        refine k_gR hw (ok_o o_v0 (by decide)) rfl hf fun a7 o_a7 hf => ?_
        refine k_aI (Or.inl rfl) (ka rfl o_a7) hf fun x8 hf => ?_
        refine k_aI (Or.inl rfl) (ka rfl o_a6) hf fun x9 hf => ?_
        refine k_bv hf fun x10 hf => ?_
        refine k_gR hw (ok_o o_v0 (by decide)) rfl hf fun a11 o_a11 hf => ?_
        refine k_aI (Or.inl rfl) (ka rfl o_a11) hf fun x12 hf => ?_
        refine k_bv hf fun x13 hf => ?_
        refine k_gR hw (ok_o o_v0 (by decide)) rfl hf fun a14 o_a14 hf => ?_
        refine k_aI (Or.inl rfl) (ka rfl o_a14) hf fun x15 hf => ?_
        refine k_bv hf fun x16 hf => ?_
        refine k_bv hf fun x17 hf => ?_
        refine k_cO (ok_o o_v0 (by decide)) ?_
        refine ob2 hf fun u m19 ex hf => ?_
        refine k_b2 (un_X10_lays hw o_v0 ex) fun hw => ?_
        exact k_rZ hw hf
      · exact u_X10_laysWhere_253 hw o_v0 ih4 hf
def nb_X10_laysWhere_85 (F : Nat) (s : List Sh) (nself4 : Mem → Nat → Int32 → Int32 → Int32 → Int32 → Option (Int32 × Mem)) (m : Mem) (v0 : Nat) (v1 : Int32) (v2 : Int32) (v3 : Int32) (v4 : Int32) (v5 : Int32) (v6 : Int64) (s0 : Int64) : Option (Int32 × Mem) := if v4 = 0 then (if v6 = (Int32.toInt64 v3) then (bind2 (n_X10_lays s m v0 (0 : Int64) (1 : Int64)) fun _ m2 => (rZM (1 : Int32) m2)) else (nb_X10_laysWhere_108 F s nself4 m v0 v1 v2 v3 v4 v5 v6 s0)) else (nb_X10_laysWhere_108 F s nself4 m v0 v1 v2 v3 v4 v5 v6 s0)
set_option maxRecDepth 20000 in
theorem u_X10_laysWhere_85 {F : Nat} {s : List Sh} {self4 : PH → Nat → Int32 → Int32 → Int32 → Int32 → Option (Int32 × PH)} {nself4 : Mem → Nat → Int32 → Int32 → Int32 → Int32 → Option (Int32 × Mem)} {m m' : Mem} {r : Int32} {v0 : Nat} {v1 : Int32} {v2 : Int32} {v3 : Int32} {v4 : Int32} {v5 : Int32} {v6 : Int64} {s0 : Int64} (hw : GS s m) (o_v0 : ok s v0 10) (ih4 : ∀ (m : Mem) (v0 : Nat) (v1 : Int32) (v2 : Int32) (v3 : Int32) (v4 : Int32), GS s m → ok s v0 10 → nself4 m v0 v1 v2 v3 v4 = some (r, m') → J3 (self4 (bl s m) v0 v1 v2 v3 v4) (r, bl s m') (GS s m')) (hf : nb_X10_laysWhere_85 F s nself4 m v0 v1 v2 v3 v4 v5 v6 s0 = some (r, m')) : J3 (b_X10_laysWhere_85 F self4 (bl s m) v0 v1 v2 v3 v4 v5 v6 s0) (r, bl s m') (GS s m') := by
  unfold nb_X10_laysWhere_85 at hf
  unfold b_X10_laysWhere_85
  refine k_if hf (fun hf => ?_) (fun hf => ?_)
  · refine k_if hf (fun hf => ?_) (fun hf => ?_)
    · refine k_cO (ok_o o_v0 (by decide)) ?_
      refine ob2 hf fun u m2 ex hf => ?_
      refine k_b2 (un_X10_lays hw o_v0 ex) fun hw => ?_
      exact k_rZ hw hf
    · exact u_X10_laysWhere_108 hw o_v0 ih4 hf
  · exact u_X10_laysWhere_108 hw o_v0 ih4 hf
def nb_X10_laysWhere_7 (F : Nat) (s : List Sh) (nself4 : Mem → Nat → Int32 → Int32 → Int32 → Int32 → Option (Int32 × Mem)) (m : Mem) (v0 : Nat) (v1 : Int32) (v2 : Int32) (v3 : Int32) (v4 : Int32) : Option (Int32 × Mem) := (m.2.2 v0 1).bind fun a1 => ((rdI s m a1 (3 : Int32)).bind fun x2 => (if x2 ≤ v4 then (bind2 (n_X10_lays s m v0 (0 : Int64) (1 : Int64)) fun _ m4 => ((m4.2.2 v0 1).bind fun a5 => ((rdI s m4 a5 (3 : Int32)).bind fun x6 => (if x6 = 0 then (if v3 = 0 then (rZM (1 : Int32) m4) else (rZM (0 : Int32) m4)) else (rZM (0 : Int32) m4))))) else ((m.2.2 v0 23).bind fun a7 => ((rdI s m a7 v4).bind fun x8 => ((n_X10_stuffOf s m v0 v1 x8).bind fun x9 => ((n_X10_stuffOf s m v0 v2 x8).bind fun x10 => (bindv ((Int32.toInt64 (x9 - x10))) fun x11 => (if v4 = 0 then (nb_X10_laysWhere_85 F s nself4 m v0 v1 v2 v3 v4 x8 x11 x11) else ((m.2.2 v0 23).bind fun a12 => ((rdI s m a12 ((v4 - (1 : Int32)))).bind fun x13 => ((n_X10_stuffOf s m v0 v1 x13).bind fun x14 => ((m.2.2 v0 23).bind fun a15 => ((rdI s m a15 ((v4 - (1 : Int32)))).bind fun x16 => ((n_X10_stuffOf s m v0 v2 x16).bind fun x17 => (nb_X10_laysWhere_85 F s nself4 m v0 v1 v2 v3 v4 x8 x11 ((Int32.toInt64 (x14 - x17))))))))))))))))))
set_option maxRecDepth 20000 in
theorem ub_X10_laysWhere_7 {F : Nat} {s : List Sh} {self4 : PH → Nat → Int32 → Int32 → Int32 → Int32 → Option (Int32 × PH)} {nself4 : Mem → Nat → Int32 → Int32 → Int32 → Int32 → Option (Int32 × Mem)} {m m' : Mem} {r : Int32} {v0 : Nat} {v1 : Int32} {v2 : Int32} {v3 : Int32} {v4 : Int32} (hw : GS s m) (o_v0 : ok s v0 10) (ih4 : ∀ (m : Mem) (v0 : Nat) (v1 : Int32) (v2 : Int32) (v3 : Int32) (v4 : Int32), GS s m → ok s v0 10 → nself4 m v0 v1 v2 v3 v4 = some (r, m') → J3 (self4 (bl s m) v0 v1 v2 v3 v4) (r, bl s m') (GS s m')) (hf : nb_X10_laysWhere_7 F s nself4 m v0 v1 v2 v3 v4 = some (r, m')) : J3 (b_X10_laysWhere_7 F self4 (bl s m) v0 v1 v2 v3 v4) (r, bl s m') (GS s m') := by
  unfold nb_X10_laysWhere_7 at hf
  unfold b_X10_laysWhere_7
  refine k_gR hw (ok_o o_v0 (by decide)) rfl hf fun a1 o_a1 hf => ?_
  refine k_aI (Or.inl rfl) (ka rfl o_a1) hf fun x2 hf => ?_
  refine k_if hf (fun hf => ?_) (fun hf => ?_)
  · refine k_cO (ok_o o_v0 (by decide)) ?_
    refine ob2 hf fun u m4 ex hf => ?_
    refine k_b2 (un_X10_lays hw o_v0 ex) fun hw => ?_
    refine k_gR hw (ok_o o_v0 (by decide)) rfl hf fun a5 o_a5 hf => ?_
    refine k_aI (Or.inl rfl) (ka rfl o_a5) hf fun x6 hf => ?_
    refine k_if hf (fun hf => ?_) (fun hf => ?_)
    · refine k_if hf (fun hf => ?_) (fun hf => ?_)
      · exact k_rZ hw hf
      · exact k_rZ hw hf
    · exact k_rZ hw hf
  · refine k_gR hw (ok_o o_v0 (by decide)) rfl hf fun a7 o_a7 hf => ?_
    refine k_aI (Or.inl rfl) (ka rfl o_a7) hf fun x8 hf => ?_
    refine k_cO (ok_o o_v0 (by decide)) ?_
    refine ob hf fun x9 ex hf => ?_
    refine k_b1 (un_X10_stuffOf hw o_v0 ex) ?_
    refine k_cO (ok_o o_v0 (by decide)) ?_
    refine ob hf fun x10 ex hf => ?_
    refine k_b1 (un_X10_stuffOf hw o_v0 ex) ?_
    refine k_bv hf fun x11 hf => ?_
    refine k_if hf (fun hf => ?_) (fun hf => ?_)
    · exact u_X10_laysWhere_85 hw o_v0 ih4 hf
    · refine k_gR hw (ok_o o_v0 (by decide)) rfl hf fun a12 o_a12 hf => ?_
      refine k_aI (Or.inl rfl) (ka rfl o_a12) hf fun x13 hf => ?_
      refine k_cO (ok_o o_v0 (by decide)) ?_
      refine ob hf fun x14 ex hf => ?_
      refine k_b1 (un_X10_stuffOf hw o_v0 ex) ?_
      refine k_gR hw (ok_o o_v0 (by decide)) rfl hf fun a15 o_a15 hf => ?_
      refine k_aI (Or.inl rfl) (ka rfl o_a15) hf fun x16 hf => ?_
      refine k_cO (ok_o o_v0 (by decide)) ?_
      refine ob hf fun x17 ex hf => ?_
      refine k_b1 (un_X10_stuffOf hw o_v0 ex) ?_
      exact u_X10_laysWhere_85 hw o_v0 ih4 hf
def nl_X10_laysWhere_7 (F : Nat) (s : List Sh) : Nat → Mem → Nat → Int32 → Int32 → Int32 → Int32 → Option (Int32 × Mem)
  | 0 => fun _ _ _ _ _ _ => none
  | n + 1 => fun m v0 v1 v2 v3 v4 => nb_X10_laysWhere_7 F s (nl_X10_laysWhere_7 F s n) m v0 v1 v2 v3 v4
theorem ul_X10_laysWhere_7 {F : Nat} {s : List Sh} {m' : Mem} {r : Int32} (n : Nat) : ∀ (m : Mem) (v0 : Nat) (v1 : Int32) (v2 : Int32) (v3 : Int32) (v4 : Int32), GS s m → ok s v0 10 → nl_X10_laysWhere_7 F s n m v0 v1 v2 v3 v4 = some (r, m') → J3 (l_X10_laysWhere_7 F n (bl s m) v0 v1 v2 v3 v4) (r, bl s m') (GS s m') := by
  induction n with
  | zero => intro m v0 v1 v2 v3 v4 hw o_v0 hf; cases hf
  | succ n ih => intro m v0 v1 v2 v3 v4 hw o_v0 hf; exact ub_X10_laysWhere_7 (F := F) hw o_v0 ih hf
def nb_X10_laysWhere_0 (F : Nat) (s : List Sh) (m : Mem) (v0 : Nat) (v1 : Int32) (v2 : Int32) (v3 : Int32) : Option (Int32 × Mem) := bind2 (n_X10_laysOrder F s m v0) fun _ m2 => (nl_X10_laysWhere_7 F s F m2 v0 v1 v2 v3 (0 : Int32))
set_option maxRecDepth 20000 in
theorem u_X10_laysWhere_0 {F : Nat} {s : List Sh} {m m' : Mem} {r : Int32} {v0 : Nat} {v1 : Int32} {v2 : Int32} {v3 : Int32} (hw : GS s m) (o_v0 : ok s v0 10) (hf : nb_X10_laysWhere_0 F s m v0 v1 v2 v3 = some (r, m')) : J3 (b_X10_laysWhere_0 F (bl s m) v0 v1 v2 v3) (r, bl s m') (GS s m') := by
  unfold nb_X10_laysWhere_0 at hf
  unfold b_X10_laysWhere_0
  refine k_cO (ok_o o_v0 (by decide)) ?_
  refine ob2 hf fun u m2 ex hf => ?_
  refine k_b2 (un_X10_laysOrder hw o_v0 ex) fun hw => ?_
  exact ul_X10_laysWhere_7 F _ _ _ _ _ _ hw o_v0 hf
def n_X10_laysWhere (F : Nat) (s : List Sh) (m : Mem) (p0 : Nat) (p1 : Int32) (p2 : Int32) (p3 : Int32) : Option (Int32 × Mem) := nb_X10_laysWhere_0 F s m p0 p1 p2 p3
theorem un_X10_laysWhere {F : Nat} {s : List Sh} {m m' : Mem} {p0 : Nat} {p1 : Int32} {p2 : Int32} {p3 : Int32} {r : Int32} (hw : GS s m) (o_p0 : ok s p0 10) (ex : n_X10_laysWhere F s m p0 p1 p2 p3 = some (r, m')) : J3 (m_X10_laysWhere F (bl s m) p0 p1 p2 p3) (r, bl s m') (GS s m') := u_X10_laysWhere_0 hw o_p0 ex
/-! FractionLiftModel.has(IIII)J over the memory -/
def nb_X10_has_0 (F : Nat) (s : List Sh) (m : Mem) (v0 : Nat) (v1 : Int32) (v2 : Int32) (v3 : Int32) (v4 : Int32) : Option (Int64 × Mem) := bindv (wI m v0 0 (0 : Int32)) fun m1 => ((m_X10_isStuff v1).bind fun x2 => (if x2 = 0 then (some ((-2 : Int64), m1)) else ((m_X10_within (Int32.toInt64 v4) (0 : Int64) (1 : Int64)).bind fun x3 => (if x3 = 0 then (some ((-2 : Int64), m1)) else (bind2 (n_X10_asks s m1 v0 (Int32.toInt64 v2) (Int32.toInt64 v3)) fun x4 m5 => (if x4 = 0 then (some ((-3 : Int64), m5)) else (bind2 (n_X10_laysStuff F s m5 v0 v1 (3 : Int32) (m5.2.1 v0 15) (m5.2.1 v0 16)) fun _ m7 => (if v4 = 0 then (some ((m7.2.1 v0 15), m7)) else (some ((m7.2.1 v0 16), m7))))))))))
set_option maxRecDepth 20000 in
theorem u_X10_has_0 {F : Nat} {s : List Sh} {m m' : Mem} {r : Int64} {v0 : Nat} {v1 : Int32} {v2 : Int32} {v3 : Int32} {v4 : Int32} (hw : GS s m) (o_v0 : ok s v0 10) (hf : nb_X10_has_0 F s m v0 v1 v2 v3 v4 = some (r, m')) : J3 (b_X10_has_0 F (bl s m) v0 v1 v2 v3 v4) (r, bl s m') (GS s m') := by
  unfold nb_X10_has_0 at hf
  unfold b_X10_has_0
  refine k_pI hw (ok_o o_v0 (by decide)) rfl hf fun m1 hw hf => ?_
  refine k_pure hf fun x2 hf => ?_
  refine k_if hf (fun hf => ?_) (fun hf => ?_)
  · exact k_ret hw hf
  · refine k_pure hf fun x3 hf => ?_
    refine k_if hf (fun hf => ?_) (fun hf => ?_)
    · exact k_ret hw hf
    · refine k_cO (ok_o o_v0 (by decide)) ?_
      refine ob2 hf fun x4 m5 ex hf => ?_
      refine k_b2 (un_X10_asks hw o_v0 ex) fun hw => ?_
      refine k_if hf (fun hf => ?_) (fun hf => ?_)
      · exact k_ret hw hf
      · refine k_gL (ok_o o_v0 (by decide)) rfl ?_
        refine k_gL (ok_o o_v0 (by decide)) rfl ?_
        refine k_cO (ok_o o_v0 (by decide)) ?_
        refine ob2 hf fun u m7 ex hf => ?_
        refine k_b2 (un_X10_laysStuff hw o_v0 ex) fun hw => ?_
        refine k_if hf (fun hf => ?_) (fun hf => ?_)
        · refine k_gL (ok_o o_v0 (by decide)) rfl ?_
          exact k_ret hw hf
        · refine k_gL (ok_o o_v0 (by decide)) rfl ?_
          exact k_ret hw hf
def n_X10_has (F : Nat) (s : List Sh) (m : Mem) (p0 : Nat) (p1 : Int32) (p2 : Int32) (p3 : Int32) (p4 : Int32) : Option (Int64 × Mem) := nb_X10_has_0 F s m p0 p1 p2 p3 p4
theorem un_X10_has {F : Nat} {s : List Sh} {m m' : Mem} {p0 : Nat} {p1 : Int32} {p2 : Int32} {p3 : Int32} {p4 : Int32} {r : Int64} (hw : GS s m) (o_p0 : ok s p0 10) (ex : n_X10_has F s m p0 p1 p2 p3 p4 = some (r, m')) : J3 (m_X10_has F (bl s m) p0 p1 p2 p3 p4) (r, bl s m') (GS s m') := u_X10_has_0 hw o_p0 ex
/-! FractionLiftModel.where(III)J over the memory -/
def nb_X10_where_0 (F : Nat) (s : List Sh) (m : Mem) (v0 : Nat) (v1 : Int32) (v2 : Int32) (v3 : Int32) : Option (Int64 × Mem) := bindv (wI m v0 0 (0 : Int32)) fun m1 => ((m_X10_isStuff v1).bind fun x2 => (if x2 = 0 then (some ((-2 : Int64), m1)) else ((m_X10_within (Int32.toInt64 v3) (0 : Int64) (1 : Int64)).bind fun x3 => (if x3 = 0 then (some ((-2 : Int64), m1)) else ((m_X10_within (Int32.toInt64 v2) (0 : Int64) (99 : Int64)).bind fun x4 => (if x4 = 0 then (some ((-3 : Int64), m1)) else (bind2 (n_X10_laysWhere F s m1 v0 v1 (3 : Int32) v2) fun x5 m6 => (if x5 = 0 then (some ((-1 : Int64), m6)) else (if v3 = 0 then (some ((m6.2.1 v0 15), m6)) else (some ((m6.2.1 v0 16), m6)))))))))))
set_option maxRecDepth 20000 in
theorem u_X10_where_0 {F : Nat} {s : List Sh} {m m' : Mem} {r : Int64} {v0 : Nat} {v1 : Int32} {v2 : Int32} {v3 : Int32} (hw : GS s m) (o_v0 : ok s v0 10) (hf : nb_X10_where_0 F s m v0 v1 v2 v3 = some (r, m')) : J3 (b_X10_where_0 F (bl s m) v0 v1 v2 v3) (r, bl s m') (GS s m') := by
  unfold nb_X10_where_0 at hf
  unfold b_X10_where_0
  refine k_pI hw (ok_o o_v0 (by decide)) rfl hf fun m1 hw hf => ?_
  refine k_pure hf fun x2 hf => ?_
  refine k_if hf (fun hf => ?_) (fun hf => ?_)
  · exact k_ret hw hf
  · refine k_pure hf fun x3 hf => ?_
    refine k_if hf (fun hf => ?_) (fun hf => ?_)
    · exact k_ret hw hf
    · refine k_pure hf fun x4 hf => ?_
      refine k_if hf (fun hf => ?_) (fun hf => ?_)
      · exact k_ret hw hf
      · refine k_cO (ok_o o_v0 (by decide)) ?_
        refine ob2 hf fun x5 m6 ex hf => ?_
        refine k_b2 (un_X10_laysWhere hw o_v0 ex) fun hw => ?_
        refine k_if hf (fun hf => ?_) (fun hf => ?_)
        · exact k_ret hw hf
        · refine k_if hf (fun hf => ?_) (fun hf => ?_)
          · refine k_gL (ok_o o_v0 (by decide)) rfl ?_
            exact k_ret hw hf
          · refine k_gL (ok_o o_v0 (by decide)) rfl ?_
            exact k_ret hw hf
def n_X10_where (F : Nat) (s : List Sh) (m : Mem) (p0 : Nat) (p1 : Int32) (p2 : Int32) (p3 : Int32) : Option (Int64 × Mem) := nb_X10_where_0 F s m p0 p1 p2 p3
theorem un_X10_where {F : Nat} {s : List Sh} {m m' : Mem} {p0 : Nat} {p1 : Int32} {p2 : Int32} {p3 : Int32} {r : Int64} (hw : GS s m) (o_p0 : ok s p0 10) (ex : n_X10_where F s m p0 p1 p2 p3 = some (r, m')) : J3 (m_X10_where F (bl s m) p0 p1 p2 p3) (r, bl s m') (GS s m') := u_X10_where_0 hw o_p0 ex
/-! FractionLiftModel.alike(III)J over the memory -/
def nb_X10_alike_0 (F : Nat) (s : List Sh) (m : Mem) (v0 : Nat) (v1 : Int32) (v2 : Int32) (v3 : Int32) : Option (Int64 × Mem) := bindv (wI m v0 0 (0 : Int32)) fun m1 => ((m_X10_isStuff v1).bind fun x2 => (if x2 = 0 then (some ((-2 : Int64), m1)) else ((m_X10_isStuff v2).bind fun x3 => (if x3 = 0 then (some ((-2 : Int64), m1)) else (if v1 = v2 then (some ((-2 : Int64), m1)) else ((m_X10_within (Int32.toInt64 v3) (0 : Int64) (1 : Int64)).bind fun x4 => (if x4 = 0 then (some ((-2 : Int64), m1)) else (bind2 (n_X10_laysWhere F s m1 v0 v1 v2 (0 : Int32)) fun x5 m6 => (if x5 = 0 then (some ((-1 : Int64), m6)) else (if v3 = 0 then (some ((m6.2.1 v0 15), m6)) else (some ((m6.2.1 v0 16), m6))))))))))))
set_option maxRecDepth 20000 in
theorem u_X10_alike_0 {F : Nat} {s : List Sh} {m m' : Mem} {r : Int64} {v0 : Nat} {v1 : Int32} {v2 : Int32} {v3 : Int32} (hw : GS s m) (o_v0 : ok s v0 10) (hf : nb_X10_alike_0 F s m v0 v1 v2 v3 = some (r, m')) : J3 (b_X10_alike_0 F (bl s m) v0 v1 v2 v3) (r, bl s m') (GS s m') := by
  unfold nb_X10_alike_0 at hf
  unfold b_X10_alike_0
  refine k_pI hw (ok_o o_v0 (by decide)) rfl hf fun m1 hw hf => ?_
  refine k_pure hf fun x2 hf => ?_
  refine k_if hf (fun hf => ?_) (fun hf => ?_)
  · exact k_ret hw hf
  · refine k_pure hf fun x3 hf => ?_
    refine k_if hf (fun hf => ?_) (fun hf => ?_)
    · exact k_ret hw hf
    · refine k_if hf (fun hf => ?_) (fun hf => ?_)
      · exact k_ret hw hf
      · refine k_pure hf fun x4 hf => ?_
        refine k_if hf (fun hf => ?_) (fun hf => ?_)
        · exact k_ret hw hf
        · refine k_cO (ok_o o_v0 (by decide)) ?_
          refine ob2 hf fun x5 m6 ex hf => ?_
          refine k_b2 (un_X10_laysWhere hw o_v0 ex) fun hw => ?_
          refine k_if hf (fun hf => ?_) (fun hf => ?_)
          · exact k_ret hw hf
          · refine k_if hf (fun hf => ?_) (fun hf => ?_)
            · refine k_gL (ok_o o_v0 (by decide)) rfl ?_
              exact k_ret hw hf
            · refine k_gL (ok_o o_v0 (by decide)) rfl ?_
              exact k_ret hw hf
def n_X10_alike (F : Nat) (s : List Sh) (m : Mem) (p0 : Nat) (p1 : Int32) (p2 : Int32) (p3 : Int32) : Option (Int64 × Mem) := nb_X10_alike_0 F s m p0 p1 p2 p3
theorem un_X10_alike {F : Nat} {s : List Sh} {m m' : Mem} {p0 : Nat} {p1 : Int32} {p2 : Int32} {p3 : Int32} {r : Int64} (hw : GS s m) (o_p0 : ok s p0 10) (ex : n_X10_alike F s m p0 p1 p2 p3 = some (r, m')) : J3 (m_X10_alike F (bl s m) p0 p1 p2 p3) (r, bl s m') (GS s m') := u_X10_alike_0 hw o_p0 ex
/-! FractionLiftModel.most(I)I over the memory -/
def nb_X10_most_65 (F : Nat) (s : List Sh) (nself14 : Mem → Nat → Int32 → Int32 → Int32 → Option (Int32 × Mem)) (m : Mem) (v0 : Nat) (v1 : Int32) (v2 : Int32) (v3 : Int32) : Option (Int32 × Mem) := bindv (v3 + (1)) fun x1 => (nself14 m v0 v1 v2 x1)
set_option maxRecDepth 20000 in
theorem u_X10_most_65 {F : Nat} {s : List Sh} {self14 : PH → Nat → Int32 → Int32 → Int32 → Option (Int32 × PH)} {nself14 : Mem → Nat → Int32 → Int32 → Int32 → Option (Int32 × Mem)} {m m' : Mem} {r : Int32} {v0 : Nat} {v1 : Int32} {v2 : Int32} {v3 : Int32} (hw : GS s m) (o_v0 : ok s v0 10) (ih14 : ∀ (m : Mem) (v0 : Nat) (v1 : Int32) (v2 : Int32) (v3 : Int32), GS s m → ok s v0 10 → nself14 m v0 v1 v2 v3 = some (r, m') → J3 (self14 (bl s m) v0 v1 v2 v3) (r, bl s m') (GS s m')) (hf : nb_X10_most_65 F s nself14 m v0 v1 v2 v3 = some (r, m')) : J3 (b_X10_most_65 F self14 (bl s m) v0 v1 v2 v3) (r, bl s m') (GS s m') := by
  unfold nb_X10_most_65 at hf
  unfold b_X10_most_65
  refine k_bv hf fun x1 hf => ?_
  exact ih14 _ _ _ _ _ hw o_v0 hf
def nb_X10_most_58 (F : Nat) (s : List Sh) (nself14 : Mem → Nat → Int32 → Int32 → Int32 → Option (Int32 × Mem)) (m : Mem) (v0 : Nat) (v1 : Int32) (v3 : Int32) : Option (Int32 × Mem) := (m.2.2 v0 23).bind fun a1 => ((rdI s m a1 v3).bind fun x2 => (nb_X10_most_65 F s nself14 m v0 v1 x2 v3))
set_option maxRecDepth 20000 in
theorem u_X10_most_58 {F : Nat} {s : List Sh} {self14 : PH → Nat → Int32 → Int32 → Int32 → Option (Int32 × PH)} {nself14 : Mem → Nat → Int32 → Int32 → Int32 → Option (Int32 × Mem)} {m m' : Mem} {r : Int32} {v0 : Nat} {v1 : Int32} {v3 : Int32} (hw : GS s m) (o_v0 : ok s v0 10) (ih14 : ∀ (m : Mem) (v0 : Nat) (v1 : Int32) (v2 : Int32) (v3 : Int32), GS s m → ok s v0 10 → nself14 m v0 v1 v2 v3 = some (r, m') → J3 (self14 (bl s m) v0 v1 v2 v3) (r, bl s m') (GS s m')) (hf : nb_X10_most_58 F s nself14 m v0 v1 v3 = some (r, m')) : J3 (b_X10_most_58 F self14 (bl s m) v0 v1 v3) (r, bl s m') (GS s m') := by
  unfold nb_X10_most_58 at hf
  unfold b_X10_most_58
  refine k_gR hw (ok_o o_v0 (by decide)) rfl hf fun a1 o_a1 hf => ?_
  refine k_aI (Or.inl rfl) (ka rfl o_a1) hf fun x2 hf => ?_
  exact u_X10_most_65 hw o_v0 ih14 hf
def nb_X10_most_23 (F : Nat) (s : List Sh) (nself14 : Mem → Nat → Int32 → Int32 → Int32 → Option (Int32 × Mem)) (m : Mem) (v0 : Nat) (v1 : Int32) (v2 : Int32) (v3 : Int32) : Option (Int32 × Mem) := (m.2.2 v0 1).bind fun a1 => ((rdI s m a1 (3 : Int32)).bind fun x2 => (if x2 ≤ v3 then (some (v2, m)) else (if v2 = (-1 : Int32) then (nb_X10_most_58 F s nself14 m v0 v1 v3) else ((m.2.2 v0 23).bind fun a3 => ((rdI s m a3 v3).bind fun x4 => ((n_X10_stuffOf s m v0 v1 x4).bind fun x5 => ((n_X10_stuffOf s m v0 v1 v2).bind fun x6 => (if x5 ≤ x6 then (nb_X10_most_65 F s nself14 m v0 v1 v2 v3) else (nb_X10_most_58 F s nself14 m v0 v1 v3)))))))))
set_option maxRecDepth 20000 in
theorem ub_X10_most_23 {F : Nat} {s : List Sh} {self14 : PH → Nat → Int32 → Int32 → Int32 → Option (Int32 × PH)} {nself14 : Mem → Nat → Int32 → Int32 → Int32 → Option (Int32 × Mem)} {m m' : Mem} {r : Int32} {v0 : Nat} {v1 : Int32} {v2 : Int32} {v3 : Int32} (hw : GS s m) (o_v0 : ok s v0 10) (ih14 : ∀ (m : Mem) (v0 : Nat) (v1 : Int32) (v2 : Int32) (v3 : Int32), GS s m → ok s v0 10 → nself14 m v0 v1 v2 v3 = some (r, m') → J3 (self14 (bl s m) v0 v1 v2 v3) (r, bl s m') (GS s m')) (hf : nb_X10_most_23 F s nself14 m v0 v1 v2 v3 = some (r, m')) : J3 (b_X10_most_23 F self14 (bl s m) v0 v1 v2 v3) (r, bl s m') (GS s m') := by
  unfold nb_X10_most_23 at hf
  unfold b_X10_most_23
  refine k_gR hw (ok_o o_v0 (by decide)) rfl hf fun a1 o_a1 hf => ?_
  refine k_aI (Or.inl rfl) (ka rfl o_a1) hf fun x2 hf => ?_
  refine k_if hf (fun hf => ?_) (fun hf => ?_)
  · exact k_ret hw hf
  · refine k_if hf (fun hf => ?_) (fun hf => ?_)
    · exact u_X10_most_58 hw o_v0 ih14 hf
    · refine k_gR hw (ok_o o_v0 (by decide)) rfl hf fun a3 o_a3 hf => ?_
      refine k_aI (Or.inl rfl) (ka rfl o_a3) hf fun x4 hf => ?_
      refine k_cO (ok_o o_v0 (by decide)) ?_
      refine ob hf fun x5 ex hf => ?_
      refine k_b1 (un_X10_stuffOf hw o_v0 ex) ?_
      refine k_cO (ok_o o_v0 (by decide)) ?_
      refine ob hf fun x6 ex hf => ?_
      refine k_b1 (un_X10_stuffOf hw o_v0 ex) ?_
      refine k_if hf (fun hf => ?_) (fun hf => ?_)
      · exact u_X10_most_65 hw o_v0 ih14 hf
      · exact u_X10_most_58 hw o_v0 ih14 hf
def nl_X10_most_23 (F : Nat) (s : List Sh) : Nat → Mem → Nat → Int32 → Int32 → Int32 → Option (Int32 × Mem)
  | 0 => fun _ _ _ _ _ => none
  | n + 1 => fun m v0 v1 v2 v3 => nb_X10_most_23 F s (nl_X10_most_23 F s n) m v0 v1 v2 v3
theorem ul_X10_most_23 {F : Nat} {s : List Sh} {m' : Mem} {r : Int32} (n : Nat) : ∀ (m : Mem) (v0 : Nat) (v1 : Int32) (v2 : Int32) (v3 : Int32), GS s m → ok s v0 10 → nl_X10_most_23 F s n m v0 v1 v2 v3 = some (r, m') → J3 (l_X10_most_23 F n (bl s m) v0 v1 v2 v3) (r, bl s m') (GS s m') := by
  induction n with
  | zero => intro m v0 v1 v2 v3 hw o_v0 hf; cases hf
  | succ n ih => intro m v0 v1 v2 v3 hw o_v0 hf; exact ub_X10_most_23 (F := F) hw o_v0 ih hf
def nb_X10_most_0 (F : Nat) (s : List Sh) (m : Mem) (v0 : Nat) (v1 : Int32) : Option (Int32 × Mem) := bindv (wI m v0 0 (0 : Int32)) fun m1 => ((m_X10_isStuff v1).bind fun x2 => (if x2 = 0 then (some ((-2 : Int32), m1)) else (bind2 (n_X10_laysOrder F s m1 v0) fun _ m4 => (nl_X10_most_23 F s F m4 v0 v1 (-1 : Int32) (0 : Int32)))))
set_option maxRecDepth 20000 in
theorem u_X10_most_0 {F : Nat} {s : List Sh} {m m' : Mem} {r : Int32} {v0 : Nat} {v1 : Int32} (hw : GS s m) (o_v0 : ok s v0 10) (hf : nb_X10_most_0 F s m v0 v1 = some (r, m')) : J3 (b_X10_most_0 F (bl s m) v0 v1) (r, bl s m') (GS s m') := by
  unfold nb_X10_most_0 at hf
  unfold b_X10_most_0
  refine k_pI hw (ok_o o_v0 (by decide)) rfl hf fun m1 hw hf => ?_
  refine k_pure hf fun x2 hf => ?_
  refine k_if hf (fun hf => ?_) (fun hf => ?_)
  · exact k_ret hw hf
  · refine k_cO (ok_o o_v0 (by decide)) ?_
    refine ob2 hf fun u m4 ex hf => ?_
    refine k_b2 (un_X10_laysOrder hw o_v0 ex) fun hw => ?_
    exact ul_X10_most_23 F _ _ _ _ _ hw o_v0 hf
def n_X10_most (F : Nat) (s : List Sh) (m : Mem) (p0 : Nat) (p1 : Int32) : Option (Int32 × Mem) := nb_X10_most_0 F s m p0 p1
theorem un_X10_most {F : Nat} {s : List Sh} {m m' : Mem} {p0 : Nat} {p1 : Int32} {r : Int32} (hw : GS s m) (o_p0 : ok s p0 10) (ex : n_X10_most F s m p0 p1 = some (r, m')) : J3 (m_X10_most F (bl s m) p0 p1) (r, bl s m') (GS s m') := u_X10_most_0 hw o_p0 ex
/-! FractionLiftModel.tells(II)I over the memory -/
def nb_X10_tells_114 (F : Nat) (s : List Sh) (nself64 : Mem → Nat → Int64 → Int64 → Int32 → Int32 → Option (Int32 × Mem)) (m : Mem) (v0 : Nat) (v3 : Int64) (v5 : Int64) (v7 : Int32) (v8 : Int32) : Option (Int32 × Mem) := if (3 : Int32) ≤ v8 then ((m.2.2 v0 1).bind fun a1 => ((stI s m a1 (((9 : Int32) + v7)) (Int64.toInt32 v3)).bind fun m2 => ((m2.2.2 v0 1).bind fun a3 => ((stI s m2 a3 (((17 : Int32) + v7)) (Int64.toInt32 v5)).bind fun m4 => ((m4.2.2 v0 1).bind fun a5 => ((rdI s m4 a5 (3 : Int32)).bind fun x6 => ((stI s m4 a5 (3 : Int32) ((x6 + (1 : Int32)))).bind fun m7 => (some (v7, m7))))))))) else (bind2 (n_X10_laysStuff F s m v0 v8 (3 : Int32) v3 v5) fun _ m9 => ((m9.2.2 v0 1).bind fun a10 => (if (m9.2.1 v0 16) = 0 then none else ((stI s m9 a10 (((((25 : Int32) + (((8 : Int32) * v8)))) + v7)) ((Int64.toInt32 (((m9.2.1 v0 15) / (m9.2.1 v0 16)))))).bind fun m11 => (bindv (v8 + (1)) fun x12 => (nself64 m11 v0 v3 v5 v7 x12))))))
set_option maxRecDepth 20000 in
theorem ub_X10_tells_114 {F : Nat} {s : List Sh} {self64 : PH → Nat → Int64 → Int64 → Int32 → Int32 → Option (Int32 × PH)} {nself64 : Mem → Nat → Int64 → Int64 → Int32 → Int32 → Option (Int32 × Mem)} {m m' : Mem} {r : Int32} {v0 : Nat} {v3 : Int64} {v5 : Int64} {v7 : Int32} {v8 : Int32} (hw : GS s m) (o_v0 : ok s v0 10) (ih64 : ∀ (m : Mem) (v0 : Nat) (v3 : Int64) (v5 : Int64) (v7 : Int32) (v8 : Int32), GS s m → ok s v0 10 → nself64 m v0 v3 v5 v7 v8 = some (r, m') → J3 (self64 (bl s m) v0 v3 v5 v7 v8) (r, bl s m') (GS s m')) (hf : nb_X10_tells_114 F s nself64 m v0 v3 v5 v7 v8 = some (r, m')) : J3 (b_X10_tells_114 F self64 (bl s m) v0 v3 v5 v7 v8) (r, bl s m') (GS s m') := by
  unfold nb_X10_tells_114 at hf
  unfold b_X10_tells_114
  refine k_if hf (fun hf => ?_) (fun hf => ?_)
  · refine k_gR hw (ok_o o_v0 (by decide)) rfl hf fun a1 o_a1 hf => ?_
    refine k_sI hw (ka rfl o_a1) hf fun m2 hw hf => ?_
    refine k_gR hw (ok_o o_v0 (by decide)) rfl hf fun a3 o_a3 hf => ?_
    refine k_sI hw (ka rfl o_a3) hf fun m4 hw hf => ?_
    refine k_gR hw (ok_o o_v0 (by decide)) rfl hf fun a5 o_a5 hf => ?_
    refine k_aI (Or.inl rfl) (ka rfl o_a5) hf fun x6 hf => ?_
    refine k_sI hw (ka rfl o_a5) hf fun m7 hw hf => ?_
    exact k_ret hw hf
  · refine k_cO (ok_o o_v0 (by decide)) ?_
    refine ob2 hf fun u m9 ex hf => ?_
    refine k_b2 (un_X10_laysStuff hw o_v0 ex) fun hw => ?_
    refine k_gR hw (ok_o o_v0 (by decide)) rfl hf fun a10 o_a10 hf => ?_
    refine k_gL (ok_o o_v0 (by decide)) rfl ?_
    refine k_gL (ok_o o_v0 (by decide)) rfl ?_
    refine k_if hf (fun hf => by cases hf) (fun hf => ?_)
    refine k_sI hw (ka rfl o_a10) hf fun m11 hw hf => ?_
    refine k_bv hf fun x12 hf => ?_
    exact ih64 _ _ _ _ _ _ hw o_v0 hf
def nl_X10_tells_114 (F : Nat) (s : List Sh) : Nat → Mem → Nat → Int64 → Int64 → Int32 → Int32 → Option (Int32 × Mem)
  | 0 => fun _ _ _ _ _ _ => none
  | n + 1 => fun m v0 v3 v5 v7 v8 => nb_X10_tells_114 F s (nl_X10_tells_114 F s n) m v0 v3 v5 v7 v8
theorem ul_X10_tells_114 {F : Nat} {s : List Sh} {m' : Mem} {r : Int32} (n : Nat) : ∀ (m : Mem) (v0 : Nat) (v3 : Int64) (v5 : Int64) (v7 : Int32) (v8 : Int32), GS s m → ok s v0 10 → nl_X10_tells_114 F s n m v0 v3 v5 v7 v8 = some (r, m') → J3 (l_X10_tells_114 F n (bl s m) v0 v3 v5 v7 v8) (r, bl s m') (GS s m') := by
  induction n with
  | zero => intro m v0 v3 v5 v7 v8 hw o_v0 hf; cases hf
  | succ n ih => intro m v0 v3 v5 v7 v8 hw o_v0 hf; exact ub_X10_tells_114 (F := F) hw o_v0 ih hf
def nb_X10_tells_105 (F : Nat) (s : List Sh) (nself35 : Mem → Nat → Int64 → Int64 → Int32 → Int32 → Option (Int32 × Mem)) (m : Mem) (v0 : Nat) (v3 : Int64) (v5 : Int64) (v7 : Int32) (v8 : Int32) : Option (Int32 × Mem) := bindv (v8 + (1)) fun x1 => (nself35 m v0 v3 v5 v7 x1)
set_option maxRecDepth 20000 in
theorem u_X10_tells_105 {F : Nat} {s : List Sh} {self35 : PH → Nat → Int64 → Int64 → Int32 → Int32 → Option (Int32 × PH)} {nself35 : Mem → Nat → Int64 → Int64 → Int32 → Int32 → Option (Int32 × Mem)} {m m' : Mem} {r : Int32} {v0 : Nat} {v3 : Int64} {v5 : Int64} {v7 : Int32} {v8 : Int32} (hw : GS s m) (o_v0 : ok s v0 10) (ih35 : ∀ (m : Mem) (v0 : Nat) (v3 : Int64) (v5 : Int64) (v7 : Int32) (v8 : Int32), GS s m → ok s v0 10 → nself35 m v0 v3 v5 v7 v8 = some (r, m') → J3 (self35 (bl s m) v0 v3 v5 v7 v8) (r, bl s m') (GS s m')) (hf : nb_X10_tells_105 F s nself35 m v0 v3 v5 v7 v8 = some (r, m')) : J3 (b_X10_tells_105 F self35 (bl s m) v0 v3 v5 v7 v8) (r, bl s m') (GS s m') := by
  unfold nb_X10_tells_105 at hf
  unfold b_X10_tells_105
  refine k_bv hf fun x1 hf => ?_
  exact ih35 _ _ _ _ _ _ hw o_v0 hf
def nb_X10_tells_62 (F : Nat) (s : List Sh) (nself35 : Mem → Nat → Int64 → Int64 → Int32 → Int32 → Option (Int32 × Mem)) (m : Mem) (v0 : Nat) (v3 : Int64) (v5 : Int64) (v7 : Int32) (v8 : Int32) : Option (Int32 × Mem) := if v7 ≤ v8 then (nl_X10_tells_114 F s F m v0 v3 v5 v7 (0 : Int32)) else ((m.2.2 v0 1).bind fun a1 => ((rdI s m a1 (((9 : Int32) + v8))).bind fun x2 => (if (Int32.toInt64 x2) = v3 then ((m.2.2 v0 1).bind fun a3 => ((rdI s m a3 (((17 : Int32) + v8))).bind fun x4 => (if (Int32.toInt64 x4) = v5 then (some ((-5 : Int32), m)) else (nb_X10_tells_105 F s nself35 m v0 v3 v5 v7 v8)))) else (nb_X10_tells_105 F s nself35 m v0 v3 v5 v7 v8))))
set_option maxRecDepth 20000 in
theorem ub_X10_tells_62 {F : Nat} {s : List Sh} {self35 : PH → Nat → Int64 → Int64 → Int32 → Int32 → Option (Int32 × PH)} {nself35 : Mem → Nat → Int64 → Int64 → Int32 → Int32 → Option (Int32 × Mem)} {m m' : Mem} {r : Int32} {v0 : Nat} {v3 : Int64} {v5 : Int64} {v7 : Int32} {v8 : Int32} (hw : GS s m) (o_v0 : ok s v0 10) (ih35 : ∀ (m : Mem) (v0 : Nat) (v3 : Int64) (v5 : Int64) (v7 : Int32) (v8 : Int32), GS s m → ok s v0 10 → nself35 m v0 v3 v5 v7 v8 = some (r, m') → J3 (self35 (bl s m) v0 v3 v5 v7 v8) (r, bl s m') (GS s m')) (hf : nb_X10_tells_62 F s nself35 m v0 v3 v5 v7 v8 = some (r, m')) : J3 (b_X10_tells_62 F self35 (bl s m) v0 v3 v5 v7 v8) (r, bl s m') (GS s m') := by
  unfold nb_X10_tells_62 at hf
  unfold b_X10_tells_62
  refine k_if hf (fun hf => ?_) (fun hf => ?_)
  · exact ul_X10_tells_114 F _ _ _ _ _ _ hw o_v0 hf
  · refine k_gR hw (ok_o o_v0 (by decide)) rfl hf fun a1 o_a1 hf => ?_
    refine k_aI (Or.inl rfl) (ka rfl o_a1) hf fun x2 hf => ?_
    refine k_if hf (fun hf => ?_) (fun hf => ?_)
    · refine k_gR hw (ok_o o_v0 (by decide)) rfl hf fun a3 o_a3 hf => ?_
      refine k_aI (Or.inl rfl) (ka rfl o_a3) hf fun x4 hf => ?_
      refine k_if hf (fun hf => ?_) (fun hf => ?_)
      · exact k_ret hw hf
      · exact u_X10_tells_105 hw o_v0 ih35 hf
    · exact u_X10_tells_105 hw o_v0 ih35 hf
def nl_X10_tells_62 (F : Nat) (s : List Sh) : Nat → Mem → Nat → Int64 → Int64 → Int32 → Int32 → Option (Int32 × Mem)
  | 0 => fun _ _ _ _ _ _ => none
  | n + 1 => fun m v0 v3 v5 v7 v8 => nb_X10_tells_62 F s (nl_X10_tells_62 F s n) m v0 v3 v5 v7 v8
theorem ul_X10_tells_62 {F : Nat} {s : List Sh} {m' : Mem} {r : Int32} (n : Nat) : ∀ (m : Mem) (v0 : Nat) (v3 : Int64) (v5 : Int64) (v7 : Int32) (v8 : Int32), GS s m → ok s v0 10 → nl_X10_tells_62 F s n m v0 v3 v5 v7 v8 = some (r, m') → J3 (l_X10_tells_62 F n (bl s m) v0 v3 v5 v7 v8) (r, bl s m') (GS s m') := by
  induction n with
  | zero => intro m v0 v3 v5 v7 v8 hw o_v0 hf; cases hf
  | succ n ih => intro m v0 v3 v5 v7 v8 hw o_v0 hf; exact ub_X10_tells_62 (F := F) hw o_v0 ih hf
def nb_X10_tells_0 (F : Nat) (s : List Sh) (m : Mem) (v0 : Nat) (v1 : Int32) (v2 : Int32) : Option (Int32 × Mem) := bindv (wI m v0 0 (0 : Int32)) fun m1 => (bind2 (n_X10_asks s m1 v0 (Int32.toInt64 v1) (Int32.toInt64 v2)) fun x2 m3 => (if x2 = 0 then (some ((-3 : Int32), m3)) else (if (m3.2.1 v0 16) ≤ (99 : Int64) then ((m3.2.2 v0 1).bind fun a4 => ((rdI s m3 a4 (3 : Int32)).bind fun x5 => (if x5 = (8 : Int32) then (some ((-4 : Int32), m3)) else (nl_X10_tells_62 F s F m3 v0 (m3.2.1 v0 15) (m3.2.1 v0 16) x5 (0 : Int32))))) else (some ((-3 : Int32), m3)))))
set_option maxRecDepth 20000 in
theorem u_X10_tells_0 {F : Nat} {s : List Sh} {m m' : Mem} {r : Int32} {v0 : Nat} {v1 : Int32} {v2 : Int32} (hw : GS s m) (o_v0 : ok s v0 10) (hf : nb_X10_tells_0 F s m v0 v1 v2 = some (r, m')) : J3 (b_X10_tells_0 F (bl s m) v0 v1 v2) (r, bl s m') (GS s m') := by
  unfold nb_X10_tells_0 at hf
  unfold b_X10_tells_0
  refine k_pI hw (ok_o o_v0 (by decide)) rfl hf fun m1 hw hf => ?_
  refine k_cO (ok_o o_v0 (by decide)) ?_
  refine ob2 hf fun x2 m3 ex hf => ?_
  refine k_b2 (un_X10_asks hw o_v0 ex) fun hw => ?_
  refine k_if hf (fun hf => ?_) (fun hf => ?_)
  · exact k_ret hw hf
  · refine k_gL (ok_o o_v0 (by decide)) rfl ?_
    refine k_if hf (fun hf => ?_) (fun hf => ?_)
    · refine k_gL (ok_o o_v0 (by decide)) rfl ?_
      refine k_gL (ok_o o_v0 (by decide)) rfl ?_
      refine k_gR hw (ok_o o_v0 (by decide)) rfl hf fun a4 o_a4 hf => ?_
      refine k_aI (Or.inl rfl) (ka rfl o_a4) hf fun x5 hf => ?_
      refine k_if hf (fun hf => ?_) (fun hf => ?_)
      · exact k_ret hw hf
      · exact ul_X10_tells_62 F _ _ _ _ _ _ hw o_v0 hf
    · exact k_ret hw hf
def n_X10_tells (F : Nat) (s : List Sh) (m : Mem) (p0 : Nat) (p1 : Int32) (p2 : Int32) : Option (Int32 × Mem) := nb_X10_tells_0 F s m p0 p1 p2
theorem un_X10_tells {F : Nat} {s : List Sh} {m m' : Mem} {p0 : Nat} {p1 : Int32} {p2 : Int32} {r : Int32} (hw : GS s m) (o_p0 : ok s p0 10) (ex : n_X10_tells F s m p0 p1 p2 = some (r, m')) : J3 (m_X10_tells F (bl s m) p0 p1 p2) (r, bl s m') (GS s m') := u_X10_tells_0 hw o_p0 ex
/-! FractionLiftModel.forgets()V over the memory -/
def nb_X10_forgets_2 (F : Nat) (s : List Sh) (nself2 : Mem → Nat → Int32 → Option (Unit × Mem)) (m : Mem) (v0 : Nat) (v1 : Int32) : Option (Unit × Mem) := if (16384 : Int32) ≤ v1 then (bindv (wI m v0 29 (0 : Int32)) fun m1 => (some ((), m1))) else ((m.2.2 v0 28).bind fun a2 => ((stI s m a2 v1 (-1 : Int32)).bind fun m3 => (bindv (v1 + (1)) fun x4 => (nself2 m3 v0 x4))))
set_option maxRecDepth 20000 in
theorem ub_X10_forgets_2 {F : Nat} {s : List Sh} {self2 : PH → Nat → Int32 → Option (Unit × PH)} {nself2 : Mem → Nat → Int32 → Option (Unit × Mem)} {m m' : Mem} {r : Unit} {v0 : Nat} {v1 : Int32} (hw : GS s m) (o_v0 : ok s v0 10) (ih2 : ∀ (m : Mem) (v0 : Nat) (v1 : Int32), GS s m → ok s v0 10 → nself2 m v0 v1 = some (r, m') → J3 (self2 (bl s m) v0 v1) (r, bl s m') (GS s m')) (hf : nb_X10_forgets_2 F s nself2 m v0 v1 = some (r, m')) : J3 (b_X10_forgets_2 F self2 (bl s m) v0 v1) (r, bl s m') (GS s m') := by
  unfold nb_X10_forgets_2 at hf
  unfold b_X10_forgets_2
  refine k_if hf (fun hf => ?_) (fun hf => ?_)
  · refine k_pI hw (ok_o o_v0 (by decide)) rfl hf fun m1 hw hf => ?_
    exact k_ret hw hf
  · refine k_gR hw (ok_o o_v0 (by decide)) rfl hf fun a2 o_a2 hf => ?_
    refine k_sI hw (ka rfl o_a2) hf fun m3 hw hf => ?_
    refine k_bv hf fun x4 hf => ?_
    exact ih2 _ _ _ hw o_v0 hf
def nl_X10_forgets_2 (F : Nat) (s : List Sh) : Nat → Mem → Nat → Int32 → Option (Unit × Mem)
  | 0 => fun _ _ _ => none
  | n + 1 => fun m v0 v1 => nb_X10_forgets_2 F s (nl_X10_forgets_2 F s n) m v0 v1
theorem ul_X10_forgets_2 {F : Nat} {s : List Sh} {m' : Mem} {r : Unit} (n : Nat) : ∀ (m : Mem) (v0 : Nat) (v1 : Int32), GS s m → ok s v0 10 → nl_X10_forgets_2 F s n m v0 v1 = some (r, m') → J3 (l_X10_forgets_2 F n (bl s m) v0 v1) (r, bl s m') (GS s m') := by
  induction n with
  | zero => intro m v0 v1 hw o_v0 hf; cases hf
  | succ n ih => intro m v0 v1 hw o_v0 hf; exact ub_X10_forgets_2 (F := F) hw o_v0 ih hf
def nb_X10_forgets_0 (F : Nat) (s : List Sh) (m : Mem) (v0 : Nat) : Option (Unit × Mem) := nl_X10_forgets_2 F s F m v0 (0 : Int32)
set_option maxRecDepth 20000 in
theorem u_X10_forgets_0 {F : Nat} {s : List Sh} {m m' : Mem} {r : Unit} {v0 : Nat} (hw : GS s m) (o_v0 : ok s v0 10) (hf : nb_X10_forgets_0 F s m v0 = some (r, m')) : J3 (b_X10_forgets_0 F (bl s m) v0) (r, bl s m') (GS s m') := by
  unfold nb_X10_forgets_0 at hf
  unfold b_X10_forgets_0
  exact ul_X10_forgets_2 F _ _ _ hw o_v0 hf
def n_X10_forgets (F : Nat) (s : List Sh) (m : Mem) (p0 : Nat) : Option (Unit × Mem) := nb_X10_forgets_0 F s m p0
theorem un_X10_forgets {F : Nat} {s : List Sh} {m m' : Mem} {p0 : Nat} {r : Unit} (hw : GS s m) (o_p0 : ok s p0 10) (ex : n_X10_forgets F s m p0 = some (r, m')) : J3 (m_X10_forgets F (bl s m) p0) (r, bl s m') (GS s m') := u_X10_forgets_0 hw o_p0 ex
/-! FractionLiftModel.metAt(JJ)I over the memory -/
def nb_X10_metAt_78 (F : Nat) (s : List Sh) (nself4 : Nat → Int64 → Int64 → Int32 → Option Int32) (m : Mem) (v0 : Nat) (v1 : Int64) (v3 : Int64) (s0 : Int32) : Option Int32 := nself4 v0 v1 v3 s0
set_option maxRecDepth 20000 in
theorem u_X10_metAt_78 {F : Nat} {s : List Sh} {self4 : Nat → Int64 → Int64 → Int32 → Option Int32} {nself4 : Nat → Int64 → Int64 → Int32 → Option Int32} {m : Mem} {r : Int32} {v0 : Nat} {v1 : Int64} {v3 : Int64} {s0 : Int32} (hw : GS s m) (o_v0 : ok s v0 10) (ih4 : ∀ (v0 : Nat) (v1 : Int64) (v3 : Int64) (v5 : Int32), ok s v0 10 → nself4 v0 v1 v3 v5 = some r → J3 (self4 v0 v1 v3 v5) r True) (hf : nb_X10_metAt_78 F s nself4 m v0 v1 v3 s0 = some r) : J3 (b_X10_metAt_78 F self4 (bl s m) v0 v1 v3 s0) r True := by
  unfold nb_X10_metAt_78 at hf
  unfold b_X10_metAt_78
  exact ih4 _ _ _ _ o_v0 hf
def nb_X10_metAt_62 (F : Nat) (s : List Sh) (nself4 : Nat → Int64 → Int64 → Int32 → Option Int32) (m : Mem) (v0 : Nat) (v1 : Int64) (v3 : Int64) (v5 : Int32) : Option Int32 := if v5 = (16383 : Int32) then (nb_X10_metAt_78 F s nself4 m v0 v1 v3 (0 : Int32)) else (nb_X10_metAt_78 F s nself4 m v0 v1 v3 ((v5 + (1 : Int32))))
set_option maxRecDepth 20000 in
theorem u_X10_metAt_62 {F : Nat} {s : List Sh} {self4 : Nat → Int64 → Int64 → Int32 → Option Int32} {nself4 : Nat → Int64 → Int64 → Int32 → Option Int32} {m : Mem} {r : Int32} {v0 : Nat} {v1 : Int64} {v3 : Int64} {v5 : Int32} (hw : GS s m) (o_v0 : ok s v0 10) (ih4 : ∀ (v0 : Nat) (v1 : Int64) (v3 : Int64) (v5 : Int32), ok s v0 10 → nself4 v0 v1 v3 v5 = some r → J3 (self4 v0 v1 v3 v5) r True) (hf : nb_X10_metAt_62 F s nself4 m v0 v1 v3 v5 = some r) : J3 (b_X10_metAt_62 F self4 (bl s m) v0 v1 v3 v5) r True := by
  unfold nb_X10_metAt_62 at hf
  unfold b_X10_metAt_62
  refine k_if hf (fun hf => ?_) (fun hf => ?_)
  · exact u_X10_metAt_78 hw o_v0 ih4 hf
  · exact u_X10_metAt_78 hw o_v0 ih4 hf
def nb_X10_metAt_7 (F : Nat) (s : List Sh) (nself4 : Nat → Int64 → Int64 → Int32 → Option Int32) (m : Mem) (v0 : Nat) (v1 : Int64) (v3 : Int64) (v5 : Int32) : Option Int32 := (m.2.2 v0 28).bind fun a1 => ((rdI s m a1 v5).bind fun x2 => (if x2 = (-1 : Int32) then (some (-1 : Int32)) else ((m.2.2 v0 24).bind fun a3 => ((m.2.2 v0 28).bind fun a4 => ((rdI s m a4 v5).bind fun x5 => ((rdI s m a3 x5).bind fun x6 => (if (Int32.toInt64 x6) = v1 then ((m.2.2 v0 25).bind fun a7 => ((m.2.2 v0 28).bind fun a8 => ((rdI s m a8 v5).bind fun x9 => ((rdI s m a7 x9).bind fun x10 => (if (Int32.toInt64 x10) = v3 then ((m.2.2 v0 28).bind fun a11 => ((rdI s m a11 v5).bind fun x12 => (some x12))) else (nb_X10_metAt_62 F s nself4 m v0 v1 v3 v5)))))) else (nb_X10_metAt_62 F s nself4 m v0 v1 v3 v5))))))))
set_option maxRecDepth 20000 in
theorem ub_X10_metAt_7 {F : Nat} {s : List Sh} {self4 : Nat → Int64 → Int64 → Int32 → Option Int32} {nself4 : Nat → Int64 → Int64 → Int32 → Option Int32} {m : Mem} {r : Int32} {v0 : Nat} {v1 : Int64} {v3 : Int64} {v5 : Int32} (hw : GS s m) (o_v0 : ok s v0 10) (ih4 : ∀ (v0 : Nat) (v1 : Int64) (v3 : Int64) (v5 : Int32), ok s v0 10 → nself4 v0 v1 v3 v5 = some r → J3 (self4 v0 v1 v3 v5) r True) (hf : nb_X10_metAt_7 F s nself4 m v0 v1 v3 v5 = some r) : J3 (b_X10_metAt_7 F self4 (bl s m) v0 v1 v3 v5) r True := by
  unfold nb_X10_metAt_7 at hf
  unfold b_X10_metAt_7
  refine k_gR hw (ok_o o_v0 (by decide)) rfl hf fun a1 o_a1 hf => ?_
  refine k_aI (Or.inl rfl) (ka rfl o_a1) hf fun x2 hf => ?_
  refine k_if hf (fun hf => ?_) (fun hf => ?_)
  · exact k_retP hf
  · refine k_gR hw (ok_o o_v0 (by decide)) rfl hf fun a3 o_a3 hf => ?_
    refine k_gR hw (ok_o o_v0 (by decide)) rfl hf fun a4 o_a4 hf => ?_
    refine k_aI (Or.inl rfl) (ka rfl o_a4) hf fun x5 hf => ?_
    refine k_aI (Or.inl rfl) (ka rfl o_a3) hf fun x6 hf => ?_
    refine k_if hf (fun hf => ?_) (fun hf => ?_)
    · refine k_gR hw (ok_o o_v0 (by decide)) rfl hf fun a7 o_a7 hf => ?_
      refine k_gR hw (ok_o o_v0 (by decide)) rfl hf fun a8 o_a8 hf => ?_
      refine k_aI (Or.inl rfl) (ka rfl o_a8) hf fun x9 hf => ?_
      refine k_aI (Or.inl rfl) (ka rfl o_a7) hf fun x10 hf => ?_
      refine k_if hf (fun hf => ?_) (fun hf => ?_)
      · refine k_gR hw (ok_o o_v0 (by decide)) rfl hf fun a11 o_a11 hf => ?_
        refine k_aI (Or.inl rfl) (ka rfl o_a11) hf fun x12 hf => ?_
        exact k_retP hf
      · exact u_X10_metAt_62 hw o_v0 ih4 hf
    · exact u_X10_metAt_62 hw o_v0 ih4 hf
def nl_X10_metAt_7 (F : Nat) (s : List Sh) (m : Mem) : Nat → Nat → Int64 → Int64 → Int32 → Option Int32
  | 0 => fun _ _ _ _ => none
  | n + 1 => fun v0 v1 v3 v5 => nb_X10_metAt_7 F s (nl_X10_metAt_7 F s m n) m v0 v1 v3 v5
theorem ul_X10_metAt_7 {F : Nat} {s : List Sh} {m : Mem} {r : Int32} (hw : GS s m) (n : Nat) : ∀ (v0 : Nat) (v1 : Int64) (v3 : Int64) (v5 : Int32), ok s v0 10 → nl_X10_metAt_7 F s m n v0 v1 v3 v5 = some r → J3 (l_X10_metAt_7 F (bl s m) n v0 v1 v3 v5) r True := by
  induction n with
  | zero => intro v0 v1 v3 v5 o_v0 hf; cases hf
  | succ n ih => intro v0 v1 v3 v5 o_v0 hf; exact ub_X10_metAt_7 (F := F) hw o_v0 ih hf
def nb_X10_metAt_0 (F : Nat) (s : List Sh) (m : Mem) (v0 : Nat) (v1 : Int64) (v3 : Int64) : Option Int32 := (m_X10_spot v1 v3).bind fun x1 => (nl_X10_metAt_7 F s m F v0 v1 v3 x1)
set_option maxRecDepth 20000 in
theorem u_X10_metAt_0 {F : Nat} {s : List Sh} {m : Mem} {r : Int32} {v0 : Nat} {v1 : Int64} {v3 : Int64} (hw : GS s m) (o_v0 : ok s v0 10) (hf : nb_X10_metAt_0 F s m v0 v1 v3 = some r) : J3 (b_X10_metAt_0 F (bl s m) v0 v1 v3) r True := by
  unfold nb_X10_metAt_0 at hf
  unfold b_X10_metAt_0
  refine k_pure hf fun x1 hf => ?_
  exact ul_X10_metAt_7 hw F _ _ _ _ o_v0 hf
def n_X10_metAt (F : Nat) (s : List Sh) (m : Mem) (p0 : Nat) (p1 : Int64) (p3 : Int64) : Option Int32 := nb_X10_metAt_0 F s m p0 p1 p3
theorem un_X10_metAt {F : Nat} {s : List Sh} {m : Mem} {p0 : Nat} {p1 : Int64} {p3 : Int64} {r : Int32} (hw : GS s m) (o_p0 : ok s p0 10) (ex : n_X10_metAt F s m p0 p1 p3 = some r) : J3 (m_X10_metAt F (bl s m) p0 p1 p3) r True := u_X10_metAt_0 hw o_p0 ex
/-! FractionLiftModel.meets(JJII)V over the memory -/
def nb_X10_meets_34 (F : Nat) (s : List Sh) (nself4 : Mem → Nat → Int64 → Int64 → Int32 → Int32 → Int32 → Option (Unit × Mem)) (m : Mem) (v0 : Nat) (v1 : Int64) (v3 : Int64) (v5 : Int32) (v6 : Int32) (s0 : Int32) : Option (Unit × Mem) := nself4 m v0 v1 v3 v5 v6 s0
set_option maxRecDepth 20000 in
theorem u_X10_meets_34 {F : Nat} {s : List Sh} {self4 : PH → Nat → Int64 → Int64 → Int32 → Int32 → Int32 → Option (Unit × PH)} {nself4 : Mem → Nat → Int64 → Int64 → Int32 → Int32 → Int32 → Option (Unit × Mem)} {m m' : Mem} {r : Unit} {v0 : Nat} {v1 : Int64} {v3 : Int64} {v5 : Int32} {v6 : Int32} {s0 : Int32} (hw : GS s m) (o_v0 : ok s v0 10) (ih4 : ∀ (m : Mem) (v0 : Nat) (v1 : Int64) (v3 : Int64) (v5 : Int32) (v6 : Int32) (v7 : Int32), GS s m → ok s v0 10 → nself4 m v0 v1 v3 v5 v6 v7 = some (r, m') → J3 (self4 (bl s m) v0 v1 v3 v5 v6 v7) (r, bl s m') (GS s m')) (hf : nb_X10_meets_34 F s nself4 m v0 v1 v3 v5 v6 s0 = some (r, m')) : J3 (b_X10_meets_34 F self4 (bl s m) v0 v1 v3 v5 v6 s0) (r, bl s m') (GS s m') := by
  unfold nb_X10_meets_34 at hf
  unfold b_X10_meets_34
  exact ih4 _ _ _ _ _ _ _ hw o_v0 hf
def nb_X10_meets_7 (F : Nat) (s : List Sh) (nself4 : Mem → Nat → Int64 → Int64 → Int32 → Int32 → Int32 → Option (Unit × Mem)) (m : Mem) (v0 : Nat) (v1 : Int64) (v3 : Int64) (v5 : Int32) (v6 : Int32) (v7 : Int32) : Option (Unit × Mem) := (m.2.2 v0 28).bind fun a1 => ((rdI s m a1 v7).bind fun x2 => (if x2 = (-1 : Int32) then ((m.2.2 v0 28).bind fun a3 => ((stI s m a3 v7 (m.1 v0 29)).bind fun m4 => ((m4.2.2 v0 24).bind fun a5 => ((stI s m4 a5 (m4.1 v0 29) (Int64.toInt32 v1)).bind fun m6 => ((m6.2.2 v0 25).bind fun a7 => ((stI s m6 a7 (m6.1 v0 29) (Int64.toInt32 v3)).bind fun m8 => ((m8.2.2 v0 26).bind fun a9 => ((stI s m8 a9 (m8.1 v0 29) v5).bind fun m10 => ((m10.2.2 v0 27).bind fun a11 => ((stI s m10 a11 (m10.1 v0 29) v6).bind fun m12 => (bindv (wI m12 v0 29 (((m12.1 v0 29) + (1 : Int32)))) fun m13 => (some ((), m13))))))))))))) else (if v7 = (16383 : Int32) then (nb_X10_meets_34 F s nself4 m v0 v1 v3 v5 v6 (0 : Int32)) else (nb_X10_meets_34 F s nself4 m v0 v1 v3 v5 v6 ((v7 + (1 : Int32)))))))
set_option maxRecDepth 20000 in
theorem ub_X10_meets_7 {F : Nat} {s : List Sh} {self4 : PH → Nat → Int64 → Int64 → Int32 → Int32 → Int32 → Option (Unit × PH)} {nself4 : Mem → Nat → Int64 → Int64 → Int32 → Int32 → Int32 → Option (Unit × Mem)} {m m' : Mem} {r : Unit} {v0 : Nat} {v1 : Int64} {v3 : Int64} {v5 : Int32} {v6 : Int32} {v7 : Int32} (hw : GS s m) (o_v0 : ok s v0 10) (ih4 : ∀ (m : Mem) (v0 : Nat) (v1 : Int64) (v3 : Int64) (v5 : Int32) (v6 : Int32) (v7 : Int32), GS s m → ok s v0 10 → nself4 m v0 v1 v3 v5 v6 v7 = some (r, m') → J3 (self4 (bl s m) v0 v1 v3 v5 v6 v7) (r, bl s m') (GS s m')) (hf : nb_X10_meets_7 F s nself4 m v0 v1 v3 v5 v6 v7 = some (r, m')) : J3 (b_X10_meets_7 F self4 (bl s m) v0 v1 v3 v5 v6 v7) (r, bl s m') (GS s m') := by
  unfold nb_X10_meets_7 at hf
  unfold b_X10_meets_7
  refine k_gR hw (ok_o o_v0 (by decide)) rfl hf fun a1 o_a1 hf => ?_
  refine k_aI (Or.inl rfl) (ka rfl o_a1) hf fun x2 hf => ?_
  refine k_if hf (fun hf => ?_) (fun hf => ?_)
  · refine k_gR hw (ok_o o_v0 (by decide)) rfl hf fun a3 o_a3 hf => ?_
    refine k_gI (ok_o o_v0 (by decide)) rfl ?_
    refine k_sI hw (ka rfl o_a3) hf fun m4 hw hf => ?_
    refine k_gR hw (ok_o o_v0 (by decide)) rfl hf fun a5 o_a5 hf => ?_
    refine k_gI (ok_o o_v0 (by decide)) rfl ?_
    refine k_sI hw (ka rfl o_a5) hf fun m6 hw hf => ?_
    refine k_gR hw (ok_o o_v0 (by decide)) rfl hf fun a7 o_a7 hf => ?_
    refine k_gI (ok_o o_v0 (by decide)) rfl ?_
    refine k_sI hw (ka rfl o_a7) hf fun m8 hw hf => ?_
    refine k_gR hw (ok_o o_v0 (by decide)) rfl hf fun a9 o_a9 hf => ?_
    refine k_gI (ok_o o_v0 (by decide)) rfl ?_
    refine k_sI hw (ka rfl o_a9) hf fun m10 hw hf => ?_
    refine k_gR hw (ok_o o_v0 (by decide)) rfl hf fun a11 o_a11 hf => ?_
    refine k_gI (ok_o o_v0 (by decide)) rfl ?_
    refine k_sI hw (ka rfl o_a11) hf fun m12 hw hf => ?_
    refine k_gI (ok_o o_v0 (by decide)) rfl ?_
    refine k_pI hw (ok_o o_v0 (by decide)) rfl hf fun m13 hw hf => ?_
    exact k_ret hw hf
  · refine k_if hf (fun hf => ?_) (fun hf => ?_)
    · exact u_X10_meets_34 hw o_v0 ih4 hf
    · exact u_X10_meets_34 hw o_v0 ih4 hf
def nl_X10_meets_7 (F : Nat) (s : List Sh) : Nat → Mem → Nat → Int64 → Int64 → Int32 → Int32 → Int32 → Option (Unit × Mem)
  | 0 => fun _ _ _ _ _ _ _ => none
  | n + 1 => fun m v0 v1 v3 v5 v6 v7 => nb_X10_meets_7 F s (nl_X10_meets_7 F s n) m v0 v1 v3 v5 v6 v7
theorem ul_X10_meets_7 {F : Nat} {s : List Sh} {m' : Mem} {r : Unit} (n : Nat) : ∀ (m : Mem) (v0 : Nat) (v1 : Int64) (v3 : Int64) (v5 : Int32) (v6 : Int32) (v7 : Int32), GS s m → ok s v0 10 → nl_X10_meets_7 F s n m v0 v1 v3 v5 v6 v7 = some (r, m') → J3 (l_X10_meets_7 F n (bl s m) v0 v1 v3 v5 v6 v7) (r, bl s m') (GS s m') := by
  induction n with
  | zero => intro m v0 v1 v3 v5 v6 v7 hw o_v0 hf; cases hf
  | succ n ih => intro m v0 v1 v3 v5 v6 v7 hw o_v0 hf; exact ub_X10_meets_7 (F := F) hw o_v0 ih hf
def nb_X10_meets_0 (F : Nat) (s : List Sh) (m : Mem) (v0 : Nat) (v1 : Int64) (v3 : Int64) (v5 : Int32) (v6 : Int32) : Option (Unit × Mem) := (m_X10_spot v1 v3).bind fun x1 => (nl_X10_meets_7 F s F m v0 v1 v3 v5 v6 x1)
set_option maxRecDepth 20000 in
theorem u_X10_meets_0 {F : Nat} {s : List Sh} {m m' : Mem} {r : Unit} {v0 : Nat} {v1 : Int64} {v3 : Int64} {v5 : Int32} {v6 : Int32} (hw : GS s m) (o_v0 : ok s v0 10) (hf : nb_X10_meets_0 F s m v0 v1 v3 v5 v6 = some (r, m')) : J3 (b_X10_meets_0 F (bl s m) v0 v1 v3 v5 v6) (r, bl s m') (GS s m') := by
  unfold nb_X10_meets_0 at hf
  unfold b_X10_meets_0
  refine k_pure hf fun x1 hf => ?_
  exact ul_X10_meets_7 F _ _ _ _ _ _ _ hw o_v0 hf
def n_X10_meets (F : Nat) (s : List Sh) (m : Mem) (p0 : Nat) (p1 : Int64) (p3 : Int64) (p5 : Int32) (p6 : Int32) : Option (Unit × Mem) := nb_X10_meets_0 F s m p0 p1 p3 p5 p6
theorem un_X10_meets {F : Nat} {s : List Sh} {m m' : Mem} {p0 : Nat} {p1 : Int64} {p3 : Int64} {p5 : Int32} {p6 : Int32} {r : Unit} (hw : GS s m) (o_p0 : ok s p0 10) (ex : n_X10_meets F s m p0 p1 p3 p5 p6 = some (r, m')) : J3 (m_X10_meets F (bl s m) p0 p1 p3 p5 p6) (r, bl s m') (GS s m') := u_X10_meets_0 hw o_p0 ex
/-! FractionLiftModel.seeks(JJ)I over the memory -/
def nb_X10_seeks_228 (F : Nat) (s : List Sh) (nself28 : Mem → Nat → Int64 → Int64 → Int32 → Int32 → Option (Int32 × Mem)) (nself36 : Mem → Nat → Int64 → Int64 → Int32 → Int32 → Int32 → Option (Int32 × Mem)) (nself41 : Mem → Nat → Int64 → Int64 → Int32 → Int32 → Int32 → Int32 → Option (Int32 × Mem)) (m : Mem) (v0 : Nat) (v1 : Int64) (v3 : Int64) (v6 : Int32) (v7 : Int32) (v8 : Int32) (v9 : Int32) : Option (Int32 × Mem) := bindv (v9 + (1)) fun x1 => (nself41 m v0 v1 v3 v6 v7 v8 x1)
set_option maxRecDepth 20000 in
theorem u_X10_seeks_228 {F : Nat} {s : List Sh} {self28 : PH → Nat → Int64 → Int64 → Int32 → Int32 → Option (Int32 × PH)} {nself28 : Mem → Nat → Int64 → Int64 → Int32 → Int32 → Option (Int32 × Mem)} {self36 : PH → Nat → Int64 → Int64 → Int32 → Int32 → Int32 → Option (Int32 × PH)} {nself36 : Mem → Nat → Int64 → Int64 → Int32 → Int32 → Int32 → Option (Int32 × Mem)} {self41 : PH → Nat → Int64 → Int64 → Int32 → Int32 → Int32 → Int32 → Option (Int32 × PH)} {nself41 : Mem → Nat → Int64 → Int64 → Int32 → Int32 → Int32 → Int32 → Option (Int32 × Mem)} {m m' : Mem} {r : Int32} {v0 : Nat} {v1 : Int64} {v3 : Int64} {v6 : Int32} {v7 : Int32} {v8 : Int32} {v9 : Int32} (hw : GS s m) (o_v0 : ok s v0 10) (ih28 : ∀ (m : Mem) (v0 : Nat) (v1 : Int64) (v3 : Int64) (v5 : Int32) (v6 : Int32), GS s m → ok s v0 10 → nself28 m v0 v1 v3 v5 v6 = some (r, m') → J3 (self28 (bl s m) v0 v1 v3 v5 v6) (r, bl s m') (GS s m')) (ih36 : ∀ (m : Mem) (v0 : Nat) (v1 : Int64) (v3 : Int64) (v6 : Int32) (v7 : Int32) (v8 : Int32), GS s m → ok s v0 10 → nself36 m v0 v1 v3 v6 v7 v8 = some (r, m') → J3 (self36 (bl s m) v0 v1 v3 v6 v7 v8) (r, bl s m') (GS s m')) (ih41 : ∀ (m : Mem) (v0 : Nat) (v1 : Int64) (v3 : Int64) (v6 : Int32) (v7 : Int32) (v8 : Int32) (v9 : Int32), GS s m → ok s v0 10 → nself41 m v0 v1 v3 v6 v7 v8 v9 = some (r, m') → J3 (self41 (bl s m) v0 v1 v3 v6 v7 v8 v9) (r, bl s m') (GS s m')) (hf : nb_X10_seeks_228 F s nself28 nself36 nself41 m v0 v1 v3 v6 v7 v8 v9 = some (r, m')) : J3 (b_X10_seeks_228 F self28 self36 self41 (bl s m) v0 v1 v3 v6 v7 v8 v9) (r, bl s m') (GS s m') := by
  unfold nb_X10_seeks_228 at hf
  unfold b_X10_seeks_228
  refine k_bv hf fun x1 hf => ?_
  exact ih41 _ _ _ _ _ _ _ _ hw o_v0 hf
def nb_X10_seeks_186 (F : Nat) (s : List Sh) (nself28 : Mem → Nat → Int64 → Int64 → Int32 → Int32 → Option (Int32 × Mem)) (nself36 : Mem → Nat → Int64 → Int64 → Int32 → Int32 → Int32 → Option (Int32 × Mem)) (nself41 : Mem → Nat → Int64 → Int64 → Int32 → Int32 → Int32 → Int32 → Option (Int32 × Mem)) (m : Mem) (v0 : Nat) (v1 : Int64) (v3 : Int64) (v6 : Int32) (v7 : Int32) (v8 : Int32) (v9 : Int32) : Option (Int32 × Mem) := if (2000 : Int32) < (m.1 v0 29) then (nb_X10_seeks_228 F s nself28 nself36 nself41 m v0 v1 v3 v6 v7 v8 v9) else ((n_X10_metAt F s m v0 (m.2.1 v0 15) (m.2.1 v0 16)).bind fun x1 => (if x1 = (-1 : Int32) then (bind2 (n_X10_meets F s m v0 (m.2.1 v0 15) (m.2.1 v0 16) v8 v9) fun _ m3 => (nb_X10_seeks_228 F s nself28 nself36 nself41 m3 v0 v1 v3 v6 v7 v8 v9)) else (nb_X10_seeks_228 F s nself28 nself36 nself41 m v0 v1 v3 v6 v7 v8 v9)))
set_option maxRecDepth 20000 in
theorem u_X10_seeks_186 {F : Nat} {s : List Sh} {self28 : PH → Nat → Int64 → Int64 → Int32 → Int32 → Option (Int32 × PH)} {nself28 : Mem → Nat → Int64 → Int64 → Int32 → Int32 → Option (Int32 × Mem)} {self36 : PH → Nat → Int64 → Int64 → Int32 → Int32 → Int32 → Option (Int32 × PH)} {nself36 : Mem → Nat → Int64 → Int64 → Int32 → Int32 → Int32 → Option (Int32 × Mem)} {self41 : PH → Nat → Int64 → Int64 → Int32 → Int32 → Int32 → Int32 → Option (Int32 × PH)} {nself41 : Mem → Nat → Int64 → Int64 → Int32 → Int32 → Int32 → Int32 → Option (Int32 × Mem)} {m m' : Mem} {r : Int32} {v0 : Nat} {v1 : Int64} {v3 : Int64} {v6 : Int32} {v7 : Int32} {v8 : Int32} {v9 : Int32} (hw : GS s m) (o_v0 : ok s v0 10) (ih28 : ∀ (m : Mem) (v0 : Nat) (v1 : Int64) (v3 : Int64) (v5 : Int32) (v6 : Int32), GS s m → ok s v0 10 → nself28 m v0 v1 v3 v5 v6 = some (r, m') → J3 (self28 (bl s m) v0 v1 v3 v5 v6) (r, bl s m') (GS s m')) (ih36 : ∀ (m : Mem) (v0 : Nat) (v1 : Int64) (v3 : Int64) (v6 : Int32) (v7 : Int32) (v8 : Int32), GS s m → ok s v0 10 → nself36 m v0 v1 v3 v6 v7 v8 = some (r, m') → J3 (self36 (bl s m) v0 v1 v3 v6 v7 v8) (r, bl s m') (GS s m')) (ih41 : ∀ (m : Mem) (v0 : Nat) (v1 : Int64) (v3 : Int64) (v6 : Int32) (v7 : Int32) (v8 : Int32) (v9 : Int32), GS s m → ok s v0 10 → nself41 m v0 v1 v3 v6 v7 v8 v9 = some (r, m') → J3 (self41 (bl s m) v0 v1 v3 v6 v7 v8 v9) (r, bl s m') (GS s m')) (hf : nb_X10_seeks_186 F s nself28 nself36 nself41 m v0 v1 v3 v6 v7 v8 v9 = some (r, m')) : J3 (b_X10_seeks_186 F self28 self36 self41 (bl s m) v0 v1 v3 v6 v7 v8 v9) (r, bl s m') (GS s m') := by
  unfold nb_X10_seeks_186 at hf
  unfold b_X10_seeks_186
  refine k_gI (ok_o o_v0 (by decide)) rfl ?_
  refine k_if hf (fun hf => ?_) (fun hf => ?_)
  · exact u_X10_seeks_228 hw o_v0 ih28 ih36 ih41 hf
  · refine k_gL (ok_o o_v0 (by decide)) rfl ?_
    refine k_gL (ok_o o_v0 (by decide)) rfl ?_
    refine k_cO (ok_o o_v0 (by decide)) ?_
    refine ob hf fun x1 ex hf => ?_
    refine k_b1 (un_X10_metAt hw o_v0 ex) ?_
    refine k_if hf (fun hf => ?_) (fun hf => ?_)
    · refine k_gL (ok_o o_v0 (by decide)) rfl ?_
      refine k_gL (ok_o o_v0 (by decide)) rfl ?_
      refine k_cO (ok_o o_v0 (by decide)) ?_
      refine ob2 hf fun u m3 ex hf => ?_
      refine k_b2 (un_X10_meets hw o_v0 ex) fun hw => ?_
      exact u_X10_seeks_228 hw o_v0 ih28 ih36 ih41 hf
    · exact u_X10_seeks_228 hw o_v0 ih28 ih36 ih41 hf
def nb_X10_seeks_149 (F : Nat) (s : List Sh) (nself85 : Mem → Nat → Int32 → Int32 → Int32 → Option (Int32 × Mem)) (m : Mem) (v0 : Nat) (v6 : Int32) (v10 : Int32) (v11 : Int32) : Option (Int32 × Mem) := if v10 < 0 then (some (v6, m)) else ((m.2.2 v0 30).bind fun a1 => ((m.2.2 v0 27).bind fun a2 => ((rdI s m a2 v11).bind fun x3 => ((stI s m a1 v10 x3).bind fun m4 => (bindv (v10 + (-1)) fun x5 => ((m4.2.2 v0 26).bind fun a6 => ((rdI s m4 a6 v11).bind fun x7 => (nself85 m4 v0 v6 x5 x7))))))))
set_option maxRecDepth 20000 in
theorem ub_X10_seeks_149 {F : Nat} {s : List Sh} {self85 : PH → Nat → Int32 → Int32 → Int32 → Option (Int32 × PH)} {nself85 : Mem → Nat → Int32 → Int32 → Int32 → Option (Int32 × Mem)} {m m' : Mem} {r : Int32} {v0 : Nat} {v6 : Int32} {v10 : Int32} {v11 : Int32} (hw : GS s m) (o_v0 : ok s v0 10) (ih85 : ∀ (m : Mem) (v0 : Nat) (v6 : Int32) (v10 : Int32) (v11 : Int32), GS s m → ok s v0 10 → nself85 m v0 v6 v10 v11 = some (r, m') → J3 (self85 (bl s m) v0 v6 v10 v11) (r, bl s m') (GS s m')) (hf : nb_X10_seeks_149 F s nself85 m v0 v6 v10 v11 = some (r, m')) : J3 (b_X10_seeks_149 F self85 (bl s m) v0 v6 v10 v11) (r, bl s m') (GS s m') := by
  unfold nb_X10_seeks_149 at hf
  unfold b_X10_seeks_149
  refine k_if hf (fun hf => ?_) (fun hf => ?_)
  · exact k_ret hw hf
  · refine k_gR hw (ok_o o_v0 (by decide)) rfl hf fun a1 o_a1 hf => ?_
    refine k_gR hw (ok_o o_v0 (by decide)) rfl hf fun a2 o_a2 hf => ?_
    refine k_aI (Or.inl rfl) (ka rfl o_a2) hf fun x3 hf => ?_
    refine k_sI hw (ka rfl o_a1) hf fun m4 hw hf => ?_
    refine k_bv hf fun x5 hf => ?_
    refine k_gR hw (ok_o o_v0 (by decide)) rfl hf fun a6 o_a6 hf => ?_
    refine k_aI (Or.inl rfl) (ka rfl o_a6) hf fun x7 hf => ?_
    exact ih85 _ _ _ _ _ hw o_v0 hf
def nl_X10_seeks_149 (F : Nat) (s : List Sh) : Nat → Mem → Nat → Int32 → Int32 → Int32 → Option (Int32 × Mem)
  | 0 => fun _ _ _ _ _ => none
  | n + 1 => fun m v0 v6 v10 v11 => nb_X10_seeks_149 F s (nl_X10_seeks_149 F s n) m v0 v6 v10 v11
theorem ul_X10_seeks_149 {F : Nat} {s : List Sh} {m' : Mem} {r : Int32} (n : Nat) : ∀ (m : Mem) (v0 : Nat) (v6 : Int32) (v10 : Int32) (v11 : Int32), GS s m → ok s v0 10 → nl_X10_seeks_149 F s n m v0 v6 v10 v11 = some (r, m') → J3 (l_X10_seeks_149 F n (bl s m) v0 v6 v10 v11) (r, bl s m') (GS s m') := by
  induction n with
  | zero => intro m v0 v6 v10 v11 hw o_v0 hf; cases hf
  | succ n ih => intro m v0 v6 v10 v11 hw o_v0 hf; exact ub_X10_seeks_149 (F := F) hw o_v0 ih hf
def nb_X10_seeks_71 (F : Nat) (s : List Sh) (nself28 : Mem → Nat → Int64 → Int64 → Int32 → Int32 → Option (Int32 × Mem)) (nself36 : Mem → Nat → Int64 → Int64 → Int32 → Int32 → Int32 → Option (Int32 × Mem)) (nself41 : Mem → Nat → Int64 → Int64 → Int32 → Int32 → Int32 → Int32 → Option (Int32 × Mem)) (m : Mem) (v0 : Nat) (v1 : Int64) (v3 : Int64) (v6 : Int32) (v7 : Int32) (v8 : Int32) (v9 : Int32) : Option (Int32 × Mem) := (m.2.2 v0 1).bind fun a1 => ((rdI s m a1 (2 : Int32)).bind fun x2 => (if x2 ≤ v9 then (bindv (v8 + (1)) fun x3 => (nself36 m v0 v1 v3 v6 v7 x3)) else ((m.2.2 v0 24).bind fun a4 => ((rdI s m a4 v8).bind fun x5 => ((m.2.2 v0 25).bind fun a6 => ((rdI s m a6 v8).bind fun x7 => (bind2 (n_X10_leadsFrom F s m v0 v9 (Int32.toInt64 x5) (Int32.toInt64 x7)) fun x8 m9 => (if x8 = 0 then (if (m9.2.1 v0 15) = v1 then (if (m9.2.1 v0 16) = v3 then ((m9.2.2 v0 30).bind fun a10 => ((stI s m9 a10 ((v6 - (1 : Int32))) v9).bind fun m11 => (bindv ((v6 - (2 : Int32))) fun x12 => (nl_X10_seeks_149 F s F m11 v0 v6 x12 v8)))) else (nb_X10_seeks_186 F s nself28 nself36 nself41 m9 v0 v1 v3 v6 v7 v8 v9)) else (nb_X10_seeks_186 F s nself28 nself36 nself41 m9 v0 v1 v3 v6 v7 v8 v9)) else (nb_X10_seeks_228 F s nself28 nself36 nself41 m9 v0 v1 v3 v6 v7 v8 v9)))))))))
set_option maxRecDepth 20000 in
theorem ub_X10_seeks_71 {F : Nat} {s : List Sh} {self28 : PH → Nat → Int64 → Int64 → Int32 → Int32 → Option (Int32 × PH)} {nself28 : Mem → Nat → Int64 → Int64 → Int32 → Int32 → Option (Int32 × Mem)} {self36 : PH → Nat → Int64 → Int64 → Int32 → Int32 → Int32 → Option (Int32 × PH)} {nself36 : Mem → Nat → Int64 → Int64 → Int32 → Int32 → Int32 → Option (Int32 × Mem)} {self41 : PH → Nat → Int64 → Int64 → Int32 → Int32 → Int32 → Int32 → Option (Int32 × PH)} {nself41 : Mem → Nat → Int64 → Int64 → Int32 → Int32 → Int32 → Int32 → Option (Int32 × Mem)} {m m' : Mem} {r : Int32} {v0 : Nat} {v1 : Int64} {v3 : Int64} {v6 : Int32} {v7 : Int32} {v8 : Int32} {v9 : Int32} (hw : GS s m) (o_v0 : ok s v0 10) (ih28 : ∀ (m : Mem) (v0 : Nat) (v1 : Int64) (v3 : Int64) (v5 : Int32) (v6 : Int32), GS s m → ok s v0 10 → nself28 m v0 v1 v3 v5 v6 = some (r, m') → J3 (self28 (bl s m) v0 v1 v3 v5 v6) (r, bl s m') (GS s m')) (ih36 : ∀ (m : Mem) (v0 : Nat) (v1 : Int64) (v3 : Int64) (v6 : Int32) (v7 : Int32) (v8 : Int32), GS s m → ok s v0 10 → nself36 m v0 v1 v3 v6 v7 v8 = some (r, m') → J3 (self36 (bl s m) v0 v1 v3 v6 v7 v8) (r, bl s m') (GS s m')) (ih41 : ∀ (m : Mem) (v0 : Nat) (v1 : Int64) (v3 : Int64) (v6 : Int32) (v7 : Int32) (v8 : Int32) (v9 : Int32), GS s m → ok s v0 10 → nself41 m v0 v1 v3 v6 v7 v8 v9 = some (r, m') → J3 (self41 (bl s m) v0 v1 v3 v6 v7 v8 v9) (r, bl s m') (GS s m')) (hf : nb_X10_seeks_71 F s nself28 nself36 nself41 m v0 v1 v3 v6 v7 v8 v9 = some (r, m')) : J3 (b_X10_seeks_71 F self28 self36 self41 (bl s m) v0 v1 v3 v6 v7 v8 v9) (r, bl s m') (GS s m') := by
  unfold nb_X10_seeks_71 at hf
  unfold b_X10_seeks_71
  refine k_gR hw (ok_o o_v0 (by decide)) rfl hf fun a1 o_a1 hf => ?_
  refine k_aI (Or.inl rfl) (ka rfl o_a1) hf fun x2 hf => ?_
  refine k_if hf (fun hf => ?_) (fun hf => ?_)
  · refine k_bv hf fun x3 hf => ?_
    exact ih36 _ _ _ _ _ _ _ hw o_v0 hf
  · refine k_gR hw (ok_o o_v0 (by decide)) rfl hf fun a4 o_a4 hf => ?_
    refine k_aI (Or.inl rfl) (ka rfl o_a4) hf fun x5 hf => ?_
    refine k_gR hw (ok_o o_v0 (by decide)) rfl hf fun a6 o_a6 hf => ?_
    refine k_aI (Or.inl rfl) (ka rfl o_a6) hf fun x7 hf => ?_
    refine k_cO (ok_o o_v0 (by decide)) ?_
    refine ob2 hf fun x8 m9 ex hf => ?_
    refine k_b2 (un_X10_leadsFrom hw o_v0 ex) fun hw => ?_
    refine k_if hf (fun hf => ?_) (fun hf => ?_)
    · refine k_gL (ok_o o_v0 (by decide)) rfl ?_
      refine k_if hf (fun hf => ?_) (fun hf => ?_)
      · refine k_gL (ok_o o_v0 (by decide)) rfl ?_
        refine k_if hf (fun hf => ?_) (fun hf => ?_)
        · refine k_gR hw (ok_o o_v0 (by decide)) rfl hf fun a10 o_a10 hf => ?_
          refine k_sI hw (ka rfl o_a10) hf fun m11 hw hf => ?_
          refine k_bv hf fun x12 hf => ?_
          exact ul_X10_seeks_149 F _ _ _ _ _ hw o_v0 hf
        · exact u_X10_seeks_186 hw o_v0 ih28 ih36 ih41 hf
      · exact u_X10_seeks_186 hw o_v0 ih28 ih36 ih41 hf
    · exact u_X10_seeks_228 hw o_v0 ih28 ih36 ih41 hf
def nl_X10_seeks_71 (F : Nat) (s : List Sh) (nself28 : Mem → Nat → Int64 → Int64 → Int32 → Int32 → Option (Int32 × Mem)) (nself36 : Mem → Nat → Int64 → Int64 → Int32 → Int32 → Int32 → Option (Int32 × Mem)) : Nat → Mem → Nat → Int64 → Int64 → Int32 → Int32 → Int32 → Int32 → Option (Int32 × Mem)
  | 0 => fun _ _ _ _ _ _ _ _ => none
  | n + 1 => fun m v0 v1 v3 v6 v7 v8 v9 => nb_X10_seeks_71 F s nself28 nself36 (nl_X10_seeks_71 F s nself28 nself36 n) m v0 v1 v3 v6 v7 v8 v9
theorem ul_X10_seeks_71 {F : Nat} {s : List Sh} {self28 : PH → Nat → Int64 → Int64 → Int32 → Int32 → Option (Int32 × PH)} {nself28 : Mem → Nat → Int64 → Int64 → Int32 → Int32 → Option (Int32 × Mem)} {self36 : PH → Nat → Int64 → Int64 → Int32 → Int32 → Int32 → Option (Int32 × PH)} {nself36 : Mem → Nat → Int64 → Int64 → Int32 → Int32 → Int32 → Option (Int32 × Mem)} {m' : Mem} {r : Int32} (ih28 : ∀ (m : Mem) (v0 : Nat) (v1 : Int64) (v3 : Int64) (v5 : Int32) (v6 : Int32), GS s m → ok s v0 10 → nself28 m v0 v1 v3 v5 v6 = some (r, m') → J3 (self28 (bl s m) v0 v1 v3 v5 v6) (r, bl s m') (GS s m')) (ih36 : ∀ (m : Mem) (v0 : Nat) (v1 : Int64) (v3 : Int64) (v6 : Int32) (v7 : Int32) (v8 : Int32), GS s m → ok s v0 10 → nself36 m v0 v1 v3 v6 v7 v8 = some (r, m') → J3 (self36 (bl s m) v0 v1 v3 v6 v7 v8) (r, bl s m') (GS s m')) (n : Nat) : ∀ (m : Mem) (v0 : Nat) (v1 : Int64) (v3 : Int64) (v6 : Int32) (v7 : Int32) (v8 : Int32) (v9 : Int32), GS s m → ok s v0 10 → nl_X10_seeks_71 F s nself28 nself36 n m v0 v1 v3 v6 v7 v8 v9 = some (r, m') → J3 (l_X10_seeks_71 F self28 self36 n (bl s m) v0 v1 v3 v6 v7 v8 v9) (r, bl s m') (GS s m') := by
  induction n with
  | zero => intro m v0 v1 v3 v6 v7 v8 v9 hw o_v0 hf; cases hf
  | succ n ih => intro m v0 v1 v3 v6 v7 v8 v9 hw o_v0 hf; exact ub_X10_seeks_71 (F := F) hw o_v0 ih28 ih36 ih hf
def nb_X10_seeks_61 (F : Nat) (s : List Sh) (nself28 : Mem → Nat → Int64 → Int64 → Int32 → Int32 → Option (Int32 × Mem)) (nself36 : Mem → Nat → Int64 → Int64 → Int32 → Int32 → Int32 → Option (Int32 × Mem)) (m : Mem) (v0 : Nat) (v1 : Int64) (v3 : Int64) (v6 : Int32) (v7 : Int32) (v8 : Int32) : Option (Int32 × Mem) := if v7 ≤ v8 then (if (m.1 v0 29) ≤ (2000 : Int32) then (if (m.1 v0 29) = v7 then (some ((-1 : Int32), m)) else (bindv (v6 + (1)) fun x1 => (nself28 m v0 v1 v3 v7 x1))) else (some ((-1000 : Int32), m))) else (nl_X10_seeks_71 F s nself28 nself36 F m v0 v1 v3 v6 v7 v8 (0 : Int32))
set_option maxRecDepth 20000 in
theorem ub_X10_seeks_61 {F : Nat} {s : List Sh} {self28 : PH → Nat → Int64 → Int64 → Int32 → Int32 → Option (Int32 × PH)} {nself28 : Mem → Nat → Int64 → Int64 → Int32 → Int32 → Option (Int32 × Mem)} {self36 : PH → Nat → Int64 → Int64 → Int32 → Int32 → Int32 → Option (Int32 × PH)} {nself36 : Mem → Nat → Int64 → Int64 → Int32 → Int32 → Int32 → Option (Int32 × Mem)} {m m' : Mem} {r : Int32} {v0 : Nat} {v1 : Int64} {v3 : Int64} {v6 : Int32} {v7 : Int32} {v8 : Int32} (hw : GS s m) (o_v0 : ok s v0 10) (ih28 : ∀ (m : Mem) (v0 : Nat) (v1 : Int64) (v3 : Int64) (v5 : Int32) (v6 : Int32), GS s m → ok s v0 10 → nself28 m v0 v1 v3 v5 v6 = some (r, m') → J3 (self28 (bl s m) v0 v1 v3 v5 v6) (r, bl s m') (GS s m')) (ih36 : ∀ (m : Mem) (v0 : Nat) (v1 : Int64) (v3 : Int64) (v6 : Int32) (v7 : Int32) (v8 : Int32), GS s m → ok s v0 10 → nself36 m v0 v1 v3 v6 v7 v8 = some (r, m') → J3 (self36 (bl s m) v0 v1 v3 v6 v7 v8) (r, bl s m') (GS s m')) (hf : nb_X10_seeks_61 F s nself28 nself36 m v0 v1 v3 v6 v7 v8 = some (r, m')) : J3 (b_X10_seeks_61 F self28 self36 (bl s m) v0 v1 v3 v6 v7 v8) (r, bl s m') (GS s m') := by
  unfold nb_X10_seeks_61 at hf
  unfold b_X10_seeks_61
  refine k_if hf (fun hf => ?_) (fun hf => ?_)
  · refine k_gI (ok_o o_v0 (by decide)) rfl ?_
    refine k_if hf (fun hf => ?_) (fun hf => ?_)
    · refine k_gI (ok_o o_v0 (by decide)) rfl ?_
      refine k_if hf (fun hf => ?_) (fun hf => ?_)
      · exact k_ret hw hf
      · refine k_bv hf fun x1 hf => ?_
        exact ih28 _ _ _ _ _ _ hw o_v0 hf
    · exact k_ret hw hf
  · exact ul_X10_seeks_71 ih28 ih36 F _ _ _ _ _ _ _ _ hw o_v0 hf
def nl_X10_seeks_61 (F : Nat) (s : List Sh) (nself28 : Mem → Nat → Int64 → Int64 → Int32 → Int32 → Option (Int32 × Mem)) : Nat → Mem → Nat → Int64 → Int64 → Int32 → Int32 → Int32 → Option (Int32 × Mem)
  | 0 => fun _ _ _ _ _ _ _ => none
  | n + 1 => fun m v0 v1 v3 v6 v7 v8 => nb_X10_seeks_61 F s nself28 (nl_X10_seeks_61 F s nself28 n) m v0 v1 v3 v6 v7 v8
theorem ul_X10_seeks_61 {F : Nat} {s : List Sh} {self28 : PH → Nat → Int64 → Int64 → Int32 → Int32 → Option (Int32 × PH)} {nself28 : Mem → Nat → Int64 → Int64 → Int32 → Int32 → Option (Int32 × Mem)} {m' : Mem} {r : Int32} (ih28 : ∀ (m : Mem) (v0 : Nat) (v1 : Int64) (v3 : Int64) (v5 : Int32) (v6 : Int32), GS s m → ok s v0 10 → nself28 m v0 v1 v3 v5 v6 = some (r, m') → J3 (self28 (bl s m) v0 v1 v3 v5 v6) (r, bl s m') (GS s m')) (n : Nat) : ∀ (m : Mem) (v0 : Nat) (v1 : Int64) (v3 : Int64) (v6 : Int32) (v7 : Int32) (v8 : Int32), GS s m → ok s v0 10 → nl_X10_seeks_61 F s nself28 n m v0 v1 v3 v6 v7 v8 = some (r, m') → J3 (l_X10_seeks_61 F self28 n (bl s m) v0 v1 v3 v6 v7 v8) (r, bl s m') (GS s m') := by
  induction n with
  | zero => intro m v0 v1 v3 v6 v7 v8 hw o_v0 hf; cases hf
  | succ n ih => intro m v0 v1 v3 v6 v7 v8 hw o_v0 hf; exact ub_X10_seeks_61 (F := F) hw o_v0 ih28 ih hf
def nb_X10_seeks_44 (F : Nat) (s : List Sh) (nself28 : Mem → Nat → Int64 → Int64 → Int32 → Int32 → Option (Int32 × Mem)) (m : Mem) (v0 : Nat) (v1 : Int64) (v3 : Int64) (v5 : Int32) (v6 : Int32) : Option (Int32 × Mem) := if (8 : Int32) < v6 then (some ((-1 : Int32), m)) else (nl_X10_seeks_61 F s nself28 F m v0 v1 v3 v6 (m.1 v0 29) v5)
set_option maxRecDepth 20000 in
theorem ub_X10_seeks_44 {F : Nat} {s : List Sh} {self28 : PH → Nat → Int64 → Int64 → Int32 → Int32 → Option (Int32 × PH)} {nself28 : Mem → Nat → Int64 → Int64 → Int32 → Int32 → Option (Int32 × Mem)} {m m' : Mem} {r : Int32} {v0 : Nat} {v1 : Int64} {v3 : Int64} {v5 : Int32} {v6 : Int32} (hw : GS s m) (o_v0 : ok s v0 10) (ih28 : ∀ (m : Mem) (v0 : Nat) (v1 : Int64) (v3 : Int64) (v5 : Int32) (v6 : Int32), GS s m → ok s v0 10 → nself28 m v0 v1 v3 v5 v6 = some (r, m') → J3 (self28 (bl s m) v0 v1 v3 v5 v6) (r, bl s m') (GS s m')) (hf : nb_X10_seeks_44 F s nself28 m v0 v1 v3 v5 v6 = some (r, m')) : J3 (b_X10_seeks_44 F self28 (bl s m) v0 v1 v3 v5 v6) (r, bl s m') (GS s m') := by
  unfold nb_X10_seeks_44 at hf
  unfold b_X10_seeks_44
  refine k_if hf (fun hf => ?_) (fun hf => ?_)
  · exact k_ret hw hf
  · refine k_gI (ok_o o_v0 (by decide)) rfl ?_
    exact ul_X10_seeks_61 ih28 F _ _ _ _ _ _ _ hw o_v0 hf
def nl_X10_seeks_44 (F : Nat) (s : List Sh) : Nat → Mem → Nat → Int64 → Int64 → Int32 → Int32 → Option (Int32 × Mem)
  | 0 => fun _ _ _ _ _ _ => none
  | n + 1 => fun m v0 v1 v3 v5 v6 => nb_X10_seeks_44 F s (nl_X10_seeks_44 F s n) m v0 v1 v3 v5 v6
theorem ul_X10_seeks_44 {F : Nat} {s : List Sh} {m' : Mem} {r : Int32} (n : Nat) : ∀ (m : Mem) (v0 : Nat) (v1 : Int64) (v3 : Int64) (v5 : Int32) (v6 : Int32), GS s m → ok s v0 10 → nl_X10_seeks_44 F s n m v0 v1 v3 v5 v6 = some (r, m') → J3 (l_X10_seeks_44 F n (bl s m) v0 v1 v3 v5 v6) (r, bl s m') (GS s m') := by
  induction n with
  | zero => intro m v0 v1 v3 v5 v6 hw o_v0 hf; cases hf
  | succ n ih => intro m v0 v1 v3 v5 v6 hw o_v0 hf; exact ub_X10_seeks_44 (F := F) hw o_v0 ih hf
def nb_X10_seeks_0 (F : Nat) (s : List Sh) (m : Mem) (v0 : Nat) (v1 : Int64) (v3 : Int64) : Option (Int32 × Mem) := bind2 (n_X10_forgets F s m v0) fun _ m2 => ((m2.2.2 v0 1).bind fun a3 => ((rdI s m2 a3 (7 : Int32)).bind fun x4 => ((m2.2.2 v0 1).bind fun a5 => ((rdI s m2 a5 (8 : Int32)).bind fun x6 => (bind2 (n_X10_meets F s m2 v0 (Int32.toInt64 x4) (Int32.toInt64 x6) (-1 : Int32) (-1 : Int32)) fun _ m8 => ((n_X10_metAt F s m8 v0 v1 v3).bind fun x9 => (if x9 = (-1 : Int32) then (nl_X10_seeks_44 F s F m8 v0 v1 v3 (0 : Int32) (1 : Int32)) else (some ((0 : Int32), m8)))))))))
set_option maxRecDepth 20000 in
theorem u_X10_seeks_0 {F : Nat} {s : List Sh} {m m' : Mem} {r : Int32} {v0 : Nat} {v1 : Int64} {v3 : Int64} (hw : GS s m) (o_v0 : ok s v0 10) (hf : nb_X10_seeks_0 F s m v0 v1 v3 = some (r, m')) : J3 (b_X10_seeks_0 F (bl s m) v0 v1 v3) (r, bl s m') (GS s m') := by
  unfold nb_X10_seeks_0 at hf
  unfold b_X10_seeks_0
  refine k_cO (ok_o o_v0 (by decide)) ?_
  refine ob2 hf fun u m2 ex hf => ?_
  refine k_b2 (un_X10_forgets hw o_v0 ex) fun hw => ?_
  refine k_gR hw (ok_o o_v0 (by decide)) rfl hf fun a3 o_a3 hf => ?_
  refine k_aI (Or.inl rfl) (ka rfl o_a3) hf fun x4 hf => ?_
  refine k_gR hw (ok_o o_v0 (by decide)) rfl hf fun a5 o_a5 hf => ?_
  refine k_aI (Or.inl rfl) (ka rfl o_a5) hf fun x6 hf => ?_
  refine k_cO (ok_o o_v0 (by decide)) ?_
  refine ob2 hf fun u m8 ex hf => ?_
  refine k_b2 (un_X10_meets hw o_v0 ex) fun hw => ?_
  refine k_cO (ok_o o_v0 (by decide)) ?_
  refine ob hf fun x9 ex hf => ?_
  refine k_b1 (un_X10_metAt hw o_v0 ex) ?_
  refine k_if hf (fun hf => ?_) (fun hf => ?_)
  · exact ul_X10_seeks_44 F _ _ _ _ _ _ hw o_v0 hf
  · exact k_ret hw hf
def n_X10_seeks (F : Nat) (s : List Sh) (m : Mem) (p0 : Nat) (p1 : Int64) (p3 : Int64) : Option (Int32 × Mem) := nb_X10_seeks_0 F s m p0 p1 p3
theorem un_X10_seeks {F : Nat} {s : List Sh} {m m' : Mem} {p0 : Nat} {p1 : Int64} {p3 : Int64} {r : Int32} (hw : GS s m) (o_p0 : ok s p0 10) (ex : n_X10_seeks F s m p0 p1 p3 = some (r, m')) : J3 (m_X10_seeks F (bl s m) p0 p1 p3) (r, bl s m') (GS s m') := u_X10_seeks_0 hw o_p0 ex
/-! FractionLiftModel.fewest(III)I over the memory -/
def nb_X10_fewest_26 (F : Nat) (s : List Sh) (m : Mem) (v0 : Nat) (v1 : Int32) (v2 : Int32) (v3 : Int32) : Option (Int32 × Mem) := bind2 (n_X10_asks s m v0 (Int32.toInt64 v1) (Int32.toInt64 v2)) fun x1 m2 => (if x1 = 0 then (some ((-3 : Int32), m2)) else (bind2 (n_X10_seeks F s m2 v0 (m2.2.1 v0 15) (m2.2.1 v0 16)) fun x3 m4 => (if x3 < 0 then (some (x3, m4)) else (if v3 = 0 then (some (x3, m4)) else (if x3 ≤ ((v3 - (10 : Int32))) then (some ((-1 : Int32), m4)) else ((m4.2.2 v0 30).bind fun a5 => ((rdI s m4 a5 ((v3 - (10 : Int32)))).bind fun x6 => (some (x6, m4)))))))))
set_option maxRecDepth 20000 in
theorem u_X10_fewest_26 {F : Nat} {s : List Sh} {m m' : Mem} {r : Int32} {v0 : Nat} {v1 : Int32} {v2 : Int32} {v3 : Int32} (hw : GS s m) (o_v0 : ok s v0 10) (hf : nb_X10_fewest_26 F s m v0 v1 v2 v3 = some (r, m')) : J3 (b_X10_fewest_26 F (bl s m) v0 v1 v2 v3) (r, bl s m') (GS s m') := by
  unfold nb_X10_fewest_26 at hf
  unfold b_X10_fewest_26
  refine k_cO (ok_o o_v0 (by decide)) ?_
  refine ob2 hf fun x1 m2 ex hf => ?_
  refine k_b2 (un_X10_asks hw o_v0 ex) fun hw => ?_
  refine k_if hf (fun hf => ?_) (fun hf => ?_)
  · exact k_ret hw hf
  · refine k_gL (ok_o o_v0 (by decide)) rfl ?_
    refine k_gL (ok_o o_v0 (by decide)) rfl ?_
    refine k_cO (ok_o o_v0 (by decide)) ?_
    refine ob2 hf fun x3 m4 ex hf => ?_
    refine k_b2 (un_X10_seeks hw o_v0 ex) fun hw => ?_
    refine k_if hf (fun hf => ?_) (fun hf => ?_)
    · exact k_ret hw hf
    · refine k_if hf (fun hf => ?_) (fun hf => ?_)
      · exact k_ret hw hf
      · refine k_if hf (fun hf => ?_) (fun hf => ?_)
        · exact k_ret hw hf
        · refine k_gR hw (ok_o o_v0 (by decide)) rfl hf fun a5 o_a5 hf => ?_
          refine k_aI (Or.inl rfl) (ka rfl o_a5) hf fun x6 hf => ?_
          exact k_ret hw hf
def nb_X10_fewest_0 (F : Nat) (s : List Sh) (m : Mem) (v0 : Nat) (v1 : Int32) (v2 : Int32) (v3 : Int32) : Option (Int32 × Mem) := bindv (wI m v0 0 (0 : Int32)) fun m1 => (if v3 = 0 then (nb_X10_fewest_26 F s m1 v0 v1 v2 v3) else ((m_X10_within (Int32.toInt64 v3) (10 : Int64) (17 : Int64)).bind fun x2 => (if x2 = 0 then (some ((-2 : Int32), m1)) else (nb_X10_fewest_26 F s m1 v0 v1 v2 v3))))
set_option maxRecDepth 20000 in
theorem u_X10_fewest_0 {F : Nat} {s : List Sh} {m m' : Mem} {r : Int32} {v0 : Nat} {v1 : Int32} {v2 : Int32} {v3 : Int32} (hw : GS s m) (o_v0 : ok s v0 10) (hf : nb_X10_fewest_0 F s m v0 v1 v2 v3 = some (r, m')) : J3 (b_X10_fewest_0 F (bl s m) v0 v1 v2 v3) (r, bl s m') (GS s m') := by
  unfold nb_X10_fewest_0 at hf
  unfold b_X10_fewest_0
  refine k_pI hw (ok_o o_v0 (by decide)) rfl hf fun m1 hw hf => ?_
  refine k_if hf (fun hf => ?_) (fun hf => ?_)
  · exact u_X10_fewest_26 hw o_v0 hf
  · refine k_pure hf fun x2 hf => ?_
    refine k_if hf (fun hf => ?_) (fun hf => ?_)
    · exact k_ret hw hf
    · exact u_X10_fewest_26 hw o_v0 hf
def n_X10_fewest (F : Nat) (s : List Sh) (m : Mem) (p0 : Nat) (p1 : Int32) (p2 : Int32) (p3 : Int32) : Option (Int32 × Mem) := nb_X10_fewest_0 F s m p0 p1 p2 p3
theorem un_X10_fewest {F : Nat} {s : List Sh} {m m' : Mem} {p0 : Nat} {p1 : Int32} {p2 : Int32} {p3 : Int32} {r : Int32} (hw : GS s m) (o_p0 : ok s p0 10) (ex : n_X10_fewest F s m p0 p1 p2 p3 = some (r, m')) : J3 (m_X10_fewest F (bl s m) p0 p1 p2 p3) (r, bl s m') (GS s m') := u_X10_fewest_0 hw o_p0 ex
/-! FractionLiftModel.begins(II)V over the memory -/
def nb_X10_begins_0 (s : List Sh) (m : Mem) (v0 : Nat) (v1 : Int32) (v2 : Int32) : Option (Unit × Mem) := (m.2.2 v0 31).bind fun a1 => ((stI s m a1 (0 : Int32) v1).bind fun m2 => ((m2.2.2 v0 32).bind fun a3 => ((stI s m2 a3 (0 : Int32) v2).bind fun m4 => (bindv (wI m4 v0 33 (1 : Int32)) fun m5 => (some ((), m5))))))
set_option maxRecDepth 20000 in
theorem u_X10_begins_0 {s : List Sh} {m m' : Mem} {r : Unit} {v0 : Nat} {v1 : Int32} {v2 : Int32} (hw : GS s m) (o_v0 : ok s v0 10) (hf : nb_X10_begins_0 s m v0 v1 v2 = some (r, m')) : J3 (b_X10_begins_0 (bl s m) v0 v1 v2) (r, bl s m') (GS s m') := by
  unfold nb_X10_begins_0 at hf
  unfold b_X10_begins_0
  refine k_gR hw (ok_o o_v0 (by decide)) rfl hf fun a1 o_a1 hf => ?_
  refine k_sI hw (ka rfl o_a1) hf fun m2 hw hf => ?_
  refine k_gR hw (ok_o o_v0 (by decide)) rfl hf fun a3 o_a3 hf => ?_
  refine k_sI hw (ka rfl o_a3) hf fun m4 hw hf => ?_
  refine k_pI hw (ok_o o_v0 (by decide)) rfl hf fun m5 hw hf => ?_
  exact k_ret hw hf
def n_X10_begins (s : List Sh) (m : Mem) (p0 : Nat) (p1 : Int32) (p2 : Int32) : Option (Unit × Mem) := nb_X10_begins_0 s m p0 p1 p2
theorem un_X10_begins {s : List Sh} {m m' : Mem} {p0 : Nat} {p1 : Int32} {p2 : Int32} {r : Unit} (hw : GS s m) (o_p0 : ok s p0 10) (ex : n_X10_begins s m p0 p1 p2 = some (r, m')) : J3 (m_X10_begins (bl s m) p0 p1 p2) (r, bl s m') (GS s m') := u_X10_begins_0 hw o_p0 ex
/-! FractionLiftModel.goes(Z)V over the memory -/
def nb_X10_goes_124 (F : Nat) (s : List Sh) (nself4 : Mem → Nat → Int32 → Int32 → Option (Unit × Mem)) (nself40 : Mem → Nat → Int32 → Int32 → Int32 → Option (Unit × Mem)) (m : Mem) (v0 : Nat) (v1 : Int32) (v2 : Int32) (v3 : Int32) : Option (Unit × Mem) := bindv (v3 + (1)) fun x1 => (nself40 m v0 v1 v2 x1)
set_option maxRecDepth 20000 in
theorem u_X10_goes_124 {F : Nat} {s : List Sh} {self4 : PH → Nat → Int32 → Int32 → Option (Unit × PH)} {nself4 : Mem → Nat → Int32 → Int32 → Option (Unit × Mem)} {self40 : PH → Nat → Int32 → Int32 → Int32 → Option (Unit × PH)} {nself40 : Mem → Nat → Int32 → Int32 → Int32 → Option (Unit × Mem)} {m m' : Mem} {r : Unit} {v0 : Nat} {v1 : Int32} {v2 : Int32} {v3 : Int32} (hw : GS s m) (o_v0 : ok s v0 10) (ih4 : ∀ (m : Mem) (v0 : Nat) (v1 : Int32) (v2 : Int32), GS s m → ok s v0 10 → nself4 m v0 v1 v2 = some (r, m') → J3 (self4 (bl s m) v0 v1 v2) (r, bl s m') (GS s m')) (ih40 : ∀ (m : Mem) (v0 : Nat) (v1 : Int32) (v2 : Int32) (v3 : Int32), GS s m → ok s v0 10 → nself40 m v0 v1 v2 v3 = some (r, m') → J3 (self40 (bl s m) v0 v1 v2 v3) (r, bl s m') (GS s m')) (hf : nb_X10_goes_124 F s nself4 nself40 m v0 v1 v2 v3 = some (r, m')) : J3 (b_X10_goes_124 F self4 self40 (bl s m) v0 v1 v2 v3) (r, bl s m') (GS s m') := by
  unfold nb_X10_goes_124 at hf
  unfold b_X10_goes_124
  refine k_bv hf fun x1 hf => ?_
  exact ih40 _ _ _ _ _ hw o_v0 hf
def nb_X10_goes_62 (F : Nat) (s : List Sh) (nself4 : Mem → Nat → Int32 → Int32 → Option (Unit × Mem)) (nself40 : Mem → Nat → Int32 → Int32 → Int32 → Option (Unit × Mem)) (m : Mem) (v0 : Nat) (v1 : Int32) (v2 : Int32) (v3 : Int32) : Option (Unit × Mem) := (m.2.2 v0 1).bind fun a1 => ((rdI s m a1 (2 : Int32)).bind fun x2 => (if x2 ≤ v3 then (bindv (v2 + (1)) fun x3 => (nself4 m v0 v1 x3)) else ((m.2.2 v0 31).bind fun a4 => ((rdI s m a4 v2).bind fun x5 => ((m.2.2 v0 32).bind fun a6 => ((rdI s m a6 v2).bind fun x7 => (bind2 (n_X10_leadsFrom F s m v0 v3 (Int32.toInt64 x5) (Int32.toInt64 x7)) fun x8 m9 => (if x8 = 0 then ((n_X10_metAt F s m9 v0 (m9.2.1 v0 15) (m9.2.1 v0 16)).bind fun x10 => (if x10 = (-1 : Int32) then (bind2 (n_X10_meets F s m9 v0 (m9.2.1 v0 15) (m9.2.1 v0 16) (-1 : Int32) (-1 : Int32)) fun _ m12 => (nb_X10_goes_124 F s nself4 nself40 m12 v0 v1 v2 v3)) else (nb_X10_goes_124 F s nself4 nself40 m9 v0 v1 v2 v3))) else (nb_X10_goes_124 F s nself4 nself40 m9 v0 v1 v2 v3)))))))))
set_option maxRecDepth 20000 in
theorem ub_X10_goes_62 {F : Nat} {s : List Sh} {self4 : PH → Nat → Int32 → Int32 → Option (Unit × PH)} {nself4 : Mem → Nat → Int32 → Int32 → Option (Unit × Mem)} {self40 : PH → Nat → Int32 → Int32 → Int32 → Option (Unit × PH)} {nself40 : Mem → Nat → Int32 → Int32 → Int32 → Option (Unit × Mem)} {m m' : Mem} {r : Unit} {v0 : Nat} {v1 : Int32} {v2 : Int32} {v3 : Int32} (hw : GS s m) (o_v0 : ok s v0 10) (ih4 : ∀ (m : Mem) (v0 : Nat) (v1 : Int32) (v2 : Int32), GS s m → ok s v0 10 → nself4 m v0 v1 v2 = some (r, m') → J3 (self4 (bl s m) v0 v1 v2) (r, bl s m') (GS s m')) (ih40 : ∀ (m : Mem) (v0 : Nat) (v1 : Int32) (v2 : Int32) (v3 : Int32), GS s m → ok s v0 10 → nself40 m v0 v1 v2 v3 = some (r, m') → J3 (self40 (bl s m) v0 v1 v2 v3) (r, bl s m') (GS s m')) (hf : nb_X10_goes_62 F s nself4 nself40 m v0 v1 v2 v3 = some (r, m')) : J3 (b_X10_goes_62 F self4 self40 (bl s m) v0 v1 v2 v3) (r, bl s m') (GS s m') := by
  unfold nb_X10_goes_62 at hf
  unfold b_X10_goes_62
  refine k_gR hw (ok_o o_v0 (by decide)) rfl hf fun a1 o_a1 hf => ?_
  refine k_aI (Or.inl rfl) (ka rfl o_a1) hf fun x2 hf => ?_
  refine k_if hf (fun hf => ?_) (fun hf => ?_)
  · refine k_bv hf fun x3 hf => ?_
    exact ih4 _ _ _ _ hw o_v0 hf
  · refine k_gR hw (ok_o o_v0 (by decide)) rfl hf fun a4 o_a4 hf => ?_
    refine k_aI (Or.inl rfl) (ka rfl o_a4) hf fun x5 hf => ?_
    refine k_gR hw (ok_o o_v0 (by decide)) rfl hf fun a6 o_a6 hf => ?_
    refine k_aI (Or.inl rfl) (ka rfl o_a6) hf fun x7 hf => ?_
    refine k_cO (ok_o o_v0 (by decide)) ?_
    refine ob2 hf fun x8 m9 ex hf => ?_
    refine k_b2 (un_X10_leadsFrom hw o_v0 ex) fun hw => ?_
    refine k_if hf (fun hf => ?_) (fun hf => ?_)
    · refine k_gL (ok_o o_v0 (by decide)) rfl ?_
      refine k_gL (ok_o o_v0 (by decide)) rfl ?_
      refine k_cO (ok_o o_v0 (by decide)) ?_
      refine ob hf fun x10 ex hf => ?_
      refine k_b1 (un_X10_metAt hw o_v0 ex) ?_
      refine k_if hf (fun hf => ?_) (fun hf => ?_)
      · refine k_gL (ok_o o_v0 (by decide)) rfl ?_
        refine k_gL (ok_o o_v0 (by decide)) rfl ?_
        refine k_cO (ok_o o_v0 (by decide)) ?_
        refine ob2 hf fun u m12 ex hf => ?_
        refine k_b2 (un_X10_meets hw o_v0 ex) fun hw => ?_
        exact u_X10_goes_124 hw o_v0 ih4 ih40 hf
      · exact u_X10_goes_124 hw o_v0 ih4 ih40 hf
    · exact u_X10_goes_124 hw o_v0 ih4 ih40 hf
def nl_X10_goes_62 (F : Nat) (s : List Sh) (nself4 : Mem → Nat → Int32 → Int32 → Option (Unit × Mem)) : Nat → Mem → Nat → Int32 → Int32 → Int32 → Option (Unit × Mem)
  | 0 => fun _ _ _ _ _ => none
  | n + 1 => fun m v0 v1 v2 v3 => nb_X10_goes_62 F s nself4 (nl_X10_goes_62 F s nself4 n) m v0 v1 v2 v3
theorem ul_X10_goes_62 {F : Nat} {s : List Sh} {self4 : PH → Nat → Int32 → Int32 → Option (Unit × PH)} {nself4 : Mem → Nat → Int32 → Int32 → Option (Unit × Mem)} {m' : Mem} {r : Unit} (ih4 : ∀ (m : Mem) (v0 : Nat) (v1 : Int32) (v2 : Int32), GS s m → ok s v0 10 → nself4 m v0 v1 v2 = some (r, m') → J3 (self4 (bl s m) v0 v1 v2) (r, bl s m') (GS s m')) (n : Nat) : ∀ (m : Mem) (v0 : Nat) (v1 : Int32) (v2 : Int32) (v3 : Int32), GS s m → ok s v0 10 → nl_X10_goes_62 F s nself4 n m v0 v1 v2 v3 = some (r, m') → J3 (l_X10_goes_62 F self4 n (bl s m) v0 v1 v2 v3) (r, bl s m') (GS s m') := by
  induction n with
  | zero => intro m v0 v1 v2 v3 hw o_v0 hf; cases hf
  | succ n ih => intro m v0 v1 v2 v3 hw o_v0 hf; exact ub_X10_goes_62 (F := F) hw o_v0 ih4 ih hf
def nb_X10_goes_60 (F : Nat) (s : List Sh) (nself4 : Mem → Nat → Int32 → Int32 → Option (Unit × Mem)) (m : Mem) (v0 : Nat) (v1 : Int32) (v2 : Int32) : Option (Unit × Mem) := nl_X10_goes_62 F s nself4 F m v0 v1 v2 (0 : Int32)
set_option maxRecDepth 20000 in
theorem u_X10_goes_60 {F : Nat} {s : List Sh} {self4 : PH → Nat → Int32 → Int32 → Option (Unit × PH)} {nself4 : Mem → Nat → Int32 → Int32 → Option (Unit × Mem)} {m m' : Mem} {r : Unit} {v0 : Nat} {v1 : Int32} {v2 : Int32} (hw : GS s m) (o_v0 : ok s v0 10) (ih4 : ∀ (m : Mem) (v0 : Nat) (v1 : Int32) (v2 : Int32), GS s m → ok s v0 10 → nself4 m v0 v1 v2 = some (r, m') → J3 (self4 (bl s m) v0 v1 v2) (r, bl s m') (GS s m')) (hf : nb_X10_goes_60 F s nself4 m v0 v1 v2 = some (r, m')) : J3 (b_X10_goes_60 F self4 (bl s m) v0 v1 v2) (r, bl s m') (GS s m') := by
  unfold nb_X10_goes_60 at hf
  unfold b_X10_goes_60
  exact ul_X10_goes_62 ih4 F _ _ _ _ _ hw o_v0 hf
def nb_X10_goes_6 (F : Nat) (s : List Sh) (nself4 : Mem → Nat → Int32 → Int32 → Option (Unit × Mem)) (m : Mem) (v0 : Nat) (v1 : Int32) (v2 : Int32) : Option (Unit × Mem) := if (m.1 v0 33) ≤ v2 then (some ((), m)) else (if v1 = 0 then (nb_X10_goes_60 F s nself4 m v0 v1 v2) else ((m.2.2 v0 31).bind fun a1 => ((rdI s m a1 v2).bind fun x2 => ((m.2.2 v0 32).bind fun a3 => ((rdI s m a3 v2).bind fun x4 => ((n_X10_metAt F s m v0 (Int32.toInt64 x2) (Int32.toInt64 x4)).bind fun x5 => (if x5 = (-1 : Int32) then ((m.2.2 v0 31).bind fun a6 => ((rdI s m a6 v2).bind fun x7 => ((m.2.2 v0 32).bind fun a8 => ((rdI s m a8 v2).bind fun x9 => (bind2 (n_X10_meets F s m v0 (Int32.toInt64 x7) (Int32.toInt64 x9) (-1 : Int32) (-1 : Int32)) fun _ m11 => (nb_X10_goes_60 F s nself4 m11 v0 v1 v2)))))) else (nb_X10_goes_60 F s nself4 m v0 v1 v2))))))))
set_option maxRecDepth 20000 in
theorem ub_X10_goes_6 {F : Nat} {s : List Sh} {self4 : PH → Nat → Int32 → Int32 → Option (Unit × PH)} {nself4 : Mem → Nat → Int32 → Int32 → Option (Unit × Mem)} {m m' : Mem} {r : Unit} {v0 : Nat} {v1 : Int32} {v2 : Int32} (hw : GS s m) (o_v0 : ok s v0 10) (ih4 : ∀ (m : Mem) (v0 : Nat) (v1 : Int32) (v2 : Int32), GS s m → ok s v0 10 → nself4 m v0 v1 v2 = some (r, m') → J3 (self4 (bl s m) v0 v1 v2) (r, bl s m') (GS s m')) (hf : nb_X10_goes_6 F s nself4 m v0 v1 v2 = some (r, m')) : J3 (b_X10_goes_6 F self4 (bl s m) v0 v1 v2) (r, bl s m') (GS s m') := by
  unfold nb_X10_goes_6 at hf
  unfold b_X10_goes_6
  refine k_gI (ok_o o_v0 (by decide)) rfl ?_
  refine k_if hf (fun hf => ?_) (fun hf => ?_)
  · exact k_ret hw hf
  · refine k_if hf (fun hf => ?_) (fun hf => ?_)
    · exact u_X10_goes_60 hw o_v0 ih4 hf
    · refine k_gR hw (ok_o o_v0 (by decide)) rfl hf fun a1 o_a1 hf => ?_
      refine k_aI (Or.inl rfl) (ka rfl o_a1) hf fun x2 hf => ?_
      refine k_gR hw (ok_o o_v0 (by decide)) rfl hf fun a3 o_a3 hf => ?_
      refine k_aI (Or.inl rfl) (ka rfl o_a3) hf fun x4 hf => ?_
      refine k_cO (ok_o o_v0 (by decide)) ?_
      refine ob hf fun x5 ex hf => ?_
      refine k_b1 (un_X10_metAt hw o_v0 ex) ?_
      refine k_if hf (fun hf => ?_) (fun hf => ?_)
      · refine k_gR hw (ok_o o_v0 (by decide)) rfl hf fun a6 o_a6 hf => ?_
        refine k_aI (Or.inl rfl) (ka rfl o_a6) hf fun x7 hf => ?_
        refine k_gR hw (ok_o o_v0 (by decide)) rfl hf fun a8 o_a8 hf => ?_
        refine k_aI (Or.inl rfl) (ka rfl o_a8) hf fun x9 hf => ?_
        refine k_cO (ok_o o_v0 (by decide)) ?_
        refine ob2 hf fun u m11 ex hf => ?_
        refine k_b2 (un_X10_meets hw o_v0 ex) fun hw => ?_
        exact u_X10_goes_60 hw o_v0 ih4 hf
      · exact u_X10_goes_60 hw o_v0 ih4 hf
def nl_X10_goes_6 (F : Nat) (s : List Sh) : Nat → Mem → Nat → Int32 → Int32 → Option (Unit × Mem)
  | 0 => fun _ _ _ _ => none
  | n + 1 => fun m v0 v1 v2 => nb_X10_goes_6 F s (nl_X10_goes_6 F s n) m v0 v1 v2
theorem ul_X10_goes_6 {F : Nat} {s : List Sh} {m' : Mem} {r : Unit} (n : Nat) : ∀ (m : Mem) (v0 : Nat) (v1 : Int32) (v2 : Int32), GS s m → ok s v0 10 → nl_X10_goes_6 F s n m v0 v1 v2 = some (r, m') → J3 (l_X10_goes_6 F n (bl s m) v0 v1 v2) (r, bl s m') (GS s m') := by
  induction n with
  | zero => intro m v0 v1 v2 hw o_v0 hf; cases hf
  | succ n ih => intro m v0 v1 v2 hw o_v0 hf; exact ub_X10_goes_6 (F := F) hw o_v0 ih hf
def nb_X10_goes_0 (F : Nat) (s : List Sh) (m : Mem) (v0 : Nat) (v1 : Int32) : Option (Unit × Mem) := bind2 (n_X10_forgets F s m v0) fun _ m2 => (nl_X10_goes_6 F s F m2 v0 v1 (0 : Int32))
set_option maxRecDepth 20000 in
theorem u_X10_goes_0 {F : Nat} {s : List Sh} {m m' : Mem} {r : Unit} {v0 : Nat} {v1 : Int32} (hw : GS s m) (o_v0 : ok s v0 10) (hf : nb_X10_goes_0 F s m v0 v1 = some (r, m')) : J3 (b_X10_goes_0 F (bl s m) v0 v1) (r, bl s m') (GS s m') := by
  unfold nb_X10_goes_0 at hf
  unfold b_X10_goes_0
  refine k_cO (ok_o o_v0 (by decide)) ?_
  refine ob2 hf fun u m2 ex hf => ?_
  refine k_b2 (un_X10_forgets hw o_v0 ex) fun hw => ?_
  exact ul_X10_goes_6 F _ _ _ _ hw o_v0 hf
def n_X10_goes (F : Nat) (s : List Sh) (m : Mem) (p0 : Nat) (p1 : Int32) : Option (Unit × Mem) := nb_X10_goes_0 F s m p0 p1
theorem un_X10_goes {F : Nat} {s : List Sh} {m m' : Mem} {p0 : Nat} {p1 : Int32} {r : Unit} (hw : GS s m) (o_p0 : ok s p0 10) (ex : n_X10_goes F s m p0 p1 = some (r, m')) : J3 (m_X10_goes F (bl s m) p0 p1) (r, bl s m') (GS s m') := u_X10_goes_0 hw o_p0 ex
/-! FractionLiftModel.becomesMet()V over the memory -/
def nb_X10_becomesMet_2 (F : Nat) (s : List Sh) (nself2 : Mem → Nat → Int32 → Option (Unit × Mem)) (m : Mem) (v0 : Nat) (v1 : Int32) : Option (Unit × Mem) := if (m.1 v0 29) ≤ v1 then (bindv (wI m v0 33 (m.1 v0 29)) fun m1 => (some ((), m1))) else ((m.2.2 v0 31).bind fun a2 => ((m.2.2 v0 24).bind fun a3 => ((rdI s m a3 v1).bind fun x4 => ((stI s m a2 v1 x4).bind fun m5 => ((m5.2.2 v0 32).bind fun a6 => ((m5.2.2 v0 25).bind fun a7 => ((rdI s m5 a7 v1).bind fun x8 => ((stI s m5 a6 v1 x8).bind fun m9 => (bindv (v1 + (1)) fun x10 => (nself2 m9 v0 x10))))))))))
set_option maxRecDepth 20000 in
theorem ub_X10_becomesMet_2 {F : Nat} {s : List Sh} {self2 : PH → Nat → Int32 → Option (Unit × PH)} {nself2 : Mem → Nat → Int32 → Option (Unit × Mem)} {m m' : Mem} {r : Unit} {v0 : Nat} {v1 : Int32} (hw : GS s m) (o_v0 : ok s v0 10) (ih2 : ∀ (m : Mem) (v0 : Nat) (v1 : Int32), GS s m → ok s v0 10 → nself2 m v0 v1 = some (r, m') → J3 (self2 (bl s m) v0 v1) (r, bl s m') (GS s m')) (hf : nb_X10_becomesMet_2 F s nself2 m v0 v1 = some (r, m')) : J3 (b_X10_becomesMet_2 F self2 (bl s m) v0 v1) (r, bl s m') (GS s m') := by
  unfold nb_X10_becomesMet_2 at hf
  unfold b_X10_becomesMet_2
  refine k_gI (ok_o o_v0 (by decide)) rfl ?_
  refine k_if hf (fun hf => ?_) (fun hf => ?_)
  · refine k_gI (ok_o o_v0 (by decide)) rfl ?_
    refine k_pI hw (ok_o o_v0 (by decide)) rfl hf fun m1 hw hf => ?_
    exact k_ret hw hf
  · refine k_gR hw (ok_o o_v0 (by decide)) rfl hf fun a2 o_a2 hf => ?_
    refine k_gR hw (ok_o o_v0 (by decide)) rfl hf fun a3 o_a3 hf => ?_
    refine k_aI (Or.inl rfl) (ka rfl o_a3) hf fun x4 hf => ?_
    refine k_sI hw (ka rfl o_a2) hf fun m5 hw hf => ?_
    refine k_gR hw (ok_o o_v0 (by decide)) rfl hf fun a6 o_a6 hf => ?_
    refine k_gR hw (ok_o o_v0 (by decide)) rfl hf fun a7 o_a7 hf => ?_
    refine k_aI (Or.inl rfl) (ka rfl o_a7) hf fun x8 hf => ?_
    refine k_sI hw (ka rfl o_a6) hf fun m9 hw hf => ?_
    refine k_bv hf fun x10 hf => ?_
    exact ih2 _ _ _ hw o_v0 hf
def nl_X10_becomesMet_2 (F : Nat) (s : List Sh) : Nat → Mem → Nat → Int32 → Option (Unit × Mem)
  | 0 => fun _ _ _ => none
  | n + 1 => fun m v0 v1 => nb_X10_becomesMet_2 F s (nl_X10_becomesMet_2 F s n) m v0 v1
theorem ul_X10_becomesMet_2 {F : Nat} {s : List Sh} {m' : Mem} {r : Unit} (n : Nat) : ∀ (m : Mem) (v0 : Nat) (v1 : Int32), GS s m → ok s v0 10 → nl_X10_becomesMet_2 F s n m v0 v1 = some (r, m') → J3 (l_X10_becomesMet_2 F n (bl s m) v0 v1) (r, bl s m') (GS s m') := by
  induction n with
  | zero => intro m v0 v1 hw o_v0 hf; cases hf
  | succ n ih => intro m v0 v1 hw o_v0 hf; exact ub_X10_becomesMet_2 (F := F) hw o_v0 ih hf
def nb_X10_becomesMet_0 (F : Nat) (s : List Sh) (m : Mem) (v0 : Nat) : Option (Unit × Mem) := nl_X10_becomesMet_2 F s F m v0 (0 : Int32)
set_option maxRecDepth 20000 in
theorem u_X10_becomesMet_0 {F : Nat} {s : List Sh} {m m' : Mem} {r : Unit} {v0 : Nat} (hw : GS s m) (o_v0 : ok s v0 10) (hf : nb_X10_becomesMet_0 F s m v0 = some (r, m')) : J3 (b_X10_becomesMet_0 F (bl s m) v0) (r, bl s m') (GS s m') := by
  unfold nb_X10_becomesMet_0 at hf
  unfold b_X10_becomesMet_0
  exact ul_X10_becomesMet_2 F _ _ _ hw o_v0 hf
def n_X10_becomesMet (F : Nat) (s : List Sh) (m : Mem) (p0 : Nat) : Option (Unit × Mem) := nb_X10_becomesMet_0 F s m p0
theorem un_X10_becomesMet {F : Nat} {s : List Sh} {m m' : Mem} {p0 : Nat} {r : Unit} (hw : GS s m) (o_p0 : ok s p0 10) (ex : n_X10_becomesMet F s m p0 = some (r, m')) : J3 (m_X10_becomesMet F (bl s m) p0) (r, bl s m') (GS s m') := u_X10_becomesMet_0 hw o_p0 ex
/-! FractionLiftModel.laysReach(I)V over the memory -/
def nb_X10_laysReach_20 (F : Nat) (s : List Sh) (nself12 : Mem → Nat → Int32 → Int32 → Option (Unit × Mem)) (m : Mem) (v0 : Nat) (v1 : Int32) (v2 : Int32) : Option (Unit × Mem) := if v1 ≤ v2 then (some ((), m)) else (bind2 (n_X10_goes F s m v0 (0 : Int32)) fun _ m2 => (bind2 (n_X10_becomesMet F s m2 v0) fun _ m4 => (bindv (v2 + (1)) fun x5 => (nself12 m4 v0 v1 x5))))
set_option maxRecDepth 20000 in
theorem ub_X10_laysReach_20 {F : Nat} {s : List Sh} {self12 : PH → Nat → Int32 → Int32 → Option (Unit × PH)} {nself12 : Mem → Nat → Int32 → Int32 → Option (Unit × Mem)} {m m' : Mem} {r : Unit} {v0 : Nat} {v1 : Int32} {v2 : Int32} (hw : GS s m) (o_v0 : ok s v0 10) (ih12 : ∀ (m : Mem) (v0 : Nat) (v1 : Int32) (v2 : Int32), GS s m → ok s v0 10 → nself12 m v0 v1 v2 = some (r, m') → J3 (self12 (bl s m) v0 v1 v2) (r, bl s m') (GS s m')) (hf : nb_X10_laysReach_20 F s nself12 m v0 v1 v2 = some (r, m')) : J3 (b_X10_laysReach_20 F self12 (bl s m) v0 v1 v2) (r, bl s m') (GS s m') := by
  unfold nb_X10_laysReach_20 at hf
  unfold b_X10_laysReach_20
  refine k_if hf (fun hf => ?_) (fun hf => ?_)
  · exact k_ret hw hf
  · refine k_cO (ok_o o_v0 (by decide)) ?_
    refine ob2 hf fun u m2 ex hf => ?_
    refine k_b2 (un_X10_goes hw o_v0 ex) fun hw => ?_
    refine k_cO (ok_o o_v0 (by decide)) ?_
    refine ob2 hf fun u m4 ex hf => ?_
    refine k_b2 (un_X10_becomesMet hw o_v0 ex) fun hw => ?_
    refine k_bv hf fun x5 hf => ?_
    exact ih12 _ _ _ _ hw o_v0 hf
def nl_X10_laysReach_20 (F : Nat) (s : List Sh) : Nat → Mem → Nat → Int32 → Int32 → Option (Unit × Mem)
  | 0 => fun _ _ _ _ => none
  | n + 1 => fun m v0 v1 v2 => nb_X10_laysReach_20 F s (nl_X10_laysReach_20 F s n) m v0 v1 v2
theorem ul_X10_laysReach_20 {F : Nat} {s : List Sh} {m' : Mem} {r : Unit} (n : Nat) : ∀ (m : Mem) (v0 : Nat) (v1 : Int32) (v2 : Int32), GS s m → ok s v0 10 → nl_X10_laysReach_20 F s n m v0 v1 v2 = some (r, m') → J3 (l_X10_laysReach_20 F n (bl s m) v0 v1 v2) (r, bl s m') (GS s m') := by
  induction n with
  | zero => intro m v0 v1 v2 hw o_v0 hf; cases hf
  | succ n ih => intro m v0 v1 v2 hw o_v0 hf; exact ub_X10_laysReach_20 (F := F) hw o_v0 ih hf
def nb_X10_laysReach_0 (F : Nat) (s : List Sh) (m : Mem) (v0 : Nat) (v1 : Int32) : Option (Unit × Mem) := (m.2.2 v0 1).bind fun a1 => ((rdI s m a1 (7 : Int32)).bind fun x2 => ((m.2.2 v0 1).bind fun a3 => ((rdI s m a3 (8 : Int32)).bind fun x4 => (bind2 (n_X10_begins s m v0 x2 x4) fun _ m6 => (nl_X10_laysReach_20 F s F m6 v0 v1 (0 : Int32))))))
set_option maxRecDepth 20000 in
theorem u_X10_laysReach_0 {F : Nat} {s : List Sh} {m m' : Mem} {r : Unit} {v0 : Nat} {v1 : Int32} (hw : GS s m) (o_v0 : ok s v0 10) (hf : nb_X10_laysReach_0 F s m v0 v1 = some (r, m')) : J3 (b_X10_laysReach_0 F (bl s m) v0 v1) (r, bl s m') (GS s m') := by
  unfold nb_X10_laysReach_0 at hf
  unfold b_X10_laysReach_0
  refine k_gR hw (ok_o o_v0 (by decide)) rfl hf fun a1 o_a1 hf => ?_
  refine k_aI (Or.inl rfl) (ka rfl o_a1) hf fun x2 hf => ?_
  refine k_gR hw (ok_o o_v0 (by decide)) rfl hf fun a3 o_a3 hf => ?_
  refine k_aI (Or.inl rfl) (ka rfl o_a3) hf fun x4 hf => ?_
  refine k_cO (ok_o o_v0 (by decide)) ?_
  refine ob2 hf fun u m6 ex hf => ?_
  refine k_b2 (un_X10_begins hw o_v0 ex) fun hw => ?_
  exact ul_X10_laysReach_20 F _ _ _ _ hw o_v0 hf
def n_X10_laysReach (F : Nat) (s : List Sh) (m : Mem) (p0 : Nat) (p1 : Int32) : Option (Unit × Mem) := nb_X10_laysReach_0 F s m p0 p1
theorem un_X10_laysReach {F : Nat} {s : List Sh} {m m' : Mem} {p0 : Nat} {p1 : Int32} {r : Unit} (hw : GS s m) (o_p0 : ok s p0 10) (ex : n_X10_laysReach F s m p0 p1 = some (r, m')) : J3 (m_X10_laysReach F (bl s m) p0 p1) (r, bl s m') (GS s m') := u_X10_laysReach_0 hw o_p0 ex
/-! FractionLiftModel.reach(I)I over the memory -/
def nb_X10_reach_0 (F : Nat) (s : List Sh) (m : Mem) (v0 : Nat) (v1 : Int32) : Option (Int32 × Mem) := bindv (wI m v0 0 (0 : Int32)) fun m1 => ((m_X10_within (Int32.toInt64 v1) (0 : Int64) (5 : Int64)).bind fun x2 => (if x2 = 0 then (some ((-3 : Int32), m1)) else (bind2 (n_X10_laysReach F s m1 v0 v1) fun _ m4 => (some ((m4.1 v0 33), m4)))))
set_option maxRecDepth 20000 in
theorem u_X10_reach_0 {F : Nat} {s : List Sh} {m m' : Mem} {r : Int32} {v0 : Nat} {v1 : Int32} (hw : GS s m) (o_v0 : ok s v0 10) (hf : nb_X10_reach_0 F s m v0 v1 = some (r, m')) : J3 (b_X10_reach_0 F (bl s m) v0 v1) (r, bl s m') (GS s m') := by
  unfold nb_X10_reach_0 at hf
  unfold b_X10_reach_0
  refine k_pI hw (ok_o o_v0 (by decide)) rfl hf fun m1 hw hf => ?_
  refine k_pure hf fun x2 hf => ?_
  refine k_if hf (fun hf => ?_) (fun hf => ?_)
  · exact k_ret hw hf
  · refine k_cO (ok_o o_v0 (by decide)) ?_
    refine ob2 hf fun u m4 ex hf => ?_
    refine k_b2 (un_X10_laysReach hw o_v0 ex) fun hw => ?_
    refine k_gI (ok_o o_v0 (by decide)) rfl ?_
    exact k_ret hw hf
def n_X10_reach (F : Nat) (s : List Sh) (m : Mem) (p0 : Nat) (p1 : Int32) : Option (Int32 × Mem) := nb_X10_reach_0 F s m p0 p1
theorem un_X10_reach {F : Nat} {s : List Sh} {m m' : Mem} {p0 : Nat} {p1 : Int32} {r : Int32} (hw : GS s m) (o_p0 : ok s p0 10) (ex : n_X10_reach F s m p0 p1 = some (r, m')) : J3 (m_X10_reach F (bl s m) p0 p1) (r, bl s m') (GS s m') := u_X10_reach_0 hw o_p0 ex
/-! FractionLiftModel.highest(II)I over the memory -/
def nb_X10_highest_96 (F : Nat) (s : List Sh) (nself26 : Mem → Nat → Int32 → Int32 → Int32 → Option (Int32 × Mem)) (m : Mem) (v0 : Nat) (v2 : Int32) (v3 : Int32) (v4 : Int32) : Option (Int32 × Mem) := bindv (v4 + (1)) fun x1 => (nself26 m v0 v2 v3 x1)
set_option maxRecDepth 20000 in
theorem u_X10_highest_96 {F : Nat} {s : List Sh} {self26 : PH → Nat → Int32 → Int32 → Int32 → Option (Int32 × PH)} {nself26 : Mem → Nat → Int32 → Int32 → Int32 → Option (Int32 × Mem)} {m m' : Mem} {r : Int32} {v0 : Nat} {v2 : Int32} {v3 : Int32} {v4 : Int32} (hw : GS s m) (o_v0 : ok s v0 10) (ih26 : ∀ (m : Mem) (v0 : Nat) (v2 : Int32) (v3 : Int32) (v4 : Int32), GS s m → ok s v0 10 → nself26 m v0 v2 v3 v4 = some (r, m') → J3 (self26 (bl s m) v0 v2 v3 v4) (r, bl s m') (GS s m')) (hf : nb_X10_highest_96 F s nself26 m v0 v2 v3 v4 = some (r, m')) : J3 (b_X10_highest_96 F self26 (bl s m) v0 v2 v3 v4) (r, bl s m') (GS s m') := by
  unfold nb_X10_highest_96 at hf
  unfold b_X10_highest_96
  refine k_bv hf fun x1 hf => ?_
  exact ih26 _ _ _ _ _ hw o_v0 hf
def nb_X10_highest_93 (F : Nat) (s : List Sh) (nself26 : Mem → Nat → Int32 → Int32 → Int32 → Option (Int32 × Mem)) (m : Mem) (v0 : Nat) (v2 : Int32) (v4 : Int32) : Option (Int32 × Mem) := nb_X10_highest_96 F s nself26 m v0 v2 v4 v4
set_option maxRecDepth 20000 in
theorem u_X10_highest_93 {F : Nat} {s : List Sh} {self26 : PH → Nat → Int32 → Int32 → Int32 → Option (Int32 × PH)} {nself26 : Mem → Nat → Int32 → Int32 → Int32 → Option (Int32 × Mem)} {m m' : Mem} {r : Int32} {v0 : Nat} {v2 : Int32} {v4 : Int32} (hw : GS s m) (o_v0 : ok s v0 10) (ih26 : ∀ (m : Mem) (v0 : Nat) (v2 : Int32) (v3 : Int32) (v4 : Int32), GS s m → ok s v0 10 → nself26 m v0 v2 v3 v4 = some (r, m') → J3 (self26 (bl s m) v0 v2 v3 v4) (r, bl s m') (GS s m')) (hf : nb_X10_highest_93 F s nself26 m v0 v2 v4 = some (r, m')) : J3 (b_X10_highest_93 F self26 (bl s m) v0 v2 v4) (r, bl s m') (GS s m') := by
  unfold nb_X10_highest_93 at hf
  unfold b_X10_highest_93
  exact u_X10_highest_96 hw o_v0 ih26 hf
def nb_X10_highest_43 (F : Nat) (s : List Sh) (nself26 : Mem → Nat → Int32 → Int32 → Int32 → Option (Int32 × Mem)) (m : Mem) (v0 : Nat) (v2 : Int32) (v3 : Int32) (v4 : Int32) : Option (Int32 × Mem) := if (m.1 v0 33) ≤ v4 then (if v3 = (-1 : Int32) then (some ((-1 : Int32), m)) else (if v2 = 0 then ((m.2.2 v0 31).bind fun a3 => ((rdI s m a3 v3).bind fun x4 => (some (x4, m)))) else ((m.2.2 v0 32).bind fun a1 => ((rdI s m a1 v3).bind fun x2 => (some (x2, m)))))) else (if v3 = (-1 : Int32) then (nb_X10_highest_93 F s nself26 m v0 v2 v4) else ((m.2.2 v0 31).bind fun a5 => ((rdI s m a5 v4).bind fun x6 => ((m.2.2 v0 32).bind fun a7 => ((rdI s m a7 v4).bind fun x8 => ((m.2.2 v0 31).bind fun a9 => ((rdI s m a9 v3).bind fun x10 => ((m.2.2 v0 32).bind fun a11 => ((rdI s m a11 v3).bind fun x12 => ((m_X10_against (Int32.toInt64 x6) (Int32.toInt64 x8) (Int32.toInt64 x10) (Int32.toInt64 x12)).bind fun x13 => (if x13 ≤ 0 then (nb_X10_highest_96 F s nself26 m v0 v2 v3 v4) else (nb_X10_highest_93 F s nself26 m v0 v2 v4))))))))))))
set_option maxRecDepth 20000 in
theorem ub_X10_highest_43 {F : Nat} {s : List Sh} {self26 : PH → Nat → Int32 → Int32 → Int32 → Option (Int32 × PH)} {nself26 : Mem → Nat → Int32 → Int32 → Int32 → Option (Int32 × Mem)} {m m' : Mem} {r : Int32} {v0 : Nat} {v2 : Int32} {v3 : Int32} {v4 : Int32} (hw : GS s m) (o_v0 : ok s v0 10) (ih26 : ∀ (m : Mem) (v0 : Nat) (v2 : Int32) (v3 : Int32) (v4 : Int32), GS s m → ok s v0 10 → nself26 m v0 v2 v3 v4 = some (r, m') → J3 (self26 (bl s m) v0 v2 v3 v4) (r, bl s m') (GS s m')) (hf : nb_X10_highest_43 F s nself26 m v0 v2 v3 v4 = some (r, m')) : J3 (b_X10_highest_43 F self26 (bl s m) v0 v2 v3 v4) (r, bl s m') (GS s m') := by
  unfold nb_X10_highest_43 at hf
  unfold b_X10_highest_43
  refine k_gI (ok_o o_v0 (by decide)) rfl ?_
  refine k_if hf (fun hf => ?_) (fun hf => ?_)
  · refine k_if hf (fun hf => ?_) (fun hf => ?_)
    · exact k_ret hw hf
    · refine k_if hf (fun hf => ?_) (fun hf => ?_)
      · refine k_gR hw (ok_o o_v0 (by decide)) rfl hf fun a3 o_a3 hf => ?_
        refine k_aI (Or.inl rfl) (ka rfl o_a3) hf fun x4 hf => ?_
        exact k_ret hw hf
      · refine k_gR hw (ok_o o_v0 (by decide)) rfl hf fun a1 o_a1 hf => ?_
        refine k_aI (Or.inl rfl) (ka rfl o_a1) hf fun x2 hf => ?_
        exact k_ret hw hf
  · refine k_if hf (fun hf => ?_) (fun hf => ?_)
    · exact u_X10_highest_93 hw o_v0 ih26 hf
    · refine k_gR hw (ok_o o_v0 (by decide)) rfl hf fun a5 o_a5 hf => ?_
      refine k_aI (Or.inl rfl) (ka rfl o_a5) hf fun x6 hf => ?_
      refine k_gR hw (ok_o o_v0 (by decide)) rfl hf fun a7 o_a7 hf => ?_
      refine k_aI (Or.inl rfl) (ka rfl o_a7) hf fun x8 hf => ?_
      refine k_gR hw (ok_o o_v0 (by decide)) rfl hf fun a9 o_a9 hf => ?_
      refine k_aI (Or.inl rfl) (ka rfl o_a9) hf fun x10 hf => ?_
      refine k_gR hw (ok_o o_v0 (by decide)) rfl hf fun a11 o_a11 hf => ?_
      refine k_aI (Or.inl rfl) (ka rfl o_a11) hf fun x12 hf => ?_
      refine k_pure hf fun x13 hf => ?_
      refine k_if hf (fun hf => ?_) (fun hf => ?_)
      · exact u_X10_highest_96 hw o_v0 ih26 hf
      · exact u_X10_highest_93 hw o_v0 ih26 hf
def nl_X10_highest_43 (F : Nat) (s : List Sh) : Nat → Mem → Nat → Int32 → Int32 → Int32 → Option (Int32 × Mem)
  | 0 => fun _ _ _ _ _ => none
  | n + 1 => fun m v0 v2 v3 v4 => nb_X10_highest_43 F s (nl_X10_highest_43 F s n) m v0 v2 v3 v4
theorem ul_X10_highest_43 {F : Nat} {s : List Sh} {m' : Mem} {r : Int32} (n : Nat) : ∀ (m : Mem) (v0 : Nat) (v2 : Int32) (v3 : Int32) (v4 : Int32), GS s m → ok s v0 10 → nl_X10_highest_43 F s n m v0 v2 v3 v4 = some (r, m') → J3 (l_X10_highest_43 F n (bl s m) v0 v2 v3 v4) (r, bl s m') (GS s m') := by
  induction n with
  | zero => intro m v0 v2 v3 v4 hw o_v0 hf; cases hf
  | succ n ih => intro m v0 v2 v3 v4 hw o_v0 hf; exact ub_X10_highest_43 (F := F) hw o_v0 ih hf
def nb_X10_highest_0 (F : Nat) (s : List Sh) (m : Mem) (v0 : Nat) (v1 : Int32) (v2 : Int32) : Option (Int32 × Mem) := bindv (wI m v0 0 (0 : Int32)) fun m1 => ((m_X10_within (Int32.toInt64 v2) (0 : Int64) (1 : Int64)).bind fun x2 => (if x2 = 0 then (some ((-2 : Int32), m1)) else ((m_X10_within (Int32.toInt64 v1) (0 : Int64) (5 : Int64)).bind fun x3 => (if x3 = 0 then (some ((-3 : Int32), m1)) else (bind2 (n_X10_laysReach F s m1 v0 v1) fun _ m5 => (nl_X10_highest_43 F s F m5 v0 v2 (-1 : Int32) (0 : Int32)))))))
set_option maxRecDepth 20000 in
theorem u_X10_highest_0 {F : Nat} {s : List Sh} {m m' : Mem} {r : Int32} {v0 : Nat} {v1 : Int32} {v2 : Int32} (hw : GS s m) (o_v0 : ok s v0 10) (hf : nb_X10_highest_0 F s m v0 v1 v2 = some (r, m')) : J3 (b_X10_highest_0 F (bl s m) v0 v1 v2) (r, bl s m') (GS s m') := by
  unfold nb_X10_highest_0 at hf
  unfold b_X10_highest_0
  refine k_pI hw (ok_o o_v0 (by decide)) rfl hf fun m1 hw hf => ?_
  refine k_pure hf fun x2 hf => ?_
  refine k_if hf (fun hf => ?_) (fun hf => ?_)
  · exact k_ret hw hf
  · refine k_pure hf fun x3 hf => ?_
    refine k_if hf (fun hf => ?_) (fun hf => ?_)
    · exact k_ret hw hf
    · refine k_cO (ok_o o_v0 (by decide)) ?_
      refine ob2 hf fun u m5 ex hf => ?_
      refine k_b2 (un_X10_laysReach hw o_v0 ex) fun hw => ?_
      exact ul_X10_highest_43 F _ _ _ _ _ hw o_v0 hf
def n_X10_highest (F : Nat) (s : List Sh) (m : Mem) (p0 : Nat) (p1 : Int32) (p2 : Int32) : Option (Int32 × Mem) := nb_X10_highest_0 F s m p0 p1 p2
theorem un_X10_highest {F : Nat} {s : List Sh} {m m' : Mem} {p0 : Nat} {p1 : Int32} {p2 : Int32} {r : Int32} (hw : GS s m) (o_p0 : ok s p0 10) (ex : n_X10_highest F s m p0 p1 p2 = some (r, m')) : J3 (m_X10_highest F (bl s m) p0 p1 p2) (r, bl s m') (GS s m') := u_X10_highest_0 hw o_p0 ex
/-! FractionLiftModel.rowsOf(I)I over the memory -/
def nb_X10_rowsOf_4 (F : Nat) (s : List Sh) (nself4 : Nat → Int32 → Int32 → Int32 → Option Int32) (m : Mem) (v0 : Nat) (v1 : Int32) (v2 : Int32) (v3 : Int32) : Option Int32 := if v1 ≤ v3 then (some v2) else ((m.2.2 v0 1).bind fun a1 => ((rdI s m a1 (2 : Int32)).bind fun x2 => (bindv (v2 * x2) fun x3 => (bindv (v3 + (1)) fun x4 => (nself4 v0 v1 x3 x4)))))
set_option maxRecDepth 20000 in
theorem ub_X10_rowsOf_4 {F : Nat} {s : List Sh} {self4 : Nat → Int32 → Int32 → Int32 → Option Int32} {nself4 : Nat → Int32 → Int32 → Int32 → Option Int32} {m : Mem} {r : Int32} {v0 : Nat} {v1 : Int32} {v2 : Int32} {v3 : Int32} (hw : GS s m) (o_v0 : ok s v0 10) (ih4 : ∀ (v0 : Nat) (v1 : Int32) (v2 : Int32) (v3 : Int32), ok s v0 10 → nself4 v0 v1 v2 v3 = some r → J3 (self4 v0 v1 v2 v3) r True) (hf : nb_X10_rowsOf_4 F s nself4 m v0 v1 v2 v3 = some r) : J3 (b_X10_rowsOf_4 F self4 (bl s m) v0 v1 v2 v3) r True := by
  unfold nb_X10_rowsOf_4 at hf
  unfold b_X10_rowsOf_4
  refine k_if hf (fun hf => ?_) (fun hf => ?_)
  · exact k_retP hf
  · refine k_gR hw (ok_o o_v0 (by decide)) rfl hf fun a1 o_a1 hf => ?_
    refine k_aI (Or.inl rfl) (ka rfl o_a1) hf fun x2 hf => ?_
    refine k_bv hf fun x3 hf => ?_
    refine k_bv hf fun x4 hf => ?_
    exact ih4 _ _ _ _ o_v0 hf
def nl_X10_rowsOf_4 (F : Nat) (s : List Sh) (m : Mem) : Nat → Nat → Int32 → Int32 → Int32 → Option Int32
  | 0 => fun _ _ _ _ => none
  | n + 1 => fun v0 v1 v2 v3 => nb_X10_rowsOf_4 F s (nl_X10_rowsOf_4 F s m n) m v0 v1 v2 v3
theorem ul_X10_rowsOf_4 {F : Nat} {s : List Sh} {m : Mem} {r : Int32} (hw : GS s m) (n : Nat) : ∀ (v0 : Nat) (v1 : Int32) (v2 : Int32) (v3 : Int32), ok s v0 10 → nl_X10_rowsOf_4 F s m n v0 v1 v2 v3 = some r → J3 (l_X10_rowsOf_4 F (bl s m) n v0 v1 v2 v3) r True := by
  induction n with
  | zero => intro v0 v1 v2 v3 o_v0 hf; cases hf
  | succ n ih => intro v0 v1 v2 v3 o_v0 hf; exact ub_X10_rowsOf_4 (F := F) hw o_v0 ih hf
def nb_X10_rowsOf_0 (F : Nat) (s : List Sh) (m : Mem) (v0 : Nat) (v1 : Int32) : Option Int32 := nl_X10_rowsOf_4 F s m F v0 v1 (1 : Int32) (0 : Int32)
set_option maxRecDepth 20000 in
theorem u_X10_rowsOf_0 {F : Nat} {s : List Sh} {m : Mem} {r : Int32} {v0 : Nat} {v1 : Int32} (hw : GS s m) (o_v0 : ok s v0 10) (hf : nb_X10_rowsOf_0 F s m v0 v1 = some r) : J3 (b_X10_rowsOf_0 F (bl s m) v0 v1) r True := by
  unfold nb_X10_rowsOf_0 at hf
  unfold b_X10_rowsOf_0
  exact ul_X10_rowsOf_4 hw F _ _ _ _ o_v0 hf
def n_X10_rowsOf (F : Nat) (s : List Sh) (m : Mem) (p0 : Nat) (p1 : Int32) : Option Int32 := nb_X10_rowsOf_0 F s m p0 p1
theorem un_X10_rowsOf {F : Nat} {s : List Sh} {m : Mem} {p0 : Nat} {p1 : Int32} {r : Int32} (hw : GS s m) (o_p0 : ok s p0 10) (ex : n_X10_rowsOf F s m p0 p1 = some r) : J3 (m_X10_rowsOf F (bl s m) p0 p1) r True := u_X10_rowsOf_0 hw o_p0 ex
/-! FractionLiftModel.digit(III)I over the memory -/
def nb_X10_digit_8 (F : Nat) (s : List Sh) (nself6 : Nat → Int32 → Int32 → Int32 → Option Int32) (m : Mem) (v0 : Nat) (v3 : Int32) (v4 : Int32) (v5 : Int32) : Option Int32 := if v5 ≤ v3 then ((m.2.2 v0 1).bind fun a1 => ((rdI s m a1 (2 : Int32)).bind fun x2 => (if x2 = 0 then none else (some (remI v4 x2))))) else ((m.2.2 v0 1).bind fun a3 => ((rdI s m a3 (2 : Int32)).bind fun x4 => (if x4 = 0 then none else (bindv (v4 / x4) fun x5 => (bindv (v5 + (-1)) fun x6 => (nself6 v0 v3 x5 x6))))))
set_option maxRecDepth 20000 in
theorem ub_X10_digit_8 {F : Nat} {s : List Sh} {self6 : Nat → Int32 → Int32 → Int32 → Option Int32} {nself6 : Nat → Int32 → Int32 → Int32 → Option Int32} {m : Mem} {r : Int32} {v0 : Nat} {v3 : Int32} {v4 : Int32} {v5 : Int32} (hw : GS s m) (o_v0 : ok s v0 10) (ih6 : ∀ (v0 : Nat) (v3 : Int32) (v4 : Int32) (v5 : Int32), ok s v0 10 → nself6 v0 v3 v4 v5 = some r → J3 (self6 v0 v3 v4 v5) r True) (hf : nb_X10_digit_8 F s nself6 m v0 v3 v4 v5 = some r) : J3 (b_X10_digit_8 F self6 (bl s m) v0 v3 v4 v5) r True := by
  unfold nb_X10_digit_8 at hf
  unfold b_X10_digit_8
  refine k_if hf (fun hf => ?_) (fun hf => ?_)
  · refine k_gR hw (ok_o o_v0 (by decide)) rfl hf fun a1 o_a1 hf => ?_
    refine k_aI (Or.inl rfl) (ka rfl o_a1) hf fun x2 hf => ?_
    refine k_if hf (fun hf => by cases hf) (fun hf => ?_)
    exact k_retP hf
  · refine k_gR hw (ok_o o_v0 (by decide)) rfl hf fun a3 o_a3 hf => ?_
    refine k_aI (Or.inl rfl) (ka rfl o_a3) hf fun x4 hf => ?_
    refine k_if hf (fun hf => by cases hf) (fun hf => ?_)
    refine k_bv hf fun x5 hf => ?_
    refine k_bv hf fun x6 hf => ?_
    exact ih6 _ _ _ _ o_v0 hf
def nl_X10_digit_8 (F : Nat) (s : List Sh) (m : Mem) : Nat → Nat → Int32 → Int32 → Int32 → Option Int32
  | 0 => fun _ _ _ _ => none
  | n + 1 => fun v0 v3 v4 v5 => nb_X10_digit_8 F s (nl_X10_digit_8 F s m n) m v0 v3 v4 v5
theorem ul_X10_digit_8 {F : Nat} {s : List Sh} {m : Mem} {r : Int32} (hw : GS s m) (n : Nat) : ∀ (v0 : Nat) (v3 : Int32) (v4 : Int32) (v5 : Int32), ok s v0 10 → nl_X10_digit_8 F s m n v0 v3 v4 v5 = some r → J3 (l_X10_digit_8 F (bl s m) n v0 v3 v4 v5) r True := by
  induction n with
  | zero => intro v0 v3 v4 v5 o_v0 hf; cases hf
  | succ n ih => intro v0 v3 v4 v5 o_v0 hf; exact ub_X10_digit_8 (F := F) hw o_v0 ih hf
def nb_X10_digit_0 (F : Nat) (s : List Sh) (m : Mem) (v0 : Nat) (v1 : Int32) (v2 : Int32) (v3 : Int32) : Option Int32 := bindv ((v2 - (1 : Int32))) fun x1 => (nl_X10_digit_8 F s m F v0 v3 v1 x1)
set_option maxRecDepth 20000 in
theorem u_X10_digit_0 {F : Nat} {s : List Sh} {m : Mem} {r : Int32} {v0 : Nat} {v1 : Int32} {v2 : Int32} {v3 : Int32} (hw : GS s m) (o_v0 : ok s v0 10) (hf : nb_X10_digit_0 F s m v0 v1 v2 v3 = some r) : J3 (b_X10_digit_0 F (bl s m) v0 v1 v2 v3) r True := by
  unfold nb_X10_digit_0 at hf
  unfold b_X10_digit_0
  refine k_bv hf fun x1 hf => ?_
  exact ul_X10_digit_8 hw F _ _ _ _ o_v0 hf
def n_X10_digit (F : Nat) (s : List Sh) (m : Mem) (p0 : Nat) (p1 : Int32) (p2 : Int32) (p3 : Int32) : Option Int32 := nb_X10_digit_0 F s m p0 p1 p2 p3
theorem un_X10_digit {F : Nat} {s : List Sh} {m : Mem} {p0 : Nat} {p1 : Int32} {p2 : Int32} {p3 : Int32} {r : Int32} (hw : GS s m) (o_p0 : ok s p0 10) (ex : n_X10_digit F s m p0 p1 p2 p3 = some r) : J3 (m_X10_digit F (bl s m) p0 p1 p2 p3) r True := u_X10_digit_0 hw o_p0 ex
/-! FractionLiftModel.leadsRow(II)Z over the memory -/
def nb_X10_leadsRow_22 (F : Nat) (s : List Sh) (nself14 : Mem → Nat → Int32 → Int32 → Int64 → Int64 → Int32 → Option (Int32 × Mem)) (m : Mem) (v0 : Nat) (v1 : Int32) (v2 : Int32) (v3 : Int64) (v5 : Int64) (v7 : Int32) : Option (Int32 × Mem) := if v2 ≤ v7 then (rZM (1 : Int32) m) else ((n_X10_digit F s m v0 v1 v2 v7).bind fun x1 => (bind2 (n_X10_leadsFrom F s m v0 x1 v3 v5) fun x2 m3 => (if x2 = 0 then (bindv (v7 + (1)) fun x4 => (nself14 m3 v0 v1 v2 (m3.2.1 v0 15) (m3.2.1 v0 16) x4)) else (rZM (0 : Int32) m3))))
set_option maxRecDepth 20000 in
theorem ub_X10_leadsRow_22 {F : Nat} {s : List Sh} {self14 : PH → Nat → Int32 → Int32 → Int64 → Int64 → Int32 → Option (Int32 × PH)} {nself14 : Mem → Nat → Int32 → Int32 → Int64 → Int64 → Int32 → Option (Int32 × Mem)} {m m' : Mem} {r : Int32} {v0 : Nat} {v1 : Int32} {v2 : Int32} {v3 : Int64} {v5 : Int64} {v7 : Int32} (hw : GS s m) (o_v0 : ok s v0 10) (ih14 : ∀ (m : Mem) (v0 : Nat) (v1 : Int32) (v2 : Int32) (v3 : Int64) (v5 : Int64) (v7 : Int32), GS s m → ok s v0 10 → nself14 m v0 v1 v2 v3 v5 v7 = some (r, m') → J3 (self14 (bl s m) v0 v1 v2 v3 v5 v7) (r, bl s m') (GS s m')) (hf : nb_X10_leadsRow_22 F s nself14 m v0 v1 v2 v3 v5 v7 = some (r, m')) : J3 (b_X10_leadsRow_22 F self14 (bl s m) v0 v1 v2 v3 v5 v7) (r, bl s m') (GS s m') := by
  unfold nb_X10_leadsRow_22 at hf
  unfold b_X10_leadsRow_22
  refine k_if hf (fun hf => ?_) (fun hf => ?_)
  · exact k_rZ hw hf
  · refine k_cO (ok_o o_v0 (by decide)) ?_
    refine ob hf fun x1 ex hf => ?_
    refine k_b1 (un_X10_digit hw o_v0 ex) ?_
    refine k_cO (ok_o o_v0 (by decide)) ?_
    refine ob2 hf fun x2 m3 ex hf => ?_
    refine k_b2 (un_X10_leadsFrom hw o_v0 ex) fun hw => ?_
    refine k_if hf (fun hf => ?_) (fun hf => ?_)
    · refine k_gL (ok_o o_v0 (by decide)) rfl ?_
      refine k_gL (ok_o o_v0 (by decide)) rfl ?_
      refine k_bv hf fun x4 hf => ?_
      exact ih14 _ _ _ _ _ _ _ hw o_v0 hf
    · exact k_rZ hw hf
def nl_X10_leadsRow_22 (F : Nat) (s : List Sh) : Nat → Mem → Nat → Int32 → Int32 → Int64 → Int64 → Int32 → Option (Int32 × Mem)
  | 0 => fun _ _ _ _ _ _ _ => none
  | n + 1 => fun m v0 v1 v2 v3 v5 v7 => nb_X10_leadsRow_22 F s (nl_X10_leadsRow_22 F s n) m v0 v1 v2 v3 v5 v7
theorem ul_X10_leadsRow_22 {F : Nat} {s : List Sh} {m' : Mem} {r : Int32} (n : Nat) : ∀ (m : Mem) (v0 : Nat) (v1 : Int32) (v2 : Int32) (v3 : Int64) (v5 : Int64) (v7 : Int32), GS s m → ok s v0 10 → nl_X10_leadsRow_22 F s n m v0 v1 v2 v3 v5 v7 = some (r, m') → J3 (l_X10_leadsRow_22 F n (bl s m) v0 v1 v2 v3 v5 v7) (r, bl s m') (GS s m') := by
  induction n with
  | zero => intro m v0 v1 v2 v3 v5 v7 hw o_v0 hf; cases hf
  | succ n ih => intro m v0 v1 v2 v3 v5 v7 hw o_v0 hf; exact ub_X10_leadsRow_22 (F := F) hw o_v0 ih hf
def nb_X10_leadsRow_0 (F : Nat) (s : List Sh) (m : Mem) (v0 : Nat) (v1 : Int32) (v2 : Int32) : Option (Int32 × Mem) := (m.2.2 v0 1).bind fun a1 => ((rdI s m a1 (7 : Int32)).bind fun x2 => (bindv (Int32.toInt64 x2) fun x3 => ((m.2.2 v0 1).bind fun a4 => ((rdI s m a4 (8 : Int32)).bind fun x5 => (bindv (Int32.toInt64 x5) fun x6 => (nl_X10_leadsRow_22 F s F m v0 v1 v2 x3 x6 (0 : Int32)))))))
set_option maxRecDepth 20000 in
theorem u_X10_leadsRow_0 {F : Nat} {s : List Sh} {m m' : Mem} {r : Int32} {v0 : Nat} {v1 : Int32} {v2 : Int32} (hw : GS s m) (o_v0 : ok s v0 10) (hf : nb_X10_leadsRow_0 F s m v0 v1 v2 = some (r, m')) : J3 (b_X10_leadsRow_0 F (bl s m) v0 v1 v2) (r, bl s m') (GS s m') := by
  unfold nb_X10_leadsRow_0 at hf
  unfold b_X10_leadsRow_0
  refine k_gR hw (ok_o o_v0 (by decide)) rfl hf fun a1 o_a1 hf => ?_
  refine k_aI (Or.inl rfl) (ka rfl o_a1) hf fun x2 hf => ?_
  refine k_bv hf fun x3 hf => ?_
  refine k_gR hw (ok_o o_v0 (by decide)) rfl hf fun a4 o_a4 hf => ?_
  refine k_aI (Or.inl rfl) (ka rfl o_a4) hf fun x5 hf => ?_
  refine k_bv hf fun x6 hf => ?_
  exact ul_X10_leadsRow_22 F _ _ _ _ _ _ _ hw o_v0 hf
def n_X10_leadsRow (F : Nat) (s : List Sh) (m : Mem) (p0 : Nat) (p1 : Int32) (p2 : Int32) : Option (Int32 × Mem) := nb_X10_leadsRow_0 F s m p0 p1 p2
theorem un_X10_leadsRow {F : Nat} {s : List Sh} {m m' : Mem} {p0 : Nat} {p1 : Int32} {p2 : Int32} {r : Int32} (hw : GS s m) (o_p0 : ok s p0 10) (ex : n_X10_leadsRow F s m p0 p1 p2 = some (r, m')) : J3 (m_X10_leadsRow F (bl s m) p0 p1 p2) (r, bl s m') (GS s m') := u_X10_leadsRow_0 hw o_p0 ex
/-! FractionLiftModel.laysTwins()I over the memory -/
def nb_X10_laysTwins_83 (F : Nat) (s : List Sh) (nself2 : Mem → Nat → Int32 → Option (Int32 × Mem)) (nself9 : Mem → Nat → Int32 → Int32 → Option (Int32 × Mem)) (m : Mem) (v0 : Nat) (v1 : Int32) (v2 : Int32) : Option (Int32 × Mem) := bindv (v2 + (1)) fun x1 => (nself9 m v0 v1 x1)
set_option maxRecDepth 20000 in
theorem u_X10_laysTwins_83 {F : Nat} {s : List Sh} {self2 : PH → Nat → Int32 → Option (Int32 × PH)} {nself2 : Mem → Nat → Int32 → Option (Int32 × Mem)} {self9 : PH → Nat → Int32 → Int32 → Option (Int32 × PH)} {nself9 : Mem → Nat → Int32 → Int32 → Option (Int32 × Mem)} {m m' : Mem} {r : Int32} {v0 : Nat} {v1 : Int32} {v2 : Int32} (hw : GS s m) (o_v0 : ok s v0 10) (ih2 : ∀ (m : Mem) (v0 : Nat) (v1 : Int32), GS s m → ok s v0 10 → nself2 m v0 v1 = some (r, m') → J3 (self2 (bl s m) v0 v1) (r, bl s m') (GS s m')) (ih9 : ∀ (m : Mem) (v0 : Nat) (v1 : Int32) (v2 : Int32), GS s m → ok s v0 10 → nself9 m v0 v1 v2 = some (r, m') → J3 (self9 (bl s m) v0 v1 v2) (r, bl s m') (GS s m')) (hf : nb_X10_laysTwins_83 F s nself2 nself9 m v0 v1 v2 = some (r, m')) : J3 (b_X10_laysTwins_83 F self2 self9 (bl s m) v0 v1 v2) (r, bl s m') (GS s m') := by
  unfold nb_X10_laysTwins_83 at hf
  unfold b_X10_laysTwins_83
  refine k_bv hf fun x1 hf => ?_
  exact ih9 _ _ _ _ hw o_v0 hf
def nb_X10_laysTwins_13 (F : Nat) (s : List Sh) (nself2 : Mem → Nat → Int32 → Option (Int32 × Mem)) (nself9 : Mem → Nat → Int32 → Int32 → Option (Int32 × Mem)) (m : Mem) (v0 : Nat) (v1 : Int32) (v2 : Int32) : Option (Int32 × Mem) := (n_X10_rowsOf F s m v0 v1).bind fun x1 => (if x1 ≤ v2 then (bindv (v1 + (1)) fun x2 => (nself2 m v0 x2)) else (bind2 (n_X10_leadsRow F s m v0 v2 v1) fun x3 m4 => (if x3 = 0 then (nb_X10_laysTwins_83 F s nself2 nself9 m4 v0 v1 v2) else ((n_X10_metAt F s m4 v0 (m4.2.1 v0 15) (m4.2.1 v0 16)).bind fun x5 => (if x5 = (-1 : Int32) then (bind2 (n_X10_meets F s m4 v0 (m4.2.1 v0 15) (m4.2.1 v0 16) (-1 : Int32) v2) fun _ m7 => (nb_X10_laysTwins_83 F s nself2 nself9 m7 v0 v1 v2)) else ((m4.2.2 v0 27).bind fun a8 => ((rdI s m4 a8 x5).bind fun x9 => (bindv (wI m4 v0 34 x9) fun m10 => (bindv (wI m10 v0 35 v2) fun m11 => (some (v1, m11)))))))))))
set_option maxRecDepth 20000 in
theorem ub_X10_laysTwins_13 {F : Nat} {s : List Sh} {self2 : PH → Nat → Int32 → Option (Int32 × PH)} {nself2 : Mem → Nat → Int32 → Option (Int32 × Mem)} {self9 : PH → Nat → Int32 → Int32 → Option (Int32 × PH)} {nself9 : Mem → Nat → Int32 → Int32 → Option (Int32 × Mem)} {m m' : Mem} {r : Int32} {v0 : Nat} {v1 : Int32} {v2 : Int32} (hw : GS s m) (o_v0 : ok s v0 10) (ih2 : ∀ (m : Mem) (v0 : Nat) (v1 : Int32), GS s m → ok s v0 10 → nself2 m v0 v1 = some (r, m') → J3 (self2 (bl s m) v0 v1) (r, bl s m') (GS s m')) (ih9 : ∀ (m : Mem) (v0 : Nat) (v1 : Int32) (v2 : Int32), GS s m → ok s v0 10 → nself9 m v0 v1 v2 = some (r, m') → J3 (self9 (bl s m) v0 v1 v2) (r, bl s m') (GS s m')) (hf : nb_X10_laysTwins_13 F s nself2 nself9 m v0 v1 v2 = some (r, m')) : J3 (b_X10_laysTwins_13 F self2 self9 (bl s m) v0 v1 v2) (r, bl s m') (GS s m') := by
  unfold nb_X10_laysTwins_13 at hf
  unfold b_X10_laysTwins_13
  refine k_cO (ok_o o_v0 (by decide)) ?_
  refine ob hf fun x1 ex hf => ?_
  refine k_b1 (un_X10_rowsOf hw o_v0 ex) ?_
  refine k_if hf (fun hf => ?_) (fun hf => ?_)
  · refine k_bv hf fun x2 hf => ?_
    exact ih2 _ _ _ hw o_v0 hf
  · refine k_cO (ok_o o_v0 (by decide)) ?_
    refine ob2 hf fun x3 m4 ex hf => ?_
    refine k_b2 (un_X10_leadsRow hw o_v0 ex) fun hw => ?_
    refine k_if hf (fun hf => ?_) (fun hf => ?_)
    · exact u_X10_laysTwins_83 hw o_v0 ih2 ih9 hf
    · refine k_gL (ok_o o_v0 (by decide)) rfl ?_
      refine k_gL (ok_o o_v0 (by decide)) rfl ?_
      refine k_cO (ok_o o_v0 (by decide)) ?_
      refine ob hf fun x5 ex hf => ?_
      refine k_b1 (un_X10_metAt hw o_v0 ex) ?_
      refine k_if hf (fun hf => ?_) (fun hf => ?_)
      · refine k_gL (ok_o o_v0 (by decide)) rfl ?_
        refine k_gL (ok_o o_v0 (by decide)) rfl ?_
        refine k_cO (ok_o o_v0 (by decide)) ?_
        refine ob2 hf fun u m7 ex hf => ?_
        refine k_b2 (un_X10_meets hw o_v0 ex) fun hw => ?_
        exact u_X10_laysTwins_83 hw o_v0 ih2 ih9 hf
      · refine k_gR hw (ok_o o_v0 (by decide)) rfl hf fun a8 o_a8 hf => ?_
        refine k_aI (Or.inl rfl) (ka rfl o_a8) hf fun x9 hf => ?_
        refine k_pI hw (ok_o o_v0 (by decide)) rfl hf fun m10 hw hf => ?_
        refine k_pI hw (ok_o o_v0 (by decide)) rfl hf fun m11 hw hf => ?_
        exact k_ret hw hf
def nl_X10_laysTwins_13 (F : Nat) (s : List Sh) (nself2 : Mem → Nat → Int32 → Option (Int32 × Mem)) : Nat → Mem → Nat → Int32 → Int32 → Option (Int32 × Mem)
  | 0 => fun _ _ _ _ => none
  | n + 1 => fun m v0 v1 v2 => nb_X10_laysTwins_13 F s nself2 (nl_X10_laysTwins_13 F s nself2 n) m v0 v1 v2
theorem ul_X10_laysTwins_13 {F : Nat} {s : List Sh} {self2 : PH → Nat → Int32 → Option (Int32 × PH)} {nself2 : Mem → Nat → Int32 → Option (Int32 × Mem)} {m' : Mem} {r : Int32} (ih2 : ∀ (m : Mem) (v0 : Nat) (v1 : Int32), GS s m → ok s v0 10 → nself2 m v0 v1 = some (r, m') → J3 (self2 (bl s m) v0 v1) (r, bl s m') (GS s m')) (n : Nat) : ∀ (m : Mem) (v0 : Nat) (v1 : Int32) (v2 : Int32), GS s m → ok s v0 10 → nl_X10_laysTwins_13 F s nself2 n m v0 v1 v2 = some (r, m') → J3 (l_X10_laysTwins_13 F self2 n (bl s m) v0 v1 v2) (r, bl s m') (GS s m') := by
  induction n with
  | zero => intro m v0 v1 v2 hw o_v0 hf; cases hf
  | succ n ih => intro m v0 v1 v2 hw o_v0 hf; exact ub_X10_laysTwins_13 (F := F) hw o_v0 ih2 ih hf
def nb_X10_laysTwins_2 (F : Nat) (s : List Sh) (nself2 : Mem → Nat → Int32 → Option (Int32 × Mem)) (m : Mem) (v0 : Nat) (v1 : Int32) : Option (Int32 × Mem) := if (5 : Int32) < v1 then (some ((-1 : Int32), m)) else (bind2 (n_X10_forgets F s m v0) fun _ m2 => (nl_X10_laysTwins_13 F s nself2 F m2 v0 v1 (0 : Int32)))
set_option maxRecDepth 20000 in
theorem ub_X10_laysTwins_2 {F : Nat} {s : List Sh} {self2 : PH → Nat → Int32 → Option (Int32 × PH)} {nself2 : Mem → Nat → Int32 → Option (Int32 × Mem)} {m m' : Mem} {r : Int32} {v0 : Nat} {v1 : Int32} (hw : GS s m) (o_v0 : ok s v0 10) (ih2 : ∀ (m : Mem) (v0 : Nat) (v1 : Int32), GS s m → ok s v0 10 → nself2 m v0 v1 = some (r, m') → J3 (self2 (bl s m) v0 v1) (r, bl s m') (GS s m')) (hf : nb_X10_laysTwins_2 F s nself2 m v0 v1 = some (r, m')) : J3 (b_X10_laysTwins_2 F self2 (bl s m) v0 v1) (r, bl s m') (GS s m') := by
  unfold nb_X10_laysTwins_2 at hf
  unfold b_X10_laysTwins_2
  refine k_if hf (fun hf => ?_) (fun hf => ?_)
  · exact k_ret hw hf
  · refine k_cO (ok_o o_v0 (by decide)) ?_
    refine ob2 hf fun u m2 ex hf => ?_
    refine k_b2 (un_X10_forgets hw o_v0 ex) fun hw => ?_
    exact ul_X10_laysTwins_13 ih2 F _ _ _ _ hw o_v0 hf
def nl_X10_laysTwins_2 (F : Nat) (s : List Sh) : Nat → Mem → Nat → Int32 → Option (Int32 × Mem)
  | 0 => fun _ _ _ => none
  | n + 1 => fun m v0 v1 => nb_X10_laysTwins_2 F s (nl_X10_laysTwins_2 F s n) m v0 v1
theorem ul_X10_laysTwins_2 {F : Nat} {s : List Sh} {m' : Mem} {r : Int32} (n : Nat) : ∀ (m : Mem) (v0 : Nat) (v1 : Int32), GS s m → ok s v0 10 → nl_X10_laysTwins_2 F s n m v0 v1 = some (r, m') → J3 (l_X10_laysTwins_2 F n (bl s m) v0 v1) (r, bl s m') (GS s m') := by
  induction n with
  | zero => intro m v0 v1 hw o_v0 hf; cases hf
  | succ n ih => intro m v0 v1 hw o_v0 hf; exact ub_X10_laysTwins_2 (F := F) hw o_v0 ih hf
def nb_X10_laysTwins_0 (F : Nat) (s : List Sh) (m : Mem) (v0 : Nat) : Option (Int32 × Mem) := nl_X10_laysTwins_2 F s F m v0 (1 : Int32)
set_option maxRecDepth 20000 in
theorem u_X10_laysTwins_0 {F : Nat} {s : List Sh} {m m' : Mem} {r : Int32} {v0 : Nat} (hw : GS s m) (o_v0 : ok s v0 10) (hf : nb_X10_laysTwins_0 F s m v0 = some (r, m')) : J3 (b_X10_laysTwins_0 F (bl s m) v0) (r, bl s m') (GS s m') := by
  unfold nb_X10_laysTwins_0 at hf
  unfold b_X10_laysTwins_0
  exact ul_X10_laysTwins_2 F _ _ _ hw o_v0 hf
def n_X10_laysTwins (F : Nat) (s : List Sh) (m : Mem) (p0 : Nat) : Option (Int32 × Mem) := nb_X10_laysTwins_0 F s m p0
theorem un_X10_laysTwins {F : Nat} {s : List Sh} {m m' : Mem} {p0 : Nat} {r : Int32} (hw : GS s m) (o_p0 : ok s p0 10) (ex : n_X10_laysTwins F s m p0 = some (r, m')) : J3 (m_X10_laysTwins F (bl s m) p0) (r, bl s m') (GS s m') := u_X10_laysTwins_0 hw o_p0 ex
/-! FractionLiftModel.twins(I)I over the memory -/
def nb_X10_twins_88 (F : Nat) (s : List Sh) (m : Mem) (v2 : Int32) (v3 : Int32) (s0 : Nat) (s1 : Int32) : Option (Int32 × Mem) := (n_X10_digit F s m s0 s1 v2 v3).bind fun x1 => (some (x1, m))
set_option maxRecDepth 20000 in
theorem u_X10_twins_88 {F : Nat} {s : List Sh} {m m' : Mem} {r : Int32} {v2 : Int32} {v3 : Int32} {s0 : Nat} {s1 : Int32} (hw : GS s m) (o_s0 : ok s s0 10) (hf : nb_X10_twins_88 F s m v2 v3 s0 s1 = some (r, m')) : J3 (b_X10_twins_88 F (bl s m) v2 v3 s0 s1) (r, bl s m') (GS s m') := by
  unfold nb_X10_twins_88 at hf
  unfold b_X10_twins_88
  refine k_cO (ok_o o_s0 (by decide)) ?_
  refine ob hf fun x1 ex hf => ?_
  refine k_b1 (un_X10_digit hw o_s0 ex) ?_
  exact k_ret hw hf
def nb_X10_twins_40 (F : Nat) (s : List Sh) (m : Mem) (v0 : Nat) (v1 : Int32) : Option (Int32 × Mem) := bind2 (n_X10_laysTwins F s m v0) fun x1 m2 => (if x1 = (-1 : Int32) then (some (x1, m2)) else (if v1 = 0 then (some (x1, m2)) else (if (10 : Int32) = 0 then none else (bindv ((remI v1 (10 : Int32))) fun x3 => (if x3 < x1 then (if (20 : Int32) ≤ v1 then (nb_X10_twins_88 F s m2 x1 x3 v0 (m2.1 v0 35)) else (nb_X10_twins_88 F s m2 x1 x3 v0 (m2.1 v0 34))) else (some ((-1 : Int32), m2)))))))
set_option maxRecDepth 20000 in
theorem u_X10_twins_40 {F : Nat} {s : List Sh} {m m' : Mem} {r : Int32} {v0 : Nat} {v1 : Int32} (hw : GS s m) (o_v0 : ok s v0 10) (hf : nb_X10_twins_40 F s m v0 v1 = some (r, m')) : J3 (b_X10_twins_40 F (bl s m) v0 v1) (r, bl s m') (GS s m') := by
  unfold nb_X10_twins_40 at hf
  unfold b_X10_twins_40
  refine k_cO (ok_o o_v0 (by decide)) ?_
  refine ob2 hf fun x1 m2 ex hf => ?_
  refine k_b2 (un_X10_laysTwins hw o_v0 ex) fun hw => ?_
  refine k_if hf (fun hf => ?_) (fun hf => ?_)
  · exact k_ret hw hf
  · refine k_if hf (fun hf => ?_) (fun hf => ?_)
    · exact k_ret hw hf
    · refine k_if hf (fun hf => by cases hf) (fun hf => ?_)
      refine k_bv hf fun x3 hf => ?_
      refine k_if hf (fun hf => ?_) (fun hf => ?_)
      · refine k_if hf (fun hf => ?_) (fun hf => ?_)
        · refine k_gI (ok_o o_v0 (by decide)) rfl ?_
          exact u_X10_twins_88 hw o_v0 hf
        · refine k_gI (ok_o o_v0 (by decide)) rfl ?_
          exact u_X10_twins_88 hw o_v0 hf
      · exact k_ret hw hf
def nb_X10_twins_0 (F : Nat) (s : List Sh) (m : Mem) (v0 : Nat) (v1 : Int32) : Option (Int32 × Mem) := bindv (wI m v0 0 (0 : Int32)) fun m1 => (if v1 = 0 then (nb_X10_twins_40 F s m1 v0 v1) else ((m_X10_within (Int32.toInt64 v1) (10 : Int64) (14 : Int64)).bind fun x2 => (if x2 = 0 then ((m_X10_within (Int32.toInt64 v1) (20 : Int64) (24 : Int64)).bind fun x3 => (if x3 = 0 then (some ((-2 : Int32), m1)) else (nb_X10_twins_40 F s m1 v0 v1))) else (nb_X10_twins_40 F s m1 v0 v1))))
set_option maxRecDepth 20000 in
theorem u_X10_twins_0 {F : Nat} {s : List Sh} {m m' : Mem} {r : Int32} {v0 : Nat} {v1 : Int32} (hw : GS s m) (o_v0 : ok s v0 10) (hf : nb_X10_twins_0 F s m v0 v1 = some (r, m')) : J3 (b_X10_twins_0 F (bl s m) v0 v1) (r, bl s m') (GS s m') := by
  unfold nb_X10_twins_0 at hf
  unfold b_X10_twins_0
  refine k_pI hw (ok_o o_v0 (by decide)) rfl hf fun m1 hw hf => ?_
  refine k_if hf (fun hf => ?_) (fun hf => ?_)
  · exact u_X10_twins_40 hw o_v0 hf
  · refine k_pure hf fun x2 hf => ?_
    refine k_if hf (fun hf => ?_) (fun hf => ?_)
    · refine k_pure hf fun x3 hf => ?_
      refine k_if hf (fun hf => ?_) (fun hf => ?_)
      · exact k_ret hw hf
      · exact u_X10_twins_40 hw o_v0 hf
    · exact u_X10_twins_40 hw o_v0 hf
def n_X10_twins (F : Nat) (s : List Sh) (m : Mem) (p0 : Nat) (p1 : Int32) : Option (Int32 × Mem) := nb_X10_twins_0 F s m p0 p1
theorem un_X10_twins {F : Nat} {s : List Sh} {m m' : Mem} {p0 : Nat} {p1 : Int32} {r : Int32} (hw : GS s m) (o_p0 : ok s p0 10) (ex : n_X10_twins F s m p0 p1 = some (r, m')) : J3 (m_X10_twins F (bl s m) p0 p1) (r, bl s m') (GS s m') := u_X10_twins_0 hw o_p0 ex
/-! FractionLiftModel.leadsRest(III)I over the memory -/
def nb_X10_leadsRest_201 (F : Nat) (s : List Sh) (nself4 : Mem → Nat → Int32 → Int32 → Int32 → Int32 → Int32 → Option (Int32 × Mem)) (m : Mem) (v0 : Nat) (v1 : Int32) (v2 : Int32) (v3 : Int32) (v4 : Int32) (v5 : Int32) : Option (Int32 × Mem) := bindv (v5 + (1)) fun x1 => (nself4 m v0 v1 v2 v3 v4 x1)
set_option maxRecDepth 20000 in
theorem u_X10_leadsRest_201 {F : Nat} {s : List Sh} {self4 : PH → Nat → Int32 → Int32 → Int32 → Int32 → Int32 → Option (Int32 × PH)} {nself4 : Mem → Nat → Int32 → Int32 → Int32 → Int32 → Int32 → Option (Int32 × Mem)} {m m' : Mem} {r : Int32} {v0 : Nat} {v1 : Int32} {v2 : Int32} {v3 : Int32} {v4 : Int32} {v5 : Int32} (hw : GS s m) (o_v0 : ok s v0 10) (ih4 : ∀ (m : Mem) (v0 : Nat) (v1 : Int32) (v2 : Int32) (v3 : Int32) (v4 : Int32) (v5 : Int32), GS s m → ok s v0 10 → nself4 m v0 v1 v2 v3 v4 v5 = some (r, m') → J3 (self4 (bl s m) v0 v1 v2 v3 v4 v5) (r, bl s m') (GS s m')) (hf : nb_X10_leadsRest_201 F s nself4 m v0 v1 v2 v3 v4 v5 = some (r, m')) : J3 (b_X10_leadsRest_201 F self4 (bl s m) v0 v1 v2 v3 v4 v5) (r, bl s m') (GS s m') := by
  unfold nb_X10_leadsRest_201 at hf
  unfold b_X10_leadsRest_201
  refine k_bv hf fun x1 hf => ?_
  exact ih4 _ _ _ _ _ _ _ hw o_v0 hf
def nb_X10_leadsRest_87 (F : Nat) (s : List Sh) (nself4 : Mem → Nat → Int32 → Int32 → Int32 → Int32 → Int32 → Option (Int32 × Mem)) (m : Mem) (v0 : Nat) (v1 : Int32) (v2 : Int32) (v3 : Int32) (v4 : Int32) (v5 : Int32) (s0 : Nat) (s1 : Int32) (s2 : Int32) : Option (Int32 × Mem) := if v3 = 0 then none else ((stI s m s0 s1 (remI s2 v3)).bind fun m1 => (bindv (v4 + (1)) fun x2 => (nb_X10_leadsRest_201 F s nself4 m1 v0 v1 v2 v3 x2 v5)))
set_option maxRecDepth 20000 in
theorem u_X10_leadsRest_87 {F : Nat} {s : List Sh} {self4 : PH → Nat → Int32 → Int32 → Int32 → Int32 → Int32 → Option (Int32 × PH)} {nself4 : Mem → Nat → Int32 → Int32 → Int32 → Int32 → Int32 → Option (Int32 × Mem)} {m m' : Mem} {r : Int32} {v0 : Nat} {v1 : Int32} {v2 : Int32} {v3 : Int32} {v4 : Int32} {v5 : Int32} {s0 : Nat} {s1 : Int32} {s2 : Int32} (hw : GS s m) (o_v0 : ok s v0 10) (o_s0 : ok s s0 100) (ih4 : ∀ (m : Mem) (v0 : Nat) (v1 : Int32) (v2 : Int32) (v3 : Int32) (v4 : Int32) (v5 : Int32), GS s m → ok s v0 10 → nself4 m v0 v1 v2 v3 v4 v5 = some (r, m') → J3 (self4 (bl s m) v0 v1 v2 v3 v4 v5) (r, bl s m') (GS s m')) (hf : nb_X10_leadsRest_87 F s nself4 m v0 v1 v2 v3 v4 v5 s0 s1 s2 = some (r, m')) : J3 (b_X10_leadsRest_87 F self4 (bl s m) v0 v1 v2 v3 v4 v5 s0 s1 s2) (r, bl s m') (GS s m') := by
  unfold nb_X10_leadsRest_87 at hf
  unfold b_X10_leadsRest_87
  refine k_if hf (fun hf => by cases hf) (fun hf => ?_)
  refine k_sI hw (ka rfl o_s0) hf fun m1 hw hf => ?_
  refine k_bv hf fun x2 hf => ?_
  exact u_X10_leadsRest_201 hw o_v0 ih4 hf
def nb_X10_leadsRest_200 (F : Nat) (s : List Sh) (nself4 : Mem → Nat → Int32 → Int32 → Int32 → Int32 → Int32 → Option (Int32 × Mem)) (m : Mem) (v0 : Nat) (v1 : Int32) (v2 : Int32) (v3 : Int32) (v4 : Int32) (v5 : Int32) (s0 : Nat) (s1 : Int32) (s2 : Int32) : Option (Int32 × Mem) := (stI s m s0 s1 s2).bind fun m1 => (nb_X10_leadsRest_201 F s nself4 m1 v0 v1 v2 v3 v4 v5)
set_option maxRecDepth 20000 in
theorem u_X10_leadsRest_200 {F : Nat} {s : List Sh} {self4 : PH → Nat → Int32 → Int32 → Int32 → Int32 → Int32 → Option (Int32 × PH)} {nself4 : Mem → Nat → Int32 → Int32 → Int32 → Int32 → Int32 → Option (Int32 × Mem)} {m m' : Mem} {r : Int32} {v0 : Nat} {v1 : Int32} {v2 : Int32} {v3 : Int32} {v4 : Int32} {v5 : Int32} {s0 : Nat} {s1 : Int32} {s2 : Int32} (hw : GS s m) (o_v0 : ok s v0 10) (o_s0 : ok s s0 100) (ih4 : ∀ (m : Mem) (v0 : Nat) (v1 : Int32) (v2 : Int32) (v3 : Int32) (v4 : Int32) (v5 : Int32), GS s m → ok s v0 10 → nself4 m v0 v1 v2 v3 v4 v5 = some (r, m') → J3 (self4 (bl s m) v0 v1 v2 v3 v4 v5) (r, bl s m') (GS s m')) (hf : nb_X10_leadsRest_200 F s nself4 m v0 v1 v2 v3 v4 v5 s0 s1 s2 = some (r, m')) : J3 (b_X10_leadsRest_200 F self4 (bl s m) v0 v1 v2 v3 v4 v5 s0 s1 s2) (r, bl s m') (GS s m') := by
  unfold nb_X10_leadsRest_200 at hf
  unfold b_X10_leadsRest_200
  refine k_sI hw (ka rfl o_s0) hf fun m1 hw hf => ?_
  exact u_X10_leadsRest_201 hw o_v0 ih4 hf
def nb_X10_leadsRest_147 (F : Nat) (s : List Sh) (nself4 : Mem → Nat → Int32 → Int32 → Int32 → Int32 → Int32 → Option (Int32 × Mem)) (m : Mem) (v0 : Nat) (v1 : Int32) (v2 : Int32) (v3 : Int32) (v4 : Int32) (v5 : Int32) (v6 : Int32) (v7 : Int32) (v8 : Int32) : Option (Int32 × Mem) := (m.2.2 v0 36).bind fun a1 => (if v6 = (3000 : Int32) then (if v3 = 0 then none else (nb_X10_leadsRest_200 F s nself4 m v0 v1 v2 v3 v4 v5 a1 ((v4 - (1 : Int32))) ((remI (v7 + v8) v3)))) else (if v6 = (3001 : Int32) then (if v3 = 0 then none else (nb_X10_leadsRest_200 F s nself4 m v0 v1 v2 v3 v4 v5 a1 ((v4 - (1 : Int32))) ((remI (((v7 - v8) + v3)) v3)))) else (if v3 = 0 then none else (nb_X10_leadsRest_200 F s nself4 m v0 v1 v2 v3 v4 v5 a1 ((v4 - (1 : Int32))) ((remI (v7 * v8) v3))))))
set_option maxRecDepth 20000 in
theorem u_X10_leadsRest_147 {F : Nat} {s : List Sh} {self4 : PH → Nat → Int32 → Int32 → Int32 → Int32 → Int32 → Option (Int32 × PH)} {nself4 : Mem → Nat → Int32 → Int32 → Int32 → Int32 → Int32 → Option (Int32 × Mem)} {m m' : Mem} {r : Int32} {v0 : Nat} {v1 : Int32} {v2 : Int32} {v3 : Int32} {v4 : Int32} {v5 : Int32} {v6 : Int32} {v7 : Int32} {v8 : Int32} (hw : GS s m) (o_v0 : ok s v0 10) (ih4 : ∀ (m : Mem) (v0 : Nat) (v1 : Int32) (v2 : Int32) (v3 : Int32) (v4 : Int32) (v5 : Int32), GS s m → ok s v0 10 → nself4 m v0 v1 v2 v3 v4 v5 = some (r, m') → J3 (self4 (bl s m) v0 v1 v2 v3 v4 v5) (r, bl s m') (GS s m')) (hf : nb_X10_leadsRest_147 F s nself4 m v0 v1 v2 v3 v4 v5 v6 v7 v8 = some (r, m')) : J3 (b_X10_leadsRest_147 F self4 (bl s m) v0 v1 v2 v3 v4 v5 v6 v7 v8) (r, bl s m') (GS s m') := by
  unfold nb_X10_leadsRest_147 at hf
  unfold b_X10_leadsRest_147
  refine k_gR hw (ok_o o_v0 (by decide)) rfl hf fun a1 o_a1 hf => ?_
  refine k_if hf (fun hf => ?_) (fun hf => ?_)
  · refine k_if hf (fun hf => by cases hf) (fun hf => ?_)
    exact u_X10_leadsRest_200 hw o_v0 o_a1 ih4 hf
  · refine k_if hf (fun hf => ?_) (fun hf => ?_)
    · refine k_if hf (fun hf => by cases hf) (fun hf => ?_)
      exact u_X10_leadsRest_200 hw o_v0 o_a1 ih4 hf
    · refine k_if hf (fun hf => by cases hf) (fun hf => ?_)
      exact u_X10_leadsRest_200 hw o_v0 o_a1 ih4 hf
def nb_X10_leadsRest_6 (F : Nat) (s : List Sh) (nself4 : Mem → Nat → Int32 → Int32 → Int32 → Int32 → Int32 → Option (Int32 × Mem)) (m : Mem) (v0 : Nat) (v1 : Int32) (v2 : Int32) (v3 : Int32) (v4 : Int32) (v5 : Int32) : Option (Int32 × Mem) := (m.2.2 v0 1).bind fun a1 => ((rdI s m a1 (((67 : Int32) + v1))).bind fun x2 => (if x2 ≤ v5 then ((m.2.2 v0 36).bind fun a3 => ((rdI s m a3 (0 : Int32)).bind fun x4 => (some (x4, m)))) else ((m.2.2 v0 1).bind fun a5 => ((m.2.2 v0 1).bind fun a6 => ((rdI s m a6 (((61 : Int32) + v1))).bind fun x7 => ((rdI s m a5 (((((99 : Int32) + x7)) + v5))).bind fun x8 => (if (3000 : Int32) ≤ x8 then (bindv (v4 + (-1)) fun x9 => ((m.2.2 v0 36).bind fun a10 => ((rdI s m a10 ((x9 - (1 : Int32)))).bind fun x11 => ((m.2.2 v0 36).bind fun a12 => ((rdI s m a12 x9).bind fun x13 => (if x8 = (3003 : Int32) then ((m_X10_inverse F x13 v3).bind fun x14 => (if x14 = (-1 : Int32) then (some ((-1 : Int32), m)) else (nb_X10_leadsRest_147 F s nself4 m v0 v1 v2 v3 x9 v5 x8 x11 x14))) else (nb_X10_leadsRest_147 F s nself4 m v0 v1 v2 v3 x9 v5 x8 x11 x13))))))) else ((m.2.2 v0 36).bind fun a15 => (if (1000 : Int32) ≤ x8 then (if x8 = (1000 : Int32) then (nb_X10_leadsRest_87 F s nself4 m v0 v1 v2 v3 v4 v5 a15 v4 v2) else ((m.2.2 v0 1).bind fun a16 => ((rdI s m a16 (1 : Int32)).bind fun x17 => (nb_X10_leadsRest_87 F s nself4 m v0 v1 v2 v3 v4 v5 a15 v4 x17)))) else (nb_X10_leadsRest_87 F s nself4 m v0 v1 v2 v3 v4 v5 a15 v4 x8))))))))))
set_option maxRecDepth 20000 in
theorem ub_X10_leadsRest_6 {F : Nat} {s : List Sh} {self4 : PH → Nat → Int32 → Int32 → Int32 → Int32 → Int32 → Option (Int32 × PH)} {nself4 : Mem → Nat → Int32 → Int32 → Int32 → Int32 → Int32 → Option (Int32 × Mem)} {m m' : Mem} {r : Int32} {v0 : Nat} {v1 : Int32} {v2 : Int32} {v3 : Int32} {v4 : Int32} {v5 : Int32} (hw : GS s m) (o_v0 : ok s v0 10) (ih4 : ∀ (m : Mem) (v0 : Nat) (v1 : Int32) (v2 : Int32) (v3 : Int32) (v4 : Int32) (v5 : Int32), GS s m → ok s v0 10 → nself4 m v0 v1 v2 v3 v4 v5 = some (r, m') → J3 (self4 (bl s m) v0 v1 v2 v3 v4 v5) (r, bl s m') (GS s m')) (hf : nb_X10_leadsRest_6 F s nself4 m v0 v1 v2 v3 v4 v5 = some (r, m')) : J3 (b_X10_leadsRest_6 F self4 (bl s m) v0 v1 v2 v3 v4 v5) (r, bl s m') (GS s m') := by
  unfold nb_X10_leadsRest_6 at hf
  unfold b_X10_leadsRest_6
  refine k_gR hw (ok_o o_v0 (by decide)) rfl hf fun a1 o_a1 hf => ?_
  refine k_aI (Or.inl rfl) (ka rfl o_a1) hf fun x2 hf => ?_
  refine k_if hf (fun hf => ?_) (fun hf => ?_)
  · refine k_gR hw (ok_o o_v0 (by decide)) rfl hf fun a3 o_a3 hf => ?_
    refine k_aI (Or.inl rfl) (ka rfl o_a3) hf fun x4 hf => ?_
    exact k_ret hw hf
  · refine k_gR hw (ok_o o_v0 (by decide)) rfl hf fun a5 o_a5 hf => ?_
    refine k_gR hw (ok_o o_v0 (by decide)) rfl hf fun a6 o_a6 hf => ?_
    refine k_aI (Or.inl rfl) (ka rfl o_a6) hf fun x7 hf => ?_
    refine k_aI (Or.inl rfl) (ka rfl o_a5) hf fun x8 hf => ?_
    refine k_if hf (fun hf => ?_) (fun hf => ?_)
    · refine k_bv hf fun x9 hf => ?_
      refine k_gR hw (ok_o o_v0 (by decide)) rfl hf fun a10 o_a10 hf => ?_
      refine k_aI (Or.inl rfl) (ka rfl o_a10) hf fun x11 hf => ?_
      refine k_gR hw (ok_o o_v0 (by decide)) rfl hf fun a12 o_a12 hf => ?_
      refine k_aI (Or.inl rfl) (ka rfl o_a12) hf fun x13 hf => ?_
      refine k_if hf (fun hf => ?_) (fun hf => ?_)
      · refine k_pure hf fun x14 hf => ?_
        refine k_if hf (fun hf => ?_) (fun hf => ?_)
        · exact k_ret hw hf
        · exact u_X10_leadsRest_147 hw o_v0 ih4 hf
      · exact u_X10_leadsRest_147 hw o_v0 ih4 hf
    · refine k_gR hw (ok_o o_v0 (by decide)) rfl hf fun a15 o_a15 hf => ?_
      refine k_if hf (fun hf => ?_) (fun hf => ?_)
      · refine k_if hf (fun hf => ?_) (fun hf => ?_)
        · exact u_X10_leadsRest_87 hw o_v0 o_a15 ih4 hf
        · refine k_gR hw (ok_o o_v0 (by decide)) rfl hf fun a16 o_a16 hf => ?_
          refine k_aI (Or.inl rfl) (ka rfl o_a16) hf fun x17 hf => ?_
          exact u_X10_leadsRest_87 hw o_v0 o_a15 ih4 hf
      · exact u_X10_leadsRest_87 hw o_v0 o_a15 ih4 hf
def nl_X10_leadsRest_6 (F : Nat) (s : List Sh) : Nat → Mem → Nat → Int32 → Int32 → Int32 → Int32 → Int32 → Option (Int32 × Mem)
  | 0 => fun _ _ _ _ _ _ _ => none
  | n + 1 => fun m v0 v1 v2 v3 v4 v5 => nb_X10_leadsRest_6 F s (nl_X10_leadsRest_6 F s n) m v0 v1 v2 v3 v4 v5
theorem ul_X10_leadsRest_6 {F : Nat} {s : List Sh} {m' : Mem} {r : Int32} (n : Nat) : ∀ (m : Mem) (v0 : Nat) (v1 : Int32) (v2 : Int32) (v3 : Int32) (v4 : Int32) (v5 : Int32), GS s m → ok s v0 10 → nl_X10_leadsRest_6 F s n m v0 v1 v2 v3 v4 v5 = some (r, m') → J3 (l_X10_leadsRest_6 F n (bl s m) v0 v1 v2 v3 v4 v5) (r, bl s m') (GS s m') := by
  induction n with
  | zero => intro m v0 v1 v2 v3 v4 v5 hw o_v0 hf; cases hf
  | succ n ih => intro m v0 v1 v2 v3 v4 v5 hw o_v0 hf; exact ub_X10_leadsRest_6 (F := F) hw o_v0 ih hf
def nb_X10_leadsRest_0 (F : Nat) (s : List Sh) (m : Mem) (v0 : Nat) (v1 : Int32) (v2 : Int32) (v3 : Int32) : Option (Int32 × Mem) := nl_X10_leadsRest_6 F s F m v0 v1 v2 v3 (0 : Int32) (0 : Int32)
set_option maxRecDepth 20000 in
theorem u_X10_leadsRest_0 {F : Nat} {s : List Sh} {m m' : Mem} {r : Int32} {v0 : Nat} {v1 : Int32} {v2 : Int32} {v3 : Int32} (hw : GS s m) (o_v0 : ok s v0 10) (hf : nb_X10_leadsRest_0 F s m v0 v1 v2 v3 = some (r, m')) : J3 (b_X10_leadsRest_0 F (bl s m) v0 v1 v2 v3) (r, bl s m') (GS s m') := by
  unfold nb_X10_leadsRest_0 at hf
  unfold b_X10_leadsRest_0
  exact ul_X10_leadsRest_6 F _ _ _ _ _ _ _ hw o_v0 hf
def n_X10_leadsRest (F : Nat) (s : List Sh) (m : Mem) (p0 : Nat) (p1 : Int32) (p2 : Int32) (p3 : Int32) : Option (Int32 × Mem) := nb_X10_leadsRest_0 F s m p0 p1 p2 p3
theorem un_X10_leadsRest {F : Nat} {s : List Sh} {m m' : Mem} {p0 : Nat} {p1 : Int32} {p2 : Int32} {p3 : Int32} {r : Int32} (hw : GS s m) (o_p0 : ok s p0 10) (ex : n_X10_leadsRest F s m p0 p1 p2 p3 = some (r, m')) : J3 (m_X10_leadsRest F (bl s m) p0 p1 p2 p3) (r, bl s m') (GS s m') := u_X10_leadsRest_0 hw o_p0 ex
/-! FractionLiftModel.restsOf(I)I over the memory -/
def nb_X10_restsOf_123 (F : Nat) (s : List Sh) (nself30 : Mem → Nat → Int32 → Int32 → Int32 → Int32 → Option (Int32 × Mem)) (nself37 : Mem → Nat → Int32 → Int32 → Int32 → Int32 → Int32 → Option (Int32 × Mem)) (m : Mem) (v0 : Nat) (v1 : Int32) (v2 : Int32) (v4 : Int32) (v5 : Int32) (v6 : Int32) : Option (Int32 × Mem) := bindv (v6 + (1)) fun x1 => (nself37 m v0 v1 v2 v4 v5 x1)
set_option maxRecDepth 20000 in
theorem u_X10_restsOf_123 {F : Nat} {s : List Sh} {self30 : PH → Nat → Int32 → Int32 → Int32 → Int32 → Option (Int32 × PH)} {nself30 : Mem → Nat → Int32 → Int32 → Int32 → Int32 → Option (Int32 × Mem)} {self37 : PH → Nat → Int32 → Int32 → Int32 → Int32 → Int32 → Option (Int32 × PH)} {nself37 : Mem → Nat → Int32 → Int32 → Int32 → Int32 → Int32 → Option (Int32 × Mem)} {m m' : Mem} {r : Int32} {v0 : Nat} {v1 : Int32} {v2 : Int32} {v4 : Int32} {v5 : Int32} {v6 : Int32} (hw : GS s m) (o_v0 : ok s v0 10) (ih30 : ∀ (m : Mem) (v0 : Nat) (v1 : Int32) (v2 : Int32) (v4 : Int32) (v5 : Int32), GS s m → ok s v0 10 → nself30 m v0 v1 v2 v4 v5 = some (r, m') → J3 (self30 (bl s m) v0 v1 v2 v4 v5) (r, bl s m') (GS s m')) (ih37 : ∀ (m : Mem) (v0 : Nat) (v1 : Int32) (v2 : Int32) (v4 : Int32) (v5 : Int32) (v6 : Int32), GS s m → ok s v0 10 → nself37 m v0 v1 v2 v4 v5 v6 = some (r, m') → J3 (self37 (bl s m) v0 v1 v2 v4 v5 v6) (r, bl s m') (GS s m')) (hf : nb_X10_restsOf_123 F s nself30 nself37 m v0 v1 v2 v4 v5 v6 = some (r, m')) : J3 (b_X10_restsOf_123 F self30 self37 (bl s m) v0 v1 v2 v4 v5 v6) (r, bl s m') (GS s m') := by
  unfold nb_X10_restsOf_123 at hf
  unfold b_X10_restsOf_123
  refine k_bv hf fun x1 hf => ?_
  exact ih37 _ _ _ _ _ _ _ hw o_v0 hf
def nb_X10_restsOf_78 (F : Nat) (s : List Sh) (nself30 : Mem → Nat → Int32 → Int32 → Int32 → Int32 → Option (Int32 × Mem)) (nself37 : Mem → Nat → Int32 → Int32 → Int32 → Int32 → Int32 → Option (Int32 × Mem)) (nself49 : Mem → Nat → Int32 → Int32 → Int32 → Int32 → Int32 → Int32 → Option (Int32 × Mem)) (m : Mem) (v0 : Nat) (v1 : Int32) (v2 : Int32) (v4 : Int32) (v5 : Int32) (v6 : Int32) (v7 : Int32) : Option (Int32 × Mem) := (m.2.2 v0 1).bind fun a1 => ((rdI s m a1 (2 : Int32)).bind fun x2 => (if x2 ≤ v7 then (nb_X10_restsOf_123 F s nself30 nself37 m v0 v1 v2 v4 v5 v6) else (bind2 (n_X10_leadsRest F s m v0 v7 v6 v1) fun x3 m4 => (if x3 = (-1 : Int32) then (some (v2, m4)) else (bindv ((v4 ||| (((1 : Int32) <<< (x3 &&& 31))))) fun x5 => (bindv (v7 + (1)) fun x6 => (nself49 m4 v0 v1 v2 x5 v5 v6 x6)))))))
set_option maxRecDepth 20000 in
theorem ub_X10_restsOf_78 {F : Nat} {s : List Sh} {self30 : PH → Nat → Int32 → Int32 → Int32 → Int32 → Option (Int32 × PH)} {nself30 : Mem → Nat → Int32 → Int32 → Int32 → Int32 → Option (Int32 × Mem)} {self37 : PH → Nat → Int32 → Int32 → Int32 → Int32 → Int32 → Option (Int32 × PH)} {nself37 : Mem → Nat → Int32 → Int32 → Int32 → Int32 → Int32 → Option (Int32 × Mem)} {self49 : PH → Nat → Int32 → Int32 → Int32 → Int32 → Int32 → Int32 → Option (Int32 × PH)} {nself49 : Mem → Nat → Int32 → Int32 → Int32 → Int32 → Int32 → Int32 → Option (Int32 × Mem)} {m m' : Mem} {r : Int32} {v0 : Nat} {v1 : Int32} {v2 : Int32} {v4 : Int32} {v5 : Int32} {v6 : Int32} {v7 : Int32} (hw : GS s m) (o_v0 : ok s v0 10) (ih30 : ∀ (m : Mem) (v0 : Nat) (v1 : Int32) (v2 : Int32) (v4 : Int32) (v5 : Int32), GS s m → ok s v0 10 → nself30 m v0 v1 v2 v4 v5 = some (r, m') → J3 (self30 (bl s m) v0 v1 v2 v4 v5) (r, bl s m') (GS s m')) (ih37 : ∀ (m : Mem) (v0 : Nat) (v1 : Int32) (v2 : Int32) (v4 : Int32) (v5 : Int32) (v6 : Int32), GS s m → ok s v0 10 → nself37 m v0 v1 v2 v4 v5 v6 = some (r, m') → J3 (self37 (bl s m) v0 v1 v2 v4 v5 v6) (r, bl s m') (GS s m')) (ih49 : ∀ (m : Mem) (v0 : Nat) (v1 : Int32) (v2 : Int32) (v4 : Int32) (v5 : Int32) (v6 : Int32) (v7 : Int32), GS s m → ok s v0 10 → nself49 m v0 v1 v2 v4 v5 v6 v7 = some (r, m') → J3 (self49 (bl s m) v0 v1 v2 v4 v5 v6 v7) (r, bl s m') (GS s m')) (hf : nb_X10_restsOf_78 F s nself30 nself37 nself49 m v0 v1 v2 v4 v5 v6 v7 = some (r, m')) : J3 (b_X10_restsOf_78 F self30 self37 self49 (bl s m) v0 v1 v2 v4 v5 v6 v7) (r, bl s m') (GS s m') := by
  unfold nb_X10_restsOf_78 at hf
  unfold b_X10_restsOf_78
  refine k_gR hw (ok_o o_v0 (by decide)) rfl hf fun a1 o_a1 hf => ?_
  refine k_aI (Or.inl rfl) (ka rfl o_a1) hf fun x2 hf => ?_
  refine k_if hf (fun hf => ?_) (fun hf => ?_)
  · exact u_X10_restsOf_123 hw o_v0 ih30 ih37 hf
  · refine k_cO (ok_o o_v0 (by decide)) ?_
    refine ob2 hf fun x3 m4 ex hf => ?_
    refine k_b2 (un_X10_leadsRest hw o_v0 ex) fun hw => ?_
    refine k_if hf (fun hf => ?_) (fun hf => ?_)
    · exact k_ret hw hf
    · refine k_bv hf fun x5 hf => ?_
      refine k_bv hf fun x6 hf => ?_
      exact ih49 _ _ _ _ _ _ _ _ hw o_v0 hf
def nl_X10_restsOf_78 (F : Nat) (s : List Sh) (nself30 : Mem → Nat → Int32 → Int32 → Int32 → Int32 → Option (Int32 × Mem)) (nself37 : Mem → Nat → Int32 → Int32 → Int32 → Int32 → Int32 → Option (Int32 × Mem)) : Nat → Mem → Nat → Int32 → Int32 → Int32 → Int32 → Int32 → Int32 → Option (Int32 × Mem)
  | 0 => fun _ _ _ _ _ _ _ _ => none
  | n + 1 => fun m v0 v1 v2 v4 v5 v6 v7 => nb_X10_restsOf_78 F s nself30 nself37 (nl_X10_restsOf_78 F s nself30 nself37 n) m v0 v1 v2 v4 v5 v6 v7
theorem ul_X10_restsOf_78 {F : Nat} {s : List Sh} {self30 : PH → Nat → Int32 → Int32 → Int32 → Int32 → Option (Int32 × PH)} {nself30 : Mem → Nat → Int32 → Int32 → Int32 → Int32 → Option (Int32 × Mem)} {self37 : PH → Nat → Int32 → Int32 → Int32 → Int32 → Int32 → Option (Int32 × PH)} {nself37 : Mem → Nat → Int32 → Int32 → Int32 → Int32 → Int32 → Option (Int32 × Mem)} {m' : Mem} {r : Int32} (ih30 : ∀ (m : Mem) (v0 : Nat) (v1 : Int32) (v2 : Int32) (v4 : Int32) (v5 : Int32), GS s m → ok s v0 10 → nself30 m v0 v1 v2 v4 v5 = some (r, m') → J3 (self30 (bl s m) v0 v1 v2 v4 v5) (r, bl s m') (GS s m')) (ih37 : ∀ (m : Mem) (v0 : Nat) (v1 : Int32) (v2 : Int32) (v4 : Int32) (v5 : Int32) (v6 : Int32), GS s m → ok s v0 10 → nself37 m v0 v1 v2 v4 v5 v6 = some (r, m') → J3 (self37 (bl s m) v0 v1 v2 v4 v5 v6) (r, bl s m') (GS s m')) (n : Nat) : ∀ (m : Mem) (v0 : Nat) (v1 : Int32) (v2 : Int32) (v4 : Int32) (v5 : Int32) (v6 : Int32) (v7 : Int32), GS s m → ok s v0 10 → nl_X10_restsOf_78 F s nself30 nself37 n m v0 v1 v2 v4 v5 v6 v7 = some (r, m') → J3 (l_X10_restsOf_78 F self30 self37 n (bl s m) v0 v1 v2 v4 v5 v6 v7) (r, bl s m') (GS s m') := by
  induction n with
  | zero => intro m v0 v1 v2 v4 v5 v6 v7 hw o_v0 hf; cases hf
  | succ n ih => intro m v0 v1 v2 v4 v5 v6 v7 hw o_v0 hf; exact ub_X10_restsOf_78 (F := F) hw o_v0 ih30 ih37 ih hf
def nb_X10_restsOf_56 (F : Nat) (s : List Sh) (nself30 : Mem → Nat → Int32 → Int32 → Int32 → Int32 → Option (Int32 × Mem)) (nself37 : Mem → Nat → Int32 → Int32 → Int32 → Int32 → Int32 → Option (Int32 × Mem)) (m : Mem) (v0 : Nat) (v1 : Int32) (v2 : Int32) (v4 : Int32) (v5 : Int32) (v6 : Int32) : Option (Int32 × Mem) := if v1 ≤ v6 then (nself30 m v0 v1 v2 v4 v5) else (if ((((v5 >>> (v6 &&& 31))) &&& (1 : Int32))) = 0 then (nb_X10_restsOf_123 F s nself30 nself37 m v0 v1 v2 v4 v5 v6) else (nl_X10_restsOf_78 F s nself30 nself37 F m v0 v1 v2 v4 v5 v6 (0 : Int32)))
set_option maxRecDepth 20000 in
theorem ub_X10_restsOf_56 {F : Nat} {s : List Sh} {self30 : PH → Nat → Int32 → Int32 → Int32 → Int32 → Option (Int32 × PH)} {nself30 : Mem → Nat → Int32 → Int32 → Int32 → Int32 → Option (Int32 × Mem)} {self37 : PH → Nat → Int32 → Int32 → Int32 → Int32 → Int32 → Option (Int32 × PH)} {nself37 : Mem → Nat → Int32 → Int32 → Int32 → Int32 → Int32 → Option (Int32 × Mem)} {m m' : Mem} {r : Int32} {v0 : Nat} {v1 : Int32} {v2 : Int32} {v4 : Int32} {v5 : Int32} {v6 : Int32} (hw : GS s m) (o_v0 : ok s v0 10) (ih30 : ∀ (m : Mem) (v0 : Nat) (v1 : Int32) (v2 : Int32) (v4 : Int32) (v5 : Int32), GS s m → ok s v0 10 → nself30 m v0 v1 v2 v4 v5 = some (r, m') → J3 (self30 (bl s m) v0 v1 v2 v4 v5) (r, bl s m') (GS s m')) (ih37 : ∀ (m : Mem) (v0 : Nat) (v1 : Int32) (v2 : Int32) (v4 : Int32) (v5 : Int32) (v6 : Int32), GS s m → ok s v0 10 → nself37 m v0 v1 v2 v4 v5 v6 = some (r, m') → J3 (self37 (bl s m) v0 v1 v2 v4 v5 v6) (r, bl s m') (GS s m')) (hf : nb_X10_restsOf_56 F s nself30 nself37 m v0 v1 v2 v4 v5 v6 = some (r, m')) : J3 (b_X10_restsOf_56 F self30 self37 (bl s m) v0 v1 v2 v4 v5 v6) (r, bl s m') (GS s m') := by
  unfold nb_X10_restsOf_56 at hf
  unfold b_X10_restsOf_56
  refine k_if hf (fun hf => ?_) (fun hf => ?_)
  · exact ih30 _ _ _ _ _ _ hw o_v0 hf
  · refine k_if hf (fun hf => ?_) (fun hf => ?_)
    · exact u_X10_restsOf_123 hw o_v0 ih30 ih37 hf
    · exact ul_X10_restsOf_78 ih30 ih37 F _ _ _ _ _ _ _ _ hw o_v0 hf
def nl_X10_restsOf_56 (F : Nat) (s : List Sh) (nself30 : Mem → Nat → Int32 → Int32 → Int32 → Int32 → Option (Int32 × Mem)) : Nat → Mem → Nat → Int32 → Int32 → Int32 → Int32 → Int32 → Option (Int32 × Mem)
  | 0 => fun _ _ _ _ _ _ _ => none
  | n + 1 => fun m v0 v1 v2 v4 v5 v6 => nb_X10_restsOf_56 F s nself30 (nl_X10_restsOf_56 F s nself30 n) m v0 v1 v2 v4 v5 v6
theorem ul_X10_restsOf_56 {F : Nat} {s : List Sh} {self30 : PH → Nat → Int32 → Int32 → Int32 → Int32 → Option (Int32 × PH)} {nself30 : Mem → Nat → Int32 → Int32 → Int32 → Int32 → Option (Int32 × Mem)} {m' : Mem} {r : Int32} (ih30 : ∀ (m : Mem) (v0 : Nat) (v1 : Int32) (v2 : Int32) (v4 : Int32) (v5 : Int32), GS s m → ok s v0 10 → nself30 m v0 v1 v2 v4 v5 = some (r, m') → J3 (self30 (bl s m) v0 v1 v2 v4 v5) (r, bl s m') (GS s m')) (n : Nat) : ∀ (m : Mem) (v0 : Nat) (v1 : Int32) (v2 : Int32) (v4 : Int32) (v5 : Int32) (v6 : Int32), GS s m → ok s v0 10 → nl_X10_restsOf_56 F s nself30 n m v0 v1 v2 v4 v5 v6 = some (r, m') → J3 (l_X10_restsOf_56 F self30 n (bl s m) v0 v1 v2 v4 v5 v6) (r, bl s m') (GS s m') := by
  induction n with
  | zero => intro m v0 v1 v2 v4 v5 v6 hw o_v0 hf; cases hf
  | succ n ih => intro m v0 v1 v2 v4 v5 v6 hw o_v0 hf; exact ub_X10_restsOf_56 (F := F) hw o_v0 ih30 ih hf
def nb_X10_restsOf_42 (F : Nat) (s : List Sh) (nself30 : Mem → Nat → Int32 → Int32 → Int32 → Int32 → Option (Int32 × Mem)) (m : Mem) (v0 : Nat) (v1 : Int32) (v2 : Int32) (v4 : Int32) (v5 : Int32) : Option (Int32 × Mem) := if v4 = v5 then (some (v4, m)) else (nl_X10_restsOf_56 F s nself30 F m v0 v1 v2 v4 v4 (0 : Int32))
set_option maxRecDepth 20000 in
theorem ub_X10_restsOf_42 {F : Nat} {s : List Sh} {self30 : PH → Nat → Int32 → Int32 → Int32 → Int32 → Option (Int32 × PH)} {nself30 : Mem → Nat → Int32 → Int32 → Int32 → Int32 → Option (Int32 × Mem)} {m m' : Mem} {r : Int32} {v0 : Nat} {v1 : Int32} {v2 : Int32} {v4 : Int32} {v5 : Int32} (hw : GS s m) (o_v0 : ok s v0 10) (ih30 : ∀ (m : Mem) (v0 : Nat) (v1 : Int32) (v2 : Int32) (v4 : Int32) (v5 : Int32), GS s m → ok s v0 10 → nself30 m v0 v1 v2 v4 v5 = some (r, m') → J3 (self30 (bl s m) v0 v1 v2 v4 v5) (r, bl s m') (GS s m')) (hf : nb_X10_restsOf_42 F s nself30 m v0 v1 v2 v4 v5 = some (r, m')) : J3 (b_X10_restsOf_42 F self30 (bl s m) v0 v1 v2 v4 v5) (r, bl s m') (GS s m') := by
  unfold nb_X10_restsOf_42 at hf
  unfold b_X10_restsOf_42
  refine k_if hf (fun hf => ?_) (fun hf => ?_)
  · exact k_ret hw hf
  · exact ul_X10_restsOf_56 ih30 F _ _ _ _ _ _ _ hw o_v0 hf
def nl_X10_restsOf_42 (F : Nat) (s : List Sh) : Nat → Mem → Nat → Int32 → Int32 → Int32 → Int32 → Option (Int32 × Mem)
  | 0 => fun _ _ _ _ _ _ => none
  | n + 1 => fun m v0 v1 v2 v4 v5 => nb_X10_restsOf_42 F s (nl_X10_restsOf_42 F s n) m v0 v1 v2 v4 v5
theorem ul_X10_restsOf_42 {F : Nat} {s : List Sh} {m' : Mem} {r : Int32} (n : Nat) : ∀ (m : Mem) (v0 : Nat) (v1 : Int32) (v2 : Int32) (v4 : Int32) (v5 : Int32), GS s m → ok s v0 10 → nl_X10_restsOf_42 F s n m v0 v1 v2 v4 v5 = some (r, m') → J3 (l_X10_restsOf_42 F n (bl s m) v0 v1 v2 v4 v5) (r, bl s m') (GS s m') := by
  induction n with
  | zero => intro m v0 v1 v2 v4 v5 hw o_v0 hf; cases hf
  | succ n ih => intro m v0 v1 v2 v4 v5 hw o_v0 hf; exact ub_X10_restsOf_42 (F := F) hw o_v0 ih hf
def nb_X10_restsOf_0 (F : Nat) (s : List Sh) (m : Mem) (v0 : Nat) (v1 : Int32) : Option (Int32 × Mem) := bindv (((((1 : Int32) <<< (v1 &&& 31))) - (1 : Int32))) fun x1 => ((m.2.2 v0 1).bind fun a2 => ((rdI s m a2 (7 : Int32)).bind fun x3 => ((m.2.2 v0 1).bind fun a4 => ((rdI s m a4 (8 : Int32)).bind fun x5 => ((m_X10_restOf F (Int32.toInt64 x3) (Int32.toInt64 x5) v1).bind fun x6 => (if x6 = (-1 : Int32) then (some (x1, m)) else (bindv (((1 : Int32) <<< (x6 &&& 31))) fun x7 => (nl_X10_restsOf_42 F s F m v0 v1 x1 x7 (0 : Int32)))))))))
set_option maxRecDepth 20000 in
theorem u_X10_restsOf_0 {F : Nat} {s : List Sh} {m m' : Mem} {r : Int32} {v0 : Nat} {v1 : Int32} (hw : GS s m) (o_v0 : ok s v0 10) (hf : nb_X10_restsOf_0 F s m v0 v1 = some (r, m')) : J3 (b_X10_restsOf_0 F (bl s m) v0 v1) (r, bl s m') (GS s m') := by
  unfold nb_X10_restsOf_0 at hf
  unfold b_X10_restsOf_0
  refine k_bv hf fun x1 hf => ?_
  refine k_gR hw (ok_o o_v0 (by decide)) rfl hf fun a2 o_a2 hf => ?_
  refine k_aI (Or.inl rfl) (ka rfl o_a2) hf fun x3 hf => ?_
  refine k_gR hw (ok_o o_v0 (by decide)) rfl hf fun a4 o_a4 hf => ?_
  refine k_aI (Or.inl rfl) (ka rfl o_a4) hf fun x5 hf => ?_
  refine k_pure hf fun x6 hf => ?_
  refine k_if hf (fun hf => ?_) (fun hf => ?_)
  · exact k_ret hw hf
  · refine k_bv hf fun x7 hf => ?_
    exact ul_X10_restsOf_42 F _ _ _ _ _ _ hw o_v0 hf
def n_X10_restsOf (F : Nat) (s : List Sh) (m : Mem) (p0 : Nat) (p1 : Int32) : Option (Int32 × Mem) := nb_X10_restsOf_0 F s m p0 p1
theorem un_X10_restsOf {F : Nat} {s : List Sh} {m m' : Mem} {p0 : Nat} {p1 : Int32} {r : Int32} (hw : GS s m) (o_p0 : ok s p0 10) (ex : n_X10_restsOf F s m p0 p1 = some (r, m')) : J3 (m_X10_restsOf F (bl s m) p0 p1) (r, bl s m') (GS s m') := u_X10_restsOf_0 hw o_p0 ex
/-! FractionLiftModel.isNever(IJJ)Z over the memory -/
def nb_X10_isNever_0 (F : Nat) (s : List Sh) (m : Mem) (v0 : Nat) (v1 : Int32) (v2 : Int64) (v4 : Int64) : Option (Int32 × Mem) := (m_X10_restOf F v2 v4 v1).bind fun x1 => (if x1 = (-1 : Int32) then (rZM (0 : Int32) m) else (bind2 (n_X10_restsOf F s m v0 v1) fun x2 m3 => (if ((((x2 >>> (x1 &&& 31))) &&& (1 : Int32))) = 0 then (rZM (1 : Int32) m3) else (rZM (0 : Int32) m3))))
set_option maxRecDepth 20000 in
theorem u_X10_isNever_0 {F : Nat} {s : List Sh} {m m' : Mem} {r : Int32} {v0 : Nat} {v1 : Int32} {v2 : Int64} {v4 : Int64} (hw : GS s m) (o_v0 : ok s v0 10) (hf : nb_X10_isNever_0 F s m v0 v1 v2 v4 = some (r, m')) : J3 (b_X10_isNever_0 F (bl s m) v0 v1 v2 v4) (r, bl s m') (GS s m') := by
  unfold nb_X10_isNever_0 at hf
  unfold b_X10_isNever_0
  refine k_pure hf fun x1 hf => ?_
  refine k_if hf (fun hf => ?_) (fun hf => ?_)
  · exact k_rZ hw hf
  · refine k_cO (ok_o o_v0 (by decide)) ?_
    refine ob2 hf fun x2 m3 ex hf => ?_
    refine k_b2 (un_X10_restsOf hw o_v0 ex) fun hw => ?_
    refine k_if hf (fun hf => ?_) (fun hf => ?_)
    · exact k_rZ hw hf
    · exact k_rZ hw hf
def n_X10_isNever (F : Nat) (s : List Sh) (m : Mem) (p0 : Nat) (p1 : Int32) (p2 : Int64) (p4 : Int64) : Option (Int32 × Mem) := nb_X10_isNever_0 F s m p0 p1 p2 p4
theorem un_X10_isNever {F : Nat} {s : List Sh} {m m' : Mem} {p0 : Nat} {p1 : Int32} {p2 : Int64} {p4 : Int64} {r : Int32} (hw : GS s m) (o_p0 : ok s p0 10) (ex : n_X10_isNever F s m p0 p1 p2 p4 = some (r, m')) : J3 (m_X10_isNever F (bl s m) p0 p1 p2 p4) (r, bl s m') (GS s m') := u_X10_isNever_0 hw o_p0 ex
/-! FractionLiftModel.never(III)I over the memory -/
def nb_X10_never_0 (F : Nat) (s : List Sh) (m : Mem) (v0 : Nat) (v1 : Int32) (v2 : Int32) (v3 : Int32) : Option (Int32 × Mem) := bindv (wI m v0 0 (0 : Int32)) fun m1 => ((m_X10_within (Int32.toInt64 v1) (2 : Int64) (30 : Int64)).bind fun x2 => (if x2 = 0 then (some ((-3 : Int32), m1)) else (bind2 (n_X10_asks s m1 v0 (Int32.toInt64 v2) (Int32.toInt64 v3)) fun x3 m4 => (if x3 = 0 then (some ((-3 : Int32), m4)) else (bind2 (n_X10_isNever F s m4 v0 v1 (m4.2.1 v0 15) (m4.2.1 v0 16)) fun x5 m6 => (if x5 = 0 then (some ((0 : Int32), m6)) else (some ((1 : Int32), m6))))))))
set_option maxRecDepth 20000 in
theorem u_X10_never_0 {F : Nat} {s : List Sh} {m m' : Mem} {r : Int32} {v0 : Nat} {v1 : Int32} {v2 : Int32} {v3 : Int32} (hw : GS s m) (o_v0 : ok s v0 10) (hf : nb_X10_never_0 F s m v0 v1 v2 v3 = some (r, m')) : J3 (b_X10_never_0 F (bl s m) v0 v1 v2 v3) (r, bl s m') (GS s m') := by
  unfold nb_X10_never_0 at hf
  unfold b_X10_never_0
  refine k_pI hw (ok_o o_v0 (by decide)) rfl hf fun m1 hw hf => ?_
  refine k_pure hf fun x2 hf => ?_
  refine k_if hf (fun hf => ?_) (fun hf => ?_)
  · exact k_ret hw hf
  · refine k_cO (ok_o o_v0 (by decide)) ?_
    refine ob2 hf fun x3 m4 ex hf => ?_
    refine k_b2 (un_X10_asks hw o_v0 ex) fun hw => ?_
    refine k_if hf (fun hf => ?_) (fun hf => ?_)
    · exact k_ret hw hf
    · refine k_gL (ok_o o_v0 (by decide)) rfl ?_
      refine k_gL (ok_o o_v0 (by decide)) rfl ?_
      refine k_cO (ok_o o_v0 (by decide)) ?_
      refine ob2 hf fun x5 m6 ex hf => ?_
      refine k_b2 (un_X10_isNever hw o_v0 ex) fun hw => ?_
      refine k_if hf (fun hf => ?_) (fun hf => ?_)
      · exact k_ret hw hf
      · exact k_ret hw hf
def n_X10_never (F : Nat) (s : List Sh) (m : Mem) (p0 : Nat) (p1 : Int32) (p2 : Int32) (p3 : Int32) : Option (Int32 × Mem) := nb_X10_never_0 F s m p0 p1 p2 p3
theorem un_X10_never {F : Nat} {s : List Sh} {m m' : Mem} {p0 : Nat} {p1 : Int32} {p2 : Int32} {p3 : Int32} {r : Int32} (hw : GS s m) (o_p0 : ok s p0 10) (ex : n_X10_never F s m p0 p1 p2 p3 = some (r, m')) : J3 (m_X10_never F (bl s m) p0 p1 p2 p3) (r, bl s m') (GS s m') := u_X10_never_0 hw o_p0 ex
/-! FractionLiftModel.shown(II)I over the memory -/
def nb_X10_shown_33 (F : Nat) (s : List Sh) (nself20 : Mem → Nat → Int64 → Int64 → Int32 → Option (Int32 × Mem)) (m : Mem) (v0 : Nat) (v3 : Int64) (v5 : Int64) (v7 : Int32) : Option (Int32 × Mem) := if (30 : Int32) < v7 then (some ((-1 : Int32), m)) else (bind2 (n_X10_isNever F s m v0 v7 v3 v5) fun x1 m2 => (if x1 = 0 then (bindv (v7 + (1)) fun x3 => (nself20 m2 v0 v3 v5 x3)) else (some (v7, m2))))
set_option maxRecDepth 20000 in
theorem ub_X10_shown_33 {F : Nat} {s : List Sh} {self20 : PH → Nat → Int64 → Int64 → Int32 → Option (Int32 × PH)} {nself20 : Mem → Nat → Int64 → Int64 → Int32 → Option (Int32 × Mem)} {m m' : Mem} {r : Int32} {v0 : Nat} {v3 : Int64} {v5 : Int64} {v7 : Int32} (hw : GS s m) (o_v0 : ok s v0 10) (ih20 : ∀ (m : Mem) (v0 : Nat) (v3 : Int64) (v5 : Int64) (v7 : Int32), GS s m → ok s v0 10 → nself20 m v0 v3 v5 v7 = some (r, m') → J3 (self20 (bl s m) v0 v3 v5 v7) (r, bl s m') (GS s m')) (hf : nb_X10_shown_33 F s nself20 m v0 v3 v5 v7 = some (r, m')) : J3 (b_X10_shown_33 F self20 (bl s m) v0 v3 v5 v7) (r, bl s m') (GS s m') := by
  unfold nb_X10_shown_33 at hf
  unfold b_X10_shown_33
  refine k_if hf (fun hf => ?_) (fun hf => ?_)
  · exact k_ret hw hf
  · refine k_cO (ok_o o_v0 (by decide)) ?_
    refine ob2 hf fun x1 m2 ex hf => ?_
    refine k_b2 (un_X10_isNever hw o_v0 ex) fun hw => ?_
    refine k_if hf (fun hf => ?_) (fun hf => ?_)
    · refine k_bv hf fun x3 hf => ?_
      exact ih20 _ _ _ _ _ hw o_v0 hf
    · exact k_ret hw hf
def nl_X10_shown_33 (F : Nat) (s : List Sh) : Nat → Mem → Nat → Int64 → Int64 → Int32 → Option (Int32 × Mem)
  | 0 => fun _ _ _ _ _ => none
  | n + 1 => fun m v0 v3 v5 v7 => nb_X10_shown_33 F s (nl_X10_shown_33 F s n) m v0 v3 v5 v7
theorem ul_X10_shown_33 {F : Nat} {s : List Sh} {m' : Mem} {r : Int32} (n : Nat) : ∀ (m : Mem) (v0 : Nat) (v3 : Int64) (v5 : Int64) (v7 : Int32), GS s m → ok s v0 10 → nl_X10_shown_33 F s n m v0 v3 v5 v7 = some (r, m') → J3 (l_X10_shown_33 F n (bl s m) v0 v3 v5 v7) (r, bl s m') (GS s m') := by
  induction n with
  | zero => intro m v0 v3 v5 v7 hw o_v0 hf; cases hf
  | succ n ih => intro m v0 v3 v5 v7 hw o_v0 hf; exact ub_X10_shown_33 (F := F) hw o_v0 ih hf
def nb_X10_shown_0 (F : Nat) (s : List Sh) (m : Mem) (v0 : Nat) (v1 : Int32) (v2 : Int32) : Option (Int32 × Mem) := bindv (wI m v0 0 (0 : Int32)) fun m1 => (bind2 (n_X10_asks s m1 v0 (Int32.toInt64 v1) (Int32.toInt64 v2)) fun x2 m3 => (if x2 = 0 then (some ((-3 : Int32), m3)) else (nl_X10_shown_33 F s F m3 v0 (m3.2.1 v0 15) (m3.2.1 v0 16) (2 : Int32))))
set_option maxRecDepth 20000 in
theorem u_X10_shown_0 {F : Nat} {s : List Sh} {m m' : Mem} {r : Int32} {v0 : Nat} {v1 : Int32} {v2 : Int32} (hw : GS s m) (o_v0 : ok s v0 10) (hf : nb_X10_shown_0 F s m v0 v1 v2 = some (r, m')) : J3 (b_X10_shown_0 F (bl s m) v0 v1 v2) (r, bl s m') (GS s m') := by
  unfold nb_X10_shown_0 at hf
  unfold b_X10_shown_0
  refine k_pI hw (ok_o o_v0 (by decide)) rfl hf fun m1 hw hf => ?_
  refine k_cO (ok_o o_v0 (by decide)) ?_
  refine ob2 hf fun x2 m3 ex hf => ?_
  refine k_b2 (un_X10_asks hw o_v0 ex) fun hw => ?_
  refine k_if hf (fun hf => ?_) (fun hf => ?_)
  · exact k_ret hw hf
  · refine k_gL (ok_o o_v0 (by decide)) rfl ?_
    refine k_gL (ok_o o_v0 (by decide)) rfl ?_
    exact ul_X10_shown_33 F _ _ _ _ _ hw o_v0 hf
def n_X10_shown (F : Nat) (s : List Sh) (m : Mem) (p0 : Nat) (p1 : Int32) (p2 : Int32) : Option (Int32 × Mem) := nb_X10_shown_0 F s m p0 p1 p2
theorem un_X10_shown {F : Nat} {s : List Sh} {m m' : Mem} {p0 : Nat} {p1 : Int32} {p2 : Int32} {r : Int32} (hw : GS s m) (o_p0 : ok s p0 10) (ex : n_X10_shown F s m p0 p1 p2 = some (r, m')) : J3 (m_X10_shown F (bl s m) p0 p1 p2) (r, bl s m') (GS s m') := u_X10_shown_0 hw o_p0 ex
/-! FractionLiftModel.rests(I)I over the memory -/
def nb_X10_rests_0 (F : Nat) (s : List Sh) (m : Mem) (v0 : Nat) (v1 : Int32) : Option (Int32 × Mem) := bindv (wI m v0 0 (0 : Int32)) fun m1 => ((m_X10_within (Int32.toInt64 v1) (2 : Int64) (30 : Int64)).bind fun x2 => (if x2 = 0 then (some ((-3 : Int32), m1)) else (bind2 (n_X10_restsOf F s m1 v0 v1) fun x3 m4 => (some (x3, m4)))))
set_option maxRecDepth 20000 in
theorem u_X10_rests_0 {F : Nat} {s : List Sh} {m m' : Mem} {r : Int32} {v0 : Nat} {v1 : Int32} (hw : GS s m) (o_v0 : ok s v0 10) (hf : nb_X10_rests_0 F s m v0 v1 = some (r, m')) : J3 (b_X10_rests_0 F (bl s m) v0 v1) (r, bl s m') (GS s m') := by
  unfold nb_X10_rests_0 at hf
  unfold b_X10_rests_0
  refine k_pI hw (ok_o o_v0 (by decide)) rfl hf fun m1 hw hf => ?_
  refine k_pure hf fun x2 hf => ?_
  refine k_if hf (fun hf => ?_) (fun hf => ?_)
  · exact k_ret hw hf
  · refine k_cO (ok_o o_v0 (by decide)) ?_
    refine ob2 hf fun x3 m4 ex hf => ?_
    refine k_b2 (un_X10_restsOf hw o_v0 ex) fun hw => ?_
    exact k_ret hw hf
def n_X10_rests (F : Nat) (s : List Sh) (m : Mem) (p0 : Nat) (p1 : Int32) : Option (Int32 × Mem) := nb_X10_rests_0 F s m p0 p1
theorem un_X10_rests {F : Nat} {s : List Sh} {m m' : Mem} {p0 : Nat} {p1 : Int32} {r : Int32} (hw : GS s m) (o_p0 : ok s p0 10) (ex : n_X10_rests F s m p0 p1 = some (r, m')) : J3 (m_X10_rests F (bl s m) p0 p1) (r, bl s m') (GS s m') := u_X10_rests_0 hw o_p0 ex
/-! FractionLiftModel.laysMeet(IIIZ)Z over the memory -/
def nb_X10_laysMeet_289 (F : Nat) (s : List Sh) (nself106 : Mem → Nat → Int32 → Int32 → Int32 → Option (Int32 × Mem)) (m : Mem) (v0 : Nat) (v5 : Int32) (v6 : Int32) (v7 : Int32) : Option (Int32 × Mem) := bindv (v7 + (1)) fun x1 => (nself106 m v0 v5 v6 x1)
set_option maxRecDepth 20000 in
theorem u_X10_laysMeet_289 {F : Nat} {s : List Sh} {self106 : PH → Nat → Int32 → Int32 → Int32 → Option (Int32 × PH)} {nself106 : Mem → Nat → Int32 → Int32 → Int32 → Option (Int32 × Mem)} {m m' : Mem} {r : Int32} {v0 : Nat} {v5 : Int32} {v6 : Int32} {v7 : Int32} (hw : GS s m) (o_v0 : ok s v0 10) (ih106 : ∀ (m : Mem) (v0 : Nat) (v5 : Int32) (v6 : Int32) (v7 : Int32), GS s m → ok s v0 10 → nself106 m v0 v5 v6 v7 = some (r, m') → J3 (self106 (bl s m) v0 v5 v6 v7) (r, bl s m') (GS s m')) (hf : nb_X10_laysMeet_289 F s nself106 m v0 v5 v6 v7 = some (r, m')) : J3 (b_X10_laysMeet_289 F self106 (bl s m) v0 v5 v6 v7) (r, bl s m') (GS s m') := by
  unfold nb_X10_laysMeet_289 at hf
  unfold b_X10_laysMeet_289
  refine k_bv hf fun x1 hf => ?_
  exact ih106 _ _ _ _ _ hw o_v0 hf
def nb_X10_laysMeet_264 (F : Nat) (s : List Sh) (nself106 : Mem → Nat → Int32 → Int32 → Int32 → Option (Int32 × Mem)) (m : Mem) (v0 : Nat) (v5 : Int32) (v7 : Int32) : Option (Int32 × Mem) := (m.2.2 v0 37).bind fun a1 => ((rdI s m a1 v7).bind fun x2 => (bindv (wI m v0 39 x2) fun m3 => ((m3.2.2 v0 38).bind fun a4 => ((rdI s m3 a4 v7).bind fun x5 => (bindv (wI m3 v0 40 x5) fun m6 => (nb_X10_laysMeet_289 F s nself106 m6 v0 v5 (1 : Int32) v7))))))
set_option maxRecDepth 20000 in
theorem u_X10_laysMeet_264 {F : Nat} {s : List Sh} {self106 : PH → Nat → Int32 → Int32 → Int32 → Option (Int32 × PH)} {nself106 : Mem → Nat → Int32 → Int32 → Int32 → Option (Int32 × Mem)} {m m' : Mem} {r : Int32} {v0 : Nat} {v5 : Int32} {v7 : Int32} (hw : GS s m) (o_v0 : ok s v0 10) (ih106 : ∀ (m : Mem) (v0 : Nat) (v5 : Int32) (v6 : Int32) (v7 : Int32), GS s m → ok s v0 10 → nself106 m v0 v5 v6 v7 = some (r, m') → J3 (self106 (bl s m) v0 v5 v6 v7) (r, bl s m') (GS s m')) (hf : nb_X10_laysMeet_264 F s nself106 m v0 v5 v7 = some (r, m')) : J3 (b_X10_laysMeet_264 F self106 (bl s m) v0 v5 v7) (r, bl s m') (GS s m') := by
  unfold nb_X10_laysMeet_264 at hf
  unfold b_X10_laysMeet_264
  refine k_gR hw (ok_o o_v0 (by decide)) rfl hf fun a1 o_a1 hf => ?_
  refine k_aI (Or.inl rfl) (ka rfl o_a1) hf fun x2 hf => ?_
  refine k_pI hw (ok_o o_v0 (by decide)) rfl hf fun m3 hw hf => ?_
  refine k_gR hw (ok_o o_v0 (by decide)) rfl hf fun a4 o_a4 hf => ?_
  refine k_aI (Or.inl rfl) (ka rfl o_a4) hf fun x5 hf => ?_
  refine k_pI hw (ok_o o_v0 (by decide)) rfl hf fun m6 hw hf => ?_
  exact u_X10_laysMeet_289 hw o_v0 ih106 hf
def nb_X10_laysMeet_193 (F : Nat) (s : List Sh) (nself106 : Mem → Nat → Int32 → Int32 → Int32 → Option (Int32 × Mem)) (m : Mem) (v0 : Nat) (v5 : Int32) (v6 : Int32) (v7 : Int32) : Option (Int32 × Mem) := if v5 ≤ v7 then (rZM v6 m) else ((m.2.2 v0 37).bind fun a1 => ((rdI s m a1 v7).bind fun x2 => ((m.2.2 v0 38).bind fun a3 => ((rdI s m a3 v7).bind fun x4 => ((n_X10_metAt F s m v0 (Int32.toInt64 x2) (Int32.toInt64 x4)).bind fun x5 => (if x5 = (-1 : Int32) then (nb_X10_laysMeet_289 F s nself106 m v0 v5 v6 v7) else (if v6 = 0 then (nb_X10_laysMeet_264 F s nself106 m v0 v5 v7) else ((m.2.2 v0 37).bind fun a6 => ((rdI s m a6 v7).bind fun x7 => ((m.2.2 v0 38).bind fun a8 => ((rdI s m a8 v7).bind fun x9 => ((m_X10_against (Int32.toInt64 x7) (Int32.toInt64 x9) ((Int32.toInt64 (m.1 v0 39))) ((Int32.toInt64 (m.1 v0 40)))).bind fun x10 => (if x10 < 0 then (nb_X10_laysMeet_264 F s nself106 m v0 v5 v7) else (nb_X10_laysMeet_289 F s nself106 m v0 v5 v6 v7))))))))))))))
set_option maxRecDepth 20000 in
theorem ub_X10_laysMeet_193 {F : Nat} {s : List Sh} {self106 : PH → Nat → Int32 → Int32 → Int32 → Option (Int32 × PH)} {nself106 : Mem → Nat → Int32 → Int32 → Int32 → Option (Int32 × Mem)} {m m' : Mem} {r : Int32} {v0 : Nat} {v5 : Int32} {v6 : Int32} {v7 : Int32} (hw : GS s m) (o_v0 : ok s v0 10) (ih106 : ∀ (m : Mem) (v0 : Nat) (v5 : Int32) (v6 : Int32) (v7 : Int32), GS s m → ok s v0 10 → nself106 m v0 v5 v6 v7 = some (r, m') → J3 (self106 (bl s m) v0 v5 v6 v7) (r, bl s m') (GS s m')) (hf : nb_X10_laysMeet_193 F s nself106 m v0 v5 v6 v7 = some (r, m')) : J3 (b_X10_laysMeet_193 F self106 (bl s m) v0 v5 v6 v7) (r, bl s m') (GS s m') := by
  unfold nb_X10_laysMeet_193 at hf
  unfold b_X10_laysMeet_193
  refine k_if hf (fun hf => ?_) (fun hf => ?_)
  · exact k_rZ hw hf
  · refine k_gR hw (ok_o o_v0 (by decide)) rfl hf fun a1 o_a1 hf => ?_
    refine k_aI (Or.inl rfl) (ka rfl o_a1) hf fun x2 hf => ?_
    refine k_gR hw (ok_o o_v0 (by decide)) rfl hf fun a3 o_a3 hf => ?_
    refine k_aI (Or.inl rfl) (ka rfl o_a3) hf fun x4 hf => ?_
    refine k_cO (ok_o o_v0 (by decide)) ?_
    refine ob hf fun x5 ex hf => ?_
    refine k_b1 (un_X10_metAt hw o_v0 ex) ?_
    refine k_if hf (fun hf => ?_) (fun hf => ?_)
    · exact u_X10_laysMeet_289 hw o_v0 ih106 hf
    · refine k_if hf (fun hf => ?_) (fun hf => ?_)
      · exact u_X10_laysMeet_264 hw o_v0 ih106 hf
      · refine k_gR hw (ok_o o_v0 (by decide)) rfl hf fun a6 o_a6 hf => ?_
        refine k_aI (Or.inl rfl) (ka rfl o_a6) hf fun x7 hf => ?_
        refine k_gR hw (ok_o o_v0 (by decide)) rfl hf fun a8 o_a8 hf => ?_
        refine k_aI (Or.inl rfl) (ka rfl o_a8) hf fun x9 hf => ?_
        refine k_gI (ok_o o_v0 (by decide)) rfl ?_
        refine k_gI (ok_o o_v0 (by decide)) rfl ?_
        refine k_pure hf fun x10 hf => ?_
        refine k_if hf (fun hf => ?_) (fun hf => ?_)
        · exact u_X10_laysMeet_264 hw o_v0 ih106 hf
        · exact u_X10_laysMeet_289 hw o_v0 ih106 hf
def nl_X10_laysMeet_193 (F : Nat) (s : List Sh) : Nat → Mem → Nat → Int32 → Int32 → Int32 → Option (Int32 × Mem)
  | 0 => fun _ _ _ _ _ => none
  | n + 1 => fun m v0 v5 v6 v7 => nb_X10_laysMeet_193 F s (nl_X10_laysMeet_193 F s n) m v0 v5 v6 v7
theorem ul_X10_laysMeet_193 {F : Nat} {s : List Sh} {m' : Mem} {r : Int32} (n : Nat) : ∀ (m : Mem) (v0 : Nat) (v5 : Int32) (v6 : Int32) (v7 : Int32), GS s m → ok s v0 10 → nl_X10_laysMeet_193 F s n m v0 v5 v6 v7 = some (r, m') → J3 (l_X10_laysMeet_193 F n (bl s m) v0 v5 v6 v7) (r, bl s m') (GS s m') := by
  induction n with
  | zero => intro m v0 v5 v6 v7 hw o_v0 hf; cases hf
  | succ n ih => intro m v0 v5 v6 v7 hw o_v0 hf; exact ub_X10_laysMeet_193 (F := F) hw o_v0 ih hf
def nb_X10_laysMeet_150 (F : Nat) (s : List Sh) (nself82 : Mem → Nat → Int32 → Int32 → Option (Int32 × Mem)) (m : Mem) (v0 : Nat) (v5 : Int32) (v6 : Int32) : Option (Int32 × Mem) := if (m.1 v0 33) ≤ v6 then (nl_X10_laysMeet_193 F s F m v0 v5 (0 : Int32) (0 : Int32)) else ((m.2.2 v0 31).bind fun a1 => ((rdI s m a1 v6).bind fun x2 => ((m.2.2 v0 32).bind fun a3 => ((rdI s m a3 v6).bind fun x4 => (bind2 (n_X10_meets F s m v0 (Int32.toInt64 x2) (Int32.toInt64 x4) (-1 : Int32) (-1 : Int32)) fun _ m6 => (bindv (v6 + (1)) fun x7 => (nself82 m6 v0 v5 x7)))))))
set_option maxRecDepth 20000 in
theorem ub_X10_laysMeet_150 {F : Nat} {s : List Sh} {self82 : PH → Nat → Int32 → Int32 → Option (Int32 × PH)} {nself82 : Mem → Nat → Int32 → Int32 → Option (Int32 × Mem)} {m m' : Mem} {r : Int32} {v0 : Nat} {v5 : Int32} {v6 : Int32} (hw : GS s m) (o_v0 : ok s v0 10) (ih82 : ∀ (m : Mem) (v0 : Nat) (v5 : Int32) (v6 : Int32), GS s m → ok s v0 10 → nself82 m v0 v5 v6 = some (r, m') → J3 (self82 (bl s m) v0 v5 v6) (r, bl s m') (GS s m')) (hf : nb_X10_laysMeet_150 F s nself82 m v0 v5 v6 = some (r, m')) : J3 (b_X10_laysMeet_150 F self82 (bl s m) v0 v5 v6) (r, bl s m') (GS s m') := by
  unfold nb_X10_laysMeet_150 at hf
  unfold b_X10_laysMeet_150
  refine k_gI (ok_o o_v0 (by decide)) rfl ?_
  refine k_if hf (fun hf => ?_) (fun hf => ?_)
  · exact ul_X10_laysMeet_193 F _ _ _ _ _ hw o_v0 hf
  · refine k_gR hw (ok_o o_v0 (by decide)) rfl hf fun a1 o_a1 hf => ?_
    refine k_aI (Or.inl rfl) (ka rfl o_a1) hf fun x2 hf => ?_
    refine k_gR hw (ok_o o_v0 (by decide)) rfl hf fun a3 o_a3 hf => ?_
    refine k_aI (Or.inl rfl) (ka rfl o_a3) hf fun x4 hf => ?_
    refine k_cO (ok_o o_v0 (by decide)) ?_
    refine ob2 hf fun u m6 ex hf => ?_
    refine k_b2 (un_X10_meets hw o_v0 ex) fun hw => ?_
    refine k_bv hf fun x7 hf => ?_
    exact ih82 _ _ _ _ hw o_v0 hf
def nl_X10_laysMeet_150 (F : Nat) (s : List Sh) : Nat → Mem → Nat → Int32 → Int32 → Option (Int32 × Mem)
  | 0 => fun _ _ _ _ => none
  | n + 1 => fun m v0 v5 v6 => nb_X10_laysMeet_150 F s (nl_X10_laysMeet_150 F s n) m v0 v5 v6
theorem ul_X10_laysMeet_150 {F : Nat} {s : List Sh} {m' : Mem} {r : Int32} (n : Nat) : ∀ (m : Mem) (v0 : Nat) (v5 : Int32) (v6 : Int32), GS s m → ok s v0 10 → nl_X10_laysMeet_150 F s n m v0 v5 v6 = some (r, m') → J3 (l_X10_laysMeet_150 F n (bl s m) v0 v5 v6) (r, bl s m') (GS s m') := by
  induction n with
  | zero => intro m v0 v5 v6 hw o_v0 hf; cases hf
  | succ n ih => intro m v0 v5 v6 hw o_v0 hf; exact ub_X10_laysMeet_150 (F := F) hw o_v0 ih hf
def nb_X10_laysMeet_121 (F : Nat) (s : List Sh) (nself68 : Mem → Nat → Int32 → Int32 → Int32 → Int32 → Option (Int32 × Mem)) (m : Mem) (v0 : Nat) (v3 : Int32) (v4 : Int32) (v5 : Int32) (v6 : Int32) : Option (Int32 × Mem) := if v3 ≤ v6 then (bind2 (n_X10_forgets F s m v0) fun _ m2 => (nl_X10_laysMeet_150 F s F m2 v0 v5 (0 : Int32))) else (bind2 (n_X10_goes F s m v0 v4) fun _ m4 => (bind2 (n_X10_becomesMet F s m4 v0) fun _ m6 => (bindv (v6 + (1)) fun x7 => (nself68 m6 v0 v3 v4 v5 x7))))
set_option maxRecDepth 20000 in
theorem ub_X10_laysMeet_121 {F : Nat} {s : List Sh} {self68 : PH → Nat → Int32 → Int32 → Int32 → Int32 → Option (Int32 × PH)} {nself68 : Mem → Nat → Int32 → Int32 → Int32 → Int32 → Option (Int32 × Mem)} {m m' : Mem} {r : Int32} {v0 : Nat} {v3 : Int32} {v4 : Int32} {v5 : Int32} {v6 : Int32} (hw : GS s m) (o_v0 : ok s v0 10) (ih68 : ∀ (m : Mem) (v0 : Nat) (v3 : Int32) (v4 : Int32) (v5 : Int32) (v6 : Int32), GS s m → ok s v0 10 → nself68 m v0 v3 v4 v5 v6 = some (r, m') → J3 (self68 (bl s m) v0 v3 v4 v5 v6) (r, bl s m') (GS s m')) (hf : nb_X10_laysMeet_121 F s nself68 m v0 v3 v4 v5 v6 = some (r, m')) : J3 (b_X10_laysMeet_121 F self68 (bl s m) v0 v3 v4 v5 v6) (r, bl s m') (GS s m') := by
  unfold nb_X10_laysMeet_121 at hf
  unfold b_X10_laysMeet_121
  refine k_if hf (fun hf => ?_) (fun hf => ?_)
  · refine k_cO (ok_o o_v0 (by decide)) ?_
    refine ob2 hf fun u m2 ex hf => ?_
    refine k_b2 (un_X10_forgets hw o_v0 ex) fun hw => ?_
    exact ul_X10_laysMeet_150 F _ _ _ _ hw o_v0 hf
  · refine k_cO (ok_o o_v0 (by decide)) ?_
    refine ob2 hf fun u m4 ex hf => ?_
    refine k_b2 (un_X10_goes hw o_v0 ex) fun hw => ?_
    refine k_cO (ok_o o_v0 (by decide)) ?_
    refine ob2 hf fun u m6 ex hf => ?_
    refine k_b2 (un_X10_becomesMet hw o_v0 ex) fun hw => ?_
    refine k_bv hf fun x7 hf => ?_
    exact ih68 _ _ _ _ _ _ hw o_v0 hf
def nl_X10_laysMeet_121 (F : Nat) (s : List Sh) : Nat → Mem → Nat → Int32 → Int32 → Int32 → Int32 → Option (Int32 × Mem)
  | 0 => fun _ _ _ _ _ _ => none
  | n + 1 => fun m v0 v3 v4 v5 v6 => nb_X10_laysMeet_121 F s (nl_X10_laysMeet_121 F s n) m v0 v3 v4 v5 v6
theorem ul_X10_laysMeet_121 {F : Nat} {s : List Sh} {m' : Mem} {r : Int32} (n : Nat) : ∀ (m : Mem) (v0 : Nat) (v3 : Int32) (v4 : Int32) (v5 : Int32) (v6 : Int32), GS s m → ok s v0 10 → nl_X10_laysMeet_121 F s n m v0 v3 v4 v5 v6 = some (r, m') → J3 (l_X10_laysMeet_121 F n (bl s m) v0 v3 v4 v5 v6) (r, bl s m') (GS s m') := by
  induction n with
  | zero => intro m v0 v3 v4 v5 v6 hw o_v0 hf; cases hf
  | succ n ih => intro m v0 v3 v4 v5 v6 hw o_v0 hf; exact ub_X10_laysMeet_121 (F := F) hw o_v0 ih hf
def nb_X10_laysMeet_55 (F : Nat) (s : List Sh) (nself31 : Mem → Nat → Int32 → Int32 → Int32 → Int32 → Int32 → Option (Int32 × Mem)) (m : Mem) (v0 : Nat) (v2 : Int32) (v3 : Int32) (v4 : Int32) (v5 : Int32) (v6 : Int32) : Option (Int32 × Mem) := if v5 ≤ v6 then ((m.2.2 v0 1).bind fun a1 => ((rdI s m a1 (((49 : Int32) + v2))).bind fun x2 => ((m.2.2 v0 1).bind fun a3 => ((rdI s m a3 (((55 : Int32) + v2))).bind fun x4 => (bind2 (n_X10_begins s m v0 x2 x4) fun _ m6 => (nl_X10_laysMeet_121 F s F m6 v0 v3 v4 v5 (0 : Int32))))))) else ((m.2.2 v0 37).bind fun a7 => ((m.2.2 v0 31).bind fun a8 => ((rdI s m a8 v6).bind fun x9 => ((stI s m a7 v6 x9).bind fun m10 => ((m10.2.2 v0 38).bind fun a11 => ((m10.2.2 v0 32).bind fun a12 => ((rdI s m10 a12 v6).bind fun x13 => ((stI s m10 a11 v6 x13).bind fun m14 => (bindv (v6 + (1)) fun x15 => (nself31 m14 v0 v2 v3 v4 v5 x15))))))))))
set_option maxRecDepth 20000 in
theorem ub_X10_laysMeet_55 {F : Nat} {s : List Sh} {self31 : PH → Nat → Int32 → Int32 → Int32 → Int32 → Int32 → Option (Int32 × PH)} {nself31 : Mem → Nat → Int32 → Int32 → Int32 → Int32 → Int32 → Option (Int32 × Mem)} {m m' : Mem} {r : Int32} {v0 : Nat} {v2 : Int32} {v3 : Int32} {v4 : Int32} {v5 : Int32} {v6 : Int32} (hw : GS s m) (o_v0 : ok s v0 10) (ih31 : ∀ (m : Mem) (v0 : Nat) (v2 : Int32) (v3 : Int32) (v4 : Int32) (v5 : Int32) (v6 : Int32), GS s m → ok s v0 10 → nself31 m v0 v2 v3 v4 v5 v6 = some (r, m') → J3 (self31 (bl s m) v0 v2 v3 v4 v5 v6) (r, bl s m') (GS s m')) (hf : nb_X10_laysMeet_55 F s nself31 m v0 v2 v3 v4 v5 v6 = some (r, m')) : J3 (b_X10_laysMeet_55 F self31 (bl s m) v0 v2 v3 v4 v5 v6) (r, bl s m') (GS s m') := by
  unfold nb_X10_laysMeet_55 at hf
  unfold b_X10_laysMeet_55
  refine k_if hf (fun hf => ?_) (fun hf => ?_)
  · refine k_gR hw (ok_o o_v0 (by decide)) rfl hf fun a1 o_a1 hf => ?_
    refine k_aI (Or.inl rfl) (ka rfl o_a1) hf fun x2 hf => ?_
    refine k_gR hw (ok_o o_v0 (by decide)) rfl hf fun a3 o_a3 hf => ?_
    refine k_aI (Or.inl rfl) (ka rfl o_a3) hf fun x4 hf => ?_
    refine k_cO (ok_o o_v0 (by decide)) ?_
    refine ob2 hf fun u m6 ex hf => ?_
    refine k_b2 (un_X10_begins hw o_v0 ex) fun hw => ?_
    exact ul_X10_laysMeet_121 F _ _ _ _ _ _ hw o_v0 hf
  · refine k_gR hw (ok_o o_v0 (by decide)) rfl hf fun a7 o_a7 hf => ?_
    refine k_gR hw (ok_o o_v0 (by decide)) rfl hf fun a8 o_a8 hf => ?_
    refine k_aI (Or.inl rfl) (ka rfl o_a8) hf fun x9 hf => ?_
    refine k_sI hw (ka rfl o_a7) hf fun m10 hw hf => ?_
    refine k_gR hw (ok_o o_v0 (by decide)) rfl hf fun a11 o_a11 hf => ?_
    refine k_gR hw (ok_o o_v0 (by decide)) rfl hf fun a12 o_a12 hf => ?_
    refine k_aI (Or.inl rfl) (ka rfl o_a12) hf fun x13 hf => ?_
    refine k_sI hw (ka rfl o_a11) hf fun m14 hw hf => ?_
    refine k_bv hf fun x15 hf => ?_
    exact ih31 _ _ _ _ _ _ _ hw o_v0 hf
def nl_X10_laysMeet_55 (F : Nat) (s : List Sh) : Nat → Mem → Nat → Int32 → Int32 → Int32 → Int32 → Int32 → Option (Int32 × Mem)
  | 0 => fun _ _ _ _ _ _ _ => none
  | n + 1 => fun m v0 v2 v3 v4 v5 v6 => nb_X10_laysMeet_55 F s (nl_X10_laysMeet_55 F s n) m v0 v2 v3 v4 v5 v6
theorem ul_X10_laysMeet_55 {F : Nat} {s : List Sh} {m' : Mem} {r : Int32} (n : Nat) : ∀ (m : Mem) (v0 : Nat) (v2 : Int32) (v3 : Int32) (v4 : Int32) (v5 : Int32) (v6 : Int32), GS s m → ok s v0 10 → nl_X10_laysMeet_55 F s n m v0 v2 v3 v4 v5 v6 = some (r, m') → J3 (l_X10_laysMeet_55 F n (bl s m) v0 v2 v3 v4 v5 v6) (r, bl s m') (GS s m') := by
  induction n with
  | zero => intro m v0 v2 v3 v4 v5 v6 hw o_v0 hf; cases hf
  | succ n ih => intro m v0 v2 v3 v4 v5 v6 hw o_v0 hf; exact ub_X10_laysMeet_55 (F := F) hw o_v0 ih hf
def nb_X10_laysMeet_25 (F : Nat) (s : List Sh) (nself16 : Mem → Nat → Int32 → Int32 → Int32 → Int32 → Option (Int32 × Mem)) (m : Mem) (v0 : Nat) (v2 : Int32) (v3 : Int32) (v4 : Int32) (v5 : Int32) : Option (Int32 × Mem) := if v3 ≤ v5 then (nl_X10_laysMeet_55 F s F m v0 v2 v3 v4 (m.1 v0 33) (0 : Int32)) else (bind2 (n_X10_goes F s m v0 (0 : Int32)) fun _ m2 => (bind2 (n_X10_becomesMet F s m2 v0) fun _ m4 => (bindv (v5 + (1)) fun x5 => (nself16 m4 v0 v2 v3 v4 x5))))
set_option maxRecDepth 20000 in
theorem ub_X10_laysMeet_25 {F : Nat} {s : List Sh} {self16 : PH → Nat → Int32 → Int32 → Int32 → Int32 → Option (Int32 × PH)} {nself16 : Mem → Nat → Int32 → Int32 → Int32 → Int32 → Option (Int32 × Mem)} {m m' : Mem} {r : Int32} {v0 : Nat} {v2 : Int32} {v3 : Int32} {v4 : Int32} {v5 : Int32} (hw : GS s m) (o_v0 : ok s v0 10) (ih16 : ∀ (m : Mem) (v0 : Nat) (v2 : Int32) (v3 : Int32) (v4 : Int32) (v5 : Int32), GS s m → ok s v0 10 → nself16 m v0 v2 v3 v4 v5 = some (r, m') → J3 (self16 (bl s m) v0 v2 v3 v4 v5) (r, bl s m') (GS s m')) (hf : nb_X10_laysMeet_25 F s nself16 m v0 v2 v3 v4 v5 = some (r, m')) : J3 (b_X10_laysMeet_25 F self16 (bl s m) v0 v2 v3 v4 v5) (r, bl s m') (GS s m') := by
  unfold nb_X10_laysMeet_25 at hf
  unfold b_X10_laysMeet_25
  refine k_if hf (fun hf => ?_) (fun hf => ?_)
  · refine k_gI (ok_o o_v0 (by decide)) rfl ?_
    exact ul_X10_laysMeet_55 F _ _ _ _ _ _ _ hw o_v0 hf
  · refine k_cO (ok_o o_v0 (by decide)) ?_
    refine ob2 hf fun u m2 ex hf => ?_
    refine k_b2 (un_X10_goes hw o_v0 ex) fun hw => ?_
    refine k_cO (ok_o o_v0 (by decide)) ?_
    refine ob2 hf fun u m4 ex hf => ?_
    refine k_b2 (un_X10_becomesMet hw o_v0 ex) fun hw => ?_
    refine k_bv hf fun x5 hf => ?_
    exact ih16 _ _ _ _ _ _ hw o_v0 hf
def nl_X10_laysMeet_25 (F : Nat) (s : List Sh) : Nat → Mem → Nat → Int32 → Int32 → Int32 → Int32 → Option (Int32 × Mem)
  | 0 => fun _ _ _ _ _ _ => none
  | n + 1 => fun m v0 v2 v3 v4 v5 => nb_X10_laysMeet_25 F s (nl_X10_laysMeet_25 F s n) m v0 v2 v3 v4 v5
theorem ul_X10_laysMeet_25 {F : Nat} {s : List Sh} {m' : Mem} {r : Int32} (n : Nat) : ∀ (m : Mem) (v0 : Nat) (v2 : Int32) (v3 : Int32) (v4 : Int32) (v5 : Int32), GS s m → ok s v0 10 → nl_X10_laysMeet_25 F s n m v0 v2 v3 v4 v5 = some (r, m') → J3 (l_X10_laysMeet_25 F n (bl s m) v0 v2 v3 v4 v5) (r, bl s m') (GS s m') := by
  induction n with
  | zero => intro m v0 v2 v3 v4 v5 hw o_v0 hf; cases hf
  | succ n ih => intro m v0 v2 v3 v4 v5 hw o_v0 hf; exact ub_X10_laysMeet_25 (F := F) hw o_v0 ih hf
def nb_X10_laysMeet_0 (F : Nat) (s : List Sh) (m : Mem) (v0 : Nat) (v1 : Int32) (v2 : Int32) (v3 : Int32) (v4 : Int32) : Option (Int32 × Mem) := (m.2.2 v0 1).bind fun a1 => ((rdI s m a1 (((49 : Int32) + v1))).bind fun x2 => ((m.2.2 v0 1).bind fun a3 => ((rdI s m a3 (((55 : Int32) + v1))).bind fun x4 => (bind2 (n_X10_begins s m v0 x2 x4) fun _ m6 => (nl_X10_laysMeet_25 F s F m6 v0 v2 v3 v4 (0 : Int32))))))
set_option maxRecDepth 20000 in
theorem u_X10_laysMeet_0 {F : Nat} {s : List Sh} {m m' : Mem} {r : Int32} {v0 : Nat} {v1 : Int32} {v2 : Int32} {v3 : Int32} {v4 : Int32} (hw : GS s m) (o_v0 : ok s v0 10) (hf : nb_X10_laysMeet_0 F s m v0 v1 v2 v3 v4 = some (r, m')) : J3 (b_X10_laysMeet_0 F (bl s m) v0 v1 v2 v3 v4) (r, bl s m') (GS s m') := by
  unfold nb_X10_laysMeet_0 at hf
  unfold b_X10_laysMeet_0
  refine k_gR hw (ok_o o_v0 (by decide)) rfl hf fun a1 o_a1 hf => ?_
  refine k_aI (Or.inl rfl) (ka rfl o_a1) hf fun x2 hf => ?_
  refine k_gR hw (ok_o o_v0 (by decide)) rfl hf fun a3 o_a3 hf => ?_
  refine k_aI (Or.inl rfl) (ka rfl o_a3) hf fun x4 hf => ?_
  refine k_cO (ok_o o_v0 (by decide)) ?_
  refine ob2 hf fun u m6 ex hf => ?_
  refine k_b2 (un_X10_begins hw o_v0 ex) fun hw => ?_
  exact ul_X10_laysMeet_25 F _ _ _ _ _ _ hw o_v0 hf
def n_X10_laysMeet (F : Nat) (s : List Sh) (m : Mem) (p0 : Nat) (p1 : Int32) (p2 : Int32) (p3 : Int32) (p4 : Int32) : Option (Int32 × Mem) := nb_X10_laysMeet_0 F s m p0 p1 p2 p3 p4
theorem un_X10_laysMeet {F : Nat} {s : List Sh} {m m' : Mem} {p0 : Nat} {p1 : Int32} {p2 : Int32} {p3 : Int32} {p4 : Int32} {r : Int32} (hw : GS s m) (o_p0 : ok s p0 10) (ex : n_X10_laysMeet F s m p0 p1 p2 p3 p4 = some (r, m')) : J3 (m_X10_laysMeet F (bl s m) p0 p1 p2 p3 p4) (r, bl s m') (GS s m') := u_X10_laysMeet_0 hw o_p0 ex
