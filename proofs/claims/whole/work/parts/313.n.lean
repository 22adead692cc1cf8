/-! FractionLift.simplest(IIIII)I over the memory -/
def nb_X9_simplest_153 (F : Nat) (s : List Sh) (m : Mem) (v0 : Nat) (v5 : Int32) : Option (Int32 × Mem) := (m.2.2 v0 12).bind fun a1 => ((n_X2_part s m a1 v5).bind fun x2 => (some ((Int64.toInt32 x2), m)))
set_option maxRecDepth 20000 in
theorem u_X9_simplest_153 {F : Nat} {s : List Sh} {m m' : Mem} {r : Int32} {v0 : Nat} {v5 : Int32} (hw : GS s m) (o_v0 : ok s v0 9) (hf : nb_X9_simplest_153 F s m v0 v5 = some (r, m')) : J3 (b_X9_simplest_153 F (bl s m) v0 v5) (r, bl s m') (GS s m') := by
  unfold nb_X9_simplest_153 at hf
  unfold b_X9_simplest_153
  refine k_gR hw (ok_o o_v0 (by decide)) rfl hf fun a1 o_a1 hf => ?_
  refine k_cO (ok_o o_a1 (by decide)) ?_
  refine ob hf fun x2 ex hf => ?_
  refine k_b1 (un_X2_part hw o_a1 ex) ?_
  exact k_ret hw hf
def nb_X9_simplest_0 (F : Nat) (s : List Sh) (m : Mem) (v0 : Nat) (v1 : Int32) (v2 : Int32) (v3 : Int32) (v4 : Int32) (v5 : Int32) : Option (Int32 × Mem) := if v5 < 0 then (some ((-2 : Int32), m)) else (if v5 ≤ (1 : Int32) then (bind2 (n_X9_asksFloor F s m v0 v3 v4) fun x1 m2 => (if x1 = 0 then (some ((-3 : Int32), m2)) else ((m2.2.2 v0 13).bind fun a3 => ((m2.2.2 v0 12).bind fun a4 => ((m2.2.2 v0 12).bind fun a5 => (bind2 (n_X2_put F s m2 a3 (m2.2.1 a4 0) (m2.2.1 a5 1)) fun _ m7 => (bind2 (n_X9_asksFloor F s m7 v0 v1 v2) fun x8 m9 => (if x8 = 0 then (some ((-3 : Int32), m9)) else ((m9.2.2 v0 12).bind fun a10 => ((m9.2.2 v0 13).bind fun a11 => ((n_X2_compared s m9 a10 a11).bind fun x12 => (if x12 = 0 then (some ((-3 : Int32), m9)) else (if 0 ≤ x12 then ((m9.2.2 v0 13).bind fun a13 => ((m9.2.2 v0 13).bind fun a14 => ((m9.2.2 v0 12).bind fun a15 => ((m9.2.2 v0 12).bind fun a16 => (bind2 (n_X9_seekSimplest F s m9 v0 (m9.2.1 a13 0) (m9.2.1 a14 1) (m9.2.1 a15 0) (m9.2.1 a16 1)) fun _ m18 => (nb_X9_simplest_153 F s m18 v0 v5)))))) else ((m9.2.2 v0 12).bind fun a19 => ((m9.2.2 v0 12).bind fun a20 => ((m9.2.2 v0 13).bind fun a21 => ((m9.2.2 v0 13).bind fun a22 => (bind2 (n_X9_seekSimplest F s m9 v0 (m9.2.1 a19 0) (m9.2.1 a20 1) (m9.2.1 a21 0) (m9.2.1 a22 1)) fun _ m24 => (nb_X9_simplest_153 F s m24 v0 v5))))))))))))))))))) else (some ((-2 : Int32), m)))
set_option maxRecDepth 20000 in
theorem u_X9_simplest_0 {F : Nat} {s : List Sh} {m m' : Mem} {r : Int32} {v0 : Nat} {v1 : Int32} {v2 : Int32} {v3 : Int32} {v4 : Int32} {v5 : Int32} (hw : GS s m) (o_v0 : ok s v0 9) (hf : nb_X9_simplest_0 F s m v0 v1 v2 v3 v4 v5 = some (r, m')) : J3 (b_X9_simplest_0 F (bl s m) v0 v1 v2 v3 v4 v5) (r, bl s m') (GS s m') := by
  unfold nb_X9_simplest_0 at hf
  unfold b_X9_simplest_0
  refine k_if hf (fun hf => ?_) (fun hf => ?_)
  · exact k_ret hw hf
  · refine k_if hf (fun hf => ?_) (fun hf => ?_)
    · refine k_cO (ok_o o_v0 (by decide)) ?_
      refine ob2 hf fun x1 m2 ex hf => ?_
      refine k_b2 (un_X9_asksFloor hw o_v0 ex) fun hw => ?_
      refine k_if hf (fun hf => ?_) (fun hf => ?_)
      · exact k_ret hw hf
      · refine k_gR hw (ok_o o_v0 (by decide)) rfl hf fun a3 o_a3 hf => ?_
        refine k_gR hw (ok_o o_v0 (by decide)) rfl hf fun a4 o_a4 hf => ?_
        refine k_gL (ok_o o_a4 (by decide)) rfl ?_
        refine k_gR hw (ok_o o_v0 (by decide)) rfl hf fun a5 o_a5 hf => ?_
        refine k_gL (ok_o o_a5 (by decide)) rfl ?_
        refine k_cO (ok_o o_a3 (by decide)) ?_
        refine ob2 hf fun u m7 ex hf => ?_
        refine k_b2 (un_X2_put hw o_a3 ex) fun hw => ?_
        refine k_cO (ok_o o_v0 (by decide)) ?_
        refine ob2 hf fun x8 m9 ex hf => ?_
        refine k_b2 (un_X9_asksFloor hw o_v0 ex) fun hw => ?_
        refine k_if hf (fun hf => ?_) (fun hf => ?_)
        · exact k_ret hw hf
        · refine k_gR hw (ok_o o_v0 (by decide)) rfl hf fun a10 o_a10 hf => ?_
          refine k_gR hw (ok_o o_v0 (by decide)) rfl hf fun a11 o_a11 hf => ?_
          refine k_cO (ok_o o_a10 (by decide)) ?_
          refine ob hf fun x12 ex hf => ?_
          refine k_b1 (un_X2_compared hw o_a10 o_a11 ex) ?_
          refine k_if hf (fun hf => ?_) (fun hf => ?_)
          · exact k_ret hw hf
          · refine k_if hf (fun hf => ?_) (fun hf => ?_)
            · refine k_gR hw (ok_o o_v0 (by decide)) rfl hf fun a13 o_a13 hf => ?_
              refine k_gL (ok_o o_a13 (by decide)) rfl ?_
              refine k_gR hw (ok_o o_v0 (by decide)) rfl hf fun a14 o_a14 hf => ?_
              refine k_gL (ok_o o_a14 (by decide)) rfl ?_
              refine k_gR hw (ok_o o_v0 (by decide)) rfl hf fun a15 o_a15 hf => ?_
              refine k_gL (ok_o o_a15 (by decide)) rfl ?_
              refine k_gR hw (ok_o o_v0 (by decide)) rfl hf fun a16 o_a16 hf => ?_
              refine k_gL (ok_o o_a16 (by decide)) rfl ?_
              refine k_cO (ok_o o_v0 (by decide)) ?_
              refine ob2 hf fun u m18 ex hf => ?_
              refine k_b2 (un_X9_seekSimplest hw o_v0 ex) fun hw => ?_
              exact u_X9_simplest_153 hw o_v0 hf
            · refine k_gR hw (ok_o o_v0 (by decide)) rfl hf fun a19 o_a19 hf => ?_
              refine k_gL (ok_o o_a19 (by decide)) rfl ?_
              refine k_gR hw (ok_o o_v0 (by decide)) rfl hf fun a20 o_a20 hf => ?_
              refine k_gL (ok_o o_a20 (by decide)) rfl ?_
              refine k_gR hw (ok_o o_v0 (by decide)) rfl hf fun a21 o_a21 hf => ?_
              refine k_gL (ok_o o_a21 (by decide)) rfl ?_
              refine k_gR hw (ok_o o_v0 (by decide)) rfl hf fun a22 o_a22 hf => ?_
              refine k_gL (ok_o o_a22 (by decide)) rfl ?_
              refine k_cO (ok_o o_v0 (by decide)) ?_
              refine ob2 hf fun u m24 ex hf => ?_
              refine k_b2 (un_X9_seekSimplest hw o_v0 ex) fun hw => ?_
              exact u_X9_simplest_153 hw o_v0 hf
    · exact k_ret hw hf
def n_X9_simplest (F : Nat) (s : List Sh) (m : Mem) (p0 : Nat) (p1 : Int32) (p2 : Int32) (p3 : Int32) (p4 : Int32) (p5 : Int32) : Option (Int32 × Mem) := nb_X9_simplest_0 F s m p0 p1 p2 p3 p4 p5
theorem un_X9_simplest {F : Nat} {s : List Sh} {m m' : Mem} {p0 : Nat} {p1 : Int32} {p2 : Int32} {p3 : Int32} {p4 : Int32} {p5 : Int32} {r : Int32} (hw : GS s m) (o_p0 : ok s p0 9) (ex : n_X9_simplest F s m p0 p1 p2 p3 p4 p5 = some (r, m')) : J3 (m_X9_simplest F (bl s m) p0 p1 p2 p3 p4 p5) (r, bl s m') (GS s m') := u_X9_simplest_0 hw o_p0 ex
/-! FractionLift.countBelow(JJI)I over the memory -/
def nb_X9_countBelow_139 (F : Nat) (s : List Sh) (nself37 : Mem → Nat → Int32 → Int32 → Int32 → Option (Int32 × Mem)) (m : Mem) (v0 : Nat) (v5 : Int32) (v6 : Int32) (v7 : Int32) : Option (Int32 × Mem) := bindv (v7 + (1)) fun x1 => (nself37 m v0 v5 v6 x1)
set_option maxRecDepth 20000 in
theorem u_X9_countBelow_139 {F : Nat} {s : List Sh} {self37 : PH → Nat → Int32 → Int32 → Int32 → Option (Int32 × PH)} {nself37 : Mem → Nat → Int32 → Int32 → Int32 → Option (Int32 × Mem)} {m m' : Mem} {r : Int32} {v0 : Nat} {v5 : Int32} {v6 : Int32} {v7 : Int32} (hw : GS s m) (o_v0 : ok s v0 9) (ih37 : ∀ (m : Mem) (v0 : Nat) (v5 : Int32) (v6 : Int32) (v7 : Int32), GS s m → ok s v0 9 → nself37 m v0 v5 v6 v7 = some (r, m') → J3 (self37 (bl s m) v0 v5 v6 v7) (r, bl s m') (GS s m')) (hf : nb_X9_countBelow_139 F s nself37 m v0 v5 v6 v7 = some (r, m')) : J3 (b_X9_countBelow_139 F self37 (bl s m) v0 v5 v6 v7) (r, bl s m') (GS s m') := by
  unfold nb_X9_countBelow_139 at hf
  unfold b_X9_countBelow_139
  refine k_bv hf fun x1 hf => ?_
  exact ih37 _ _ _ _ _ hw o_v0 hf
def nb_X9_countBelow_95 (F : Nat) (s : List Sh) (nself37 : Mem → Nat → Int32 → Int32 → Int32 → Option (Int32 × Mem)) (nself56 : Mem → Nat → Int32 → Int32 → Int32 → Int32 → Option (Int32 × Mem)) (m : Mem) (v0 : Nat) (v5 : Int32) (v6 : Int32) (v7 : Int32) (v8 : Int32) : Option (Int32 × Mem) := if v5 < v8 then (nb_X9_countBelow_139 F s nself37 m v0 v5 v6 v7) else ((m.2.2 v0 15).bind fun a1 => (if ((Int32.ofNat (ln s a1))) ≤ v8 then (nb_X9_countBelow_139 F s nself37 m v0 v5 v6 v7) else ((m.2.2 v0 15).bind fun a2 => ((rdI s m a2 v8).bind fun x3 => ((m.2.2 v0 15).bind fun a4 => ((rdI s m a4 v7).bind fun x5 => ((stI s m a2 v8 (x3 - x5)).bind fun m6 => (bindv (v8 + v7) fun x7 => (nself56 m6 v0 v5 v6 v7 x7)))))))))
set_option maxRecDepth 20000 in
theorem ub_X9_countBelow_95 {F : Nat} {s : List Sh} {self37 : PH → Nat → Int32 → Int32 → Int32 → Option (Int32 × PH)} {nself37 : Mem → Nat → Int32 → Int32 → Int32 → Option (Int32 × Mem)} {self56 : PH → Nat → Int32 → Int32 → Int32 → Int32 → Option (Int32 × PH)} {nself56 : Mem → Nat → Int32 → Int32 → Int32 → Int32 → Option (Int32 × Mem)} {m m' : Mem} {r : Int32} {v0 : Nat} {v5 : Int32} {v6 : Int32} {v7 : Int32} {v8 : Int32} (hw : GS s m) (o_v0 : ok s v0 9) (ih37 : ∀ (m : Mem) (v0 : Nat) (v5 : Int32) (v6 : Int32) (v7 : Int32), GS s m → ok s v0 9 → nself37 m v0 v5 v6 v7 = some (r, m') → J3 (self37 (bl s m) v0 v5 v6 v7) (r, bl s m') (GS s m')) (ih56 : ∀ (m : Mem) (v0 : Nat) (v5 : Int32) (v6 : Int32) (v7 : Int32) (v8 : Int32), GS s m → ok s v0 9 → nself56 m v0 v5 v6 v7 v8 = some (r, m') → J3 (self56 (bl s m) v0 v5 v6 v7 v8) (r, bl s m') (GS s m')) (hf : nb_X9_countBelow_95 F s nself37 nself56 m v0 v5 v6 v7 v8 = some (r, m')) : J3 (b_X9_countBelow_95 F self37 self56 (bl s m) v0 v5 v6 v7 v8) (r, bl s m') (GS s m') := by
  unfold nb_X9_countBelow_95 at hf
  unfold b_X9_countBelow_95
  refine k_if hf (fun hf => ?_) (fun hf => ?_)
  · exact u_X9_countBelow_139 hw o_v0 ih37 hf
  · refine k_gR hw (ok_o o_v0 (by decide)) rfl hf fun a1 o_a1 hf => ?_
    refine k_len (t := 0) (by decide) (ka rfl o_a1) ?_
    refine k_if hf (fun hf => ?_) (fun hf => ?_)
    · exact u_X9_countBelow_139 hw o_v0 ih37 hf
    · refine k_gR hw (ok_o o_v0 (by decide)) rfl hf fun a2 o_a2 hf => ?_
      refine k_aI (Or.inl rfl) (ka rfl o_a2) hf fun x3 hf => ?_
      refine k_gR hw (ok_o o_v0 (by decide)) rfl hf fun a4 o_a4 hf => ?_
      refine k_aI (Or.inl rfl) (ka rfl o_a4) hf fun x5 hf => ?_
      refine k_sI hw (ka rfl o_a2) hf fun m6 hw hf => ?_
      refine k_bv hf fun x7 hf => ?_
      exact ih56 _ _ _ _ _ _ hw o_v0 hf
def nl_X9_countBelow_95 (F : Nat) (s : List Sh) (nself37 : Mem → Nat → Int32 → Int32 → Int32 → Option (Int32 × Mem)) : Nat → Mem → Nat → Int32 → Int32 → Int32 → Int32 → Option (Int32 × Mem)
  | 0 => fun _ _ _ _ _ _ => none
  | n + 1 => fun m v0 v5 v6 v7 v8 => nb_X9_countBelow_95 F s nself37 (nl_X9_countBelow_95 F s nself37 n) m v0 v5 v6 v7 v8
theorem ul_X9_countBelow_95 {F : Nat} {s : List Sh} {self37 : PH → Nat → Int32 → Int32 → Int32 → Option (Int32 × PH)} {nself37 : Mem → Nat → Int32 → Int32 → Int32 → Option (Int32 × Mem)} {m' : Mem} {r : Int32} (ih37 : ∀ (m : Mem) (v0 : Nat) (v5 : Int32) (v6 : Int32) (v7 : Int32), GS s m → ok s v0 9 → nself37 m v0 v5 v6 v7 = some (r, m') → J3 (self37 (bl s m) v0 v5 v6 v7) (r, bl s m') (GS s m')) (n : Nat) : ∀ (m : Mem) (v0 : Nat) (v5 : Int32) (v6 : Int32) (v7 : Int32) (v8 : Int32), GS s m → ok s v0 9 → nl_X9_countBelow_95 F s nself37 n m v0 v5 v6 v7 v8 = some (r, m') → J3 (l_X9_countBelow_95 F self37 n (bl s m) v0 v5 v6 v7 v8) (r, bl s m') (GS s m') := by
  induction n with
  | zero => intro m v0 v5 v6 v7 v8 hw o_v0 hf; cases hf
  | succ n ih => intro m v0 v5 v6 v7 v8 hw o_v0 hf; exact ub_X9_countBelow_95 (F := F) hw o_v0 ih37 ih hf
def nb_X9_countBelow_60 (F : Nat) (s : List Sh) (nself37 : Mem → Nat → Int32 → Int32 → Int32 → Option (Int32 × Mem)) (m : Mem) (v0 : Nat) (v5 : Int32) (v6 : Int32) (v7 : Int32) : Option (Int32 × Mem) := if v5 < v7 then (some (v6, m)) else ((m.2.2 v0 15).bind fun a1 => (if ((Int32.ofNat (ln s a1))) ≤ v7 then (some (v6, m)) else ((m.2.2 v0 15).bind fun a2 => ((rdI s m a2 v7).bind fun x3 => (bindv (v6 + x3) fun x4 => (bindv (((2 : Int32) * v7)) fun x5 => (nl_X9_countBelow_95 F s nself37 F m v0 v5 x4 v7 x5)))))))
set_option maxRecDepth 20000 in
theorem ub_X9_countBelow_60 {F : Nat} {s : List Sh} {self37 : PH → Nat → Int32 → Int32 → Int32 → Option (Int32 × PH)} {nself37 : Mem → Nat → Int32 → Int32 → Int32 → Option (Int32 × Mem)} {m m' : Mem} {r : Int32} {v0 : Nat} {v5 : Int32} {v6 : Int32} {v7 : Int32} (hw : GS s m) (o_v0 : ok s v0 9) (ih37 : ∀ (m : Mem) (v0 : Nat) (v5 : Int32) (v6 : Int32) (v7 : Int32), GS s m → ok s v0 9 → nself37 m v0 v5 v6 v7 = some (r, m') → J3 (self37 (bl s m) v0 v5 v6 v7) (r, bl s m') (GS s m')) (hf : nb_X9_countBelow_60 F s nself37 m v0 v5 v6 v7 = some (r, m')) : J3 (b_X9_countBelow_60 F self37 (bl s m) v0 v5 v6 v7) (r, bl s m') (GS s m') := by
  unfold nb_X9_countBelow_60 at hf
  unfold b_X9_countBelow_60
  refine k_if hf (fun hf => ?_) (fun hf => ?_)
  · exact k_ret hw hf
  · refine k_gR hw (ok_o o_v0 (by decide)) rfl hf fun a1 o_a1 hf => ?_
    refine k_len (t := 0) (by decide) (ka rfl o_a1) ?_
    refine k_if hf (fun hf => ?_) (fun hf => ?_)
    · exact k_ret hw hf
    · refine k_gR hw (ok_o o_v0 (by decide)) rfl hf fun a2 o_a2 hf => ?_
      refine k_aI (Or.inl rfl) (ka rfl o_a2) hf fun x3 hf => ?_
      refine k_bv hf fun x4 hf => ?_
      refine k_bv hf fun x5 hf => ?_
      exact ul_X9_countBelow_95 ih37 F _ _ _ _ _ _ hw o_v0 hf
def nl_X9_countBelow_60 (F : Nat) (s : List Sh) : Nat → Mem → Nat → Int32 → Int32 → Int32 → Option (Int32 × Mem)
  | 0 => fun _ _ _ _ _ => none
  | n + 1 => fun m v0 v5 v6 v7 => nb_X9_countBelow_60 F s (nl_X9_countBelow_60 F s n) m v0 v5 v6 v7
theorem ul_X9_countBelow_60 {F : Nat} {s : List Sh} {m' : Mem} {r : Int32} (n : Nat) : ∀ (m : Mem) (v0 : Nat) (v5 : Int32) (v6 : Int32) (v7 : Int32), GS s m → ok s v0 9 → nl_X9_countBelow_60 F s n m v0 v5 v6 v7 = some (r, m') → J3 (l_X9_countBelow_60 F n (bl s m) v0 v5 v6 v7) (r, bl s m') (GS s m') := by
  induction n with
  | zero => intro m v0 v5 v6 v7 hw o_v0 hf; cases hf
  | succ n ih => intro m v0 v5 v6 v7 hw o_v0 hf; exact ub_X9_countBelow_60 (F := F) hw o_v0 ih hf
def nb_X9_countBelow_57 (F : Nat) (s : List Sh) (m : Mem) (v0 : Nat) (v5 : Int32) (v6 : Int32) : Option (Int32 × Mem) := nl_X9_countBelow_60 F s F m v0 v5 v6 (1 : Int32)
set_option maxRecDepth 20000 in
theorem u_X9_countBelow_57 {F : Nat} {s : List Sh} {m m' : Mem} {r : Int32} {v0 : Nat} {v5 : Int32} {v6 : Int32} (hw : GS s m) (o_v0 : ok s v0 9) (hf : nb_X9_countBelow_57 F s m v0 v5 v6 = some (r, m')) : J3 (b_X9_countBelow_57 F (bl s m) v0 v5 v6) (r, bl s m') (GS s m') := by
  unfold nb_X9_countBelow_57 at hf
  unfold b_X9_countBelow_57
  exact ul_X9_countBelow_60 F _ _ _ _ _ hw o_v0 hf
def nb_X9_countBelow_15 (F : Nat) (s : List Sh) (nself10 : Mem → Nat → Int64 → Int64 → Int32 → Int32 → Int32 → Option (Int32 × Mem)) (m : Mem) (v0 : Nat) (v1 : Int64) (v3 : Int64) (v5 : Int32) (v6 : Int32) (v7 : Int32) : Option (Int32 × Mem) := if v5 < v7 then (nb_X9_countBelow_57 F s m v0 v5 v6) else ((m.2.2 v0 15).bind fun a1 => (if ((Int32.ofNat (ln s a1))) ≤ v7 then (nb_X9_countBelow_57 F s m v0 v5 v6) else ((m.2.2 v0 15).bind fun a2 => (if v3 = 0 then none else ((stI s m a2 v7 ((Int64.toInt32 ((((((((v1 * (Int32.toInt64 v7))) + v3)) - (1 : Int64))) / v3))))).bind fun m3 => (bindv (v7 + (1)) fun x4 => (nself10 m3 v0 v1 v3 v5 v6 x4)))))))
set_option maxRecDepth 20000 in
theorem ub_X9_countBelow_15 {F : Nat} {s : List Sh} {self10 : PH → Nat → Int64 → Int64 → Int32 → Int32 → Int32 → Option (Int32 × PH)} {nself10 : Mem → Nat → Int64 → Int64 → Int32 → Int32 → Int32 → Option (Int32 × Mem)} {m m' : Mem} {r : Int32} {v0 : Nat} {v1 : Int64} {v3 : Int64} {v5 : Int32} {v6 : Int32} {v7 : Int32} (hw : GS s m) (o_v0 : ok s v0 9) (ih10 : ∀ (m : Mem) (v0 : Nat) (v1 : Int64) (v3 : Int64) (v5 : Int32) (v6 : Int32) (v7 : Int32), GS s m → ok s v0 9 → nself10 m v0 v1 v3 v5 v6 v7 = some (r, m') → J3 (self10 (bl s m) v0 v1 v3 v5 v6 v7) (r, bl s m') (GS s m')) (hf : nb_X9_countBelow_15 F s nself10 m v0 v1 v3 v5 v6 v7 = some (r, m')) : J3 (b_X9_countBelow_15 F self10 (bl s m) v0 v1 v3 v5 v6 v7) (r, bl s m') (GS s m') := by
  unfold nb_X9_countBelow_15 at hf
  unfold b_X9_countBelow_15
  refine k_if hf (fun hf => ?_) (fun hf => ?_)
  · exact u_X9_countBelow_57 hw o_v0 hf
  · refine k_gR hw (ok_o o_v0 (by decide)) rfl hf fun a1 o_a1 hf => ?_
    refine k_len (t := 0) (by decide) (ka rfl o_a1) ?_
    refine k_if hf (fun hf => ?_) (fun hf => ?_)
    · exact u_X9_countBelow_57 hw o_v0 hf
    · refine k_gR hw (ok_o o_v0 (by decide)) rfl hf fun a2 o_a2 hf => ?_
      refine k_if hf (fun hf => by cases hf) (fun hf => ?_)
      refine k_sI hw (ka rfl o_a2) hf fun m3 hw hf => ?_
      refine k_bv hf fun x4 hf => ?_
      exact ih10 _ _ _ _ _ _ _ hw o_v0 hf
def nl_X9_countBelow_15 (F : Nat) (s : List Sh) : Nat → Mem → Nat → Int64 → Int64 → Int32 → Int32 → Int32 → Option (Int32 × Mem)
  | 0 => fun _ _ _ _ _ _ _ => none
  | n + 1 => fun m v0 v1 v3 v5 v6 v7 => nb_X9_countBelow_15 F s (nl_X9_countBelow_15 F s n) m v0 v1 v3 v5 v6 v7
theorem ul_X9_countBelow_15 {F : Nat} {s : List Sh} {m' : Mem} {r : Int32} (n : Nat) : ∀ (m : Mem) (v0 : Nat) (v1 : Int64) (v3 : Int64) (v5 : Int32) (v6 : Int32) (v7 : Int32), GS s m → ok s v0 9 → nl_X9_countBelow_15 F s n m v0 v1 v3 v5 v6 v7 = some (r, m') → J3 (l_X9_countBelow_15 F n (bl s m) v0 v1 v3 v5 v6 v7) (r, bl s m') (GS s m') := by
  induction n with
  | zero => intro m v0 v1 v3 v5 v6 v7 hw o_v0 hf; cases hf
  | succ n ih => intro m v0 v1 v3 v5 v6 v7 hw o_v0 hf; exact ub_X9_countBelow_15 (F := F) hw o_v0 ih hf
def nb_X9_countBelow_0 (F : Nat) (s : List Sh) (m : Mem) (v0 : Nat) (v1 : Int64) (v3 : Int64) (v5 : Int32) : Option (Int32 × Mem) := if (1 : Int64) ≤ v3 then (nl_X9_countBelow_15 F s F m v0 v1 v3 v5 (0 : Int32) (1 : Int32)) else (some ((0 : Int32), m))
set_option maxRecDepth 20000 in
theorem u_X9_countBelow_0 {F : Nat} {s : List Sh} {m m' : Mem} {r : Int32} {v0 : Nat} {v1 : Int64} {v3 : Int64} {v5 : Int32} (hw : GS s m) (o_v0 : ok s v0 9) (hf : nb_X9_countBelow_0 F s m v0 v1 v3 v5 = some (r, m')) : J3 (b_X9_countBelow_0 F (bl s m) v0 v1 v3 v5) (r, bl s m') (GS s m') := by
  unfold nb_X9_countBelow_0 at hf
  unfold b_X9_countBelow_0
  refine k_if hf (fun hf => ?_) (fun hf => ?_)
  · exact ul_X9_countBelow_15 F _ _ _ _ _ _ _ hw o_v0 hf
  · exact k_ret hw hf
def n_X9_countBelow (F : Nat) (s : List Sh) (m : Mem) (p0 : Nat) (p1 : Int64) (p3 : Int64) (p5 : Int32) : Option (Int32 × Mem) := nb_X9_countBelow_0 F s m p0 p1 p3 p5
theorem un_X9_countBelow {F : Nat} {s : List Sh} {m m' : Mem} {p0 : Nat} {p1 : Int64} {p3 : Int64} {p5 : Int32} {r : Int32} (hw : GS s m) (o_p0 : ok s p0 9) (ex : n_X9_countBelow F s m p0 p1 p3 p5 = some (r, m')) : J3 (m_X9_countBelow F (bl s m) p0 p1 p3 p5) (r, bl s m') (GS s m') := u_X9_countBelow_0 hw o_p0 ex
/-! FractionLift.floors(I)I over the memory -/
def nb_X9_floors_0 (F : Nat) (s : List Sh) (m : Mem) (v0 : Nat) (v1 : Int32) : Option (Int32 × Mem) := if v1 < (1 : Int32) then (some ((-3 : Int32), m)) else (if v1 ≤ (200 : Int32) then ((m.2.2 v0 4).bind fun a1 => (bind2 (n_X9_countBelow F s m v0 ((Int32.toInt64 (m.1 a1 0))) (1 : Int64) v1) fun x2 m3 => (some (((x2 + (1 : Int32))), m3)))) else (some ((-3 : Int32), m)))
set_option maxRecDepth 20000 in
theorem u_X9_floors_0 {F : Nat} {s : List Sh} {m m' : Mem} {r : Int32} {v0 : Nat} {v1 : Int32} (hw : GS s m) (o_v0 : ok s v0 9) (hf : nb_X9_floors_0 F s m v0 v1 = some (r, m')) : J3 (b_X9_floors_0 F (bl s m) v0 v1) (r, bl s m') (GS s m') := by
  unfold nb_X9_floors_0 at hf
  unfold b_X9_floors_0
  refine k_if hf (fun hf => ?_) (fun hf => ?_)
  · exact k_ret hw hf
  · refine k_if hf (fun hf => ?_) (fun hf => ?_)
    · refine k_gR hw (ok_o o_v0 (by decide)) rfl hf fun a1 o_a1 hf => ?_
      refine k_gI (ok_o o_a1 (by decide)) rfl ?_
      refine k_cO (ok_o o_v0 (by decide)) ?_
      refine ob2 hf fun x2 m3 ex hf => ?_
      refine k_b2 (un_X9_countBelow hw o_v0 ex) fun hw => ?_
      exact k_ret hw hf
    · exact k_ret hw hf
def n_X9_floors (F : Nat) (s : List Sh) (m : Mem) (p0 : Nat) (p1 : Int32) : Option (Int32 × Mem) := nb_X9_floors_0 F s m p0 p1
theorem un_X9_floors {F : Nat} {s : List Sh} {m m' : Mem} {p0 : Nat} {p1 : Int32} {r : Int32} (hw : GS s m) (o_p0 : ok s p0 9) (ex : n_X9_floors F s m p0 p1 = some (r, m')) : J3 (m_X9_floors F (bl s m) p0 p1) (r, bl s m') (GS s m') := u_X9_floors_0 hw o_p0 ex
/-! FractionLift.rank(III)I over the memory -/
def nb_X9_rank_0 (F : Nat) (s : List Sh) (m : Mem) (v0 : Nat) (v1 : Int32) (v2 : Int32) (v3 : Int32) : Option (Int32 × Mem) := if v3 < (1 : Int32) then (some ((-3 : Int32), m)) else (if (200 : Int32) < v3 then (some ((-3 : Int32), m)) else (bind2 (n_X9_asksFloor F s m v0 v1 v2) fun x1 m2 => (if x1 = 0 then (some ((-3 : Int32), m2)) else ((m2.2.2 v0 12).bind fun a3 => ((m2.2.2 v0 12).bind fun a4 => (bind2 (n_X9_countBelow F s m2 v0 (m2.2.1 a3 0) (m2.2.1 a4 1) v3) fun x5 m6 => (some (x5, m6))))))))
set_option maxRecDepth 20000 in
theorem u_X9_rank_0 {F : Nat} {s : List Sh} {m m' : Mem} {r : Int32} {v0 : Nat} {v1 : Int32} {v2 : Int32} {v3 : Int32} (hw : GS s m) (o_v0 : ok s v0 9) (hf : nb_X9_rank_0 F s m v0 v1 v2 v3 = some (r, m')) : J3 (b_X9_rank_0 F (bl s m) v0 v1 v2 v3) (r, bl s m') (GS s m') := by
  unfold nb_X9_rank_0 at hf
  unfold b_X9_rank_0
  refine k_if hf (fun hf => ?_) (fun hf => ?_)
  · exact k_ret hw hf
  · refine k_if hf (fun hf => ?_) (fun hf => ?_)
    · exact k_ret hw hf
    · refine k_cO (ok_o o_v0 (by decide)) ?_
      refine ob2 hf fun x1 m2 ex hf => ?_
      refine k_b2 (un_X9_asksFloor hw o_v0 ex) fun hw => ?_
      refine k_if hf (fun hf => ?_) (fun hf => ?_)
      · exact k_ret hw hf
      · refine k_gR hw (ok_o o_v0 (by decide)) rfl hf fun a3 o_a3 hf => ?_
        refine k_gL (ok_o o_a3 (by decide)) rfl ?_
        refine k_gR hw (ok_o o_v0 (by decide)) rfl hf fun a4 o_a4 hf => ?_
        refine k_gL (ok_o o_a4 (by decide)) rfl ?_
        refine k_cO (ok_o o_v0 (by decide)) ?_
        refine ob2 hf fun x5 m6 ex hf => ?_
        refine k_b2 (un_X9_countBelow hw o_v0 ex) fun hw => ?_
        exact k_ret hw hf
def n_X9_rank (F : Nat) (s : List Sh) (m : Mem) (p0 : Nat) (p1 : Int32) (p2 : Int32) (p3 : Int32) : Option (Int32 × Mem) := nb_X9_rank_0 F s m p0 p1 p2 p3
theorem un_X9_rank {F : Nat} {s : List Sh} {m m' : Mem} {p0 : Nat} {p1 : Int32} {p2 : Int32} {p3 : Int32} {r : Int32} (hw : GS s m) (o_p0 : ok s p0 9) (ex : n_X9_rank F s m p0 p1 p2 p3 = some (r, m')) : J3 (m_X9_rank F (bl s m) p0 p1 p2 p3) (r, bl s m') (GS s m') := u_X9_rank_0 hw o_p0 ex
/-! FractionLift.layParts()I over the memory -/
def nb_X9_layParts_41 (F : Nat) (s : List Sh) (nself21 : Mem → Nat → Int32 → Int32 → Option (Int32 × Mem)) (m : Mem) (v0 : Nat) (v1 : Int32) (v2 : Int32) : Option (Int32 × Mem) := (m.2.2 v0 14).bind fun a1 => (if ((Int32.ofNat (ln s a1))) ≤ v2 then (some (v1, m)) else ((m.2.2 v0 13).bind fun a2 => (if (m.2.1 a2 0) ≤ (0 : Int64) then (some (v1, m)) else ((m.2.2 v0 13).bind fun a3 => ((m.2.2 v0 13).bind fun a4 => ((m.2.2 v0 13).bind fun a5 => (if (m.2.1 a5 0) = 0 then none else (bindv (((((((m.2.1 a3 1) + (m.2.1 a4 0))) - (1 : Int64))) / (m.2.1 a5 0))) fun x6 => (if x6 ≤ (1000000000 : Int64) then ((m.2.2 v0 14).bind fun a7 => ((stL s m a7 v2 x6).bind fun m8 => (bindv (v1 + (1)) fun x9 => ((m8.2.2 v0 13).bind fun a10 => ((m8.2.2 v0 13).bind fun a11 => ((m8.2.2 v0 13).bind fun a12 => ((m8.2.2 v0 13).bind fun a13 => (bind2 (n_X2_put F s m8 a10 (((((m8.2.1 a11 0) * x6)) - (m8.2.1 a12 1))) (((m8.2.1 a13 1) * x6))) fun _ m15 => ((m15.2.2 v0 13).bind fun a16 => (if (m15.2.1 a16 1) ≤ (1000000000 : Int64) then (bindv (v2 + (1)) fun x17 => (nself21 m15 v0 x9 x17)) else (some ((-4 : Int32), m15)))))))))))) else (some ((-4 : Int32), m)))))))))))
set_option maxRecDepth 20000 in
theorem ub_X9_layParts_41 {F : Nat} {s : List Sh} {self21 : PH → Nat → Int32 → Int32 → Option (Int32 × PH)} {nself21 : Mem → Nat → Int32 → Int32 → Option (Int32 × Mem)} {m m' : Mem} {r : Int32} {v0 : Nat} {v1 : Int32} {v2 : Int32} (hw : GS s m) (o_v0 : ok s v0 9) (ih21 : ∀ (m : Mem) (v0 : Nat) (v1 : Int32) (v2 : Int32), GS s m → ok s v0 9 → nself21 m v0 v1 v2 = some (r, m') → J3 (self21 (bl s m) v0 v1 v2) (r, bl s m') (GS s m')) (hf : nb_X9_layParts_41 F s nself21 m v0 v1 v2 = some (r, m')) : J3 (b_X9_layParts_41 F self21 (bl s m) v0 v1 v2) (r, bl s m') (GS s m') := by
  unfold nb_X9_layParts_41 at hf
  unfold b_X9_layParts_41
  refine k_gR hw (ok_o o_v0 (by decide)) rfl hf fun a1 o_a1 hf => ?_
  refine k_len (t := 1) (by decide) (ka rfl o_a1) ?_
  refine k_if hf (fun hf => ?_) (fun hf => ?_)
  · exact k_ret hw hf
  · refine k_gR hw (ok_o o_v0 (by decide)) rfl hf fun a2 o_a2 hf => ?_
    refine k_gL (ok_o o_a2 (by decide)) rfl ?_
    refine k_if hf (fun hf => ?_) (fun hf => ?_)
    · exact k_ret hw hf
    · refine k_gR hw (ok_o o_v0 (by decide)) rfl hf fun a3 o_a3 hf => ?_
      refine k_gL (ok_o o_a3 (by decide)) rfl ?_
      refine k_gR hw (ok_o o_v0 (by decide)) rfl hf fun a4 o_a4 hf => ?_
      refine k_gL (ok_o o_a4 (by decide)) rfl ?_
      refine k_gR hw (ok_o o_v0 (by decide)) rfl hf fun a5 o_a5 hf => ?_
      refine k_gL (ok_o o_a5 (by decide)) rfl ?_
      refine k_if hf (fun hf => by cases hf) (fun hf => ?_)
      refine k_bv hf fun x6 hf => ?_
      refine k_if hf (fun hf => ?_) (fun hf => ?_)
      · refine k_gR hw (ok_o o_v0 (by decide)) rfl hf fun a7 o_a7 hf => ?_
        refine k_sL hw (ka rfl o_a7) hf fun m8 hw hf => ?_
        refine k_bv hf fun x9 hf => ?_
        refine k_gR hw (ok_o o_v0 (by decide)) rfl hf fun a10 o_a10 hf => ?_
        refine k_gR hw (ok_o o_v0 (by decide)) rfl hf fun a11 o_a11 hf => ?_
        refine k_gL (ok_o o_a11 (by decide)) rfl ?_
        refine k_gR hw (ok_o o_v0 (by decide)) rfl hf fun a12 o_a12 hf => ?_
        refine k_gL (ok_o o_a12 (by decide)) rfl ?_
        refine k_gR hw (ok_o o_v0 (by decide)) rfl hf fun a13 o_a13 hf => ?_
        refine k_gL (ok_o o_a13 (by decide)) rfl ?_
        refine k_cO (ok_o o_a10 (by decide)) ?_
        refine ob2 hf fun u m15 ex hf => ?_
        refine k_b2 (un_X2_put hw o_a10 ex) fun hw => ?_
        refine k_gR hw (ok_o o_v0 (by decide)) rfl hf fun a16 o_a16 hf => ?_
        refine k_gL (ok_o o_a16 (by decide)) rfl ?_
        refine k_if hf (fun hf => ?_) (fun hf => ?_)
        · refine k_bv hf fun x17 hf => ?_
          exact ih21 _ _ _ _ hw o_v0 hf
        · exact k_ret hw hf
      · exact k_ret hw hf
def nl_X9_layParts_41 (F : Nat) (s : List Sh) : Nat → Mem → Nat → Int32 → Int32 → Option (Int32 × Mem)
  | 0 => fun _ _ _ _ => none
  | n + 1 => fun m v0 v1 v2 => nb_X9_layParts_41 F s (nl_X9_layParts_41 F s n) m v0 v1 v2
theorem ul_X9_layParts_41 {F : Nat} {s : List Sh} {m' : Mem} {r : Int32} (n : Nat) : ∀ (m : Mem) (v0 : Nat) (v1 : Int32) (v2 : Int32), GS s m → ok s v0 9 → nl_X9_layParts_41 F s n m v0 v1 v2 = some (r, m') → J3 (l_X9_layParts_41 F n (bl s m) v0 v1 v2) (r, bl s m') (GS s m') := by
  induction n with
  | zero => intro m v0 v1 v2 hw o_v0 hf; cases hf
  | succ n ih => intro m v0 v1 v2 hw o_v0 hf; exact ub_X9_layParts_41 (F := F) hw o_v0 ih hf
def nb_X9_layParts_0 (F : Nat) (s : List Sh) (m : Mem) (v0 : Nat) : Option (Int32 × Mem) := (m.2.2 v0 13).bind fun a1 => ((m.2.2 v0 12).bind fun a2 => ((m.2.2 v0 12).bind fun a3 => ((n_X2_whole s m a3).bind fun x4 => ((m.2.2 v0 12).bind fun a5 => ((m.2.2 v0 12).bind fun a6 => (bind2 (n_X2_put F s m a1 (((m.2.1 a2 0) - ((x4 * (m.2.1 a5 1))))) (m.2.1 a6 1)) fun _ m8 => (nl_X9_layParts_41 F s F m8 v0 (0 : Int32) (0 : Int32))))))))
set_option maxRecDepth 20000 in
theorem u_X9_layParts_0 {F : Nat} {s : List Sh} {m m' : Mem} {r : Int32} {v0 : Nat} (hw : GS s m) (o_v0 : ok s v0 9) (hf : nb_X9_layParts_0 F s m v0 = some (r, m')) : J3 (b_X9_layParts_0 F (bl s m) v0) (r, bl s m') (GS s m') := by
  unfold nb_X9_layParts_0 at hf
  unfold b_X9_layParts_0
  refine k_gR hw (ok_o o_v0 (by decide)) rfl hf fun a1 o_a1 hf => ?_
  refine k_gR hw (ok_o o_v0 (by decide)) rfl hf fun a2 o_a2 hf => ?_
  refine k_gL (ok_o o_a2 (by decide)) rfl ?_
  refine k_gR hw (ok_o o_v0 (by decide)) rfl hf fun a3 o_a3 hf => ?_
  refine k_cO (ok_o o_a3 (by decide)) ?_
  refine ob hf fun x4 ex hf => ?_
  refine k_b1 (un_X2_whole hw o_a3 ex) ?_
  refine k_gR hw (ok_o o_v0 (by decide)) rfl hf fun a5 o_a5 hf => ?_
  refine k_gL (ok_o o_a5 (by decide)) rfl ?_
  refine k_gR hw (ok_o o_v0 (by decide)) rfl hf fun a6 o_a6 hf => ?_
  refine k_gL (ok_o o_a6 (by decide)) rfl ?_
  refine k_cO (ok_o o_a1 (by decide)) ?_
  refine ob2 hf fun u m8 ex hf => ?_
  refine k_b2 (un_X2_put hw o_a1 ex) fun hw => ?_
  exact ul_X9_layParts_41 F _ _ _ _ hw o_v0 hf
def n_X9_layParts (F : Nat) (s : List Sh) (m : Mem) (p0 : Nat) : Option (Int32 × Mem) := nb_X9_layParts_0 F s m p0
theorem un_X9_layParts {F : Nat} {s : List Sh} {m m' : Mem} {p0 : Nat} {r : Int32} (hw : GS s m) (o_p0 : ok s p0 9) (ex : n_X9_layParts F s m p0 = some (r, m')) : J3 (m_X9_layParts F (bl s m) p0) (r, bl s m') (GS s m') := u_X9_layParts_0 hw o_p0 ex
/-! FractionLift.parts(III)I over the memory -/
def nb_X9_parts_0 (F : Nat) (s : List Sh) (m : Mem) (v0 : Nat) (v1 : Int32) (v2 : Int32) (v3 : Int32) : Option (Int32 × Mem) := bind2 (n_X9_asksFloor F s m v0 v1 v2) fun x1 m2 => (if x1 = 0 then (some ((-3 : Int32), m2)) else (bind2 (n_X9_layParts F s m2 v0) fun x3 m4 => (if x3 < 0 then (some (x3, m4)) else (if v3 = (-1 : Int32) then (some (x3, m4)) else (if v3 < 0 then (some ((-1 : Int32), m4)) else (if x3 ≤ v3 then (some ((-1 : Int32), m4)) else ((m4.2.2 v0 14).bind fun a5 => ((rdL s m4 a5 v3).bind fun x6 => (some ((Int64.toInt32 x6), m4))))))))))
set_option maxRecDepth 20000 in
theorem u_X9_parts_0 {F : Nat} {s : List Sh} {m m' : Mem} {r : Int32} {v0 : Nat} {v1 : Int32} {v2 : Int32} {v3 : Int32} (hw : GS s m) (o_v0 : ok s v0 9) (hf : nb_X9_parts_0 F s m v0 v1 v2 v3 = some (r, m')) : J3 (b_X9_parts_0 F (bl s m) v0 v1 v2 v3) (r, bl s m') (GS s m') := by
  unfold nb_X9_parts_0 at hf
  unfold b_X9_parts_0
  refine k_cO (ok_o o_v0 (by decide)) ?_
  refine ob2 hf fun x1 m2 ex hf => ?_
  refine k_b2 (un_X9_asksFloor hw o_v0 ex) fun hw => ?_
  refine k_if hf (fun hf => ?_) (fun hf => ?_)
  · exact k_ret hw hf
  · refine k_cO (ok_o o_v0 (by decide)) ?_
    refine ob2 hf fun x3 m4 ex hf => ?_
    refine k_b2 (un_X9_layParts hw o_v0 ex) fun hw => ?_
    refine k_if hf (fun hf => ?_) (fun hf => ?_)
    · exact k_ret hw hf
    · refine k_if hf (fun hf => ?_) (fun hf => ?_)
      · exact k_ret hw hf
      · refine k_if hf (fun hf => ?_) (fun hf => ?_)
        · exact k_ret hw hf
        · refine k_if hf (fun hf => ?_) (fun hf => ?_)
          · exact k_ret hw hf
          · refine k_gR hw (ok_o o_v0 (by decide)) rfl hf fun a5 o_a5 hf => ?_
            refine k_aL (ka rfl o_a5) hf fun x6 hf => ?_
            exact k_ret hw hf
def n_X9_parts (F : Nat) (s : List Sh) (m : Mem) (p0 : Nat) (p1 : Int32) (p2 : Int32) (p3 : Int32) : Option (Int32 × Mem) := nb_X9_parts_0 F s m p0 p1 p2 p3
theorem un_X9_parts {F : Nat} {s : List Sh} {m m' : Mem} {p0 : Nat} {p1 : Int32} {p2 : Int32} {p3 : Int32} {r : Int32} (hw : GS s m) (o_p0 : ok s p0 9) (ex : n_X9_parts F s m p0 p1 p2 p3 = some (r, m')) : J3 (m_X9_parts F (bl s m) p0 p1 p2 p3) (r, bl s m') (GS s m') := u_X9_parts_0 hw o_p0 ex
/-! FractionLift.rent(II)J over the memory -/
def nb_X9_rent_0 (F : Nat) (s : List Sh) (m : Mem) (v0 : Nat) (v1 : Int32) (v2 : Int32) : Option (Int64 × Mem) := if v1 < 0 then (some ((-2 : Int64), m)) else ((m.2.2 v0 4).bind fun a1 => (if (m.1 a1 15) ≤ v1 then (some ((-2 : Int64), m)) else (if v2 < 0 then (some ((-2 : Int64), m)) else (if v2 ≤ (1 : Int32) then ((m.2.2 v0 4).bind fun a2 => ((m.2.2 v0 13).bind fun a3 => (bind2 (n_X0_rentOf F s m a2 v1 a3) fun _ m5 => ((m5.2.2 v0 13).bind fun a6 => ((n_X2_part s m5 a6 v2).bind fun x7 => (some (x7, m5))))))) else (some ((-2 : Int64), m))))))
set_option maxRecDepth 20000 in
theorem u_X9_rent_0 {F : Nat} {s : List Sh} {m m' : Mem} {r : Int64} {v0 : Nat} {v1 : Int32} {v2 : Int32} (hw : GS s m) (o_v0 : ok s v0 9) (hf : nb_X9_rent_0 F s m v0 v1 v2 = some (r, m')) : J3 (b_X9_rent_0 F (bl s m) v0 v1 v2) (r, bl s m') (GS s m') := by
  unfold nb_X9_rent_0 at hf
  unfold b_X9_rent_0
  refine k_if hf (fun hf => ?_) (fun hf => ?_)
  · exact k_ret hw hf
  · refine k_gR hw (ok_o o_v0 (by decide)) rfl hf fun a1 o_a1 hf => ?_
    refine k_gI (ok_o o_a1 (by decide)) rfl ?_
    refine k_if hf (fun hf => ?_) (fun hf => ?_)
    · exact k_ret hw hf
    · refine k_if hf (fun hf => ?_) (fun hf => ?_)
      · exact k_ret hw hf
      · refine k_if hf (fun hf => ?_) (fun hf => ?_)
        · refine k_gR hw (ok_o o_v0 (by decide)) rfl hf fun a2 o_a2 hf => ?_
          refine k_gR hw (ok_o o_v0 (by decide)) rfl hf fun a3 o_a3 hf => ?_
          refine k_cO (ok_o o_a2 (by decide)) ?_
          refine ob2 hf fun u m5 ex hf => ?_
          refine k_b2 (un_X0_rentOf hw o_a2 o_a3 ex) fun hw => ?_
          refine k_gR hw (ok_o o_v0 (by decide)) rfl hf fun a6 o_a6 hf => ?_
          refine k_cO (ok_o o_a6 (by decide)) ?_
          refine ob hf fun x7 ex hf => ?_
          refine k_b1 (un_X2_part hw o_a6 ex) ?_
          exact k_ret hw hf
        · exact k_ret hw hf
def n_X9_rent (F : Nat) (s : List Sh) (m : Mem) (p0 : Nat) (p1 : Int32) (p2 : Int32) : Option (Int64 × Mem) := nb_X9_rent_0 F s m p0 p1 p2
theorem un_X9_rent {F : Nat} {s : List Sh} {m m' : Mem} {p0 : Nat} {p1 : Int32} {p2 : Int32} {r : Int64} (hw : GS s m) (o_p0 : ok s p0 9) (ex : n_X9_rent F s m p0 p1 p2 = some (r, m')) : J3 (m_X9_rent F (bl s m) p0 p1 p2) (r, bl s m') (GS s m') := u_X9_rent_0 hw o_p0 ex
/-! FractionLift.rents()I over the memory -/
def nb_X9_rents_4 (F : Nat) (s : List Sh) (nself4 : Mem → Nat → Int64 → Int32 → Option (Int32 × Mem)) (m : Mem) (v0 : Nat) (v1 : Int64) (v3 : Int32) : Option (Int32 × Mem) := (m.2.2 v0 4).bind fun a1 => (if (m.1 a1 15) ≤ v3 then (some ((Int64.toInt32 v1), m)) else ((m.2.2 v0 4).bind fun a2 => ((m.2.2 v0 13).bind fun a3 => (bind2 (n_X0_rentOf F s m a2 v3 a3) fun _ m5 => ((m5.2.2 v0 13).bind fun a6 => ((m5.2.2 v0 13).bind fun a7 => ((m5.2.2 v0 13).bind fun a8 => (bind2 (n_X2_put F s m5 a6 (((m5.2.1 a7 0) * (100 : Int64))) (m5.2.1 a8 1)) fun _ m10 => ((m10.2.2 v0 13).bind fun a11 => ((n_X2_whole s m10 a11).bind fun x12 => (bindv (v1 + x12) fun x13 => (bindv (v3 + (1)) fun x14 => (nself4 m10 v0 x13 x14)))))))))))))
set_option maxRecDepth 20000 in
theorem ub_X9_rents_4 {F : Nat} {s : List Sh} {self4 : PH → Nat → Int64 → Int32 → Option (Int32 × PH)} {nself4 : Mem → Nat → Int64 → Int32 → Option (Int32 × Mem)} {m m' : Mem} {r : Int32} {v0 : Nat} {v1 : Int64} {v3 : Int32} (hw : GS s m) (o_v0 : ok s v0 9) (ih4 : ∀ (m : Mem) (v0 : Nat) (v1 : Int64) (v3 : Int32), GS s m → ok s v0 9 → nself4 m v0 v1 v3 = some (r, m') → J3 (self4 (bl s m) v0 v1 v3) (r, bl s m') (GS s m')) (hf : nb_X9_rents_4 F s nself4 m v0 v1 v3 = some (r, m')) : J3 (b_X9_rents_4 F self4 (bl s m) v0 v1 v3) (r, bl s m') (GS s m') := by
  unfold nb_X9_rents_4 at hf
  unfold b_X9_rents_4
  refine k_gR hw (ok_o o_v0 (by decide)) rfl hf fun a1 o_a1 hf => ?_
  refine k_gI (ok_o o_a1 (by decide)) rfl ?_
  refine k_if hf (fun hf => ?_) (fun hf => ?_)
  · exact k_ret hw hf
  · refine k_gR hw (ok_o o_v0 (by decide)) rfl hf fun a2 o_a2 hf => ?_
    refine k_gR hw (ok_o o_v0 (by decide)) rfl hf fun a3 o_a3 hf => ?_
    refine k_cO (ok_o o_a2 (by decide)) ?_
    refine ob2 hf fun u m5 ex hf => ?_
    refine k_b2 (un_X0_rentOf hw o_a2 o_a3 ex) fun hw => ?_
    refine k_gR hw (ok_o o_v0 (by decide)) rfl hf fun a6 o_a6 hf => ?_
    refine k_gR hw (ok_o o_v0 (by decide)) rfl hf fun a7 o_a7 hf => ?_
    refine k_gL (ok_o o_a7 (by decide)) rfl ?_
    refine k_gR hw (ok_o o_v0 (by decide)) rfl hf fun a8 o_a8 hf => ?_
    refine k_gL (ok_o o_a8 (by decide)) rfl ?_
    refine k_cO (ok_o o_a6 (by decide)) ?_
    refine ob2 hf fun u m10 ex hf => ?_
    refine k_b2 (un_X2_put hw o_a6 ex) fun hw => ?_
    refine k_gR hw (ok_o o_v0 (by decide)) rfl hf fun a11 o_a11 hf => ?_
    refine k_cO (ok_o o_a11 (by decide)) ?_
    refine ob hf fun x12 ex hf => ?_
    refine k_b1 (un_X2_whole hw o_a11 ex) ?_
    refine k_bv hf fun x13 hf => ?_
    refine k_bv hf fun x14 hf => ?_
    exact ih4 _ _ _ _ hw o_v0 hf
def nl_X9_rents_4 (F : Nat) (s : List Sh) : Nat → Mem → Nat → Int64 → Int32 → Option (Int32 × Mem)
  | 0 => fun _ _ _ _ => none
  | n + 1 => fun m v0 v1 v3 => nb_X9_rents_4 F s (nl_X9_rents_4 F s n) m v0 v1 v3
theorem ul_X9_rents_4 {F : Nat} {s : List Sh} {m' : Mem} {r : Int32} (n : Nat) : ∀ (m : Mem) (v0 : Nat) (v1 : Int64) (v3 : Int32), GS s m → ok s v0 9 → nl_X9_rents_4 F s n m v0 v1 v3 = some (r, m') → J3 (l_X9_rents_4 F n (bl s m) v0 v1 v3) (r, bl s m') (GS s m') := by
  induction n with
  | zero => intro m v0 v1 v3 hw o_v0 hf; cases hf
  | succ n ih => intro m v0 v1 v3 hw o_v0 hf; exact ub_X9_rents_4 (F := F) hw o_v0 ih hf
def nb_X9_rents_0 (F : Nat) (s : List Sh) (m : Mem) (v0 : Nat) : Option (Int32 × Mem) := nl_X9_rents_4 F s F m v0 (0 : Int64) (0 : Int32)
set_option maxRecDepth 20000 in
theorem u_X9_rents_0 {F : Nat} {s : List Sh} {m m' : Mem} {r : Int32} {v0 : Nat} (hw : GS s m) (o_v0 : ok s v0 9) (hf : nb_X9_rents_0 F s m v0 = some (r, m')) : J3 (b_X9_rents_0 F (bl s m) v0) (r, bl s m') (GS s m') := by
  unfold nb_X9_rents_0 at hf
  unfold b_X9_rents_0
  exact ul_X9_rents_4 F _ _ _ _ hw o_v0 hf
def n_X9_rents (F : Nat) (s : List Sh) (m : Mem) (p0 : Nat) : Option (Int32 × Mem) := nb_X9_rents_0 F s m p0
theorem un_X9_rents {F : Nat} {s : List Sh} {m m' : Mem} {p0 : Nat} {r : Int32} (hw : GS s m) (o_p0 : ok s p0 9) (ex : n_X9_rents F s m p0 = some (r, m')) : J3 (m_X9_rents F (bl s m) p0) (r, bl s m') (GS s m') := u_X9_rents_0 hw o_p0 ex
/-! FractionLift.moves(III)I over the memory -/
def nb_X9_moves_0 (F : Nat) (s : List Sh) (m : Mem) (v0 : Nat) (v1 : Int32) (v2 : Int32) (v3 : Int32) : Option (Int32 × Mem) := if v1 < 0 then (some ((-2 : Int32), m)) else ((m.2.2 v0 4).bind fun a1 => (if v1 < (m.1 a1 15) then (bind2 (n_X9_asksFloor F s m v0 v2 v3) fun x2 m3 => (if x2 = 0 then (some ((-3 : Int32), m3)) else ((m3.2.2 v0 12).bind fun a4 => (if (m3.2.1 a4 1) ≤ (99 : Int64) then ((m3.2.2 v0 4).bind fun a5 => ((m3.2.2 v0 13).bind fun a6 => (bind2 (n_X0_rentOf F s m3 a5 v1 a6) fun _ m8 => ((m8.2.2 v0 4).bind fun a9 => ((m8.2.2 a9 16).bind fun a10 => ((m8.2.2 v0 12).bind fun a11 => ((stI s m8 a10 v1 ((Int64.toInt32 (m8.2.1 a11 0)))).bind fun m12 => ((m12.2.2 v0 4).bind fun a13 => ((m12.2.2 a13 17).bind fun a14 => ((m12.2.2 v0 12).bind fun a15 => ((stI s m12 a14 v1 ((Int64.toInt32 (m12.2.1 a15 1)))).bind fun m16 => ((m16.2.2 v0 4).bind fun a17 => ((m16.2.2 v0 12).bind fun a18 => (bind2 (n_X0_rentOf F s m16 a17 v1 a18) fun _ m20 => ((m20.2.2 v0 12).bind fun a21 => ((m20.2.2 v0 13).bind fun a22 => ((n_X2_compared s m20 a21 a22).bind fun x23 => (some (x23, m20))))))))))))))))))) else (some ((-3 : Int32), m3)))))) else (some ((-2 : Int32), m))))
set_option maxRecDepth 20000 in
theorem u_X9_moves_0 {F : Nat} {s : List Sh} {m m' : Mem} {r : Int32} {v0 : Nat} {v1 : Int32} {v2 : Int32} {v3 : Int32} (hw : GS s m) (o_v0 : ok s v0 9) (hf : nb_X9_moves_0 F s m v0 v1 v2 v3 = some (r, m')) : J3 (b_X9_moves_0 F (bl s m) v0 v1 v2 v3) (r, bl s m') (GS s m') := by
  unfold nb_X9_moves_0 at hf
  unfold b_X9_moves_0
  refine k_if hf (fun hf => ?_) (fun hf => ?_)
  · exact k_ret hw hf
  · refine k_gR hw (ok_o o_v0 (by decide)) rfl hf fun a1 o_a1 hf => ?_
    refine k_gI (ok_o o_a1 (by decide)) rfl ?_
    refine k_if hf (fun hf => ?_) (fun hf => ?_)
    · refine k_cO (ok_o o_v0 (by decide)) ?_
      refine ob2 hf fun x2 m3 ex hf => ?_
      refine k_b2 (un_X9_asksFloor hw o_v0 ex) fun hw => ?_
      refine k_if hf (fun hf => ?_) (fun hf => ?_)
      · exact k_ret hw hf
      · refine k_gR hw (ok_o o_v0 (by decide)) rfl hf fun a4 o_a4 hf => ?_
        refine k_gL (ok_o o_a4 (by decide)) rfl ?_
        refine k_if hf (fun hf => ?_) (fun hf => ?_)
        · refine k_gR hw (ok_o o_v0 (by decide)) rfl hf fun a5 o_a5 hf => ?_
          refine k_gR hw (ok_o o_v0 (by decide)) rfl hf fun a6 o_a6 hf => ?_
          refine k_cO (ok_o o_a5 (by decide)) ?_
          refine ob2 hf fun u m8 ex hf => ?_
          refine k_b2 (un_X0_rentOf hw o_a5 o_a6 ex) fun hw => ?_
          refine k_gR hw (ok_o o_v0 (by decide)) rfl hf fun a9 o_a9 hf => ?_
          refine k_gR hw (ok_o o_a9 (by decide)) rfl hf fun a10 o_a10 hf => ?_
          refine k_gR hw (ok_o o_v0 (by decide)) rfl hf fun a11 o_a11 hf => ?_
          refine k_gL (ok_o o_a11 (by decide)) rfl ?_
          refine k_sI hw (ka rfl o_a10) hf fun m12 hw hf => ?_
          refine k_gR hw (ok_o o_v0 (by decide)) rfl hf fun a13 o_a13 hf => ?_
          refine k_gR hw (ok_o o_a13 (by decide)) rfl hf fun a14 o_a14 hf => ?_
          refine k_gR hw (ok_o o_v0 (by decide)) rfl hf fun a15 o_a15 hf => ?_
          refine k_gL (ok_o o_a15 (by decide)) rfl ?_
          refine k_sI hw (ka rfl o_a14) hf fun m16 hw hf => ?_
          refine k_gR hw (ok_o o_v0 (by decide)) rfl hf fun a17 o_a17 hf => ?_
          refine k_gR hw (ok_o o_v0 (by decide)) rfl hf fun a18 o_a18 hf => ?_
          refine k_cO (ok_o o_a17 (by decide)) ?_
          refine ob2 hf fun u m20 ex hf => ?_
          refine k_b2 (un_X0_rentOf hw o_a17 o_a18 ex) fun hw => ?_
          refine k_gR hw (ok_o o_v0 (by decide)) rfl hf fun a21 o_a21 hf => ?_
          refine k_gR hw (ok_o o_v0 (by decide)) rfl hf fun a22 o_a22 hf => ?_
          refine k_cO (ok_o o_a21 (by decide)) ?_
          refine ob hf fun x23 ex hf => ?_
          refine k_b1 (un_X2_compared hw o_a21 o_a22 ex) ?_
          exact k_ret hw hf
        · exact k_ret hw hf
    · exact k_ret hw hf
def n_X9_moves (F : Nat) (s : List Sh) (m : Mem) (p0 : Nat) (p1 : Int32) (p2 : Int32) (p3 : Int32) : Option (Int32 × Mem) := nb_X9_moves_0 F s m p0 p1 p2 p3
theorem un_X9_moves {F : Nat} {s : List Sh} {m m' : Mem} {p0 : Nat} {p1 : Int32} {p2 : Int32} {p3 : Int32} {r : Int32} (hw : GS s m) (o_p0 : ok s p0 9) (ex : n_X9_moves F s m p0 p1 p2 p3 = some (r, m')) : J3 (m_X9_moves F (bl s m) p0 p1 p2 p3) (r, bl s m') (GS s m') := u_X9_moves_0 hw o_p0 ex
/-! FractionLift.fairUnit(I)J over the memory -/
def nb_X9_fairUnit_61 (F : Nat) (s : List Sh) (nself4 : Nat → Int32 → Int64 → Int32 → Option Int64) (m : Mem) (v0 : Nat) (v1 : Int32) (v2 : Int64) (v4 : Int32) : Option Int64 := bindv (v4 + (1)) fun x1 => (nself4 v0 v1 v2 x1)
set_option maxRecDepth 20000 in
theorem u_X9_fairUnit_61 {F : Nat} {s : List Sh} {self4 : Nat → Int32 → Int64 → Int32 → Option Int64} {nself4 : Nat → Int32 → Int64 → Int32 → Option Int64} {m : Mem} {r : Int64} {v0 : Nat} {v1 : Int32} {v2 : Int64} {v4 : Int32} (hw : GS s m) (o_v0 : ok s v0 9) (ih4 : ∀ (v0 : Nat) (v1 : Int32) (v2 : Int64) (v4 : Int32), ok s v0 9 → nself4 v0 v1 v2 v4 = some r → J3 (self4 v0 v1 v2 v4) r True) (hf : nb_X9_fairUnit_61 F s nself4 m v0 v1 v2 v4 = some r) : J3 (b_X9_fairUnit_61 F self4 (bl s m) v0 v1 v2 v4) r True := by
  unfold nb_X9_fairUnit_61 at hf
  unfold b_X9_fairUnit_61
  refine k_bv hf fun x1 hf => ?_
  exact ih4 _ _ _ _ o_v0 hf
def nb_X9_fairUnit_7 (F : Nat) (s : List Sh) (nself4 : Nat → Int32 → Int64 → Int32 → Option Int64) (m : Mem) (v0 : Nat) (v1 : Int32) (v2 : Int64) (v4 : Int32) : Option Int64 := (m.2.2 v0 4).bind fun a1 => (if (m.1 a1 15) ≤ v4 then (some v2) else (if v4 = v1 then (nb_X9_fairUnit_61 F s nself4 m v0 v1 v2 v4) else ((m.2.2 v0 4).bind fun a2 => ((m.2.2 a2 17).bind fun a3 => ((rdI s m a3 v4).bind fun x4 => (bindv (Int32.toInt64 x4) fun x5 => ((m_X9_commonFactor F v2 x5).bind fun x6 => (if x6 ≤ (0 : Int64) then (nb_X9_fairUnit_61 F s nself4 m v0 v1 v2 v4) else (if x6 = 0 then none else (bindv (((v2 / x6) * x5)) fun x7 => (nb_X9_fairUnit_61 F s nself4 m v0 v1 x7 v4)))))))))))
set_option maxRecDepth 20000 in
theorem ub_X9_fairUnit_7 {F : Nat} {s : List Sh} {self4 : Nat → Int32 → Int64 → Int32 → Option Int64} {nself4 : Nat → Int32 → Int64 → Int32 → Option Int64} {m : Mem} {r : Int64} {v0 : Nat} {v1 : Int32} {v2 : Int64} {v4 : Int32} (hw : GS s m) (o_v0 : ok s v0 9) (ih4 : ∀ (v0 : Nat) (v1 : Int32) (v2 : Int64) (v4 : Int32), ok s v0 9 → nself4 v0 v1 v2 v4 = some r → J3 (self4 v0 v1 v2 v4) r True) (hf : nb_X9_fairUnit_7 F s nself4 m v0 v1 v2 v4 = some r) : J3 (b_X9_fairUnit_7 F self4 (bl s m) v0 v1 v2 v4) r True := by
  unfold nb_X9_fairUnit_7 at hf
  unfold b_X9_fairUnit_7
  refine k_gR hw (ok_o o_v0 (by decide)) rfl hf fun a1 o_a1 hf => ?_
  refine k_gI (ok_o o_a1 (by decide)) rfl ?_
  refine k_if hf (fun hf => ?_) (fun hf => ?_)
  · exact k_retP hf
  · refine k_if hf (fun hf => ?_) (fun hf => ?_)
    · exact u_X9_fairUnit_61 hw o_v0 ih4 hf
    · refine k_gR hw (ok_o o_v0 (by decide)) rfl hf fun a2 o_a2 hf => ?_
      refine k_gR hw (ok_o o_a2 (by decide)) rfl hf fun a3 o_a3 hf => ?_
      refine k_aI (Or.inl rfl) (ka rfl o_a3) hf fun x4 hf => ?_
      refine k_bv hf fun x5 hf => ?_
      refine k_pure hf fun x6 hf => ?_
      refine k_if hf (fun hf => ?_) (fun hf => ?_)
      · exact u_X9_fairUnit_61 hw o_v0 ih4 hf
      · refine k_if hf (fun hf => by cases hf) (fun hf => ?_)
        refine k_bv hf fun x7 hf => ?_
        exact u_X9_fairUnit_61 hw o_v0 ih4 hf
def nl_X9_fairUnit_7 (F : Nat) (s : List Sh) (m : Mem) : Nat → Nat → Int32 → Int64 → Int32 → Option Int64
  | 0 => fun _ _ _ _ => none
  | n + 1 => fun v0 v1 v2 v4 => nb_X9_fairUnit_7 F s (nl_X9_fairUnit_7 F s m n) m v0 v1 v2 v4
theorem ul_X9_fairUnit_7 {F : Nat} {s : List Sh} {m : Mem} {r : Int64} (hw : GS s m) (n : Nat) : ∀ (v0 : Nat) (v1 : Int32) (v2 : Int64) (v4 : Int32), ok s v0 9 → nl_X9_fairUnit_7 F s m n v0 v1 v2 v4 = some r → J3 (l_X9_fairUnit_7 F (bl s m) n v0 v1 v2 v4) r True := by
  induction n with
  | zero => intro v0 v1 v2 v4 o_v0 hf; cases hf
  | succ n ih => intro v0 v1 v2 v4 o_v0 hf; exact ub_X9_fairUnit_7 (F := F) hw o_v0 ih hf
def nb_X9_fairUnit_0 (F : Nat) (s : List Sh) (m : Mem) (v0 : Nat) (v1 : Int32) : Option Int64 := nl_X9_fairUnit_7 F s m F v0 v1 (27720 : Int64) (0 : Int32)
set_option maxRecDepth 20000 in
theorem u_X9_fairUnit_0 {F : Nat} {s : List Sh} {m : Mem} {r : Int64} {v0 : Nat} {v1 : Int32} (hw : GS s m) (o_v0 : ok s v0 9) (hf : nb_X9_fairUnit_0 F s m v0 v1 = some r) : J3 (b_X9_fairUnit_0 F (bl s m) v0 v1) r True := by
  unfold nb_X9_fairUnit_0 at hf
  unfold b_X9_fairUnit_0
  exact ul_X9_fairUnit_7 hw F _ _ _ _ o_v0 hf
def n_X9_fairUnit (F : Nat) (s : List Sh) (m : Mem) (p0 : Nat) (p1 : Int32) : Option Int64 := nb_X9_fairUnit_0 F s m p0 p1
theorem un_X9_fairUnit {F : Nat} {s : List Sh} {m : Mem} {p0 : Nat} {p1 : Int32} {r : Int64} (hw : GS s m) (o_p0 : ok s p0 9) (ex : n_X9_fairUnit F s m p0 p1 = some r) : J3 (m_X9_fairUnit F (bl s m) p0 p1) r True := u_X9_fairUnit_0 hw o_p0 ex
/-! FractionLift.farFromOthers(IJJ)J over the memory -/
def nb_X9_farFromOthers_71 (F : Nat) (s : List Sh) (nself4 : Nat → Int32 → Int64 → Int64 → Int64 → Int32 → Option Int64) (m : Mem) (v0 : Nat) (v1 : Int32) (v2 : Int64) (v4 : Int64) (v6 : Int64) (v8 : Int32) : Option Int64 := bindv (v8 + (1)) fun x1 => (nself4 v0 v1 v2 v4 v6 x1)
set_option maxRecDepth 20000 in
theorem u_X9_farFromOthers_71 {F : Nat} {s : List Sh} {self4 : Nat → Int32 → Int64 → Int64 → Int64 → Int32 → Option Int64} {nself4 : Nat → Int32 → Int64 → Int64 → Int64 → Int32 → Option Int64} {m : Mem} {r : Int64} {v0 : Nat} {v1 : Int32} {v2 : Int64} {v4 : Int64} {v6 : Int64} {v8 : Int32} (hw : GS s m) (o_v0 : ok s v0 9) (ih4 : ∀ (v0 : Nat) (v1 : Int32) (v2 : Int64) (v4 : Int64) (v6 : Int64) (v8 : Int32), ok s v0 9 → nself4 v0 v1 v2 v4 v6 v8 = some r → J3 (self4 v0 v1 v2 v4 v6 v8) r True) (hf : nb_X9_farFromOthers_71 F s nself4 m v0 v1 v2 v4 v6 v8 = some r) : J3 (b_X9_farFromOthers_71 F self4 (bl s m) v0 v1 v2 v4 v6 v8) r True := by
  unfold nb_X9_farFromOthers_71 at hf
  unfold b_X9_farFromOthers_71
  refine k_bv hf fun x1 hf => ?_
  exact ih4 _ _ _ _ _ _ o_v0 hf
def nb_X9_farFromOthers_6 (F : Nat) (s : List Sh) (nself4 : Nat → Int32 → Int64 → Int64 → Int64 → Int32 → Option Int64) (m : Mem) (v0 : Nat) (v1 : Int32) (v2 : Int64) (v4 : Int64) (v6 : Int64) (v8 : Int32) : Option Int64 := (m.2.2 v0 4).bind fun a1 => (if (m.1 a1 15) ≤ v8 then (some v6) else ((m.2.2 v0 4).bind fun a2 => ((m.2.2 a2 17).bind fun a3 => ((rdI s m a3 v8).bind fun x4 => (bindv (Int32.toInt64 x4) fun x5 => (if v8 = v1 then (nb_X9_farFromOthers_71 F s nself4 m v0 v1 v2 v4 v6 v8) else (if x5 ≤ (0 : Int64) then (nb_X9_farFromOthers_71 F s nself4 m v0 v1 v2 v4 v6 v8) else (if x5 = 0 then none else ((m.2.2 v0 4).bind fun a6 => ((m.2.2 a6 16).bind fun a7 => ((rdI s m a7 v8).bind fun x8 => (bindv ((v6 + ((jabsL ((v2 - (((v4 / x5) * (Int32.toInt64 x8))))))))) fun x9 => (nb_X9_farFromOthers_71 F s nself4 m v0 v1 v2 v4 x9 v8)))))))))))))
set_option maxRecDepth 20000 in
theorem ub_X9_farFromOthers_6 {F : Nat} {s : List Sh} {self4 : Nat → Int32 → Int64 → Int64 → Int64 → Int32 → Option Int64} {nself4 : Nat → Int32 → Int64 → Int64 → Int64 → Int32 → Option Int64} {m : Mem} {r : Int64} {v0 : Nat} {v1 : Int32} {v2 : Int64} {v4 : Int64} {v6 : Int64} {v8 : Int32} (hw : GS s m) (o_v0 : ok s v0 9) (ih4 : ∀ (v0 : Nat) (v1 : Int32) (v2 : Int64) (v4 : Int64) (v6 : Int64) (v8 : Int32), ok s v0 9 → nself4 v0 v1 v2 v4 v6 v8 = some r → J3 (self4 v0 v1 v2 v4 v6 v8) r True) (hf : nb_X9_farFromOthers_6 F s nself4 m v0 v1 v2 v4 v6 v8 = some r) : J3 (b_X9_farFromOthers_6 F self4 (bl s m) v0 v1 v2 v4 v6 v8) r True := by
  unfold nb_X9_farFromOthers_6 at hf
  unfold b_X9_farFromOthers_6
  refine k_gR hw (ok_o o_v0 (by decide)) rfl hf fun a1 o_a1 hf => ?_
  refine k_gI (ok_o o_a1 (by decide)) rfl ?_
  refine k_if hf (fun hf => ?_) (fun hf => ?_)
  · exact k_retP hf
  · refine k_gR hw (ok_o o_v0 (by decide)) rfl hf fun a2 o_a2 hf => ?_
    refine k_gR hw (ok_o o_a2 (by decide)) rfl hf fun a3 o_a3 hf => ?_
    refine k_aI (Or.inl rfl) (ka rfl o_a3) hf fun x4 hf => ?_
    refine k_bv hf fun x5 hf => ?_
    refine k_if hf (fun hf => ?_) (fun hf => ?_)
    · exact u_X9_farFromOthers_71 hw o_v0 ih4 hf
    · refine k_if hf (fun hf => ?_) (fun hf => ?_)
      · exact u_X9_farFromOthers_71 hw o_v0 ih4 hf
      · refine k_if hf (fun hf => by cases hf) (fun hf => ?_)
        refine k_gR hw (ok_o o_v0 (by decide)) rfl hf fun a6 o_a6 hf => ?_
        refine k_gR hw (ok_o o_a6 (by decide)) rfl hf fun a7 o_a7 hf => ?_
        refine k_aI (Or.inl rfl) (ka rfl o_a7) hf fun x8 hf => ?_
        refine k_bv hf fun x9 hf => ?_
        exact u_X9_farFromOthers_71 hw o_v0 ih4 hf
def nl_X9_farFromOthers_6 (F : Nat) (s : List Sh) (m : Mem) : Nat → Nat → Int32 → Int64 → Int64 → Int64 → Int32 → Option Int64
  | 0 => fun _ _ _ _ _ _ => none
  | n + 1 => fun v0 v1 v2 v4 v6 v8 => nb_X9_farFromOthers_6 F s (nl_X9_farFromOthers_6 F s m n) m v0 v1 v2 v4 v6 v8
theorem ul_X9_farFromOthers_6 {F : Nat} {s : List Sh} {m : Mem} {r : Int64} (hw : GS s m) (n : Nat) : ∀ (v0 : Nat) (v1 : Int32) (v2 : Int64) (v4 : Int64) (v6 : Int64) (v8 : Int32), ok s v0 9 → nl_X9_farFromOthers_6 F s m n v0 v1 v2 v4 v6 v8 = some r → J3 (l_X9_farFromOthers_6 F (bl s m) n v0 v1 v2 v4 v6 v8) r True := by
  induction n with
  | zero => intro v0 v1 v2 v4 v6 v8 o_v0 hf; cases hf
  | succ n ih => intro v0 v1 v2 v4 v6 v8 o_v0 hf; exact ub_X9_farFromOthers_6 (F := F) hw o_v0 ih hf
def nb_X9_farFromOthers_0 (F : Nat) (s : List Sh) (m : Mem) (v0 : Nat) (v1 : Int32) (v2 : Int64) (v4 : Int64) : Option Int64 := nl_X9_farFromOthers_6 F s m F v0 v1 v2 v4 (0 : Int64) (0 : Int32)
set_option maxRecDepth 20000 in
theorem u_X9_farFromOthers_0 {F : Nat} {s : List Sh} {m : Mem} {r : Int64} {v0 : Nat} {v1 : Int32} {v2 : Int64} {v4 : Int64} (hw : GS s m) (o_v0 : ok s v0 9) (hf : nb_X9_farFromOthers_0 F s m v0 v1 v2 v4 = some r) : J3 (b_X9_farFromOthers_0 F (bl s m) v0 v1 v2 v4) r True := by
  unfold nb_X9_farFromOthers_0 at hf
  unfold b_X9_farFromOthers_0
  exact ul_X9_farFromOthers_6 hw F _ _ _ _ _ _ o_v0 hf
def n_X9_farFromOthers (F : Nat) (s : List Sh) (m : Mem) (p0 : Nat) (p1 : Int32) (p2 : Int64) (p4 : Int64) : Option Int64 := nb_X9_farFromOthers_0 F s m p0 p1 p2 p4
theorem un_X9_farFromOthers {F : Nat} {s : List Sh} {m : Mem} {p0 : Nat} {p1 : Int32} {p2 : Int64} {p4 : Int64} {r : Int64} (hw : GS s m) (o_p0 : ok s p0 9) (ex : n_X9_farFromOthers F s m p0 p1 p2 p4 = some r) : J3 (m_X9_farFromOthers F (bl s m) p0 p1 p2 p4) r True := u_X9_farFromOthers_0 hw o_p0 ex
/-! FractionLift.seekFairest(I)V over the memory -/
def nb_X9_seekFairest_112 (F : Nat) (s : List Sh) (nself10 : Mem → Nat → Int32 → Int64 → Int64 → Int64 → Int32 → Option (Unit × Mem)) (nself20 : Mem → Nat → Int32 → Int64 → Int64 → Int64 → Int32 → Int64 → Int32 → Option (Unit × Mem)) (m : Mem) (v0 : Nat) (v1 : Int32) (v2 : Int64) (v4 : Int64) (v6 : Int64) (v8 : Int32) (v9 : Int64) (v11 : Int32) : Option (Unit × Mem) := bindv (v11 + (1)) fun x1 => (nself20 m v0 v1 v2 v4 v6 v8 v9 x1)
set_option maxRecDepth 20000 in
theorem u_X9_seekFairest_112 {F : Nat} {s : List Sh} {self10 : PH → Nat → Int32 → Int64 → Int64 → Int64 → Int32 → Option (Unit × PH)} {nself10 : Mem → Nat → Int32 → Int64 → Int64 → Int64 → Int32 → Option (Unit × Mem)} {self20 : PH → Nat → Int32 → Int64 → Int64 → Int64 → Int32 → Int64 → Int32 → Option (Unit × PH)} {nself20 : Mem → Nat → Int32 → Int64 → Int64 → Int64 → Int32 → Int64 → Int32 → Option (Unit × Mem)} {m m' : Mem} {r : Unit} {v0 : Nat} {v1 : Int32} {v2 : Int64} {v4 : Int64} {v6 : Int64} {v8 : Int32} {v9 : Int64} {v11 : Int32} (hw : GS s m) (o_v0 : ok s v0 9) (ih10 : ∀ (m : Mem) (v0 : Nat) (v1 : Int32) (v2 : Int64) (v4 : Int64) (v6 : Int64) (v8 : Int32), GS s m → ok s v0 9 → nself10 m v0 v1 v2 v4 v6 v8 = some (r, m') → J3 (self10 (bl s m) v0 v1 v2 v4 v6 v8) (r, bl s m') (GS s m')) (ih20 : ∀ (m : Mem) (v0 : Nat) (v1 : Int32) (v2 : Int64) (v4 : Int64) (v6 : Int64) (v8 : Int32) (v9 : Int64) (v11 : Int32), GS s m → ok s v0 9 → nself20 m v0 v1 v2 v4 v6 v8 v9 v11 = some (r, m') → J3 (self20 (bl s m) v0 v1 v2 v4 v6 v8 v9 v11) (r, bl s m') (GS s m')) (hf : nb_X9_seekFairest_112 F s nself10 nself20 m v0 v1 v2 v4 v6 v8 v9 v11 = some (r, m')) : J3 (b_X9_seekFairest_112 F self10 self20 (bl s m) v0 v1 v2 v4 v6 v8 v9 v11) (r, bl s m') (GS s m') := by
  unfold nb_X9_seekFairest_112 at hf
  unfold b_X9_seekFairest_112
  refine k_bv hf fun x1 hf => ?_
  exact ih20 _ _ _ _ _ _ _ _ _ hw o_v0 hf
def nb_X9_seekFairest_100 (F : Nat) (s : List Sh) (nself10 : Mem → Nat → Int32 → Int64 → Int64 → Int64 → Int32 → Option (Unit × Mem)) (nself20 : Mem → Nat → Int32 → Int64 → Int64 → Int64 → Int32 → Int64 → Int32 → Option (Unit × Mem)) (m : Mem) (v0 : Nat) (v1 : Int32) (v2 : Int64) (v8 : Int32) (v9 : Int64) (v11 : Int32) (v12 : Int64) : Option (Unit × Mem) := bindv (((Int32.toInt64 v11) * v9)) fun x1 => (nb_X9_seekFairest_112 F s nself10 nself20 m v0 v1 v2 v12 x1 v8 v9 v11)
set_option maxRecDepth 20000 in
theorem u_X9_seekFairest_100 {F : Nat} {s : List Sh} {self10 : PH → Nat → Int32 → Int64 → Int64 → Int64 → Int32 → Option (Unit × PH)} {nself10 : Mem → Nat → Int32 → Int64 → Int64 → Int64 → Int32 → Option (Unit × Mem)} {self20 : PH → Nat → Int32 → Int64 → Int64 → Int64 → Int32 → Int64 → Int32 → Option (Unit × PH)} {nself20 : Mem → Nat → Int32 → Int64 → Int64 → Int64 → Int32 → Int64 → Int32 → Option (Unit × Mem)} {m m' : Mem} {r : Unit} {v0 : Nat} {v1 : Int32} {v2 : Int64} {v8 : Int32} {v9 : Int64} {v11 : Int32} {v12 : Int64} (hw : GS s m) (o_v0 : ok s v0 9) (ih10 : ∀ (m : Mem) (v0 : Nat) (v1 : Int32) (v2 : Int64) (v4 : Int64) (v6 : Int64) (v8 : Int32), GS s m → ok s v0 9 → nself10 m v0 v1 v2 v4 v6 v8 = some (r, m') → J3 (self10 (bl s m) v0 v1 v2 v4 v6 v8) (r, bl s m') (GS s m')) (ih20 : ∀ (m : Mem) (v0 : Nat) (v1 : Int32) (v2 : Int64) (v4 : Int64) (v6 : Int64) (v8 : Int32) (v9 : Int64) (v11 : Int32), GS s m → ok s v0 9 → nself20 m v0 v1 v2 v4 v6 v8 v9 v11 = some (r, m') → J3 (self20 (bl s m) v0 v1 v2 v4 v6 v8 v9 v11) (r, bl s m') (GS s m')) (hf : nb_X9_seekFairest_100 F s nself10 nself20 m v0 v1 v2 v8 v9 v11 v12 = some (r, m')) : J3 (b_X9_seekFairest_100 F self10 self20 (bl s m) v0 v1 v2 v8 v9 v11 v12) (r, bl s m') (GS s m') := by
  unfold nb_X9_seekFairest_100 at hf
  unfold b_X9_seekFairest_100
  refine k_bv hf fun x1 hf => ?_
  exact u_X9_seekFairest_112 hw o_v0 ih10 ih20 hf
def nb_X9_seekFairest_34 (F : Nat) (s : List Sh) (nself10 : Mem → Nat → Int32 → Int64 → Int64 → Int64 → Int32 → Option (Unit × Mem)) (nself20 : Mem → Nat → Int32 → Int64 → Int64 → Int64 → Int32 → Int64 → Int32 → Option (Unit × Mem)) (m : Mem) (v0 : Nat) (v1 : Int32) (v2 : Int64) (v4 : Int64) (v6 : Int64) (v8 : Int32) (v9 : Int64) (v11 : Int32) : Option (Unit × Mem) := (m.2.2 v0 4).bind fun a1 => (if (((m.1 a1 0) * v8)) < v11 then (bindv (v8 + (1)) fun x2 => (nself10 m v0 v1 v2 v4 v6 x2)) else ((n_X9_farFromOthers F s m v0 v1 (((Int32.toInt64 v11) * v9)) v2).bind fun x3 => (if v4 = (-1 : Int64) then (nb_X9_seekFairest_100 F s nself10 nself20 m v0 v1 v2 v8 v9 v11 x3) else (if x3 < v4 then (nb_X9_seekFairest_100 F s nself10 nself20 m v0 v1 v2 v8 v9 v11 x3) else (if x3 = v4 then (if v6 ≤ (((Int32.toInt64 v11) * v9)) then (nb_X9_seekFairest_112 F s nself10 nself20 m v0 v1 v2 v4 v6 v8 v9 v11) else (nb_X9_seekFairest_100 F s nself10 nself20 m v0 v1 v2 v8 v9 v11 x3)) else (nb_X9_seekFairest_112 F s nself10 nself20 m v0 v1 v2 v4 v6 v8 v9 v11))))))
set_option maxRecDepth 20000 in
theorem ub_X9_seekFairest_34 {F : Nat} {s : List Sh} {self10 : PH → Nat → Int32 → Int64 → Int64 → Int64 → Int32 → Option (Unit × PH)} {nself10 : Mem → Nat → Int32 → Int64 → Int64 → Int64 → Int32 → Option (Unit × Mem)} {self20 : PH → Nat → Int32 → Int64 → Int64 → Int64 → Int32 → Int64 → Int32 → Option (Unit × PH)} {nself20 : Mem → Nat → Int32 → Int64 → Int64 → Int64 → Int32 → Int64 → Int32 → Option (Unit × Mem)} {m m' : Mem} {r : Unit} {v0 : Nat} {v1 : Int32} {v2 : Int64} {v4 : Int64} {v6 : Int64} {v8 : Int32} {v9 : Int64} {v11 : Int32} (hw : GS s m) (o_v0 : ok s v0 9) (ih10 : ∀ (m : Mem) (v0 : Nat) (v1 : Int32) (v2 : Int64) (v4 : Int64) (v6 : Int64) (v8 : Int32), GS s m → ok s v0 9 → nself10 m v0 v1 v2 v4 v6 v8 = some (r, m') → J3 (self10 (bl s m) v0 v1 v2 v4 v6 v8) (r, bl s m') (GS s m')) (ih20 : ∀ (m : Mem) (v0 : Nat) (v1 : Int32) (v2 : Int64) (v4 : Int64) (v6 : Int64) (v8 : Int32) (v9 : Int64) (v11 : Int32), GS s m → ok s v0 9 → nself20 m v0 v1 v2 v4 v6 v8 v9 v11 = some (r, m') → J3 (self20 (bl s m) v0 v1 v2 v4 v6 v8 v9 v11) (r, bl s m') (GS s m')) (hf : nb_X9_seekFairest_34 F s nself10 nself20 m v0 v1 v2 v4 v6 v8 v9 v11 = some (r, m')) : J3 (b_X9_seekFairest_34 F self10 self20 (bl s m) v0 v1 v2 v4 v6 v8 v9 v11) (r, bl s m') (GS s m') := by
  unfold nb_X9_seekFairest_34 at hf
  unfold b_X9_seekFairest_34
  refine k_gR hw (ok_o o_v0 (by decide)) rfl hf fun a1 o_a1 hf => ?_
  refine k_gI (ok_o o_a1 (by decide)) rfl ?_
  refine k_if hf (fun hf => ?_) (fun hf => ?_)
  · refine k_bv hf fun x2 hf => ?_
    exact ih10 _ _ _ _ _ _ _ hw o_v0 hf
  · refine k_cO (ok_o o_v0 (by decide)) ?_
    refine ob hf fun x3 ex hf => ?_
    refine k_b1 (un_X9_farFromOthers hw o_v0 ex) ?_
    refine k_if hf (fun hf => ?_) (fun hf => ?_)
    · exact u_X9_seekFairest_100 hw o_v0 ih10 ih20 hf
    · refine k_if hf (fun hf => ?_) (fun hf => ?_)
      · exact u_X9_seekFairest_100 hw o_v0 ih10 ih20 hf
      · refine k_if hf (fun hf => ?_) (fun hf => ?_)
        · refine k_if hf (fun hf => ?_) (fun hf => ?_)
          · exact u_X9_seekFairest_112 hw o_v0 ih10 ih20 hf
          · exact u_X9_seekFairest_100 hw o_v0 ih10 ih20 hf
        · exact u_X9_seekFairest_112 hw o_v0 ih10 ih20 hf
def nl_X9_seekFairest_34 (F : Nat) (s : List Sh) (nself10 : Mem → Nat → Int32 → Int64 → Int64 → Int64 → Int32 → Option (Unit × Mem)) : Nat → Mem → Nat → Int32 → Int64 → Int64 → Int64 → Int32 → Int64 → Int32 → Option (Unit × Mem)
  | 0 => fun _ _ _ _ _ _ _ _ _ => none
  | n + 1 => fun m v0 v1 v2 v4 v6 v8 v9 v11 => nb_X9_seekFairest_34 F s nself10 (nl_X9_seekFairest_34 F s nself10 n) m v0 v1 v2 v4 v6 v8 v9 v11
theorem ul_X9_seekFairest_34 {F : Nat} {s : List Sh} {self10 : PH → Nat → Int32 → Int64 → Int64 → Int64 → Int32 → Option (Unit × PH)} {nself10 : Mem → Nat → Int32 → Int64 → Int64 → Int64 → Int32 → Option (Unit × Mem)} {m' : Mem} {r : Unit} (ih10 : ∀ (m : Mem) (v0 : Nat) (v1 : Int32) (v2 : Int64) (v4 : Int64) (v6 : Int64) (v8 : Int32), GS s m → ok s v0 9 → nself10 m v0 v1 v2 v4 v6 v8 = some (r, m') → J3 (self10 (bl s m) v0 v1 v2 v4 v6 v8) (r, bl s m') (GS s m')) (n : Nat) : ∀ (m : Mem) (v0 : Nat) (v1 : Int32) (v2 : Int64) (v4 : Int64) (v6 : Int64) (v8 : Int32) (v9 : Int64) (v11 : Int32), GS s m → ok s v0 9 → nl_X9_seekFairest_34 F s nself10 n m v0 v1 v2 v4 v6 v8 v9 v11 = some (r, m') → J3 (l_X9_seekFairest_34 F self10 n (bl s m) v0 v1 v2 v4 v6 v8 v9 v11) (r, bl s m') (GS s m') := by
  induction n with
  | zero => intro m v0 v1 v2 v4 v6 v8 v9 v11 hw o_v0 hf; cases hf
  | succ n ih => intro m v0 v1 v2 v4 v6 v8 v9 v11 hw o_v0 hf; exact ub_X9_seekFairest_34 (F := F) hw o_v0 ih10 ih hf
def nb_X9_seekFairest_17 (F : Nat) (s : List Sh) (nself10 : Mem → Nat → Int32 → Int64 → Int64 → Int64 → Int32 → Option (Unit × Mem)) (m : Mem) (v0 : Nat) (v1 : Int32) (v2 : Int64) (v4 : Int64) (v6 : Int64) (v8 : Int32) : Option (Unit × Mem) := if (12 : Int32) < v8 then ((m.2.2 v0 12).bind fun a1 => (bind2 (n_X2_put F s m a1 v6 v2) fun _ m3 => ((m3.2.2 v0 13).bind fun a4 => (bind2 (n_X2_put F s m3 a4 v4 v2) fun _ m6 => (some ((), m6)))))) else (if (Int32.toInt64 v8) = 0 then none else (bindv ((v2 / (Int32.toInt64 v8))) fun x7 => (nl_X9_seekFairest_34 F s nself10 F m v0 v1 v2 v4 v6 v8 x7 (0 : Int32))))
set_option maxRecDepth 20000 in
theorem ub_X9_seekFairest_17 {F : Nat} {s : List Sh} {self10 : PH → Nat → Int32 → Int64 → Int64 → Int64 → Int32 → Option (Unit × PH)} {nself10 : Mem → Nat → Int32 → Int64 → Int64 → Int64 → Int32 → Option (Unit × Mem)} {m m' : Mem} {r : Unit} {v0 : Nat} {v1 : Int32} {v2 : Int64} {v4 : Int64} {v6 : Int64} {v8 : Int32} (hw : GS s m) (o_v0 : ok s v0 9) (ih10 : ∀ (m : Mem) (v0 : Nat) (v1 : Int32) (v2 : Int64) (v4 : Int64) (v6 : Int64) (v8 : Int32), GS s m → ok s v0 9 → nself10 m v0 v1 v2 v4 v6 v8 = some (r, m') → J3 (self10 (bl s m) v0 v1 v2 v4 v6 v8) (r, bl s m') (GS s m')) (hf : nb_X9_seekFairest_17 F s nself10 m v0 v1 v2 v4 v6 v8 = some (r, m')) : J3 (b_X9_seekFairest_17 F self10 (bl s m) v0 v1 v2 v4 v6 v8) (r, bl s m') (GS s m') := by
  unfold nb_X9_seekFairest_17 at hf
  unfold b_X9_seekFairest_17
  refine k_if hf (fun hf => ?_) (fun hf => ?_)
  · refine k_gR hw (ok_o o_v0 (by decide)) rfl hf fun a1 o_a1 hf => ?_
    refine k_cO (ok_o o_a1 (by decide)) ?_
    refine ob2 hf fun u m3 ex hf => ?_
    refine k_b2 (un_X2_put hw o_a1 ex) fun hw => ?_
    refine k_gR hw (ok_o o_v0 (by decide)) rfl hf fun a4 o_a4 hf => ?_
    refine k_cO (ok_o o_a4 (by decide)) ?_
    refine ob2 hf fun u m6 ex hf => ?_
    refine k_b2 (un_X2_put hw o_a4 ex) fun hw => ?_
    exact k_ret hw hf
  · refine k_if hf (fun hf => by cases hf) (fun hf => ?_)
    refine k_bv hf fun x7 hf => ?_
    exact ul_X9_seekFairest_34 ih10 F _ _ _ _ _ _ _ _ _ hw o_v0 hf
def nl_X9_seekFairest_17 (F : Nat) (s : List Sh) : Nat → Mem → Nat → Int32 → Int64 → Int64 → Int64 → Int32 → Option (Unit × Mem)
  | 0 => fun _ _ _ _ _ _ _ => none
  | n + 1 => fun m v0 v1 v2 v4 v6 v8 => nb_X9_seekFairest_17 F s (nl_X9_seekFairest_17 F s n) m v0 v1 v2 v4 v6 v8
theorem ul_X9_seekFairest_17 {F : Nat} {s : List Sh} {m' : Mem} {r : Unit} (n : Nat) : ∀ (m : Mem) (v0 : Nat) (v1 : Int32) (v2 : Int64) (v4 : Int64) (v6 : Int64) (v8 : Int32), GS s m → ok s v0 9 → nl_X9_seekFairest_17 F s n m v0 v1 v2 v4 v6 v8 = some (r, m') → J3 (l_X9_seekFairest_17 F n (bl s m) v0 v1 v2 v4 v6 v8) (r, bl s m') (GS s m') := by
  induction n with
  | zero => intro m v0 v1 v2 v4 v6 v8 hw o_v0 hf; cases hf
  | succ n ih => intro m v0 v1 v2 v4 v6 v8 hw o_v0 hf; exact ub_X9_seekFairest_17 (F := F) hw o_v0 ih hf
def nb_X9_seekFairest_0 (F : Nat) (s : List Sh) (m : Mem) (v0 : Nat) (v1 : Int32) : Option (Unit × Mem) := (n_X9_fairUnit F s m v0 v1).bind fun x1 => (nl_X9_seekFairest_17 F s F m v0 v1 x1 (-1 : Int64) (0 : Int64) (1 : Int32))
set_option maxRecDepth 20000 in
theorem u_X9_seekFairest_0 {F : Nat} {s : List Sh} {m m' : Mem} {r : Unit} {v0 : Nat} {v1 : Int32} (hw : GS s m) (o_v0 : ok s v0 9) (hf : nb_X9_seekFairest_0 F s m v0 v1 = some (r, m')) : J3 (b_X9_seekFairest_0 F (bl s m) v0 v1) (r, bl s m') (GS s m') := by
  unfold nb_X9_seekFairest_0 at hf
  unfold b_X9_seekFairest_0
  refine k_cO (ok_o o_v0 (by decide)) ?_
  refine ob hf fun x1 ex hf => ?_
  refine k_b1 (un_X9_fairUnit hw o_v0 ex) ?_
  exact ul_X9_seekFairest_17 F _ _ _ _ _ _ _ hw o_v0 hf
def n_X9_seekFairest (F : Nat) (s : List Sh) (m : Mem) (p0 : Nat) (p1 : Int32) : Option (Unit × Mem) := nb_X9_seekFairest_0 F s m p0 p1
theorem un_X9_seekFairest {F : Nat} {s : List Sh} {m m' : Mem} {p0 : Nat} {p1 : Int32} {r : Unit} (hw : GS s m) (o_p0 : ok s p0 9) (ex : n_X9_seekFairest F s m p0 p1 = some (r, m')) : J3 (m_X9_seekFairest F (bl s m) p0 p1) (r, bl s m') (GS s m') := u_X9_seekFairest_0 hw o_p0 ex
/-! FractionLift.fairest(II)J over the memory -/
def nb_X9_fairest_0 (F : Nat) (s : List Sh) (m : Mem) (v0 : Nat) (v1 : Int32) (v2 : Int32) : Option (Int64 × Mem) := if v1 < 0 then (some ((-2 : Int64), m)) else ((m.2.2 v0 4).bind fun a1 => (if (m.1 a1 15) ≤ v1 then (some ((-2 : Int64), m)) else (if v2 < 0 then (some ((-2 : Int64), m)) else (if v2 ≤ (3 : Int32) then ((m.2.2 v0 4).bind fun a2 => (if (2 : Int32) ≤ (m.1 a2 15) then (bind2 (n_X9_seekFairest F s m v0 v1) fun _ m4 => (if (2 : Int32) ≤ v2 then ((m4.2.2 v0 13).bind fun a5 => ((n_X2_part s m4 a5 ((v2 - (2 : Int32)))).bind fun x6 => (some (x6, m4)))) else ((m4.2.2 v0 12).bind fun a7 => ((n_X2_part s m4 a7 v2).bind fun x8 => (some (x8, m4)))))) else (some ((-1 : Int64), m)))) else (some ((-2 : Int64), m))))))
set_option maxRecDepth 20000 in
theorem u_X9_fairest_0 {F : Nat} {s : List Sh} {m m' : Mem} {r : Int64} {v0 : Nat} {v1 : Int32} {v2 : Int32} (hw : GS s m) (o_v0 : ok s v0 9) (hf : nb_X9_fairest_0 F s m v0 v1 v2 = some (r, m')) : J3 (b_X9_fairest_0 F (bl s m) v0 v1 v2) (r, bl s m') (GS s m') := by
  unfold nb_X9_fairest_0 at hf
  unfold b_X9_fairest_0
  refine k_if hf (fun hf => ?_) (fun hf => ?_)
  · exact k_ret hw hf
  · refine k_gR hw (ok_o o_v0 (by decide)) rfl hf fun a1 o_a1 hf => ?_
    refine k_gI (ok_o o_a1 (by decide)) rfl ?_
    refine k_if hf (fun hf => ?_) (fun hf => ?_)
    · exact k_ret hw hf
    · refine k_if hf (fun hf => ?_) (fun hf => ?_)
      · exact k_ret hw hf
      · refine k_if hf (fun hf => ?_) (fun hf => ?_)
        · refine k_gR hw (ok_o o_v0 (by decide)) rfl hf fun a2 o_a2 hf => ?_
          refine k_gI (ok_o o_a2 (by decide)) rfl ?_
          refine k_if hf (fun hf => ?_) (fun hf => ?_)
          · refine k_cO (ok_o o_v0 (by decide)) ?_
            refine ob2 hf fun u m4 ex hf => ?_
            refine k_b2 (un_X9_seekFairest hw o_v0 ex) fun hw => ?_
            refine k_if hf (fun hf => ?_) (fun hf => ?_)
            · refine k_gR hw (ok_o o_v0 (by decide)) rfl hf fun a5 o_a5 hf => ?_
              refine k_cO (ok_o o_a5 (by decide)) ?_
              refine ob hf fun x6 ex hf => ?_
              refine k_b1 (un_X2_part hw o_a5 ex) ?_
              exact k_ret hw hf
            · refine k_gR hw (ok_o o_v0 (by decide)) rfl hf fun a7 o_a7 hf => ?_
              refine k_cO (ok_o o_a7 (by decide)) ?_
              refine ob hf fun x8 ex hf => ?_
              refine k_b1 (un_X2_part hw o_a7 ex) ?_
              exact k_ret hw hf
          · exact k_ret hw hf
        · exact k_ret hw hf
def n_X9_fairest (F : Nat) (s : List Sh) (m : Mem) (p0 : Nat) (p1 : Int32) (p2 : Int32) : Option (Int64 × Mem) := nb_X9_fairest_0 F s m p0 p1 p2
theorem un_X9_fairest {F : Nat} {s : List Sh} {m m' : Mem} {p0 : Nat} {p1 : Int32} {p2 : Int32} {r : Int64} (hw : GS s m) (o_p0 : ok s p0 9) (ex : n_X9_fairest F s m p0 p1 p2 = some (r, m')) : J3 (m_X9_fairest F (bl s m) p0 p1 p2) (r, bl s m') (GS s m') := u_X9_fairest_0 hw o_p0 ex
/-! FractionLift.richest()I over the memory -/
def nb_X9_richest_69 (F : Nat) (s : List Sh) (nself4 : Mem → Nat → Int32 → Int32 → Option (Int32 × Mem)) (m : Mem) (v0 : Nat) (v1 : Int32) (v2 : Int32) : Option (Int32 × Mem) := bindv (v2 + (1)) fun x1 => (nself4 m v0 v1 x1)
set_option maxRecDepth 20000 in
theorem u_X9_richest_69 {F : Nat} {s : List Sh} {self4 : PH → Nat → Int32 → Int32 → Option (Int32 × PH)} {nself4 : Mem → Nat → Int32 → Int32 → Option (Int32 × Mem)} {m m' : Mem} {r : Int32} {v0 : Nat} {v1 : Int32} {v2 : Int32} (hw : GS s m) (o_v0 : ok s v0 9) (ih4 : ∀ (m : Mem) (v0 : Nat) (v1 : Int32) (v2 : Int32), GS s m → ok s v0 9 → nself4 m v0 v1 v2 = some (r, m') → J3 (self4 (bl s m) v0 v1 v2) (r, bl s m') (GS s m')) (hf : nb_X9_richest_69 F s nself4 m v0 v1 v2 = some (r, m')) : J3 (b_X9_richest_69 F self4 (bl s m) v0 v1 v2) (r, bl s m') (GS s m') := by
  unfold nb_X9_richest_69 at hf
  unfold b_X9_richest_69
  refine k_bv hf fun x1 hf => ?_
  exact ih4 _ _ _ _ hw o_v0 hf
def nb_X9_richest_46 (F : Nat) (s : List Sh) (nself4 : Mem → Nat → Int32 → Int32 → Option (Int32 × Mem)) (m : Mem) (v0 : Nat) (v2 : Int32) : Option (Int32 × Mem) := (m.2.2 v0 12).bind fun a1 => ((m.2.2 v0 13).bind fun a2 => ((m.2.2 v0 13).bind fun a3 => (bind2 (n_X2_put F s m a1 (m.2.1 a2 0) (m.2.1 a3 1)) fun _ m5 => (nb_X9_richest_69 F s nself4 m5 v0 v2 v2))))
set_option maxRecDepth 20000 in
theorem u_X9_richest_46 {F : Nat} {s : List Sh} {self4 : PH → Nat → Int32 → Int32 → Option (Int32 × PH)} {nself4 : Mem → Nat → Int32 → Int32 → Option (Int32 × Mem)} {m m' : Mem} {r : Int32} {v0 : Nat} {v2 : Int32} (hw : GS s m) (o_v0 : ok s v0 9) (ih4 : ∀ (m : Mem) (v0 : Nat) (v1 : Int32) (v2 : Int32), GS s m → ok s v0 9 → nself4 m v0 v1 v2 = some (r, m') → J3 (self4 (bl s m) v0 v1 v2) (r, bl s m') (GS s m')) (hf : nb_X9_richest_46 F s nself4 m v0 v2 = some (r, m')) : J3 (b_X9_richest_46 F self4 (bl s m) v0 v2) (r, bl s m') (GS s m') := by
  unfold nb_X9_richest_46 at hf
  unfold b_X9_richest_46
  refine k_gR hw (ok_o o_v0 (by decide)) rfl hf fun a1 o_a1 hf => ?_
  refine k_gR hw (ok_o o_v0 (by decide)) rfl hf fun a2 o_a2 hf => ?_
  refine k_gL (ok_o o_a2 (by decide)) rfl ?_
  refine k_gR hw (ok_o o_v0 (by decide)) rfl hf fun a3 o_a3 hf => ?_
  refine k_gL (ok_o o_a3 (by decide)) rfl ?_
  refine k_cO (ok_o o_a1 (by decide)) ?_
  refine ob2 hf fun u m5 ex hf => ?_
  refine k_b2 (un_X2_put hw o_a1 ex) fun hw => ?_
  exact u_X9_richest_69 hw o_v0 ih4 hf
def nb_X9_richest_4 (F : Nat) (s : List Sh) (nself4 : Mem → Nat → Int32 → Int32 → Option (Int32 × Mem)) (m : Mem) (v0 : Nat) (v1 : Int32) (v2 : Int32) : Option (Int32 × Mem) := (m.2.2 v0 4).bind fun a1 => (if (m.1 a1 15) ≤ v2 then (some (v1, m)) else ((m.2.2 v0 4).bind fun a2 => ((m.2.2 v0 13).bind fun a3 => (bind2 (n_X0_rentOf F s m a2 v2 a3) fun _ m5 => (if v1 = (-1 : Int32) then (nb_X9_richest_46 F s nself4 m5 v0 v2) else ((m5.2.2 v0 13).bind fun a6 => ((m5.2.2 v0 12).bind fun a7 => ((n_X2_compared s m5 a6 a7).bind fun x8 => (if x8 ≤ 0 then (nb_X9_richest_69 F s nself4 m5 v0 v1 v2) else (nb_X9_richest_46 F s nself4 m5 v0 v2))))))))))
set_option maxRecDepth 20000 in
theorem ub_X9_richest_4 {F : Nat} {s : List Sh} {self4 : PH → Nat → Int32 → Int32 → Option (Int32 × PH)} {nself4 : Mem → Nat → Int32 → Int32 → Option (Int32 × Mem)} {m m' : Mem} {r : Int32} {v0 : Nat} {v1 : Int32} {v2 : Int32} (hw : GS s m) (o_v0 : ok s v0 9) (ih4 : ∀ (m : Mem) (v0 : Nat) (v1 : Int32) (v2 : Int32), GS s m → ok s v0 9 → nself4 m v0 v1 v2 = some (r, m') → J3 (self4 (bl s m) v0 v1 v2) (r, bl s m') (GS s m')) (hf : nb_X9_richest_4 F s nself4 m v0 v1 v2 = some (r, m')) : J3 (b_X9_richest_4 F self4 (bl s m) v0 v1 v2) (r, bl s m') (GS s m') := by
  unfold nb_X9_richest_4 at hf
  unfold b_X9_richest_4
  refine k_gR hw (ok_o o_v0 (by decide)) rfl hf fun a1 o_a1 hf => ?_
  refine k_gI (ok_o o_a1 (by decide)) rfl ?_
  refine k_if hf (fun hf => ?_) (fun hf => ?_)
  · exact k_ret hw hf
  · refine k_gR hw (ok_o o_v0 (by decide)) rfl hf fun a2 o_a2 hf => ?_
    refine k_gR hw (ok_o o_v0 (by decide)) rfl hf fun a3 o_a3 hf => ?_
    refine k_cO (ok_o o_a2 (by decide)) ?_
    refine ob2 hf fun u m5 ex hf => ?_
    refine k_b2 (un_X0_rentOf hw o_a2 o_a3 ex) fun hw => ?_
    refine k_if hf (fun hf => ?_) (fun hf => ?_)
    · exact u_X9_richest_46 hw o_v0 ih4 hf
    · refine k_gR hw (ok_o o_v0 (by decide)) rfl hf fun a6 o_a6 hf => ?_
      refine k_gR hw (ok_o o_v0 (by decide)) rfl hf fun a7 o_a7 hf => ?_
      refine k_cO (ok_o o_a6 (by decide)) ?_
      refine ob hf fun x8 ex hf => ?_
      refine k_b1 (un_X2_compared hw o_a6 o_a7 ex) ?_
      refine k_if hf (fun hf => ?_) (fun hf => ?_)
      · exact u_X9_richest_69 hw o_v0 ih4 hf
      · exact u_X9_richest_46 hw o_v0 ih4 hf
def nl_X9_richest_4 (F : Nat) (s : List Sh) : Nat → Mem → Nat → Int32 → Int32 → Option (Int32 × Mem)
  | 0 => fun _ _ _ _ => none
  | n + 1 => fun m v0 v1 v2 => nb_X9_richest_4 F s (nl_X9_richest_4 F s n) m v0 v1 v2
theorem ul_X9_richest_4 {F : Nat} {s : List Sh} {m' : Mem} {r : Int32} (n : Nat) : ∀ (m : Mem) (v0 : Nat) (v1 : Int32) (v2 : Int32), GS s m → ok s v0 9 → nl_X9_richest_4 F s n m v0 v1 v2 = some (r, m') → J3 (l_X9_richest_4 F n (bl s m) v0 v1 v2) (r, bl s m') (GS s m') := by
  induction n with
  | zero => intro m v0 v1 v2 hw o_v0 hf; cases hf
  | succ n ih => intro m v0 v1 v2 hw o_v0 hf; exact ub_X9_richest_4 (F := F) hw o_v0 ih hf
def nb_X9_richest_0 (F : Nat) (s : List Sh) (m : Mem) (v0 : Nat) : Option (Int32 × Mem) := nl_X9_richest_4 F s F m v0 (-1 : Int32) (0 : Int32)
set_option maxRecDepth 20000 in
theorem u_X9_richest_0 {F : Nat} {s : List Sh} {m m' : Mem} {r : Int32} {v0 : Nat} (hw : GS s m) (o_v0 : ok s v0 9) (hf : nb_X9_richest_0 F s m v0 = some (r, m')) : J3 (b_X9_richest_0 F (bl s m) v0) (r, bl s m') (GS s m') := by
  unfold nb_X9_richest_0 at hf
  unfold b_X9_richest_0
  exact ul_X9_richest_4 F _ _ _ _ hw o_v0 hf
def n_X9_richest (F : Nat) (s : List Sh) (m : Mem) (p0 : Nat) : Option (Int32 × Mem) := nb_X9_richest_0 F s m p0
theorem un_X9_richest {F : Nat} {s : List Sh} {m m' : Mem} {p0 : Nat} {r : Int32} (hw : GS s m) (o_p0 : ok s p0 9) (ex : n_X9_richest F s m p0 = some (r, m')) : J3 (m_X9_richest F (bl s m) p0) (r, bl s m') (GS s m') := u_X9_richest_0 hw o_p0 ex
/-! FractionLift.refusedSeen(I)I over the memory -/
def nb_X9_refusedSeen_23 (F : Nat) (s : List Sh) (nself16 : Nat → Nat → Int32 → Option Int32) (m : Mem) (v0 : Nat) (v3 : Nat) (v4 : Int32) : Option Int32 := if (m.1 v3 1) ≤ v4 then (some (0 : Int32)) else ((m.2.2 v3 2).bind fun a1 => ((rdL s m a1 v4).bind fun x2 => (if x2 < (-1 : Int64) then (some (-3 : Int32)) else ((m.2.2 v3 2).bind fun a3 => ((rdL s m a3 v4).bind fun x4 => ((m.2.2 v0 4).bind fun a5 => (if x4 < ((Int32.toInt64 (m.1 a5 9))) then (bindv (v4 + (1)) fun x6 => (nself16 v0 v3 x6)) else (some (-3 : Int32)))))))))
set_option maxRecDepth 20000 in
theorem ub_X9_refusedSeen_23 {F : Nat} {s : List Sh} {self16 : Nat → Nat → Int32 → Option Int32} {nself16 : Nat → Nat → Int32 → Option Int32} {m : Mem} {r : Int32} {v0 : Nat} {v3 : Nat} {v4 : Int32} (hw : GS s m) (o_v0 : ok s v0 9) (o_v3 : ok s v3 7) (ih16 : ∀ (v0 : Nat) (v3 : Nat) (v4 : Int32), ok s v0 9 → ok s v3 7 → nself16 v0 v3 v4 = some r → J3 (self16 v0 v3 v4) r True) (hf : nb_X9_refusedSeen_23 F s nself16 m v0 v3 v4 = some r) : J3 (b_X9_refusedSeen_23 F self16 (bl s m) v0 v3 v4) r True := by
  unfold nb_X9_refusedSeen_23 at hf
  unfold b_X9_refusedSeen_23
  refine k_gI (ok_o o_v3 (by decide)) rfl ?_
  refine k_if hf (fun hf => ?_) (fun hf => ?_)
  · exact k_retP hf
  · refine k_gR hw (ok_o o_v3 (by decide)) rfl hf fun a1 o_a1 hf => ?_
    refine k_aL (ka rfl o_a1) hf fun x2 hf => ?_
    refine k_if hf (fun hf => ?_) (fun hf => ?_)
    · exact k_retP hf
    · refine k_gR hw (ok_o o_v3 (by decide)) rfl hf fun a3 o_a3 hf => ?_
      refine k_aL (ka rfl o_a3) hf fun x4 hf => ?_
      refine k_gR hw (ok_o o_v0 (by decide)) rfl hf fun a5 o_a5 hf => ?_
      refine k_gI (ok_o o_a5 (by decide)) rfl ?_
      refine k_if hf (fun hf => ?_) (fun hf => ?_)
      · refine k_bv hf fun x6 hf => ?_
        exact ih16 _ _ _ o_v0 o_v3 hf
      · exact k_retP hf
def nl_X9_refusedSeen_23 (F : Nat) (s : List Sh) (m : Mem) : Nat → Nat → Nat → Int32 → Option Int32
  | 0 => fun _ _ _ => none
  | n + 1 => fun v0 v3 v4 => nb_X9_refusedSeen_23 F s (nl_X9_refusedSeen_23 F s m n) m v0 v3 v4
theorem ul_X9_refusedSeen_23 {F : Nat} {s : List Sh} {m : Mem} {r : Int32} (hw : GS s m) (n : Nat) : ∀ (v0 : Nat) (v3 : Nat) (v4 : Int32), ok s v0 9 → ok s v3 7 → nl_X9_refusedSeen_23 F s m n v0 v3 v4 = some r → J3 (l_X9_refusedSeen_23 F (bl s m) n v0 v3 v4) r True := by
  induction n with
  | zero => intro v0 v3 v4 o_v0 o_v3 hf; cases hf
  | succ n ih => intro v0 v3 v4 o_v0 o_v3 hf; exact ub_X9_refusedSeen_23 (F := F) hw o_v0 o_v3 ih hf
def nb_X9_refusedSeen_0 (F : Nat) (s : List Sh) (m : Mem) (v0 : Nat) (v1 : Int32) : Option Int32 := (n_X9_refusedRow s m v0 v1 (2 : Int32)).bind fun x1 => (if x1 = 0 then ((m.2.2 v0 7).bind fun a2 => ((rdR s m a2 v1).bind fun a3 => (nl_X9_refusedSeen_23 F s m F v0 a3 (0 : Int32)))) else (some x1))
set_option maxRecDepth 20000 in
theorem u_X9_refusedSeen_0 {F : Nat} {s : List Sh} {m : Mem} {r : Int32} {v0 : Nat} {v1 : Int32} (hw : GS s m) (o_v0 : ok s v0 9) (hf : nb_X9_refusedSeen_0 F s m v0 v1 = some r) : J3 (b_X9_refusedSeen_0 F (bl s m) v0 v1) r True := by
  unfold nb_X9_refusedSeen_0 at hf
  unfold b_X9_refusedSeen_0
  refine k_cO (ok_o o_v0 (by decide)) ?_
  refine ob hf fun x1 ex hf => ?_
  refine k_b1 (un_X9_refusedRow hw o_v0 ex) ?_
  refine k_if hf (fun hf => ?_) (fun hf => ?_)
  · refine k_gR hw (ok_o o_v0 (by decide)) rfl hf fun a2 o_a2 hf => ?_
    refine k_aR hw (Or.inr rfl) (ka rfl o_a2) hf fun a3 o_a3 hf => ?_
    exact ul_X9_refusedSeen_23 hw F _ _ _ o_v0 o_a3 hf
  · exact k_retP hf
def n_X9_refusedSeen (F : Nat) (s : List Sh) (m : Mem) (p0 : Nat) (p1 : Int32) : Option Int32 := nb_X9_refusedSeen_0 F s m p0 p1
theorem un_X9_refusedSeen {F : Nat} {s : List Sh} {m : Mem} {p0 : Nat} {p1 : Int32} {r : Int32} (hw : GS s m) (o_p0 : ok s p0 9) (ex : n_X9_refusedSeen F s m p0 p1 = some r) : J3 (m_X9_refusedSeen F (bl s m) p0 p1) r True := u_X9_refusedSeen_0 hw o_p0 ex
/-! FractionLift.fewRows(I)Z over the memory -/
def nb_X9_fewRows_5 (F : Nat) (s : List Sh) (nself4 : Nat → Int32 → Int64 → Int32 → Option Int32) (m : Mem) (v0 : Nat) (v1 : Int32) (v2 : Int64) (v4 : Int32) : Option Int32 := if v1 ≤ v4 then (if (200000 : Int64) < v2 then (rZP (0 : Int32)) else (rZP (1 : Int32))) else ((m.2.2 v0 4).bind fun a1 => (bindv ((v2 * ((Int32.toInt64 (m.1 a1 6))))) fun x2 => (bindv (v4 + (1)) fun x3 => (nself4 v0 v1 x2 x3))))
set_option maxRecDepth 20000 in
theorem ub_X9_fewRows_5 {F : Nat} {s : List Sh} {self4 : Nat → Int32 → Int64 → Int32 → Option Int32} {nself4 : Nat → Int32 → Int64 → Int32 → Option Int32} {m : Mem} {r : Int32} {v0 : Nat} {v1 : Int32} {v2 : Int64} {v4 : Int32} (hw : GS s m) (o_v0 : ok s v0 9) (ih4 : ∀ (v0 : Nat) (v1 : Int32) (v2 : Int64) (v4 : Int32), ok s v0 9 → nself4 v0 v1 v2 v4 = some r → J3 (self4 v0 v1 v2 v4) r True) (hf : nb_X9_fewRows_5 F s nself4 m v0 v1 v2 v4 = some r) : J3 (b_X9_fewRows_5 F self4 (bl s m) v0 v1 v2 v4) r True := by
  unfold nb_X9_fewRows_5 at hf
  unfold b_X9_fewRows_5
  refine k_if hf (fun hf => ?_) (fun hf => ?_)
  · refine k_if hf (fun hf => ?_) (fun hf => ?_)
    · exact k_rZP hf
    · exact k_rZP hf
  · refine k_gR hw (ok_o o_v0 (by decide)) rfl hf fun a1 o_a1 hf => ?_
    refine k_gI (ok_o o_a1 (by decide)) rfl ?_
    refine k_bv hf fun x2 hf => ?_
    refine k_bv hf fun x3 hf => ?_
    exact ih4 _ _ _ _ o_v0 hf
def nl_X9_fewRows_5 (F : Nat) (s : List Sh) (m : Mem) : Nat → Nat → Int32 → Int64 → Int32 → Option Int32
  | 0 => fun _ _ _ _ => none
  | n + 1 => fun v0 v1 v2 v4 => nb_X9_fewRows_5 F s (nl_X9_fewRows_5 F s m n) m v0 v1 v2 v4
theorem ul_X9_fewRows_5 {F : Nat} {s : List Sh} {m : Mem} {r : Int32} (hw : GS s m) (n : Nat) : ∀ (v0 : Nat) (v1 : Int32) (v2 : Int64) (v4 : Int32), ok s v0 9 → nl_X9_fewRows_5 F s m n v0 v1 v2 v4 = some r → J3 (l_X9_fewRows_5 F (bl s m) n v0 v1 v2 v4) r True := by
  induction n with
  | zero => intro v0 v1 v2 v4 o_v0 hf; cases hf
  | succ n ih => intro v0 v1 v2 v4 o_v0 hf; exact ub_X9_fewRows_5 (F := F) hw o_v0 ih hf
def nb_X9_fewRows_0 (F : Nat) (s : List Sh) (m : Mem) (v0 : Nat) (v1 : Int32) : Option Int32 := nl_X9_fewRows_5 F s m F v0 v1 (1 : Int64) (0 : Int32)
set_option maxRecDepth 20000 in
theorem u_X9_fewRows_0 {F : Nat} {s : List Sh} {m : Mem} {r : Int32} {v0 : Nat} {v1 : Int32} (hw : GS s m) (o_v0 : ok s v0 9) (hf : nb_X9_fewRows_0 F s m v0 v1 = some r) : J3 (b_X9_fewRows_0 F (bl s m) v0 v1) r True := by
  unfold nb_X9_fewRows_0 at hf
  unfold b_X9_fewRows_0
  exact ul_X9_fewRows_5 hw F _ _ _ _ o_v0 hf
def n_X9_fewRows (F : Nat) (s : List Sh) (m : Mem) (p0 : Nat) (p1 : Int32) : Option Int32 := nb_X9_fewRows_0 F s m p0 p1
theorem un_X9_fewRows {F : Nat} {s : List Sh} {m : Mem} {p0 : Nat} {p1 : Int32} {r : Int32} (hw : GS s m) (o_p0 : ok s p0 9) (ex : n_X9_fewRows F s m p0 p1 = some r) : J3 (m_X9_fewRows F (bl s m) p0 p1) r True := u_X9_fewRows_0 hw o_p0 ex
/-! FractionLift.hasButtonsAlone(LFractionLift$Tray;)Z over the memory -/
def nb_X9_hasButtonsAlone_2 (F : Nat) (s : List Sh) (nself2 : Nat → Nat → Int32 → Option Int32) (m : Mem) (v0 : Nat) (v1 : Nat) (v2 : Int32) : Option Int32 := if (m.1 v1 1) ≤ v2 then (rZP (1 : Int32)) else ((m.2.2 v1 2).bind fun a1 => ((rdL s m a1 v2).bind fun x2 => (if x2 < (0 : Int64) then (rZP (0 : Int32)) else ((m.2.2 v1 2).bind fun a3 => ((rdL s m a3 v2).bind fun x4 => ((m.2.2 v0 4).bind fun a5 => (if x4 < ((Int32.toInt64 (m.1 a5 6))) then (bindv (v2 + (1)) fun x6 => (nself2 v0 v1 x6)) else (rZP (0 : Int32)))))))))
set_option maxRecDepth 20000 in
theorem ub_X9_hasButtonsAlone_2 {F : Nat} {s : List Sh} {self2 : Nat → Nat → Int32 → Option Int32} {nself2 : Nat → Nat → Int32 → Option Int32} {m : Mem} {r : Int32} {v0 : Nat} {v1 : Nat} {v2 : Int32} (hw : GS s m) (o_v0 : ok s v0 9) (o_v1 : ok s v1 7) (ih2 : ∀ (v0 : Nat) (v1 : Nat) (v2 : Int32), ok s v0 9 → ok s v1 7 → nself2 v0 v1 v2 = some r → J3 (self2 v0 v1 v2) r True) (hf : nb_X9_hasButtonsAlone_2 F s nself2 m v0 v1 v2 = some r) : J3 (b_X9_hasButtonsAlone_2 F self2 (bl s m) v0 v1 v2) r True := by
  unfold nb_X9_hasButtonsAlone_2 at hf
  unfold b_X9_hasButtonsAlone_2
  refine k_gI (ok_o o_v1 (by decide)) rfl ?_
  refine k_if hf (fun hf => ?_) (fun hf => ?_)
  · exact k_rZP hf
  · refine k_gR hw (ok_o o_v1 (by decide)) rfl hf fun a1 o_a1 hf => ?_
    refine k_aL (ka rfl o_a1) hf fun x2 hf => ?_
    refine k_if hf (fun hf => ?_) (fun hf => ?_)
    · exact k_rZP hf
    · refine k_gR hw (ok_o o_v1 (by decide)) rfl hf fun a3 o_a3 hf => ?_
      refine k_aL (ka rfl o_a3) hf fun x4 hf => ?_
      refine k_gR hw (ok_o o_v0 (by decide)) rfl hf fun a5 o_a5 hf => ?_
      refine k_gI (ok_o o_a5 (by decide)) rfl ?_
      refine k_if hf (fun hf => ?_) (fun hf => ?_)
      · refine k_bv hf fun x6 hf => ?_
        exact ih2 _ _ _ o_v0 o_v1 hf
      · exact k_rZP hf
def nl_X9_hasButtonsAlone_2 (F : Nat) (s : List Sh) (m : Mem) : Nat → Nat → Nat → Int32 → Option Int32
  | 0 => fun _ _ _ => none
  | n + 1 => fun v0 v1 v2 => nb_X9_hasButtonsAlone_2 F s (nl_X9_hasButtonsAlone_2 F s m n) m v0 v1 v2
theorem ul_X9_hasButtonsAlone_2 {F : Nat} {s : List Sh} {m : Mem} {r : Int32} (hw : GS s m) (n : Nat) : ∀ (v0 : Nat) (v1 : Nat) (v2 : Int32), ok s v0 9 → ok s v1 7 → nl_X9_hasButtonsAlone_2 F s m n v0 v1 v2 = some r → J3 (l_X9_hasButtonsAlone_2 F (bl s m) n v0 v1 v2) r True := by
  induction n with
  | zero => intro v0 v1 v2 o_v0 o_v1 hf; cases hf
  | succ n ih => intro v0 v1 v2 o_v0 o_v1 hf; exact ub_X9_hasButtonsAlone_2 (F := F) hw o_v0 o_v1 ih hf
def nb_X9_hasButtonsAlone_0 (F : Nat) (s : List Sh) (m : Mem) (v0 : Nat) (v1 : Nat) : Option Int32 := nl_X9_hasButtonsAlone_2 F s m F v0 v1 (0 : Int32)
set_option maxRecDepth 20000 in
theorem u_X9_hasButtonsAlone_0 {F : Nat} {s : List Sh} {m : Mem} {r : Int32} {v0 : Nat} {v1 : Nat} (hw : GS s m) (o_v0 : ok s v0 9) (o_v1 : ok s v1 7) (hf : nb_X9_hasButtonsAlone_0 F s m v0 v1 = some r) : J3 (b_X9_hasButtonsAlone_0 F (bl s m) v0 v1) r True := by
  unfold nb_X9_hasButtonsAlone_0 at hf
  unfold b_X9_hasButtonsAlone_0
  exact ul_X9_hasButtonsAlone_2 hw F _ _ _ o_v0 o_v1 hf
def n_X9_hasButtonsAlone (F : Nat) (s : List Sh) (m : Mem) (p0 : Nat) (p1 : Nat) : Option Int32 := nb_X9_hasButtonsAlone_0 F s m p0 p1
theorem un_X9_hasButtonsAlone {F : Nat} {s : List Sh} {m : Mem} {p0 : Nat} {p1 : Nat} {r : Int32} (hw : GS s m) (o_p0 : ok s p0 9) (o_p1 : ok s p1 7) (ex : n_X9_hasButtonsAlone F s m p0 p1 = some r) : J3 (m_X9_hasButtonsAlone F (bl s m) p0 p1) r True := u_X9_hasButtonsAlone_0 hw o_p0 o_p1 ex
/-! FractionLift.write(IIJ)J over the memory -/
def nb_X9_write_0 (s : List Sh) (m : Mem) (v0 : Nat) (v1 : Int32) (v2 : Int32) (v3 : Int64) : Option (Int64 × Mem) := (n_X9_refusedTray s m v0 v1).bind fun x1 => (if x1 = 0 then ((m.2.2 v0 7).bind fun a2 => ((rdR s m a2 v1).bind fun a3 => (bind2 (n_X7_lay s m a3 v2 v3) fun x4 m5 => (some (x4, m5))))) else (some ((Int32.toInt64 x1), m)))
set_option maxRecDepth 20000 in
theorem u_X9_write_0 {s : List Sh} {m m' : Mem} {r : Int64} {v0 : Nat} {v1 : Int32} {v2 : Int32} {v3 : Int64} (hw : GS s m) (o_v0 : ok s v0 9) (hf : nb_X9_write_0 s m v0 v1 v2 v3 = some (r, m')) : J3 (b_X9_write_0 (bl s m) v0 v1 v2 v3) (r, bl s m') (GS s m') := by
  unfold nb_X9_write_0 at hf
  unfold b_X9_write_0
  refine k_cO (ok_o o_v0 (by decide)) ?_
  refine ob hf fun x1 ex hf => ?_
  refine k_b1 (un_X9_refusedTray hw o_v0 ex) ?_
  refine k_if hf (fun hf => ?_) (fun hf => ?_)
  · refine k_gR hw (ok_o o_v0 (by decide)) rfl hf fun a2 o_a2 hf => ?_
    refine k_aR hw (Or.inr rfl) (ka rfl o_a2) hf fun a3 o_a3 hf => ?_
    refine k_cO (ok_o o_a3 (by decide)) ?_
    refine ob2 hf fun x4 m5 ex hf => ?_
    refine k_b2 (un_X7_lay hw o_a3 ex) fun hw => ?_
    exact k_ret hw hf
  · exact k_ret hw hf
def n_X9_write (s : List Sh) (m : Mem) (p0 : Nat) (p1 : Int32) (p2 : Int32) (p3 : Int64) : Option (Int64 × Mem) := nb_X9_write_0 s m p0 p1 p2 p3
theorem un_X9_write {s : List Sh} {m m' : Mem} {p0 : Nat} {p1 : Int32} {p2 : Int32} {p3 : Int64} {r : Int64} (hw : GS s m) (o_p0 : ok s p0 9) (ex : n_X9_write s m p0 p1 p2 p3 = some (r, m')) : J3 (m_X9_write (bl s m) p0 p1 p2 p3) (r, bl s m') (GS s m') := u_X9_write_0 hw o_p0 ex
/-! FractionLift.copy(I)I over the memory -/
def nb_X9_copy_51 (F : Nat) (s : List Sh) (nself29 : Mem → Nat → Nat → Int32 → Int32 → Option (Int32 × Mem)) (m : Mem) (v0 : Nat) (v3 : Nat) (v4 : Int32) (v5 : Int32) : Option (Int32 × Mem) := if v4 ≤ v5 then (some (v4, m)) else ((m.2.2 v0 14).bind fun a1 => ((rdL s m a1 v5).bind fun x2 => (bind2 (n_X7_lay s m v3 v5 x2) fun x3 m4 => (bindv (v5 + (1)) fun x5 => (nself29 m4 v0 v3 v4 x5)))))
set_option maxRecDepth 20000 in
theorem ub_X9_copy_51 {F : Nat} {s : List Sh} {self29 : PH → Nat → Nat → Int32 → Int32 → Option (Int32 × PH)} {nself29 : Mem → Nat → Nat → Int32 → Int32 → Option (Int32 × Mem)} {m m' : Mem} {r : Int32} {v0 : Nat} {v3 : Nat} {v4 : Int32} {v5 : Int32} (hw : GS s m) (o_v0 : ok s v0 9) (o_v3 : ok s v3 7) (ih29 : ∀ (m : Mem) (v0 : Nat) (v3 : Nat) (v4 : Int32) (v5 : Int32), GS s m → ok s v0 9 → ok s v3 7 → nself29 m v0 v3 v4 v5 = some (r, m') → J3 (self29 (bl s m) v0 v3 v4 v5) (r, bl s m') (GS s m')) (hf : nb_X9_copy_51 F s nself29 m v0 v3 v4 v5 = some (r, m')) : J3 (b_X9_copy_51 F self29 (bl s m) v0 v3 v4 v5) (r, bl s m') (GS s m') := by
  unfold nb_X9_copy_51 at hf
  unfold b_X9_copy_51
  refine k_if hf (fun hf => ?_) (fun hf => ?_)
  · exact k_ret hw hf
  · refine k_gR hw (ok_o o_v0 (by decide)) rfl hf fun a1 o_a1 hf => ?_
    refine k_aL (ka rfl o_a1) hf fun x2 hf => ?_
    refine k_cO (ok_o o_v3 (by decide)) ?_
    refine ob2 hf fun x3 m4 ex hf => ?_
    refine k_b2 (un_X7_lay hw o_v3 ex) fun hw => ?_
    refine k_bv hf fun x5 hf => ?_
    exact ih29 _ _ _ _ _ hw o_v0 o_v3 hf
def nl_X9_copy_51 (F : Nat) (s : List Sh) : Nat → Mem → Nat → Nat → Int32 → Int32 → Option (Int32 × Mem)
  | 0 => fun _ _ _ _ _ => none
  | n + 1 => fun m v0 v3 v4 v5 => nb_X9_copy_51 F s (nl_X9_copy_51 F s n) m v0 v3 v4 v5
theorem ul_X9_copy_51 {F : Nat} {s : List Sh} {m' : Mem} {r : Int32} (n : Nat) : ∀ (m : Mem) (v0 : Nat) (v3 : Nat) (v4 : Int32) (v5 : Int32), GS s m → ok s v0 9 → ok s v3 7 → nl_X9_copy_51 F s n m v0 v3 v4 v5 = some (r, m') → J3 (l_X9_copy_51 F n (bl s m) v0 v3 v4 v5) (r, bl s m') (GS s m') := by
  induction n with
  | zero => intro m v0 v3 v4 v5 hw o_v0 o_v3 hf; cases hf
  | succ n ih => intro m v0 v3 v4 v5 hw o_v0 o_v3 hf; exact ub_X9_copy_51 (F := F) hw o_v0 o_v3 ih hf
def nb_X9_copy_0 (F : Nat) (s : List Sh) (m : Mem) (v0 : Nat) (v1 : Int32) : Option (Int32 × Mem) := (n_X9_refusedTray s m v0 v1).bind fun x1 => (if x1 = 0 then ((m.2.2 v0 7).bind fun a2 => ((rdR s m a2 v1).bind fun a3 => ((m.2.2 v0 4).bind fun a4 => ((m.2.2 v0 4).bind fun a5 => (bind2 (n_X9_layTerms F s m v0 ((Int32.toInt64 (m.1 a4 4))) ((Int32.toInt64 (m.1 a5 5)))) fun x6 m7 => (bindv ((jmin x6 (m7.1 a3 1))) fun x8 => (nl_X9_copy_51 F s F m7 v0 a3 x8 (0 : Int32)))))))) else (some (x1, m)))
set_option maxRecDepth 20000 in
theorem u_X9_copy_0 {F : Nat} {s : List Sh} {m m' : Mem} {r : Int32} {v0 : Nat} {v1 : Int32} (hw : GS s m) (o_v0 : ok s v0 9) (hf : nb_X9_copy_0 F s m v0 v1 = some (r, m')) : J3 (b_X9_copy_0 F (bl s m) v0 v1) (r, bl s m') (GS s m') := by
  unfold nb_X9_copy_0 at hf
  unfold b_X9_copy_0
  refine k_cO (ok_o o_v0 (by decide)) ?_
  refine ob hf fun x1 ex hf => ?_
  refine k_b1 (un_X9_refusedTray hw o_v0 ex) ?_
  refine k_if hf (fun hf => ?_) (fun hf => ?_)
  · refine k_gR hw (ok_o o_v0 (by decide)) rfl hf fun a2 o_a2 hf => ?_
    refine k_aR hw (Or.inr rfl) (ka rfl o_a2) hf fun a3 o_a3 hf => ?_
    refine k_gR hw (ok_o o_v0 (by decide)) rfl hf fun a4 o_a4 hf => ?_
    refine k_gI (ok_o o_a4 (by decide)) rfl ?_
    refine k_gR hw (ok_o o_v0 (by decide)) rfl hf fun a5 o_a5 hf => ?_
    refine k_gI (ok_o o_a5 (by decide)) rfl ?_
    refine k_cO (ok_o o_v0 (by decide)) ?_
    refine ob2 hf fun x6 m7 ex hf => ?_
    refine k_b2 (un_X9_layTerms hw o_v0 ex) fun hw => ?_
    refine k_gI (ok_o o_a3 (by decide)) rfl ?_
    refine k_bv hf fun x8 hf => ?_
    exact ul_X9_copy_51 F _ _ _ _ _ hw o_v0 o_a3 hf
  · exact k_ret hw hf
def n_X9_copy (F : Nat) (s : List Sh) (m : Mem) (p0 : Nat) (p1 : Int32) : Option (Int32 × Mem) := nb_X9_copy_0 F s m p0 p1
theorem un_X9_copy {F : Nat} {s : List Sh} {m m' : Mem} {p0 : Nat} {p1 : Int32} {r : Int32} (hw : GS s m) (o_p0 : ok s p0 9) (ex : n_X9_copy F s m p0 p1 = some (r, m')) : J3 (m_X9_copy F (bl s m) p0 p1) (r, bl s m') (GS s m') := u_X9_copy_0 hw o_p0 ex
/-! FractionLift.restore(I)I over the memory -/
def nb_X9_restore_0 (s : List Sh) (m : Mem) (v0 : Nat) (v1 : Int32) : Option (Int32 × Mem) := if v1 < 0 then (some ((-2 : Int32), m)) else (if v1 < (2 : Int32) then ((m.2.2 v0 6).bind fun a1 => ((rdN s m a1 v1).bind fun q2 => (if q2 = none then (some ((-5 : Int32), m)) else ((m.2.2 v0 4).bind fun a3 => ((m.2.2 v0 6).bind fun a4 => ((rdR s m a4 v1).bind fun a5 => (bind2 (n_X0_takeFrom s m a3 a5) fun _ m7 => (bindv (wI m7 v0 10 (0 : Int32)) fun m8 => (some ((0 : Int32), m8)))))))))) else (some ((-2 : Int32), m)))
set_option maxRecDepth 20000 in
theorem u_X9_restore_0 {s : List Sh} {m m' : Mem} {r : Int32} {v0 : Nat} {v1 : Int32} (hw : GS s m) (o_v0 : ok s v0 9) (hf : nb_X9_restore_0 s m v0 v1 = some (r, m')) : J3 (b_X9_restore_0 (bl s m) v0 v1) (r, bl s m') (GS s m') := by
  unfold nb_X9_restore_0 at hf
  unfold b_X9_restore_0
  refine k_if hf (fun hf => ?_) (fun hf => ?_)
  · exact k_ret hw hf
  · refine k_if hf (fun hf => ?_) (fun hf => ?_)
    · refine k_gR hw (ok_o o_v0 (by decide)) rfl hf fun a1 o_a1 hf => ?_
      refine k_aN (Or.inl rfl) (ka rfl o_a1) hf fun q2 hf => ?_
      refine k_if hf (fun hf => ?_) (fun hf => ?_)
      · exact k_ret hw hf
      · refine k_gR hw (ok_o o_v0 (by decide)) rfl hf fun a3 o_a3 hf => ?_
        refine k_gR hw (ok_o o_v0 (by decide)) rfl hf fun a4 o_a4 hf => ?_
        refine k_aR hw (Or.inl rfl) (ka rfl o_a4) hf fun a5 o_a5 hf => ?_
        refine k_cO (ok_o o_a3 (by decide)) ?_
        refine ob2 hf fun u m7 ex hf => ?_
        refine k_b2 (un_X0_takeFrom hw o_a3 o_a5 ex) fun hw => ?_
        refine k_pI hw (ok_o o_v0 (by decide)) rfl hf fun m8 hw hf => ?_
        exact k_ret hw hf
    · exact k_ret hw hf
def n_X9_restore (s : List Sh) (m : Mem) (p0 : Nat) (p1 : Int32) : Option (Int32 × Mem) := nb_X9_restore_0 s m p0 p1
theorem un_X9_restore {s : List Sh} {m m' : Mem} {p0 : Nat} {p1 : Int32} {r : Int32} (hw : GS s m) (o_p0 : ok s p0 9) (ex : n_X9_restore s m p0 p1 = some (r, m')) : J3 (m_X9_restore (bl s m) p0 p1) (r, bl s m') (GS s m') := u_X9_restore_0 hw o_p0 ex
/-! FractionLift.count(I)I over the memory -/
def nb_X9_count_0 (s : List Sh) (m : Mem) (v0 : Nat) (v1 : Int32) : Option Int32 := swN v1 (0) [(m.2.2 v0 4).bind fun a1 => (some (m.1 a1 0)), (m.2.2 v0 4).bind fun a2 => (some (m.1 a2 6)), (m.2.2 v0 4).bind fun a3 => (some (m.1 a3 9)), (m.2.2 v0 4).bind fun a4 => (some (m.1 a4 15)), (m.2.2 v0 4).bind fun a5 => (some (m.1 a5 1)), some (m.1 v0 10), (m.2.2 v0 4).bind fun a6 => (some (m.1 a6 3)), some (m.1 v0 1), (m.2.2 v0 4).bind fun a7 => (some (m.1 a7 2))] (some (-1 : Int32))
set_option maxRecDepth 20000 in
theorem u_X9_count_0 {s : List Sh} {m : Mem} {r : Int32} {v0 : Nat} {v1 : Int32} (hw : GS s m) (o_v0 : ok s v0 9) (hf : nb_X9_count_0 s m v0 v1 = some r) : J3 (b_X9_count_0 (bl s m) v0 v1) r True := by
  unfold nb_X9_count_0 at hf
  unfold b_X9_count_0
  refine k_sw hf rfl (fun i hi hf => ?_) (fun hf => ?_)
  · rcases (show i = 0 ∨ i = 1 ∨ i = 2 ∨ i = 3 ∨ i = 4 ∨ i = 5 ∨ i = 6 ∨ i = 7 ∨ i = 8 by simp only [List.length_cons, List.length_nil] at hi; omega) with rfl | rfl | rfl | rfl | rfl | rfl | rfl | rfl | rfl
    · have hf := gd_at hf rfl
      refine gd_goal rfl ?_
      refine k_gR hw (ok_o o_v0 (by decide)) rfl hf fun a1 o_a1 hf => ?_
      refine k_gI (ok_o o_a1 (by decide)) rfl ?_
      exact k_retP hf
    · have hf := gd_at hf rfl
      refine gd_goal rfl ?_
      refine k_gR hw (ok_o o_v0 (by decide)) rfl hf fun a2 o_a2 hf => ?_
      refine k_gI (ok_o o_a2 (by decide)) rfl ?_
      exact k_retP hf
    · have hf := gd_at hf rfl
      refine gd_goal rfl ?_
      refine k_gR hw (ok_o o_v0 (by decide)) rfl hf fun a3 o_a3 hf => ?_
      refine k_gI (ok_o o_a3 (by decide)) rfl ?_
      exact k_retP hf
    · have hf := gd_at hf rfl
      refine gd_goal rfl ?_
      refine k_gR hw (ok_o o_v0 (by decide)) rfl hf fun a4 o_a4 hf => ?_
      refine k_gI (ok_o o_a4 (by decide)) rfl ?_
      exact k_retP hf
    · have hf := gd_at hf rfl
      refine gd_goal rfl ?_
      refine k_gR hw (ok_o o_v0 (by decide)) rfl hf fun a5 o_a5 hf => ?_
      refine k_gI (ok_o o_a5 (by decide)) rfl ?_
      exact k_retP hf
    · have hf := gd_at hf rfl
      refine gd_goal rfl ?_
      refine k_gI (ok_o o_v0 (by decide)) rfl ?_
      exact k_retP hf
    · have hf := gd_at hf rfl
      refine gd_goal rfl ?_
      refine k_gR hw (ok_o o_v0 (by decide)) rfl hf fun a6 o_a6 hf => ?_
      refine k_gI (ok_o o_a6 (by decide)) rfl ?_
      exact k_retP hf
    · have hf := gd_at hf rfl
      refine gd_goal rfl ?_
      refine k_gI (ok_o o_v0 (by decide)) rfl ?_
      exact k_retP hf
    · have hf := gd_at hf rfl
      refine gd_goal rfl ?_
      refine k_gR hw (ok_o o_v0 (by decide)) rfl hf fun a7 o_a7 hf => ?_
      refine k_gI (ok_o o_a7 (by decide)) rfl ?_
      exact k_retP hf
  · exact k_retP hf
def n_X9_count (s : List Sh) (m : Mem) (p0 : Nat) (p1 : Int32) : Option Int32 := nb_X9_count_0 s m p0 p1
theorem un_X9_count {s : List Sh} {m : Mem} {p0 : Nat} {p1 : Int32} {r : Int32} (hw : GS s m) (o_p0 : ok s p0 9) (ex : n_X9_count s m p0 p1 = some r) : J3 (m_X9_count (bl s m) p0 p1) r True := u_X9_count_0 hw o_p0 ex
/-! FractionLiftModel.plain([I)V over the memory -/
def nb_X10_plain_2 (F : Nat) (s : List Sh) (nself2 : Mem → Nat → Int32 → Option (Unit × Mem)) (m : Mem) (v0 : Nat) (v1 : Int32) : Option (Unit × Mem) := if (999 : Int32) ≤ v1 then ((stI s m v0 (1 : Int32) (4 : Int32)).bind fun m1 => ((stI s m1 v0 (8 : Int32) (1 : Int32)).bind fun m2 => (some ((), m2)))) else ((stI s m v0 v1 (0 : Int32)).bind fun m3 => (bindv (v1 + (1)) fun x4 => (nself2 m3 v0 x4)))
set_option maxRecDepth 20000 in
theorem ub_X10_plain_2 {F : Nat} {s : List Sh} {self2 : PH → Nat → Int32 → Option (Unit × PH)} {nself2 : Mem → Nat → Int32 → Option (Unit × Mem)} {m m' : Mem} {r : Unit} {v0 : Nat} {v1 : Int32} (hw : GS s m) (o_v0 : ok s v0 100) (ih2 : ∀ (m : Mem) (v0 : Nat) (v1 : Int32), GS s m → ok s v0 100 → nself2 m v0 v1 = some (r, m') → J3 (self2 (bl s m) v0 v1) (r, bl s m') (GS s m')) (hf : nb_X10_plain_2 F s nself2 m v0 v1 = some (r, m')) : J3 (b_X10_plain_2 F self2 (bl s m) v0 v1) (r, bl s m') (GS s m') := by
  unfold nb_X10_plain_2 at hf
  unfold b_X10_plain_2
  refine k_if hf (fun hf => ?_) (fun hf => ?_)
  · refine k_sI hw (ka rfl o_v0) hf fun m1 hw hf => ?_
    refine k_sI hw (ka rfl o_v0) hf fun m2 hw hf => ?_
    exact k_ret hw hf
  · refine k_sI hw (ka rfl o_v0) hf fun m3 hw hf => ?_
    refine k_bv hf fun x4 hf => ?_
    exact ih2 _ _ _ hw o_v0 hf
def nl_X10_plain_2 (F : Nat) (s : List Sh) : Nat → Mem → Nat → Int32 → Option (Unit × Mem)
  | 0 => fun _ _ _ => none
  | n + 1 => fun m v0 v1 => nb_X10_plain_2 F s (nl_X10_plain_2 F s n) m v0 v1
theorem ul_X10_plain_2 {F : Nat} {s : List Sh} {m' : Mem} {r : Unit} (n : Nat) : ∀ (m : Mem) (v0 : Nat) (v1 : Int32), GS s m → ok s v0 100 → nl_X10_plain_2 F s n m v0 v1 = some (r, m') → J3 (l_X10_plain_2 F n (bl s m) v0 v1) (r, bl s m') (GS s m') := by
  induction n with
  | zero => intro m v0 v1 hw o_v0 hf; cases hf
  | succ n ih => intro m v0 v1 hw o_v0 hf; exact ub_X10_plain_2 (F := F) hw o_v0 ih hf
def nb_X10_plain_0 (F : Nat) (s : List Sh) (m : Mem) (v0 : Nat) : Option (Unit × Mem) := nl_X10_plain_2 F s F m v0 (0 : Int32)
set_option maxRecDepth 20000 in
theorem u_X10_plain_0 {F : Nat} {s : List Sh} {m m' : Mem} {r : Unit} {v0 : Nat} (hw : GS s m) (o_v0 : ok s v0 100) (hf : nb_X10_plain_0 F s m v0 = some (r, m')) : J3 (b_X10_plain_0 F (bl s m) v0) (r, bl s m') (GS s m') := by
  unfold nb_X10_plain_0 at hf
  unfold b_X10_plain_0
  exact ul_X10_plain_2 F _ _ _ hw o_v0 hf
def n_X10_plain (F : Nat) (s : List Sh) (m : Mem) (p0 : Nat) : Option (Unit × Mem) := nb_X10_plain_0 F s m p0
theorem un_X10_plain {F : Nat} {s : List Sh} {m m' : Mem} {p0 : Nat} {r : Unit} (hw : GS s m) (o_p0 : ok s p0 100) (ex : n_X10_plain F s m p0 = some (r, m')) : J3 (m_X10_plain F (bl s m) p0) (r, bl s m') (GS s m') := u_X10_plain_0 hw o_p0 ex
/-! FractionLiftModel.feed(IIIII)I over the memory -/
def nb_X10_feed_77 (F : Nat) (s : List Sh) (nself13 : Mem → Nat → Int32 → Int32 → Int32 → Int32 → Int32 → Int32 → Option (Int32 × Mem)) (m : Mem) (v0 : Nat) (v1 : Int32) (v2 : Int32) (v3 : Int32) (v4 : Int32) (v5 : Int32) (v6 : Int32) (s0 : Int32) : Option (Int32 × Mem) := (m.2.2 v0 3).bind fun a1 => (if (4 : Int32) = 0 then none else ((stI s m a1 (m.1 v0 5) ((((s0 >>> ((((24 : Int32) - (((8 : Int32) * ((remI v6 (4 : Int32))))))) &&& 31))) &&& (255 : Int32)))).bind fun m2 => (bindv (wI m2 v0 5 (((m2.1 v0 5) + (1 : Int32)))) fun m3 => (bindv (v6 + (1)) fun x4 => (nself13 m3 v0 v1 v2 v3 v4 v5 x4)))))
set_option maxRecDepth 20000 in
theorem u_X10_feed_77 {F : Nat} {s : List Sh} {self13 : PH → Nat → Int32 → Int32 → Int32 → Int32 → Int32 → Int32 → Option (Int32 × PH)} {nself13 : Mem → Nat → Int32 → Int32 → Int32 → Int32 → Int32 → Int32 → Option (Int32 × Mem)} {m m' : Mem} {r : Int32} {v0 : Nat} {v1 : Int32} {v2 : Int32} {v3 : Int32} {v4 : Int32} {v5 : Int32} {v6 : Int32} {s0 : Int32} (hw : GS s m) (o_v0 : ok s v0 10) (ih13 : ∀ (m : Mem) (v0 : Nat) (v1 : Int32) (v2 : Int32) (v3 : Int32) (v4 : Int32) (v5 : Int32) (v6 : Int32), GS s m → ok s v0 10 → nself13 m v0 v1 v2 v3 v4 v5 v6 = some (r, m') → J3 (self13 (bl s m) v0 v1 v2 v3 v4 v5 v6) (r, bl s m') (GS s m')) (hf : nb_X10_feed_77 F s nself13 m v0 v1 v2 v3 v4 v5 v6 s0 = some (r, m')) : J3 (b_X10_feed_77 F self13 (bl s m) v0 v1 v2 v3 v4 v5 v6 s0) (r, bl s m') (GS s m') := by
  unfold nb_X10_feed_77 at hf
  unfold b_X10_feed_77
  refine k_gR hw (ok_o o_v0 (by decide)) rfl hf fun a1 o_a1 hf => ?_
  refine k_gI (ok_o o_v0 (by decide)) rfl ?_
  refine k_if hf (fun hf => by cases hf) (fun hf => ?_)
  refine k_sI hw (ka rfl o_a1) hf fun m2 hw hf => ?_
  refine k_gI (ok_o o_v0 (by decide)) rfl ?_
  refine k_pI hw (ok_o o_v0 (by decide)) rfl hf fun m3 hw hf => ?_
  refine k_bv hf fun x4 hf => ?_
  exact ih13 _ _ _ _ _ _ _ _ hw o_v0 hf
def nb_X10_feed_24 (F : Nat) (s : List Sh) (nself13 : Mem → Nat → Int32 → Int32 → Int32 → Int32 → Int32 → Int32 → Option (Int32 × Mem)) (m : Mem) (v0 : Nat) (v1 : Int32) (v2 : Int32) (v3 : Int32) (v4 : Int32) (v5 : Int32) (v6 : Int32) : Option (Int32 × Mem) := if (20 : Int32) ≤ v6 then (some ((m.1 v0 5), m)) else (if (4 : Int32) ≤ v6 then (if (8 : Int32) ≤ v6 then (if (12 : Int32) ≤ v6 then (if (16 : Int32) ≤ v6 then (nb_X10_feed_77 F s nself13 m v0 v1 v2 v3 v4 v5 v6 v5) else (nb_X10_feed_77 F s nself13 m v0 v1 v2 v3 v4 v5 v6 v4)) else (nb_X10_feed_77 F s nself13 m v0 v1 v2 v3 v4 v5 v6 v3)) else (nb_X10_feed_77 F s nself13 m v0 v1 v2 v3 v4 v5 v6 v2)) else (nb_X10_feed_77 F s nself13 m v0 v1 v2 v3 v4 v5 v6 v1))
set_option maxRecDepth 20000 in
theorem ub_X10_feed_24 {F : Nat} {s : List Sh} {self13 : PH → Nat → Int32 → Int32 → Int32 → Int32 → Int32 → Int32 → Option (Int32 × PH)} {nself13 : Mem → Nat → Int32 → Int32 → Int32 → Int32 → Int32 → Int32 → Option (Int32 × Mem)} {m m' : Mem} {r : Int32} {v0 : Nat} {v1 : Int32} {v2 : Int32} {v3 : Int32} {v4 : Int32} {v5 : Int32} {v6 : Int32} (hw : GS s m) (o_v0 : ok s v0 10) (ih13 : ∀ (m : Mem) (v0 : Nat) (v1 : Int32) (v2 : Int32) (v3 : Int32) (v4 : Int32) (v5 : Int32) (v6 : Int32), GS s m → ok s v0 10 → nself13 m v0 v1 v2 v3 v4 v5 v6 = some (r, m') → J3 (self13 (bl s m) v0 v1 v2 v3 v4 v5 v6) (r, bl s m') (GS s m')) (hf : nb_X10_feed_24 F s nself13 m v0 v1 v2 v3 v4 v5 v6 = some (r, m')) : J3 (b_X10_feed_24 F self13 (bl s m) v0 v1 v2 v3 v4 v5 v6) (r, bl s m') (GS s m') := by
  unfold nb_X10_feed_24 at hf
  unfold b_X10_feed_24
  refine k_if hf (fun hf => ?_) (fun hf => ?_)
  · refine k_gI (ok_o o_v0 (by decide)) rfl ?_
    exact k_ret hw hf
  · refine k_if hf (fun hf => ?_) (fun hf => ?_)
    · refine k_if hf (fun hf => ?_) (fun hf => ?_)
      · refine k_if hf (fun hf => ?_) (fun hf => ?_)
        · refine k_if hf (fun hf => ?_) (fun hf => ?_)
          · exact u_X10_feed_77 hw o_v0 ih13 hf
          · exact u_X10_feed_77 hw o_v0 ih13 hf
        · exact u_X10_feed_77 hw o_v0 ih13 hf
      · exact u_X10_feed_77 hw o_v0 ih13 hf
    · exact u_X10_feed_77 hw o_v0 ih13 hf
def nl_X10_feed_24 (F : Nat) (s : List Sh) : Nat → Mem → Nat → Int32 → Int32 → Int32 → Int32 → Int32 → Int32 → Option (Int32 × Mem)
  | 0 => fun _ _ _ _ _ _ _ _ => none
  | n + 1 => fun m v0 v1 v2 v3 v4 v5 v6 => nb_X10_feed_24 F s (nl_X10_feed_24 F s n) m v0 v1 v2 v3 v4 v5 v6
theorem ul_X10_feed_24 {F : Nat} {s : List Sh} {m' : Mem} {r : Int32} (n : Nat) : ∀ (m : Mem) (v0 : Nat) (v1 : Int32) (v2 : Int32) (v3 : Int32) (v4 : Int32) (v5 : Int32) (v6 : Int32), GS s m → ok s v0 10 → nl_X10_feed_24 F s n m v0 v1 v2 v3 v4 v5 v6 = some (r, m') → J3 (l_X10_feed_24 F n (bl s m) v0 v1 v2 v3 v4 v5 v6) (r, bl s m') (GS s m') := by
  induction n with
  | zero => intro m v0 v1 v2 v3 v4 v5 v6 hw o_v0 hf; cases hf
  | succ n ih => intro m v0 v1 v2 v3 v4 v5 v6 hw o_v0 hf; exact ub_X10_feed_24 (F := F) hw o_v0 ih hf
def nb_X10_feed_0 (F : Nat) (s : List Sh) (m : Mem) (v0 : Nat) (v1 : Int32) (v2 : Int32) (v3 : Int32) (v4 : Int32) (v5 : Int32) : Option (Int32 × Mem) := bindv (wI m v0 0 (0 : Int32)) fun m1 => (if (((m1.1 v0 5) + (20 : Int32))) ≤ (900 : Int32) then (nl_X10_feed_24 F s F m1 v0 v1 v2 v3 v4 v5 (0 : Int32)) else (some ((-5 : Int32), m1)))
set_option maxRecDepth 20000 in
theorem u_X10_feed_0 {F : Nat} {s : List Sh} {m m' : Mem} {r : Int32} {v0 : Nat} {v1 : Int32} {v2 : Int32} {v3 : Int32} {v4 : Int32} {v5 : Int32} (hw : GS s m) (o_v0 : ok s v0 10) (hf : nb_X10_feed_0 F s m v0 v1 v2 v3 v4 v5 = some (r, m')) : J3 (b_X10_feed_0 F (bl s m) v0 v1 v2 v3 v4 v5) (r, bl s m') (GS s m') := by
  unfold nb_X10_feed_0 at hf
  unfold b_X10_feed_0
  refine k_pI hw (ok_o o_v0 (by decide)) rfl hf fun m1 hw hf => ?_
  refine k_gI (ok_o o_v0 (by decide)) rfl ?_
  refine k_if hf (fun hf => ?_) (fun hf => ?_)
  · exact ul_X10_feed_24 F _ _ _ _ _ _ _ _ hw o_v0 hf
  · exact k_ret hw hf
def n_X10_feed (F : Nat) (s : List Sh) (m : Mem) (p0 : Nat) (p1 : Int32) (p2 : Int32) (p3 : Int32) (p4 : Int32) (p5 : Int32) : Option (Int32 × Mem) := nb_X10_feed_0 F s m p0 p1 p2 p3 p4 p5
theorem un_X10_feed {F : Nat} {s : List Sh} {m m' : Mem} {p0 : Nat} {p1 : Int32} {p2 : Int32} {p3 : Int32} {p4 : Int32} {p5 : Int32} {r : Int32} (hw : GS s m) (o_p0 : ok s p0 10) (ex : n_X10_feed F s m p0 p1 p2 p3 p4 p5 = some (r, m')) : J3 (m_X10_feed F (bl s m) p0 p1 p2 p3 p4 p5) (r, bl s m') (GS s m') := u_X10_feed_0 hw o_p0 ex
/-! FractionLiftModel.see(I)I over the memory -/
def nb_X10_see_0 (s : List Sh) (m : Mem) (v0 : Nat) (v1 : Int32) : Option Int32 := if (m.1 v0 8) ≤ v1 then (some (-1 : Int32)) else ((m.2.2 v0 3).bind fun a1 => ((rdI s m a1 v1).bind fun x2 => (some x2)))
set_option maxRecDepth 20000 in
theorem u_X10_see_0 {s : List Sh} {m : Mem} {r : Int32} {v0 : Nat} {v1 : Int32} (hw : GS s m) (o_v0 : ok s v0 10) (hf : nb_X10_see_0 s m v0 v1 = some r) : J3 (b_X10_see_0 (bl s m) v0 v1) r True := by
  unfold nb_X10_see_0 at hf
  unfold b_X10_see_0
  refine k_gI (ok_o o_v0 (by decide)) rfl ?_
  refine k_if hf (fun hf => ?_) (fun hf => ?_)
  · exact k_retP hf
  · refine k_gR hw (ok_o o_v0 (by decide)) rfl hf fun a1 o_a1 hf => ?_
    refine k_aI (Or.inl rfl) (ka rfl o_a1) hf fun x2 hf => ?_
    exact k_retP hf
def n_X10_see (s : List Sh) (m : Mem) (p0 : Nat) (p1 : Int32) : Option Int32 := nb_X10_see_0 s m p0 p1
theorem un_X10_see {s : List Sh} {m : Mem} {p0 : Nat} {p1 : Int32} {r : Int32} (hw : GS s m) (o_p0 : ok s p0 10) (ex : n_X10_see s m p0 p1 = some r) : J3 (m_X10_see (bl s m) p0 p1) r True := u_X10_see_0 hw o_p0 ex
/-! FractionLiftModel.keyAt()I over the memory -/
def nb_X10_keyAt_97 (F : Nat) (s : List Sh) (nself4 : Nat → Int32 → Int32 → Option Int32) (nself55 : Nat → Int32 → Int32 → Option Int32) (m : Mem) (v0 : Nat) (v1 : Int32) (v2 : Int32) : Option Int32 := (sChrF 8 v2).bind fun x1 => (if x1 = (32 : Int32) then (bindv (v2 + (1)) fun x2 => (bindv (v1 + (1)) fun x3 => (nself4 v0 x3 x2))) else (bindv (v2 + (1)) fun x4 => (nself55 v0 v1 x4)))
set_option maxRecDepth 20000 in
theorem ub_X10_keyAt_97 {F : Nat} {s : List Sh} {self4 : Nat → Int32 → Int32 → Option Int32} {nself4 : Nat → Int32 → Int32 → Option Int32} {self55 : Nat → Int32 → Int32 → Option Int32} {nself55 : Nat → Int32 → Int32 → Option Int32} {m : Mem} {r : Int32} {v0 : Nat} {v1 : Int32} {v2 : Int32} (hw : GS s m) (o_v0 : ok s v0 10) (ih4 : ∀ (v0 : Nat) (v1 : Int32) (v2 : Int32), ok s v0 10 → nself4 v0 v1 v2 = some r → J3 (self4 v0 v1 v2) r True) (ih55 : ∀ (v0 : Nat) (v1 : Int32) (v2 : Int32), ok s v0 10 → nself55 v0 v1 v2 = some r → J3 (self55 v0 v1 v2) r True) (hf : nb_X10_keyAt_97 F s nself4 nself55 m v0 v1 v2 = some r) : J3 (b_X10_keyAt_97 F self4 self55 (bl s m) v0 v1 v2) r True := by
  unfold nb_X10_keyAt_97 at hf
  unfold b_X10_keyAt_97
  refine k_pure hf fun x1 hf => ?_
  refine k_if hf (fun hf => ?_) (fun hf => ?_)
  · refine k_bv hf fun x2 hf => ?_
    refine k_bv hf fun x3 hf => ?_
    exact ih4 _ _ _ o_v0 hf
  · refine k_bv hf fun x4 hf => ?_
    exact ih55 _ _ _ o_v0 hf
def nl_X10_keyAt_97 (F : Nat) (s : List Sh) (nself4 : Nat → Int32 → Int32 → Option Int32) (m : Mem) : Nat → Nat → Int32 → Int32 → Option Int32
  | 0 => fun _ _ _ => none
  | n + 1 => fun v0 v1 v2 => nb_X10_keyAt_97 F s nself4 (nl_X10_keyAt_97 F s nself4 m n) m v0 v1 v2
theorem ul_X10_keyAt_97 {F : Nat} {s : List Sh} {self4 : Nat → Int32 → Int32 → Option Int32} {nself4 : Nat → Int32 → Int32 → Option Int32} {m : Mem} {r : Int32} (hw : GS s m) (ih4 : ∀ (v0 : Nat) (v1 : Int32) (v2 : Int32), ok s v0 10 → nself4 v0 v1 v2 = some r → J3 (self4 v0 v1 v2) r True) (n : Nat) : ∀ (v0 : Nat) (v1 : Int32) (v2 : Int32), ok s v0 10 → nl_X10_keyAt_97 F s nself4 m n v0 v1 v2 = some r → J3 (l_X10_keyAt_97 F self4 (bl s m) n v0 v1 v2) r True := by
  induction n with
  | zero => intro v0 v1 v2 o_v0 hf; cases hf
  | succ n ih => intro v0 v1 v2 o_v0 hf; exact ub_X10_keyAt_97 (F := F) hw o_v0 ih4 ih hf
def nb_X10_keyAt_69 (F : Nat) (s : List Sh) (nself4 : Nat → Int32 → Int32 → Option Int32) (m : Mem) (v0 : Nat) (v1 : Int32) (v2 : Int32) (v3 : Int32) : Option Int32 := (sChrF 8 (v2 + v3)).bind fun x1 => (if x1 = (32 : Int32) then (if (((m.1 v0 6) + v3)) = (m.1 v0 7) then (some v1) else (nl_X10_keyAt_97 F s nself4 m F v0 v1 v2)) else (nl_X10_keyAt_97 F s nself4 m F v0 v1 v2))
set_option maxRecDepth 20000 in
theorem u_X10_keyAt_69 {F : Nat} {s : List Sh} {self4 : Nat → Int32 → Int32 → Option Int32} {nself4 : Nat → Int32 → Int32 → Option Int32} {m : Mem} {r : Int32} {v0 : Nat} {v1 : Int32} {v2 : Int32} {v3 : Int32} (hw : GS s m) (o_v0 : ok s v0 10) (ih4 : ∀ (v0 : Nat) (v1 : Int32) (v2 : Int32), ok s v0 10 → nself4 v0 v1 v2 = some r → J3 (self4 v0 v1 v2) r True) (hf : nb_X10_keyAt_69 F s nself4 m v0 v1 v2 v3 = some r) : J3 (b_X10_keyAt_69 F self4 (bl s m) v0 v1 v2 v3) r True := by
  unfold nb_X10_keyAt_69 at hf
  unfold b_X10_keyAt_69
  refine k_pure hf fun x1 hf => ?_
  refine k_if hf (fun hf => ?_) (fun hf => ?_)
  · refine k_gI (ok_o o_v0 (by decide)) rfl ?_
    refine k_gI (ok_o o_v0 (by decide)) rfl ?_
    refine k_if hf (fun hf => ?_) (fun hf => ?_)
    · exact k_retP hf
    · exact ul_X10_keyAt_97 hw ih4 F _ _ _ o_v0 hf
  · exact ul_X10_keyAt_97 hw ih4 F _ _ _ o_v0 hf
def nb_X10_keyAt_15 (F : Nat) (s : List Sh) (nself4 : Nat → Int32 → Int32 → Option Int32) (nself10 : Nat → Int32 → Int32 → Int32 → Option Int32) (m : Mem) (v0 : Nat) (v1 : Int32) (v2 : Int32) (v3 : Int32) : Option Int32 := (sChrF 8 (v2 + v3)).bind fun x1 => (if x1 = (32 : Int32) then (nb_X10_keyAt_69 F s nself4 m v0 v1 v2 v3) else (if (m.1 v0 7) ≤ (((m.1 v0 6) + v3)) then (nb_X10_keyAt_69 F s nself4 m v0 v1 v2 v3) else ((m.2.2 v0 3).bind fun a2 => ((rdI s m a2 (((m.1 v0 6) + v3))).bind fun x3 => ((sChrF 8 (v2 + v3)).bind fun x4 => (if x3 = x4 then (bindv (v3 + (1)) fun x5 => (nself10 v0 v1 v2 x5)) else (nb_X10_keyAt_69 F s nself4 m v0 v1 v2 v3)))))))
set_option maxRecDepth 20000 in
theorem ub_X10_keyAt_15 {F : Nat} {s : List Sh} {self4 : Nat → Int32 → Int32 → Option Int32} {nself4 : Nat → Int32 → Int32 → Option Int32} {self10 : Nat → Int32 → Int32 → Int32 → Option Int32} {nself10 : Nat → Int32 → Int32 → Int32 → Option Int32} {m : Mem} {r : Int32} {v0 : Nat} {v1 : Int32} {v2 : Int32} {v3 : Int32} (hw : GS s m) (o_v0 : ok s v0 10) (ih4 : ∀ (v0 : Nat) (v1 : Int32) (v2 : Int32), ok s v0 10 → nself4 v0 v1 v2 = some r → J3 (self4 v0 v1 v2) r True) (ih10 : ∀ (v0 : Nat) (v1 : Int32) (v2 : Int32) (v3 : Int32), ok s v0 10 → nself10 v0 v1 v2 v3 = some r → J3 (self10 v0 v1 v2 v3) r True) (hf : nb_X10_keyAt_15 F s nself4 nself10 m v0 v1 v2 v3 = some r) : J3 (b_X10_keyAt_15 F self4 self10 (bl s m) v0 v1 v2 v3) r True := by
  unfold nb_X10_keyAt_15 at hf
  unfold b_X10_keyAt_15
  refine k_pure hf fun x1 hf => ?_
  refine k_if hf (fun hf => ?_) (fun hf => ?_)
  · exact u_X10_keyAt_69 hw o_v0 ih4 hf
  · refine k_gI (ok_o o_v0 (by decide)) rfl ?_
    refine k_gI (ok_o o_v0 (by decide)) rfl ?_
    refine k_if hf (fun hf => ?_) (fun hf => ?_)
    · exact u_X10_keyAt_69 hw o_v0 ih4 hf
    · refine k_gR hw (ok_o o_v0 (by decide)) rfl hf fun a2 o_a2 hf => ?_
      refine k_gI (ok_o o_v0 (by decide)) rfl ?_
      refine k_aI (Or.inl rfl) (ka rfl o_a2) hf fun x3 hf => ?_
      refine k_pure hf fun x4 hf => ?_
      refine k_if hf (fun hf => ?_) (fun hf => ?_)
      · refine k_bv hf fun x5 hf => ?_
        exact ih10 _ _ _ _ o_v0 hf
      · exact u_X10_keyAt_69 hw o_v0 ih4 hf
def nl_X10_keyAt_15 (F : Nat) (s : List Sh) (nself4 : Nat → Int32 → Int32 → Option Int32) (m : Mem) : Nat → Nat → Int32 → Int32 → Int32 → Option Int32
  | 0 => fun _ _ _ _ => none
  | n + 1 => fun v0 v1 v2 v3 => nb_X10_keyAt_15 F s nself4 (nl_X10_keyAt_15 F s nself4 m n) m v0 v1 v2 v3
theorem ul_X10_keyAt_15 {F : Nat} {s : List Sh} {self4 : Nat → Int32 → Int32 → Option Int32} {nself4 : Nat → Int32 → Int32 → Option Int32} {m : Mem} {r : Int32} (hw : GS s m) (ih4 : ∀ (v0 : Nat) (v1 : Int32) (v2 : Int32), ok s v0 10 → nself4 v0 v1 v2 = some r → J3 (self4 v0 v1 v2) r True) (n : Nat) : ∀ (v0 : Nat) (v1 : Int32) (v2 : Int32) (v3 : Int32), ok s v0 10 → nl_X10_keyAt_15 F s nself4 m n v0 v1 v2 v3 = some r → J3 (l_X10_keyAt_15 F self4 (bl s m) n v0 v1 v2 v3) r True := by
  induction n with
  | zero => intro v0 v1 v2 v3 o_v0 hf; cases hf
  | succ n ih => intro v0 v1 v2 v3 o_v0 hf; exact ub_X10_keyAt_15 (F := F) hw o_v0 ih4 ih hf
def nb_X10_keyAt_4 (F : Nat) (s : List Sh) (nself4 : Nat → Int32 → Int32 → Option Int32) (m : Mem) (v0 : Nat) (v1 : Int32) (v2 : Int32) : Option Int32 := (sLenF 8).bind fun x1 => (if x1 ≤ v2 then (some (15 : Int32)) else (nl_X10_keyAt_15 F s nself4 m F v0 v1 v2 (0 : Int32)))
set_option maxRecDepth 20000 in
theorem ub_X10_keyAt_4 {F : Nat} {s : List Sh} {self4 : Nat → Int32 → Int32 → Option Int32} {nself4 : Nat → Int32 → Int32 → Option Int32} {m : Mem} {r : Int32} {v0 : Nat} {v1 : Int32} {v2 : Int32} (hw : GS s m) (o_v0 : ok s v0 10) (ih4 : ∀ (v0 : Nat) (v1 : Int32) (v2 : Int32), ok s v0 10 → nself4 v0 v1 v2 = some r → J3 (self4 v0 v1 v2) r True) (hf : nb_X10_keyAt_4 F s nself4 m v0 v1 v2 = some r) : J3 (b_X10_keyAt_4 F self4 (bl s m) v0 v1 v2) r True := by
  unfold nb_X10_keyAt_4 at hf
  unfold b_X10_keyAt_4
  refine k_pure hf fun x1 hf => ?_
  refine k_if hf (fun hf => ?_) (fun hf => ?_)
  · exact k_retP hf
  · exact ul_X10_keyAt_15 hw ih4 F _ _ _ _ o_v0 hf
def nl_X10_keyAt_4 (F : Nat) (s : List Sh) (m : Mem) : Nat → Nat → Int32 → Int32 → Option Int32
  | 0 => fun _ _ _ => none
  | n + 1 => fun v0 v1 v2 => nb_X10_keyAt_4 F s (nl_X10_keyAt_4 F s m n) m v0 v1 v2
theorem ul_X10_keyAt_4 {F : Nat} {s : List Sh} {m : Mem} {r : Int32} (hw : GS s m) (n : Nat) : ∀ (v0 : Nat) (v1 : Int32) (v2 : Int32), ok s v0 10 → nl_X10_keyAt_4 F s m n v0 v1 v2 = some r → J3 (l_X10_keyAt_4 F (bl s m) n v0 v1 v2) r True := by
  induction n with
  | zero => intro v0 v1 v2 o_v0 hf; cases hf
  | succ n ih => intro v0 v1 v2 o_v0 hf; exact ub_X10_keyAt_4 (F := F) hw o_v0 ih hf
def nb_X10_keyAt_0 (F : Nat) (s : List Sh) (m : Mem) (v0 : Nat) : Option Int32 := nl_X10_keyAt_4 F s m F v0 (0 : Int32) (1 : Int32)
set_option maxRecDepth 20000 in
theorem u_X10_keyAt_0 {F : Nat} {s : List Sh} {m : Mem} {r : Int32} {v0 : Nat} (hw : GS s m) (o_v0 : ok s v0 10) (hf : nb_X10_keyAt_0 F s m v0 = some r) : J3 (b_X10_keyAt_0 F (bl s m) v0) r True := by
  unfold nb_X10_keyAt_0 at hf
  unfold b_X10_keyAt_0
  exact ul_X10_keyAt_4 hw F _ _ _ o_v0 hf
def n_X10_keyAt (F : Nat) (s : List Sh) (m : Mem) (p0 : Nat) : Option Int32 := nb_X10_keyAt_0 F s m p0
theorem un_X10_keyAt {F : Nat} {s : List Sh} {m : Mem} {p0 : Nat} {r : Int32} (hw : GS s m) (o_p0 : ok s p0 10) (ex : n_X10_keyAt F s m p0 = some r) : J3 (m_X10_keyAt F (bl s m) p0) r True := u_X10_keyAt_0 hw o_p0 ex
/-! FractionLiftModel.next()V over the memory -/
def nb_X10_next_34 (F : Nat) (s : List Sh) (nself4 : Mem → Nat → Option (Unit × Mem)) (m : Mem) (v0 : Nat) : Option (Unit × Mem) := bindv (wI m v0 6 (((m.1 v0 6) + (1 : Int32)))) fun m1 => (nself4 m1 v0)
set_option maxRecDepth 20000 in
theorem u_X10_next_34 {F : Nat} {s : List Sh} {self4 : PH → Nat → Option (Unit × PH)} {nself4 : Mem → Nat → Option (Unit × Mem)} {m m' : Mem} {r : Unit} {v0 : Nat} (hw : GS s m) (o_v0 : ok s v0 10) (ih4 : ∀ (m : Mem) (v0 : Nat), GS s m → ok s v0 10 → nself4 m v0 = some (r, m') → J3 (self4 (bl s m) v0) (r, bl s m') (GS s m')) (hf : nb_X10_next_34 F s nself4 m v0 = some (r, m')) : J3 (b_X10_next_34 F self4 (bl s m) v0) (r, bl s m') (GS s m') := by
  unfold nb_X10_next_34 at hf
  unfold b_X10_next_34
  refine k_gI (ok_o o_v0 (by decide)) rfl ?_
  refine k_pI hw (ok_o o_v0 (by decide)) rfl hf fun m1 hw hf => ?_
  exact ih4 _ _ hw o_v0 hf
def nb_X10_next_89 (F : Nat) (s : List Sh) (nself42 : Mem → Nat → Option (Unit × Mem)) (m : Mem) (v0 : Nat) : Option (Unit × Mem) := (n_X10_see s m v0 (m.1 v0 7)).bind fun x1 => ((m_X10_isSmall x1).bind fun x2 => (if x2 = 0 then ((n_X10_keyAt F s m v0).bind fun x3 => (bindv (wI m v0 9 x3) fun m4 => (some ((), m4)))) else (bindv (wI m v0 7 (((m.1 v0 7) + (1 : Int32)))) fun m5 => (nself42 m5 v0))))
set_option maxRecDepth 20000 in
theorem ub_X10_next_89 {F : Nat} {s : List Sh} {self42 : PH → Nat → Option (Unit × PH)} {nself42 : Mem → Nat → Option (Unit × Mem)} {m m' : Mem} {r : Unit} {v0 : Nat} (hw : GS s m) (o_v0 : ok s v0 10) (ih42 : ∀ (m : Mem) (v0 : Nat), GS s m → ok s v0 10 → nself42 m v0 = some (r, m') → J3 (self42 (bl s m) v0) (r, bl s m') (GS s m')) (hf : nb_X10_next_89 F s nself42 m v0 = some (r, m')) : J3 (b_X10_next_89 F self42 (bl s m) v0) (r, bl s m') (GS s m') := by
  unfold nb_X10_next_89 at hf
  unfold b_X10_next_89
  refine k_gI (ok_o o_v0 (by decide)) rfl ?_
  refine k_cO (ok_o o_v0 (by decide)) ?_
  refine ob hf fun x1 ex hf => ?_
  refine k_b1 (un_X10_see hw o_v0 ex) ?_
  refine k_pure hf fun x2 hf => ?_
  refine k_if hf (fun hf => ?_) (fun hf => ?_)
  · refine k_cO (ok_o o_v0 (by decide)) ?_
    refine ob hf fun x3 ex hf => ?_
    refine k_b1 (un_X10_keyAt hw o_v0 ex) ?_
    refine k_pI hw (ok_o o_v0 (by decide)) rfl hf fun m4 hw hf => ?_
    exact k_ret hw hf
  · refine k_gI (ok_o o_v0 (by decide)) rfl ?_
    refine k_pI hw (ok_o o_v0 (by decide)) rfl hf fun m5 hw hf => ?_
    exact ih42 _ _ hw o_v0 hf
def nl_X10_next_89 (F : Nat) (s : List Sh) : Nat → Mem → Nat → Option (Unit × Mem)
  | 0 => fun _ _ => none
  | n + 1 => fun m v0 => nb_X10_next_89 F s (nl_X10_next_89 F s n) m v0
theorem ul_X10_next_89 {F : Nat} {s : List Sh} {m' : Mem} {r : Unit} (n : Nat) : ∀ (m : Mem) (v0 : Nat), GS s m → ok s v0 10 → nl_X10_next_89 F s n m v0 = some (r, m') → J3 (l_X10_next_89 F n (bl s m) v0) (r, bl s m') (GS s m') := by
  induction n with
  | zero => intro m v0 hw o_v0 hf; cases hf
  | succ n ih => intro m v0 hw o_v0 hf; exact ub_X10_next_89 (F := F) hw o_v0 ih hf
def nb_X10_next_230 (F : Nat) (s : List Sh) (m : Mem) (s0 : Nat) (s1 : Int32) : Option (Unit × Mem) := bindv (wI m s0 9 s1) fun m1 => (some ((), m1))
set_option maxRecDepth 20000 in
theorem u_X10_next_230 {F : Nat} {s : List Sh} {m m' : Mem} {r : Unit} {s0 : Nat} {s1 : Int32} (hw : GS s m) (o_s0 : ok s s0 10) (hf : nb_X10_next_230 F s m s0 s1 = some (r, m')) : J3 (b_X10_next_230 F (bl s m) s0 s1) (r, bl s m') (GS s m') := by
  unfold nb_X10_next_230 at hf
  unfold b_X10_next_230
  refine k_pI hw (ok_o o_s0 (by decide)) rfl hf fun m1 hw hf => ?_
  exact k_ret hw hf
def nb_X10_next_196 (F : Nat) (s : List Sh) (nself69 : Mem → Nat → Option (Unit × Mem)) (m : Mem) (v0 : Nat) : Option (Unit × Mem) := bindv (wI m v0 7 (((m.1 v0 7) + (1 : Int32)))) fun m1 => (nself69 m1 v0)
set_option maxRecDepth 20000 in
theorem u_X10_next_196 {F : Nat} {s : List Sh} {self69 : PH → Nat → Option (Unit × PH)} {nself69 : Mem → Nat → Option (Unit × Mem)} {m m' : Mem} {r : Unit} {v0 : Nat} (hw : GS s m) (o_v0 : ok s v0 10) (ih69 : ∀ (m : Mem) (v0 : Nat), GS s m → ok s v0 10 → nself69 m v0 = some (r, m') → J3 (self69 (bl s m) v0) (r, bl s m') (GS s m')) (hf : nb_X10_next_196 F s nself69 m v0 = some (r, m')) : J3 (b_X10_next_196 F self69 (bl s m) v0) (r, bl s m') (GS s m') := by
  unfold nb_X10_next_196 at hf
  unfold b_X10_next_196
  refine k_gI (ok_o o_v0 (by decide)) rfl ?_
  refine k_pI hw (ok_o o_v0 (by decide)) rfl hf fun m1 hw hf => ?_
  exact ih69 _ _ hw o_v0 hf
def nb_X10_next_146 (F : Nat) (s : List Sh) (nself69 : Mem → Nat → Option (Unit × Mem)) (m : Mem) (v0 : Nat) : Option (Unit × Mem) := (n_X10_see s m v0 (m.1 v0 7)).bind fun x1 => ((m_X10_isDigit x1).bind fun x2 => (if x2 = 0 then (if (((m.1 v0 7) - (m.1 v0 6))) ≤ (3 : Int32) then (nb_X10_next_230 F s m v0 (16 : Int32)) else (nb_X10_next_230 F s m v0 (18 : Int32))) else (if (3 : Int32) ≤ (((m.1 v0 7) - (m.1 v0 6))) then (nb_X10_next_196 F s nself69 m v0) else ((n_X10_see s m v0 (m.1 v0 7)).bind fun x3 => (bindv (wI m v0 10 (((((((10 : Int32) * (m.1 v0 10))) + x3)) - (48 : Int32)))) fun m4 => (nb_X10_next_196 F s nself69 m4 v0))))))
set_option maxRecDepth 20000 in
theorem ub_X10_next_146 {F : Nat} {s : List Sh} {self69 : PH → Nat → Option (Unit × PH)} {nself69 : Mem → Nat → Option (Unit × Mem)} {m m' : Mem} {r : Unit} {v0 : Nat} (hw : GS s m) (o_v0 : ok s v0 10) (ih69 : ∀ (m : Mem) (v0 : Nat), GS s m → ok s v0 10 → nself69 m v0 = some (r, m') → J3 (self69 (bl s m) v0) (r, bl s m') (GS s m')) (hf : nb_X10_next_146 F s nself69 m v0 = some (r, m')) : J3 (b_X10_next_146 F self69 (bl s m) v0) (r, bl s m') (GS s m') := by
  unfold nb_X10_next_146 at hf
  unfold b_X10_next_146
  refine k_gI (ok_o o_v0 (by decide)) rfl ?_
  refine k_cO (ok_o o_v0 (by decide)) ?_
  refine ob hf fun x1 ex hf => ?_
  refine k_b1 (un_X10_see hw o_v0 ex) ?_
  refine k_pure hf fun x2 hf => ?_
  refine k_if hf (fun hf => ?_) (fun hf => ?_)
  · refine k_gI (ok_o o_v0 (by decide)) rfl ?_
    refine k_gI (ok_o o_v0 (by decide)) rfl ?_
    refine k_if hf (fun hf => ?_) (fun hf => ?_)
    · exact u_X10_next_230 hw o_v0 hf
    · exact u_X10_next_230 hw o_v0 hf
  · refine k_gI (ok_o o_v0 (by decide)) rfl ?_
    refine k_gI (ok_o o_v0 (by decide)) rfl ?_
    refine k_if hf (fun hf => ?_) (fun hf => ?_)
    · exact u_X10_next_196 hw o_v0 ih69 hf
    · refine k_gI (ok_o o_v0 (by decide)) rfl ?_
      refine k_gI (ok_o o_v0 (by decide)) rfl ?_
      refine k_cO (ok_o o_v0 (by decide)) ?_
      refine ob hf fun x3 ex hf => ?_
      refine k_b1 (un_X10_see hw o_v0 ex) ?_
      refine k_pI hw (ok_o o_v0 (by decide)) rfl hf fun m4 hw hf => ?_
      exact u_X10_next_196 hw o_v0 ih69 hf
def nl_X10_next_146 (F : Nat) (s : List Sh) : Nat → Mem → Nat → Option (Unit × Mem)
  | 0 => fun _ _ => none
  | n + 1 => fun m v0 => nb_X10_next_146 F s (nl_X10_next_146 F s n) m v0
theorem ul_X10_next_146 {F : Nat} {s : List Sh} {m' : Mem} {r : Unit} (n : Nat) : ∀ (m : Mem) (v0 : Nat), GS s m → ok s v0 10 → nl_X10_next_146 F s n m v0 = some (r, m') → J3 (l_X10_next_146 F n (bl s m) v0) (r, bl s m') (GS s m') := by
  induction n with
  | zero => intro m v0 hw o_v0 hf; cases hf
  | succ n ih => intro m v0 hw o_v0 hf; exact ub_X10_next_146 (F := F) hw o_v0 ih hf
def nb_X10_next_288 (F : Nat) (s : List Sh) (nself126 : Mem → Nat → Int32 → Option (Unit × Mem)) (m : Mem) (v0 : Nat) (v1 : Int32) : Option (Unit × Mem) := bindv (v1 + (1)) fun x1 => (nself126 m v0 x1)
set_option maxRecDepth 20000 in
theorem u_X10_next_288 {F : Nat} {s : List Sh} {self126 : PH → Nat → Int32 → Option (Unit × PH)} {nself126 : Mem → Nat → Int32 → Option (Unit × Mem)} {m m' : Mem} {r : Unit} {v0 : Nat} {v1 : Int32} (hw : GS s m) (o_v0 : ok s v0 10) (ih126 : ∀ (m : Mem) (v0 : Nat) (v1 : Int32), GS s m → ok s v0 10 → nself126 m v0 v1 = some (r, m') → J3 (self126 (bl s m) v0 v1) (r, bl s m') (GS s m')) (hf : nb_X10_next_288 F s nself126 m v0 v1 = some (r, m')) : J3 (b_X10_next_288 F self126 (bl s m) v0 v1) (r, bl s m') (GS s m') := by
  unfold nb_X10_next_288 at hf
  unfold b_X10_next_288
  refine k_bv hf fun x1 hf => ?_
  exact ih126 _ _ _ hw o_v0 hf
def nb_X10_next_254 (F : Nat) (s : List Sh) (nself126 : Mem → Nat → Int32 → Option (Unit × Mem)) (m : Mem) (v0 : Nat) (v1 : Int32) : Option (Unit × Mem) := (sLenF 9).bind fun x1 => (if x1 ≤ v1 then (some ((), m)) else ((n_X10_see s m v0 (m.1 v0 6)).bind fun x2 => ((sChrF 9 v1).bind fun x3 => (if x2 = x3 then (bindv (wI m v0 9 (((20 : Int32) + v1))) fun m4 => (nb_X10_next_288 F s nself126 m4 v0 v1)) else (nb_X10_next_288 F s nself126 m v0 v1)))))
set_option maxRecDepth 20000 in
theorem ub_X10_next_254 {F : Nat} {s : List Sh} {self126 : PH → Nat → Int32 → Option (Unit × PH)} {nself126 : Mem → Nat → Int32 → Option (Unit × Mem)} {m m' : Mem} {r : Unit} {v0 : Nat} {v1 : Int32} (hw : GS s m) (o_v0 : ok s v0 10) (ih126 : ∀ (m : Mem) (v0 : Nat) (v1 : Int32), GS s m → ok s v0 10 → nself126 m v0 v1 = some (r, m') → J3 (self126 (bl s m) v0 v1) (r, bl s m') (GS s m')) (hf : nb_X10_next_254 F s nself126 m v0 v1 = some (r, m')) : J3 (b_X10_next_254 F self126 (bl s m) v0 v1) (r, bl s m') (GS s m') := by
  unfold nb_X10_next_254 at hf
  unfold b_X10_next_254
  refine k_pure hf fun x1 hf => ?_
  refine k_if hf (fun hf => ?_) (fun hf => ?_)
  · exact k_ret hw hf
  · refine k_gI (ok_o o_v0 (by decide)) rfl ?_
    refine k_cO (ok_o o_v0 (by decide)) ?_
    refine ob hf fun x2 ex hf => ?_
    refine k_b1 (un_X10_see hw o_v0 ex) ?_
    refine k_pure hf fun x3 hf => ?_
    refine k_if hf (fun hf => ?_) (fun hf => ?_)
    · refine k_pI hw (ok_o o_v0 (by decide)) rfl hf fun m4 hw hf => ?_
      exact u_X10_next_288 hw o_v0 ih126 hf
    · exact u_X10_next_288 hw o_v0 ih126 hf
def nl_X10_next_254 (F : Nat) (s : List Sh) : Nat → Mem → Nat → Int32 → Option (Unit × Mem)
  | 0 => fun _ _ _ => none
  | n + 1 => fun m v0 v1 => nb_X10_next_254 F s (nl_X10_next_254 F s n) m v0 v1
theorem ul_X10_next_254 {F : Nat} {s : List Sh} {m' : Mem} {r : Unit} (n : Nat) : ∀ (m : Mem) (v0 : Nat) (v1 : Int32), GS s m → ok s v0 10 → nl_X10_next_254 F s n m v0 v1 = some (r, m') → J3 (l_X10_next_254 F n (bl s m) v0 v1) (r, bl s m') (GS s m') := by
  induction n with
  | zero => intro m v0 v1 hw o_v0 hf; cases hf
  | succ n ih => intro m v0 v1 hw o_v0 hf; exact ub_X10_next_254 (F := F) hw o_v0 ih hf
def nb_X10_next_8 (F : Nat) (s : List Sh) (nself4 : Mem → Nat → Option (Unit × Mem)) (m : Mem) (v0 : Nat) : Option (Unit × Mem) := (n_X10_see s m v0 (m.1 v0 6)).bind fun x1 => (if x1 = (10 : Int32) then (nb_X10_next_34 F s nself4 m v0) else ((n_X10_see s m v0 (m.1 v0 6)).bind fun x2 => (if x2 = (32 : Int32) then (nb_X10_next_34 F s nself4 m v0) else (bindv (wI m v0 7 (m.1 v0 6)) fun m3 => (if (m3.1 v0 6) < (m3.1 v0 8) then ((n_X10_see s m3 v0 (m3.1 v0 6)).bind fun x4 => ((m_X10_isSmall x4).bind fun x5 => (if x5 = 0 then ((n_X10_see s m3 v0 (m3.1 v0 6)).bind fun x6 => ((m_X10_isDigit x6).bind fun x7 => (if x7 = 0 then (bindv (wI m3 v0 7 (((m3.1 v0 7) + (1 : Int32)))) fun m8 => (bindv (wI m8 v0 9 (18 : Int32)) fun m9 => (nl_X10_next_254 F s F m9 v0 (0 : Int32)))) else (bindv (wI m3 v0 10 (0 : Int32)) fun m10 => (nl_X10_next_146 F s F m10 v0))))) else (nl_X10_next_89 F s F m3 v0)))) else (bindv (wI m3 v0 9 (17 : Int32)) fun m11 => (some ((), m11))))))))
set_option maxRecDepth 20000 in
theorem ub_X10_next_8 {F : Nat} {s : List Sh} {self4 : PH → Nat → Option (Unit × PH)} {nself4 : Mem → Nat → Option (Unit × Mem)} {m m' : Mem} {r : Unit} {v0 : Nat} (hw : GS s m) (o_v0 : ok s v0 10) (ih4 : ∀ (m : Mem) (v0 : Nat), GS s m → ok s v0 10 → nself4 m v0 = some (r, m') → J3 (self4 (bl s m) v0) (r, bl s m') (GS s m')) (hf : nb_X10_next_8 F s nself4 m v0 = some (r, m')) : J3 (b_X10_next_8 F self4 (bl s m) v0) (r, bl s m') (GS s m') := by
  unfold nb_X10_next_8 at hf
  unfold b_X10_next_8
  refine k_gI (ok_o o_v0 (by decide)) rfl ?_
  refine k_cO (ok_o o_v0 (by decide)) ?_
  refine ob hf fun x1 ex hf => ?_
  refine k_b1 (un_X10_see hw o_v0 ex) ?_
  refine k_if hf (fun hf => ?_) (fun hf => ?_)
  · exact u_X10_next_34 hw o_v0 ih4 hf
  · refine k_gI (ok_o o_v0 (by decide)) rfl ?_
    refine k_cO (ok_o o_v0 (by decide)) ?_
    refine ob hf fun x2 ex hf => ?_
    refine k_b1 (un_X10_see hw o_v0 ex) ?_
    refine k_if hf (fun hf => ?_) (fun hf => ?_)
    · exact u_X10_next_34 hw o_v0 ih4 hf
    · refine k_gI (ok_o o_v0 (by decide)) rfl ?_
      refine k_pI hw (ok_o o_v0 (by decide)) rfl hf fun m3 hw hf => ?_
      refine k_gI (ok_o o_v0 (by decide)) rfl ?_
      refine k_gI (ok_o o_v0 (by decide)) rfl ?_
      refine k_if hf (fun hf => ?_) (fun hf => ?_)
      · refine k_gI (ok_o o_v0 (by decide)) rfl ?_
        refine k_cO (ok_o o_v0 (by decide)) ?_
        refine ob hf fun x4 ex hf => ?_
        refine k_b1 (un_X10_see hw o_v0 ex) ?_
        refine k_pure hf fun x5 hf => ?_
        refine k_if hf (fun hf => ?_) (fun hf => ?_)
        · refine k_gI (ok_o o_v0 (by decide)) rfl ?_
          refine k_cO (ok_o o_v0 (by decide)) ?_
          refine ob hf fun x6 ex hf => ?_
          refine k_b1 (un_X10_see hw o_v0 ex) ?_
          refine k_pure hf fun x7 hf => ?_
          refine k_if hf (fun hf => ?_) (fun hf => ?_)
          · refine k_gI (ok_o o_v0 (by decide)) rfl ?_
            refine k_pI hw (ok_o o_v0 (by decide)) rfl hf fun m8 hw hf => ?_
            refine k_pI hw (ok_o o_v0 (by decide)) rfl hf fun m9 hw hf => ?_
            exact ul_X10_next_254 F _ _ _ hw o_v0 hf
          · refine k_pI hw (ok_o o_v0 (by decide)) rfl hf fun m10 hw hf => ?_
            exact ul_X10_next_146 F _ _ hw o_v0 hf
        · exact ul_X10_next_89 F _ _ hw o_v0 hf
      · refine k_pI hw (ok_o o_v0 (by decide)) rfl hf fun m11 hw hf => ?_
        exact k_ret hw hf
def nl_X10_next_8 (F : Nat) (s : List Sh) : Nat → Mem → Nat → Option (Unit × Mem)
  | 0 => fun _ _ => none
  | n + 1 => fun m v0 => nb_X10_next_8 F s (nl_X10_next_8 F s n) m v0
theorem ul_X10_next_8 {F : Nat} {s : List Sh} {m' : Mem} {r : Unit} (n : Nat) : ∀ (m : Mem) (v0 : Nat), GS s m → ok s v0 10 → nl_X10_next_8 F s n m v0 = some (r, m') → J3 (l_X10_next_8 F n (bl s m) v0) (r, bl s m') (GS s m') := by
  induction n with
  | zero => intro m v0 hw o_v0 hf; cases hf
  | succ n ih => intro m v0 hw o_v0 hf; exact ub_X10_next_8 (F := F) hw o_v0 ih hf
def nb_X10_next_0 (F : Nat) (s : List Sh) (m : Mem) (v0 : Nat) : Option (Unit × Mem) := bindv (wI m v0 6 (m.1 v0 7)) fun m1 => (nl_X10_next_8 F s F m1 v0)
set_option maxRecDepth 20000 in
theorem u_X10_next_0 {F : Nat} {s : List Sh} {m m' : Mem} {r : Unit} {v0 : Nat} (hw : GS s m) (o_v0 : ok s v0 10) (hf : nb_X10_next_0 F s m v0 = some (r, m')) : J3 (b_X10_next_0 F (bl s m) v0) (r, bl s m') (GS s m') := by
  unfold nb_X10_next_0 at hf
  unfold b_X10_next_0
  refine k_gI (ok_o o_v0 (by decide)) rfl ?_
  refine k_pI hw (ok_o o_v0 (by decide)) rfl hf fun m1 hw hf => ?_
  exact ul_X10_next_8 F _ _ hw o_v0 hf
def n_X10_next (F : Nat) (s : List Sh) (m : Mem) (p0 : Nat) : Option (Unit × Mem) := nb_X10_next_0 F s m p0
theorem un_X10_next {F : Nat} {s : List Sh} {m m' : Mem} {p0 : Nat} {r : Unit} (hw : GS s m) (o_p0 : ok s p0 10) (ex : n_X10_next F s m p0 = some (r, m')) : J3 (m_X10_next F (bl s m) p0) (r, bl s m') (GS s m') := u_X10_next_0 hw o_p0 ex
/-! FractionLiftModel.fails(I)V over the memory -/
def nb_X10_fails_23 (s : List Sh) (m : Mem) (v0 : Nat) (s0 : Nat) (s1 : Int32) : Option (Unit × Mem) := bindv (wI m s0 11 s1) fun m1 => (bindv (wI m1 v0 12 (m1.1 v0 6)) fun m2 => (some ((), m2)))
set_option maxRecDepth 20000 in
theorem u_X10_fails_23 {s : List Sh} {m m' : Mem} {r : Unit} {v0 : Nat} {s0 : Nat} {s1 : Int32} (hw : GS s m) (o_v0 : ok s v0 10) (o_s0 : ok s s0 10) (hf : nb_X10_fails_23 s m v0 s0 s1 = some (r, m')) : J3 (b_X10_fails_23 (bl s m) v0 s0 s1) (r, bl s m') (GS s m') := by
  unfold nb_X10_fails_23 at hf
  unfold b_X10_fails_23
  refine k_pI hw (ok_o o_s0 (by decide)) rfl hf fun m1 hw hf => ?_
  refine k_gI (ok_o o_v0 (by decide)) rfl ?_
  refine k_pI hw (ok_o o_v0 (by decide)) rfl hf fun m2 hw hf => ?_
  exact k_ret hw hf
def nb_X10_fails_0 (s : List Sh) (m : Mem) (v0 : Nat) (v1 : Int32) : Option (Unit × Mem) := if (m.1 v0 11) = 0 then (if (m.1 v0 9) = (18 : Int32) then (nb_X10_fails_23 s m v0 v0 (1 : Int32)) else (nb_X10_fails_23 s m v0 v0 v1)) else (some ((), m))
set_option maxRecDepth 20000 in
theorem u_X10_fails_0 {s : List Sh} {m m' : Mem} {r : Unit} {v0 : Nat} {v1 : Int32} (hw : GS s m) (o_v0 : ok s v0 10) (hf : nb_X10_fails_0 s m v0 v1 = some (r, m')) : J3 (b_X10_fails_0 (bl s m) v0 v1) (r, bl s m') (GS s m') := by
  unfold nb_X10_fails_0 at hf
  unfold b_X10_fails_0
  refine k_gI (ok_o o_v0 (by decide)) rfl ?_
  refine k_if hf (fun hf => ?_) (fun hf => ?_)
  · refine k_gI (ok_o o_v0 (by decide)) rfl ?_
    refine k_if hf (fun hf => ?_) (fun hf => ?_)
    · exact u_X10_fails_23 hw o_v0 o_v0 hf
    · exact u_X10_fails_23 hw o_v0 o_v0 hf
  · exact k_ret hw hf
def n_X10_fails (s : List Sh) (m : Mem) (p0 : Nat) (p1 : Int32) : Option (Unit × Mem) := nb_X10_fails_0 s m p0 p1
theorem un_X10_fails {s : List Sh} {m m' : Mem} {p0 : Nat} {p1 : Int32} {r : Unit} (hw : GS s m) (o_p0 : ok s p0 10) (ex : n_X10_fails s m p0 p1 = some (r, m')) : J3 (m_X10_fails (bl s m) p0 p1) (r, bl s m') (GS s m') := u_X10_fails_0 hw o_p0 ex
/-! FractionLiftModel.is(I)Z over the memory -/
def nb_X10_is_0 (s : List Sh) (m : Mem) (v0 : Nat) (v1 : Int32) : Option Int32 := if (m.1 v0 11) = 0 then (if (m.1 v0 9) = v1 then (rZP (1 : Int32)) else (rZP (0 : Int32))) else (rZP (0 : Int32))
set_option maxRecDepth 20000 in
theorem u_X10_is_0 {s : List Sh} {m : Mem} {r : Int32} {v0 : Nat} {v1 : Int32} (hw : GS s m) (o_v0 : ok s v0 10) (hf : nb_X10_is_0 s m v0 v1 = some r) : J3 (b_X10_is_0 (bl s m) v0 v1) r True := by
  unfold nb_X10_is_0 at hf
  unfold b_X10_is_0
  refine k_gI (ok_o o_v0 (by decide)) rfl ?_
  refine k_if hf (fun hf => ?_) (fun hf => ?_)
  · refine k_gI (ok_o o_v0 (by decide)) rfl ?_
    refine k_if hf (fun hf => ?_) (fun hf => ?_)
    · exact k_rZP hf
    · exact k_rZP hf
  · exact k_rZP hf
def n_X10_is (s : List Sh) (m : Mem) (p0 : Nat) (p1 : Int32) : Option Int32 := nb_X10_is_0 s m p0 p1
theorem un_X10_is {s : List Sh} {m : Mem} {p0 : Nat} {p1 : Int32} {r : Int32} (hw : GS s m) (o_p0 : ok s p0 10) (ex : n_X10_is s m p0 p1 = some r) : J3 (m_X10_is (bl s m) p0 p1) r True := u_X10_is_0 hw o_p0 ex
/-! FractionLiftModel.eats(I)Z over the memory -/
def nb_X10_eats_0 (F : Nat) (s : List Sh) (m : Mem) (v0 : Nat) (v1 : Int32) : Option (Int32 × Mem) := (n_X10_is s m v0 v1).bind fun x1 => (if x1 = 0 then (rZM (0 : Int32) m) else (bind2 (n_X10_next F s m v0) fun _ m3 => (rZM (1 : Int32) m3)))
set_option maxRecDepth 20000 in
theorem u_X10_eats_0 {F : Nat} {s : List Sh} {m m' : Mem} {r : Int32} {v0 : Nat} {v1 : Int32} (hw : GS s m) (o_v0 : ok s v0 10) (hf : nb_X10_eats_0 F s m v0 v1 = some (r, m')) : J3 (b_X10_eats_0 F (bl s m) v0 v1) (r, bl s m') (GS s m') := by
  unfold nb_X10_eats_0 at hf
  unfold b_X10_eats_0
  refine k_cO (ok_o o_v0 (by decide)) ?_
  refine ob hf fun x1 ex hf => ?_
  refine k_b1 (un_X10_is hw o_v0 ex) ?_
  refine k_if hf (fun hf => ?_) (fun hf => ?_)
  · exact k_rZ hw hf
  · refine k_cO (ok_o o_v0 (by decide)) ?_
    refine ob2 hf fun u m3 ex hf => ?_
    refine k_b2 (un_X10_next hw o_v0 ex) fun hw => ?_
    exact k_rZ hw hf
def n_X10_eats (F : Nat) (s : List Sh) (m : Mem) (p0 : Nat) (p1 : Int32) : Option (Int32 × Mem) := nb_X10_eats_0 F s m p0 p1
theorem un_X10_eats {F : Nat} {s : List Sh} {m m' : Mem} {p0 : Nat} {p1 : Int32} {r : Int32} (hw : GS s m) (o_p0 : ok s p0 10) (ex : n_X10_eats F s m p0 p1 = some (r, m')) : J3 (m_X10_eats F (bl s m) p0 p1) (r, bl s m') (GS s m') := u_X10_eats_0 hw o_p0 ex
/-! FractionLiftModel.takes(II)I over the memory -/
def nb_X10_takes_37 (F : Nat) (s : List Sh) (m : Mem) (v0 : Nat) : Option (Int32 × Mem) := if (m.1 v0 11) = 0 then (bind2 (n_X10_next F s m v0) fun _ m2 => (some ((m.1 v0 10), m2))) else (some ((m.1 v0 10), m))
set_option maxRecDepth 20000 in
theorem u_X10_takes_37 {F : Nat} {s : List Sh} {m m' : Mem} {r : Int32} {v0 : Nat} (hw : GS s m) (o_v0 : ok s v0 10) (hf : nb_X10_takes_37 F s m v0 = some (r, m')) : J3 (b_X10_takes_37 F (bl s m) v0) (r, bl s m') (GS s m') := by
  unfold nb_X10_takes_37 at hf
  unfold b_X10_takes_37
  refine k_gI (ok_o o_v0 (by decide)) rfl ?_
  refine k_gI (ok_o o_v0 (by decide)) rfl ?_
  refine k_if hf (fun hf => ?_) (fun hf => ?_)
  · refine k_cO (ok_o o_v0 (by decide)) ?_
    refine ob2 hf fun u m2 ex hf => ?_
    refine k_b2 (un_X10_next hw o_v0 ex) fun hw => ?_
    exact k_ret hw hf
  · exact k_ret hw hf
def nb_X10_takes_0 (F : Nat) (s : List Sh) (m : Mem) (v0 : Nat) (v1 : Int32) (v2 : Int32) : Option (Int32 × Mem) := (n_X10_is s m v0 (16 : Int32)).bind fun x1 => (if x1 = 0 then (bind2 (n_X10_fails s m v0 (2 : Int32)) fun _ m6 => (nb_X10_takes_37 F s m6 v0)) else ((m_X10_within ((Int32.toInt64 (m.1 v0 10))) (Int32.toInt64 v1) (Int32.toInt64 v2)).bind fun x2 => (if x2 = 0 then (bind2 (n_X10_fails s m v0 (3 : Int32)) fun _ m4 => (nb_X10_takes_37 F s m4 v0)) else (nb_X10_takes_37 F s m v0))))
set_option maxRecDepth 20000 in
theorem u_X10_takes_0 {F : Nat} {s : List Sh} {m m' : Mem} {r : Int32} {v0 : Nat} {v1 : Int32} {v2 : Int32} (hw : GS s m) (o_v0 : ok s v0 10) (hf : nb_X10_takes_0 F s m v0 v1 v2 = some (r, m')) : J3 (b_X10_takes_0 F (bl s m) v0 v1 v2) (r, bl s m') (GS s m') := by
  unfold nb_X10_takes_0 at hf
  unfold b_X10_takes_0
  refine k_cO (ok_o o_v0 (by decide)) ?_
  refine ob hf fun x1 ex hf => ?_
  refine k_b1 (un_X10_is hw o_v0 ex) ?_
  refine k_if hf (fun hf => ?_) (fun hf => ?_)
  · refine k_cO (ok_o o_v0 (by decide)) ?_
    refine ob2 hf fun u m6 ex hf => ?_
    refine k_b2 (un_X10_fails hw o_v0 ex) fun hw => ?_
    exact u_X10_takes_37 hw o_v0 hf
  · refine k_gI (ok_o o_v0 (by decide)) rfl ?_
    refine k_pure hf fun x2 hf => ?_
    refine k_if hf (fun hf => ?_) (fun hf => ?_)
    · refine k_cO (ok_o o_v0 (by decide)) ?_
      refine ob2 hf fun u m4 ex hf => ?_
      refine k_b2 (un_X10_fails hw o_v0 ex) fun hw => ?_
      exact u_X10_takes_37 hw o_v0 hf
    · exact u_X10_takes_37 hw o_v0 hf
def n_X10_takes (F : Nat) (s : List Sh) (m : Mem) (p0 : Nat) (p1 : Int32) (p2 : Int32) : Option (Int32 × Mem) := nb_X10_takes_0 F s m p0 p1 p2
theorem un_X10_takes {F : Nat} {s : List Sh} {m m' : Mem} {p0 : Nat} {p1 : Int32} {p2 : Int32} {r : Int32} (hw : GS s m) (o_p0 : ok s p0 10) (ex : n_X10_takes F s m p0 p1 p2 = some (r, m')) : J3 (m_X10_takes F (bl s m) p0 p1 p2) (r, bl s m') (GS s m') := u_X10_takes_0 hw o_p0 ex
/-! FractionLiftModel.lays(JJ)V over the memory -/
def nb_X10_lays_0 (s : List Sh) (m : Mem) (v0 : Nat) (v1 : Int64) (v3 : Int64) : Option (Unit × Mem) := (m_X10_common 130 v1 v3).bind fun x1 => (if x1 = 0 then none else (bindv (wL m v0 15 (v1 / x1)) fun m2 => (if x1 = 0 then none else (bindv (wL m2 v0 16 (v3 / x1)) fun m3 => (if (m3.2.1 v0 16) < (0 : Int64) then (bindv (wL m3 v0 15 ((-(m3.2.1 v0 15)))) fun m4 => (bindv (wL m4 v0 16 ((-(m4.2.1 v0 16)))) fun m5 => (some ((), m5)))) else (some ((), m3)))))))
set_option maxRecDepth 20000 in
theorem u_X10_lays_0 {s : List Sh} {m m' : Mem} {r : Unit} {v0 : Nat} {v1 : Int64} {v3 : Int64} (hw : GS s m) (o_v0 : ok s v0 10) (hf : nb_X10_lays_0 s m v0 v1 v3 = some (r, m')) : J3 (b_X10_lays_0 (bl s m) v0 v1 v3) (r, bl s m') (GS s m') := by
  unfold nb_X10_lays_0 at hf
  unfold b_X10_lays_0
  refine k_pure hf fun x1 hf => ?_
  refine k_if hf (fun hf => by cases hf) (fun hf => ?_)
  refine k_pL hw (ok_o o_v0 (by decide)) rfl hf fun m2 hw hf => ?_
  refine k_if hf (fun hf => by cases hf) (fun hf => ?_)
  refine k_pL hw (ok_o o_v0 (by decide)) rfl hf fun m3 hw hf => ?_
  refine k_gL (ok_o o_v0 (by decide)) rfl ?_
  refine k_if hf (fun hf => ?_) (fun hf => ?_)
  · refine k_gL (ok_o o_v0 (by decide)) rfl ?_
    refine k_pL hw (ok_o o_v0 (by decide)) rfl hf fun m4 hw hf => ?_
    refine k_gL (ok_o o_v0 (by decide)) rfl ?_
    refine k_pL hw (ok_o o_v0 (by decide)) rfl hf fun m5 hw hf => ?_
    exact k_ret hw hf
  · exact k_ret hw hf
def n_X10_lays (s : List Sh) (m : Mem) (p0 : Nat) (p1 : Int64) (p3 : Int64) : Option (Unit × Mem) := nb_X10_lays_0 s m p0 p1 p3
theorem un_X10_lays {s : List Sh} {m m' : Mem} {p0 : Nat} {p1 : Int64} {p3 : Int64} {r : Unit} (hw : GS s m) (o_p0 : ok s p0 10) (ex : n_X10_lays s m p0 p1 p3 = some (r, m')) : J3 (m_X10_lays (bl s m) p0 p1 p3) (r, bl s m') (GS s m') := u_X10_lays_0 hw o_p0 ex
/-! FractionLiftModel.takesFraction()V over the memory -/
def nb_X10_takesFraction_72 (F : Nat) (s : List Sh) (m : Mem) (s0 : Nat) (s1 : Int32) : Option (Unit × Mem) := (ptZ m s0 17 s1).bind fun m1 => (some ((), m1))
set_option maxRecDepth 20000 in
theorem u_X10_takesFraction_72 {F : Nat} {s : List Sh} {m m' : Mem} {r : Unit} {s0 : Nat} {s1 : Int32} (hw : GS s m) (o_s0 : ok s s0 10) (hf : nb_X10_takesFraction_72 F s m s0 s1 = some (r, m')) : J3 (b_X10_takesFraction_72 F (bl s m) s0 s1) (r, bl s m') (GS s m') := by
  unfold nb_X10_takesFraction_72 at hf
  unfold b_X10_takesFraction_72
  refine k_pZ hw (ok_o o_s0 (by decide)) rfl hf fun m1 hw hf => ?_
  exact k_ret hw hf
def nb_X10_takesFraction_29 (F : Nat) (s : List Sh) (m : Mem) (v0 : Nat) (v1 : Int32) (s0 : Int32) : Option (Unit × Mem) := if (m.1 v0 11) = 0 then (bind2 (n_X10_lays s m v0 (Int32.toInt64 v1) (Int32.toInt64 s0)) fun _ m2 => ((m2.2.2 v0 4).bind fun a3 => ((rdI s m2 a3 (1 : Int32)).bind fun x4 => (if (m2.2.1 v0 15) ≤ (((Int32.toInt64 x4) * (m2.2.1 v0 16))) then (nb_X10_takesFraction_72 F s m2 v0 (0 : Int32)) else (nb_X10_takesFraction_72 F s m2 v0 (1 : Int32)))))) else (some ((), m))
set_option maxRecDepth 20000 in
theorem u_X10_takesFraction_29 {F : Nat} {s : List Sh} {m m' : Mem} {r : Unit} {v0 : Nat} {v1 : Int32} {s0 : Int32} (hw : GS s m) (o_v0 : ok s v0 10) (hf : nb_X10_takesFraction_29 F s m v0 v1 s0 = some (r, m')) : J3 (b_X10_takesFraction_29 F (bl s m) v0 v1 s0) (r, bl s m') (GS s m') := by
  unfold nb_X10_takesFraction_29 at hf
  unfold b_X10_takesFraction_29
  refine k_gI (ok_o o_v0 (by decide)) rfl ?_
  refine k_if hf (fun hf => ?_) (fun hf => ?_)
  · refine k_cO (ok_o o_v0 (by decide)) ?_
    refine ob2 hf fun u m2 ex hf => ?_
    refine k_b2 (un_X10_lays hw o_v0 ex) fun hw => ?_
    refine k_gL (ok_o o_v0 (by decide)) rfl ?_
    refine k_gR hw (ok_o o_v0 (by decide)) rfl hf fun a3 o_a3 hf => ?_
    refine k_aI (Or.inl rfl) (ka rfl o_a3) hf fun x4 hf => ?_
    refine k_gL (ok_o o_v0 (by decide)) rfl ?_
    refine k_if hf (fun hf => ?_) (fun hf => ?_)
    · exact u_X10_takesFraction_72 hw o_v0 hf
    · exact u_X10_takesFraction_72 hw o_v0 hf
  · exact k_ret hw hf
def nb_X10_takesFraction_0 (F : Nat) (s : List Sh) (m : Mem) (v0 : Nat) : Option (Unit × Mem) := bind2 (n_X10_takes F s m v0 (0 : Int32) (999 : Int32)) fun x1 m2 => (bind2 (n_X10_eats F s m2 v0 (25 : Int32)) fun x3 m4 => (if x3 = 0 then (nb_X10_takesFraction_29 F s m4 v0 x1 (1 : Int32)) else (bind2 (n_X10_takes F s m4 v0 (1 : Int32) (99 : Int32)) fun x5 m6 => (nb_X10_takesFraction_29 F s m6 v0 x1 x5))))
set_option maxRecDepth 20000 in
theorem u_X10_takesFraction_0 {F : Nat} {s : List Sh} {m m' : Mem} {r : Unit} {v0 : Nat} (hw : GS s m) (o_v0 : ok s v0 10) (hf : nb_X10_takesFraction_0 F s m v0 = some (r, m')) : J3 (b_X10_takesFraction_0 F (bl s m) v0) (r, bl s m') (GS s m') := by
  unfold nb_X10_takesFraction_0 at hf
  unfold b_X10_takesFraction_0
  refine k_cO (ok_o o_v0 (by decide)) ?_
  refine ob2 hf fun x1 m2 ex hf => ?_
  refine k_b2 (un_X10_takes hw o_v0 ex) fun hw => ?_
  refine k_cO (ok_o o_v0 (by decide)) ?_
  refine ob2 hf fun x3 m4 ex hf => ?_
  refine k_b2 (un_X10_eats hw o_v0 ex) fun hw => ?_
  refine k_if hf (fun hf => ?_) (fun hf => ?_)
  · exact u_X10_takesFraction_29 hw o_v0 hf
  · refine k_cO (ok_o o_v0 (by decide)) ?_
    refine ob2 hf fun x5 m6 ex hf => ?_
    refine k_b2 (un_X10_takes hw o_v0 ex) fun hw => ?_
    exact u_X10_takesFraction_29 hw o_v0 hf
def n_X10_takesFraction (F : Nat) (s : List Sh) (m : Mem) (p0 : Nat) : Option (Unit × Mem) := nb_X10_takesFraction_0 F s m p0
theorem un_X10_takesFraction {F : Nat} {s : List Sh} {m m' : Mem} {p0 : Nat} {r : Unit} (hw : GS s m) (o_p0 : ok s p0 10) (ex : n_X10_takesFraction F s m p0 = some (r, m')) : J3 (m_X10_takesFraction F (bl s m) p0) (r, bl s m') (GS s m') := u_X10_takesFraction_0 hw o_p0 ex
/-! FractionLiftModel.goesOn(IZ)V over the memory -/
def nb_X10_goesOn_17 (F : Nat) (s : List Sh) (m : Mem) (v0 : Nat) (v1 : Int32) : Option (Unit × Mem) := bind2 (n_X10_eats F s m v0 v1) fun x1 m2 => (if x1 = 0 then (bind2 (n_X10_fails s m2 v0 (2 : Int32)) fun _ m4 => (some ((), m4))) else (some ((), m2)))
set_option maxRecDepth 20000 in
theorem u_X10_goesOn_17 {F : Nat} {s : List Sh} {m m' : Mem} {r : Unit} {v0 : Nat} {v1 : Int32} (hw : GS s m) (o_v0 : ok s v0 10) (hf : nb_X10_goesOn_17 F s m v0 v1 = some (r, m')) : J3 (b_X10_goesOn_17 F (bl s m) v0 v1) (r, bl s m') (GS s m') := by
  unfold nb_X10_goesOn_17 at hf
  unfold b_X10_goesOn_17
  refine k_cO (ok_o o_v0 (by decide)) ?_
  refine ob2 hf fun x1 m2 ex hf => ?_
  refine k_b2 (un_X10_eats hw o_v0 ex) fun hw => ?_
  refine k_if hf (fun hf => ?_) (fun hf => ?_)
  · refine k_cO (ok_o o_v0 (by decide)) ?_
    refine ob2 hf fun u m4 ex hf => ?_
    refine k_b2 (un_X10_fails hw o_v0 ex) fun hw => ?_
    exact k_ret hw hf
  · exact k_ret hw hf
def nb_X10_goesOn_0 (F : Nat) (s : List Sh) (m : Mem) (v0 : Nat) (v1 : Int32) (v2 : Int32) : Option (Unit × Mem) := (n_X10_is s m v0 v1).bind fun x1 => (if x1 = 0 then (nb_X10_goesOn_17 F s m v0 v1) else (if v2 = 0 then (nb_X10_goesOn_17 F s m v0 v1) else (bind2 (n_X10_fails s m v0 (3 : Int32)) fun _ m3 => (nb_X10_goesOn_17 F s m3 v0 v1))))
set_option maxRecDepth 20000 in
theorem u_X10_goesOn_0 {F : Nat} {s : List Sh} {m m' : Mem} {r : Unit} {v0 : Nat} {v1 : Int32} {v2 : Int32} (hw : GS s m) (o_v0 : ok s v0 10) (hf : nb_X10_goesOn_0 F s m v0 v1 v2 = some (r, m')) : J3 (b_X10_goesOn_0 F (bl s m) v0 v1 v2) (r, bl s m') (GS s m') := by
  unfold nb_X10_goesOn_0 at hf
  unfold b_X10_goesOn_0
  refine k_cO (ok_o o_v0 (by decide)) ?_
  refine ob hf fun x1 ex hf => ?_
  refine k_b1 (un_X10_is hw o_v0 ex) ?_
  refine k_if hf (fun hf => ?_) (fun hf => ?_)
  · exact u_X10_goesOn_17 hw o_v0 hf
  · refine k_if hf (fun hf => ?_) (fun hf => ?_)
    · exact u_X10_goesOn_17 hw o_v0 hf
    · refine k_cO (ok_o o_v0 (by decide)) ?_
      refine ob2 hf fun u m3 ex hf => ?_
      refine k_b2 (un_X10_fails hw o_v0 ex) fun hw => ?_
      exact u_X10_goesOn_17 hw o_v0 hf
def n_X10_goesOn (F : Nat) (s : List Sh) (m : Mem) (p0 : Nat) (p1 : Int32) (p2 : Int32) : Option (Unit × Mem) := nb_X10_goesOn_0 F s m p0 p1 p2
theorem un_X10_goesOn {F : Nat} {s : List Sh} {m m' : Mem} {p0 : Nat} {p1 : Int32} {p2 : Int32} {r : Unit} (hw : GS s m) (o_p0 : ok s p0 10) (ex : n_X10_goesOn F s m p0 p1 p2 = some (r, m')) : J3 (m_X10_goesOn F (bl s m) p0 p1 p2) (r, bl s m') (GS s m') := u_X10_goesOn_0 hw o_p0 ex
/-! FractionLiftModel.readFloor()V over the memory -/
def nb_X10_readFloor_88 (F : Nat) (s : List Sh) (nself24 : Mem → Nat → Int32 → Int32 → Int32 → Option (Unit × Mem)) (m : Mem) (v0 : Nat) (v1 : Int32) (v3 : Int32) (s0 : Int32) (s1 : Int32) : Option (Unit × Mem) := bindv (s0 ||| s1) fun x1 => (bindv (v3 + (1)) fun x2 => (nself24 m v0 v1 x1 x2))
set_option maxRecDepth 20000 in
theorem u_X10_readFloor_88 {F : Nat} {s : List Sh} {self24 : PH → Nat → Int32 → Int32 → Int32 → Option (Unit × PH)} {nself24 : Mem → Nat → Int32 → Int32 → Int32 → Option (Unit × Mem)} {m m' : Mem} {r : Unit} {v0 : Nat} {v1 : Int32} {v3 : Int32} {s0 : Int32} {s1 : Int32} (hw : GS s m) (o_v0 : ok s v0 10) (ih24 : ∀ (m : Mem) (v0 : Nat) (v1 : Int32) (v2 : Int32) (v3 : Int32), GS s m → ok s v0 10 → nself24 m v0 v1 v2 v3 = some (r, m') → J3 (self24 (bl s m) v0 v1 v2 v3) (r, bl s m') (GS s m')) (hf : nb_X10_readFloor_88 F s nself24 m v0 v1 v3 s0 s1 = some (r, m')) : J3 (b_X10_readFloor_88 F self24 (bl s m) v0 v1 v3 s0 s1) (r, bl s m') (GS s m') := by
  unfold nb_X10_readFloor_88 at hf
  unfold b_X10_readFloor_88
  refine k_bv hf fun x1 hf => ?_
  refine k_bv hf fun x2 hf => ?_
  exact ih24 _ _ _ _ _ hw o_v0 hf
def nb_X10_readFloor_87 (F : Nat) (s : List Sh) (nself24 : Mem → Nat → Int32 → Int32 → Int32 → Option (Unit × Mem)) (m : Mem) (v0 : Nat) (v1 : Int32) (v3 : Int32) (s0 : Int32) : Option (Unit × Mem) := nb_X10_readFloor_88 F s nself24 m v0 v1 v3 s0 (0 : Int32)
set_option maxRecDepth 20000 in
theorem u_X10_readFloor_87 {F : Nat} {s : List Sh} {self24 : PH → Nat → Int32 → Int32 → Int32 → Option (Unit × PH)} {nself24 : Mem → Nat → Int32 → Int32 → Int32 → Option (Unit × Mem)} {m m' : Mem} {r : Unit} {v0 : Nat} {v1 : Int32} {v3 : Int32} {s0 : Int32} (hw : GS s m) (o_v0 : ok s v0 10) (ih24 : ∀ (m : Mem) (v0 : Nat) (v1 : Int32) (v2 : Int32) (v3 : Int32), GS s m → ok s v0 10 → nself24 m v0 v1 v2 v3 = some (r, m') → J3 (self24 (bl s m) v0 v1 v2 v3) (r, bl s m') (GS s m')) (hf : nb_X10_readFloor_87 F s nself24 m v0 v1 v3 s0 = some (r, m')) : J3 (b_X10_readFloor_87 F self24 (bl s m) v0 v1 v3 s0) (r, bl s m') (GS s m') := by
  unfold nb_X10_readFloor_87 at hf
  unfold b_X10_readFloor_87
  exact u_X10_readFloor_88 hw o_v0 ih24 hf
def nb_X10_readFloor_157 (F : Nat) (s : List Sh) (nself71 : Mem → Nat → Int32 → Int32 → Int32 → Int32 → Option (Unit × Mem)) (m : Mem) (v0 : Nat) (v1 : Int32) (v3 : Int32) (v4 : Int32) (v5 : Int32) : Option (Unit × Mem) := bindv (v5 + (1)) fun x1 => (nself71 m v0 v1 v3 v4 x1)
set_option maxRecDepth 20000 in
theorem u_X10_readFloor_157 {F : Nat} {s : List Sh} {self71 : PH → Nat → Int32 → Int32 → Int32 → Int32 → Option (Unit × PH)} {nself71 : Mem → Nat → Int32 → Int32 → Int32 → Int32 → Option (Unit × Mem)} {m m' : Mem} {r : Unit} {v0 : Nat} {v1 : Int32} {v3 : Int32} {v4 : Int32} {v5 : Int32} (hw : GS s m) (o_v0 : ok s v0 10) (ih71 : ∀ (m : Mem) (v0 : Nat) (v1 : Int32) (v3 : Int32) (v4 : Int32) (v5 : Int32), GS s m → ok s v0 10 → nself71 m v0 v1 v3 v4 v5 = some (r, m') → J3 (self71 (bl s m) v0 v1 v3 v4 v5) (r, bl s m') (GS s m')) (hf : nb_X10_readFloor_157 F s nself71 m v0 v1 v3 v4 v5 = some (r, m')) : J3 (b_X10_readFloor_157 F self71 (bl s m) v0 v1 v3 v4 v5) (r, bl s m') (GS s m') := by
  unfold nb_X10_readFloor_157 at hf
  unfold b_X10_readFloor_157
  refine k_bv hf fun x1 hf => ?_
  exact ih71 _ _ _ _ _ _ hw o_v0 hf
def nb_X10_readFloor_118 (F : Nat) (s : List Sh) (nself71 : Mem → Nat → Int32 → Int32 → Int32 → Int32 → Option (Unit × Mem)) (m : Mem) (v0 : Nat) (v1 : Int32) (v3 : Int32) (v4 : Int32) (v5 : Int32) : Option (Unit × Mem) := if (3 : Int32) ≤ v5 then (if (m.1 v0 11) = 0 then ((m.2.2 v0 4).bind fun a1 => ((stI s m a1 (((9 : Int32) + v1)) v3).bind fun m2 => ((m2.2.2 v0 4).bind fun a3 => ((stI s m2 a3 (((17 : Int32) + v1)) v4).bind fun m4 => ((m4.2.2 v0 4).bind fun a5 => ((rdI s m4 a5 (3 : Int32)).bind fun x6 => ((stI s m4 a5 (3 : Int32) ((x6 + (1 : Int32)))).bind fun m7 => (some ((), m7))))))))) else (some ((), m))) else (bind2 (n_X10_takes F s m v0 (0 : Int32) (99 : Int32)) fun x8 m9 => (if (m9.1 v0 11) = 0 then ((m9.2.2 v0 4).bind fun a10 => ((stI s m9 a10 (((((25 : Int32) + (((8 : Int32) * v5)))) + v1)) x8).bind fun m11 => (nb_X10_readFloor_157 F s nself71 m11 v0 v1 v3 v4 v5))) else (nb_X10_readFloor_157 F s nself71 m9 v0 v1 v3 v4 v5)))
set_option maxRecDepth 20000 in
theorem ub_X10_readFloor_118 {F : Nat} {s : List Sh} {self71 : PH → Nat → Int32 → Int32 → Int32 → Int32 → Option (Unit × PH)} {nself71 : Mem → Nat → Int32 → Int32 → Int32 → Int32 → Option (Unit × Mem)} {m m' : Mem} {r : Unit} {v0 : Nat} {v1 : Int32} {v3 : Int32} {v4 : Int32} {v5 : Int32} (hw : GS s m) (o_v0 : ok s v0 10) (ih71 : ∀ (m : Mem) (v0 : Nat) (v1 : Int32) (v3 : Int32) (v4 : Int32) (v5 : Int32), GS s m → ok s v0 10 → nself71 m v0 v1 v3 v4 v5 = some (r, m') → J3 (self71 (bl s m) v0 v1 v3 v4 v5) (r, bl s m') (GS s m')) (hf : nb_X10_readFloor_118 F s nself71 m v0 v1 v3 v4 v5 = some (r, m')) : J3 (b_X10_readFloor_118 F self71 (bl s m) v0 v1 v3 v4 v5) (r, bl s m') (GS s m') := by
  unfold nb_X10_readFloor_118 at hf
  unfold b_X10_readFloor_118
  refine k_if hf (fun hf => ?_) (fun hf => ?_)
  · refine k_gI (ok_o o_v0 (by decide)) rfl ?_
    refine k_if hf (fun hf => ?_) (fun hf => ?_)
    · refine k_gR hw (ok_o o_v0 (by decide)) rfl hf fun a1 o_a1 hf => ?_
      refine k_sI hw (ka rfl o_a1) hf fun m2 hw hf => ?_
      refine k_gR hw (ok_o o_v0 (by decide)) rfl hf fun a3 o_a3 hf => ?_
      refine k_sI hw (ka rfl o_a3) hf fun m4 hw hf => ?_
      refine k_gR hw (ok_o o_v0 (by decide)) rfl hf fun a5 o_a5 hf => ?_
      refine k_aI (Or.inl rfl) (ka rfl o_a5) hf fun x6 hf => ?_
      refine k_sI hw (ka rfl o_a5) hf fun m7 hw hf => ?_
      exact k_ret hw hf
    · exact k_ret hw hf
  · refine k_cO (ok_o o_v0 (by decide)) ?_
    refine ob2 hf fun x8 m9 ex hf => ?_
    refine k_b2 (un_X10_takes hw o_v0 ex) fun hw => ?_
    refine k_gI (ok_o o_v0 (by decide)) rfl ?_
    refine k_if hf (fun hf => ?_) (fun hf => ?_)
    · refine k_gR hw (ok_o o_v0 (by decide)) rfl hf fun a10 o_a10 hf => ?_
      refine k_sI hw (ka rfl o_a10) hf fun m11 hw hf => ?_
      exact u_X10_readFloor_157 hw o_v0 ih71 hf
    · exact u_X10_readFloor_157 hw o_v0 ih71 hf
def nl_X10_readFloor_118 (F : Nat) (s : List Sh) : Nat → Mem → Nat → Int32 → Int32 → Int32 → Int32 → Option (Unit × Mem)
  | 0 => fun _ _ _ _ _ _ => none
  | n + 1 => fun m v0 v1 v3 v4 v5 => nb_X10_readFloor_118 F s (nl_X10_readFloor_118 F s n) m v0 v1 v3 v4 v5
theorem ul_X10_readFloor_118 {F : Nat} {s : List Sh} {m' : Mem} {r : Unit} (n : Nat) : ∀ (m : Mem) (v0 : Nat) (v1 : Int32) (v3 : Int32) (v4 : Int32) (v5 : Int32), GS s m → ok s v0 10 → nl_X10_readFloor_118 F s n m v0 v1 v3 v4 v5 = some (r, m') → J3 (l_X10_readFloor_118 F n (bl s m) v0 v1 v3 v4 v5) (r, bl s m') (GS s m') := by
  induction n with
  | zero => intro m v0 v1 v3 v4 v5 hw o_v0 hf; cases hf
  | succ n ih => intro m v0 v1 v3 v4 v5 hw o_v0 hf; exact ub_X10_readFloor_118 (F := F) hw o_v0 ih hf
def nb_X10_readFloor_41 (F : Nat) (s : List Sh) (nself24 : Mem → Nat → Int32 → Int32 → Int32 → Option (Unit × Mem)) (m : Mem) (v0 : Nat) (v1 : Int32) (v2 : Int32) (v3 : Int32) : Option (Unit × Mem) := if v1 ≤ v3 then (bindv ((Int64.toInt32 (m.2.1 v0 15))) fun x1 => (bindv ((Int64.toInt32 (m.2.1 v0 16))) fun x2 => (bind2 (n_X10_goesOn F s m v0 (3 : Int32) v2) fun _ m4 => (nl_X10_readFloor_118 F s F m4 v0 v1 x1 x2 (0 : Int32))))) else ((m.2.2 v0 4).bind fun a5 => ((rdI s m a5 (((9 : Int32) + v3))).bind fun x6 => (if (Int32.toInt64 x6) = (m.2.1 v0 15) then ((m.2.2 v0 4).bind fun a7 => ((rdI s m a7 (((17 : Int32) + v3))).bind fun x8 => (if (Int32.toInt64 x8) = (m.2.1 v0 16) then (nb_X10_readFloor_88 F s nself24 m v0 v1 v3 v2 (1 : Int32)) else (nb_X10_readFloor_87 F s nself24 m v0 v1 v3 v2)))) else (nb_X10_readFloor_87 F s nself24 m v0 v1 v3 v2))))
set_option maxRecDepth 20000 in
theorem ub_X10_readFloor_41 {F : Nat} {s : List Sh} {self24 : PH → Nat → Int32 → Int32 → Int32 → Option (Unit × PH)} {nself24 : Mem → Nat → Int32 → Int32 → Int32 → Option (Unit × Mem)} {m m' : Mem} {r : Unit} {v0 : Nat} {v1 : Int32} {v2 : Int32} {v3 : Int32} (hw : GS s m) (o_v0 : ok s v0 10) (ih24 : ∀ (m : Mem) (v0 : Nat) (v1 : Int32) (v2 : Int32) (v3 : Int32), GS s m → ok s v0 10 → nself24 m v0 v1 v2 v3 = some (r, m') → J3 (self24 (bl s m) v0 v1 v2 v3) (r, bl s m') (GS s m')) (hf : nb_X10_readFloor_41 F s nself24 m v0 v1 v2 v3 = some (r, m')) : J3 (b_X10_readFloor_41 F self24 (bl s m) v0 v1 v2 v3) (r, bl s m') (GS s m') := by
  unfold nb_X10_readFloor_41 at hf
  unfold b_X10_readFloor_41
  refine k_if hf (fun hf => ?_) (fun hf => ?_)
  · refine k_gL (ok_o o_v0 (by decide)) rfl ?_
    refine k_bv hf fun x1 hf => ?_
    refine k_gL (ok_o o_v0 (by decide)) rfl ?_
    refine k_bv hf fun x2 hf => ?_
    refine k_cO (ok_o o_v0 (by decide)) ?_
    refine ob2 hf fun u m4 ex hf => ?_
    refine k_b2 (un_X10_goesOn hw o_v0 ex) fun hw => ?_
    exact ul_X10_readFloor_118 F _ _ _ _ _ _ hw o_v0 hf
  · refine k_gR hw (ok_o o_v0 (by decide)) rfl hf fun a5 o_a5 hf => ?_
    refine k_aI (Or.inl rfl) (ka rfl o_a5) hf fun x6 hf => ?_
    refine k_gL (ok_o o_v0 (by decide)) rfl ?_
    refine k_if hf (fun hf => ?_) (fun hf => ?_)
    · refine k_gR hw (ok_o o_v0 (by decide)) rfl hf fun a7 o_a7 hf => ?_
      refine k_aI (Or.inl rfl) (ka rfl o_a7) hf fun x8 hf => ?_
      refine k_gL (ok_o o_v0 (by decide)) rfl ?_
      refine k_if hf (fun hf => ?_) (fun hf => ?_)
      · exact u_X10_readFloor_88 hw o_v0 ih24 hf
      · exact u_X10_readFloor_87 hw o_v0 ih24 hf
    · exact u_X10_readFloor_87 hw o_v0 ih24 hf
def nl_X10_readFloor_41 (F : Nat) (s : List Sh) : Nat → Mem → Nat → Int32 → Int32 → Int32 → Option (Unit × Mem)
  | 0 => fun _ _ _ _ _ => none
  | n + 1 => fun m v0 v1 v2 v3 => nb_X10_readFloor_41 F s (nl_X10_readFloor_41 F s n) m v0 v1 v2 v3
theorem ul_X10_readFloor_41 {F : Nat} {s : List Sh} {m' : Mem} {r : Unit} (n : Nat) : ∀ (m : Mem) (v0 : Nat) (v1 : Int32) (v2 : Int32) (v3 : Int32), GS s m → ok s v0 10 → nl_X10_readFloor_41 F s n m v0 v1 v2 v3 = some (r, m') → J3 (l_X10_readFloor_41 F n (bl s m) v0 v1 v2 v3) (r, bl s m') (GS s m') := by
  induction n with
  | zero => intro m v0 v1 v2 v3 hw o_v0 hf; cases hf
  | succ n ih => intro m v0 v1 v2 v3 hw o_v0 hf; exact ub_X10_readFloor_41 (F := F) hw o_v0 ih hf
def nb_X10_readFloor_18 (F : Nat) (s : List Sh) (m : Mem) (v0 : Nat) (v1 : Int32) : Option (Unit × Mem) := if (m.1 v0 11) = 0 then (bind2 (n_X10_next F s m v0) fun _ m2 => (bind2 (n_X10_takesFraction F s m2 v0) fun _ m4 => (nl_X10_readFloor_41 F s F m4 v0 v1 (m4.1 v0 17) (0 : Int32)))) else (some ((), m))
set_option maxRecDepth 20000 in
theorem u_X10_readFloor_18 {F : Nat} {s : List Sh} {m m' : Mem} {r : Unit} {v0 : Nat} {v1 : Int32} (hw : GS s m) (o_v0 : ok s v0 10) (hf : nb_X10_readFloor_18 F s m v0 v1 = some (r, m')) : J3 (b_X10_readFloor_18 F (bl s m) v0 v1) (r, bl s m') (GS s m') := by
  unfold nb_X10_readFloor_18 at hf
  unfold b_X10_readFloor_18
  refine k_gI (ok_o o_v0 (by decide)) rfl ?_
  refine k_if hf (fun hf => ?_) (fun hf => ?_)
  · refine k_cO (ok_o o_v0 (by decide)) ?_
    refine ob2 hf fun u m2 ex hf => ?_
    refine k_b2 (un_X10_next hw o_v0 ex) fun hw => ?_
    refine k_cO (ok_o o_v0 (by decide)) ?_
    refine ob2 hf fun u m4 ex hf => ?_
    refine k_b2 (un_X10_takesFraction hw o_v0 ex) fun hw => ?_
    refine k_gI (ok_o o_v0 (by decide)) rfl ?_
    exact ul_X10_readFloor_41 F _ _ _ _ _ hw o_v0 hf
  · exact k_ret hw hf
def nb_X10_readFloor_0 (F : Nat) (s : List Sh) (m : Mem) (v0 : Nat) : Option (Unit × Mem) := (m.2.2 v0 4).bind fun a1 => ((rdI s m a1 (3 : Int32)).bind fun x2 => (if x2 = (8 : Int32) then (bind2 (n_X10_fails s m v0 (4 : Int32)) fun _ m4 => (nb_X10_readFloor_18 F s m4 v0 x2)) else (nb_X10_readFloor_18 F s m v0 x2)))
set_option maxRecDepth 20000 in
theorem u_X10_readFloor_0 {F : Nat} {s : List Sh} {m m' : Mem} {r : Unit} {v0 : Nat} (hw : GS s m) (o_v0 : ok s v0 10) (hf : nb_X10_readFloor_0 F s m v0 = some (r, m')) : J3 (b_X10_readFloor_0 F (bl s m) v0) (r, bl s m') (GS s m') := by
  unfold nb_X10_readFloor_0 at hf
  unfold b_X10_readFloor_0
  refine k_gR hw (ok_o o_v0 (by decide)) rfl hf fun a1 o_a1 hf => ?_
  refine k_aI (Or.inl rfl) (ka rfl o_a1) hf fun x2 hf => ?_
  refine k_if hf (fun hf => ?_) (fun hf => ?_)
  · refine k_cO (ok_o o_v0 (by decide)) ?_
    refine ob2 hf fun u m4 ex hf => ?_
    refine k_b2 (un_X10_fails hw o_v0 ex) fun hw => ?_
    exact u_X10_readFloor_18 hw o_v0 hf
  · exact u_X10_readFloor_18 hw o_v0 hf
def n_X10_readFloor (F : Nat) (s : List Sh) (m : Mem) (p0 : Nat) : Option (Unit × Mem) := nb_X10_readFloor_0 F s m p0
theorem un_X10_readFloor {F : Nat} {s : List Sh} {m m' : Mem} {p0 : Nat} {r : Unit} (hw : GS s m) (o_p0 : ok s p0 10) (ex : n_X10_readFloor F s m p0 = some (r, m')) : J3 (m_X10_readFloor F (bl s m) p0) (r, bl s m') (GS s m') := u_X10_readFloor_0 hw o_p0 ex
/-! FractionLiftModel.readAt(II)V over the memory -/
def nb_X10_readAt_25 (F : Nat) (s : List Sh) (m : Mem) (v0 : Nat) (v1 : Int32) (v2 : Int32) : Option (Unit × Mem) := if (m.1 v0 11) = 0 then ((m.2.2 v0 4).bind fun a1 => ((stI s m a1 v1 ((Int64.toInt32 (m.2.1 v0 15)))).bind fun m2 => ((m2.2.2 v0 4).bind fun a3 => ((stI s m2 a3 v2 ((Int64.toInt32 (m2.2.1 v0 16)))).bind fun m4 => (some ((), m4)))))) else (some ((), m))
set_option maxRecDepth 20000 in
theorem u_X10_readAt_25 {F : Nat} {s : List Sh} {m m' : Mem} {r : Unit} {v0 : Nat} {v1 : Int32} {v2 : Int32} (hw : GS s m) (o_v0 : ok s v0 10) (hf : nb_X10_readAt_25 F s m v0 v1 v2 = some (r, m')) : J3 (b_X10_readAt_25 F (bl s m) v0 v1 v2) (r, bl s m') (GS s m') := by
  unfold nb_X10_readAt_25 at hf
  unfold b_X10_readAt_25
  refine k_gI (ok_o o_v0 (by decide)) rfl ?_
  refine k_if hf (fun hf => ?_) (fun hf => ?_)
  · refine k_gR hw (ok_o o_v0 (by decide)) rfl hf fun a1 o_a1 hf => ?_
    refine k_gL (ok_o o_v0 (by decide)) rfl ?_
    refine k_sI hw (ka rfl o_a1) hf fun m2 hw hf => ?_
    refine k_gR hw (ok_o o_v0 (by decide)) rfl hf fun a3 o_a3 hf => ?_
    refine k_gL (ok_o o_v0 (by decide)) rfl ?_
    refine k_sI hw (ka rfl o_a3) hf fun m4 hw hf => ?_
    exact k_ret hw hf
  · exact k_ret hw hf
def nb_X10_readAt_0 (F : Nat) (s : List Sh) (m : Mem) (v0 : Nat) (v1 : Int32) (v2 : Int32) : Option (Unit × Mem) := bind2 (n_X10_takesFraction F s m v0) fun _ m2 => ((n_X10_is s m2 v0 (20 : Int32)).bind fun x3 => (if x3 = 0 then (nb_X10_readAt_25 F s m2 v0 v1 v2) else (if (m2.1 v0 17) = 0 then (nb_X10_readAt_25 F s m2 v0 v1 v2) else (bind2 (n_X10_fails s m2 v0 (3 : Int32)) fun _ m5 => (nb_X10_readAt_25 F s m5 v0 v1 v2)))))
set_option maxRecDepth 20000 in
theorem u_X10_readAt_0 {F : Nat} {s : List Sh} {m m' : Mem} {r : Unit} {v0 : Nat} {v1 : Int32} {v2 : Int32} (hw : GS s m) (o_v0 : ok s v0 10) (hf : nb_X10_readAt_0 F s m v0 v1 v2 = some (r, m')) : J3 (b_X10_readAt_0 F (bl s m) v0 v1 v2) (r, bl s m') (GS s m') := by
  unfold nb_X10_readAt_0 at hf
  unfold b_X10_readAt_0
  refine k_cO (ok_o o_v0 (by decide)) ?_
  refine ob2 hf fun u m2 ex hf => ?_
  refine k_b2 (un_X10_takesFraction hw o_v0 ex) fun hw => ?_
  refine k_cO (ok_o o_v0 (by decide)) ?_
  refine ob hf fun x3 ex hf => ?_
  refine k_b1 (un_X10_is hw o_v0 ex) ?_
  refine k_if hf (fun hf => ?_) (fun hf => ?_)
  · exact u_X10_readAt_25 hw o_v0 hf
  · refine k_gI (ok_o o_v0 (by decide)) rfl ?_
    refine k_if hf (fun hf => ?_) (fun hf => ?_)
    · exact u_X10_readAt_25 hw o_v0 hf
    · refine k_cO (ok_o o_v0 (by decide)) ?_
      refine ob2 hf fun u m5 ex hf => ?_
      refine k_b2 (un_X10_fails hw o_v0 ex) fun hw => ?_
      exact u_X10_readAt_25 hw o_v0 hf
def n_X10_readAt (F : Nat) (s : List Sh) (m : Mem) (p0 : Nat) (p1 : Int32) (p2 : Int32) : Option (Unit × Mem) := nb_X10_readAt_0 F s m p0 p1 p2
theorem un_X10_readAt {F : Nat} {s : List Sh} {m m' : Mem} {p0 : Nat} {p1 : Int32} {p2 : Int32} {r : Unit} (hw : GS s m) (o_p0 : ok s p0 10) (ex : n_X10_readAt F s m p0 p1 p2 = some (r, m')) : J3 (m_X10_readAt F (bl s m) p0 p1 p2) (r, bl s m') (GS s m') := u_X10_readAt_0 hw o_p0 ex
