/-! FractionLiftModel.meet(IIZI)I over the memory -/
def nb_X10_meet_45 (F : Nat) (s : List Sh) (nself24 : Mem → Nat → Int32 → Int32 → Int32 → Int32 → Int32 → Option (Int32 × Mem)) (m : Mem) (v0 : Nat) (v1 : Int32) (v2 : Int32) (v3 : Int32) (v4 : Int32) (v5 : Int32) : Option (Int32 × Mem) := if (4 : Int32) < v5 then (some ((-1 : Int32), m)) else (bind2 (n_X10_laysMeet F s m v0 v1 v2 v5 v3) fun x1 m2 => (if x1 = 0 then (bindv (v5 + (1)) fun x3 => (nself24 m2 v0 v1 v2 v3 v4 x3)) else (if v4 = 0 then (some (v5, m2)) else (if v4 = (1 : Int32) then (some ((m2.1 v0 39), m2)) else (some ((m2.1 v0 40), m2))))))
set_option maxRecDepth 20000 in
theorem ub_X10_meet_45 {F : Nat} {s : List Sh} {self24 : PH → Nat → Int32 → Int32 → Int32 → Int32 → Int32 → Option (Int32 × PH)} {nself24 : Mem → Nat → Int32 → Int32 → Int32 → Int32 → Int32 → Option (Int32 × Mem)} {m m' : Mem} {r : Int32} {v0 : Nat} {v1 : Int32} {v2 : Int32} {v3 : Int32} {v4 : Int32} {v5 : Int32} (hw : GS s m) (o_v0 : ok s v0 10) (ih24 : ∀ (m : Mem) (v0 : Nat) (v1 : Int32) (v2 : Int32) (v3 : Int32) (v4 : Int32) (v5 : Int32), GS s m → ok s v0 10 → nself24 m v0 v1 v2 v3 v4 v5 = some (r, m') → J3 (self24 (bl s m) v0 v1 v2 v3 v4 v5) (r, bl s m') (GS s m')) (hf : nb_X10_meet_45 F s nself24 m v0 v1 v2 v3 v4 v5 = some (r, m')) : J3 (b_X10_meet_45 F self24 (bl s m) v0 v1 v2 v3 v4 v5) (r, bl s m') (GS s m') := by
  unfold nb_X10_meet_45 at hf
  unfold b_X10_meet_45
  refine k_if hf (fun hf => ?_) (fun hf => ?_)
  · exact k_ret hw hf
  · refine k_cO (ok_o o_v0 (by decide)) ?_
    refine ob2 hf fun x1 m2 ex hf => ?_
    refine k_b2 (un_X10_laysMeet hw o_v0 ex) fun hw => ?_
    refine k_if hf (fun hf => ?_) (fun hf => ?_)
    · refine k_bv hf fun x3 hf => ?_
      exact ih24 _ _ _ _ _ _ _ hw o_v0 hf
    · refine k_if hf (fun hf => ?_) (fun hf => ?_)
      · exact k_ret hw hf
      · refine k_if hf (fun hf => ?_) (fun hf => ?_)
        · refine k_gI (ok_o o_v0 (by decide)) rfl ?_
          exact k_ret hw hf
        · refine k_gI (ok_o o_v0 (by decide)) rfl ?_
          exact k_ret hw hf
def nl_X10_meet_45 (F : Nat) (s : List Sh) : Nat → Mem → Nat → Int32 → Int32 → Int32 → Int32 → Int32 → Option (Int32 × Mem)
  | 0 => fun _ _ _ _ _ _ _ => none
  | n + 1 => fun m v0 v1 v2 v3 v4 v5 => nb_X10_meet_45 F s (nl_X10_meet_45 F s n) m v0 v1 v2 v3 v4 v5
theorem ul_X10_meet_45 {F : Nat} {s : List Sh} {m' : Mem} {r : Int32} (n : Nat) : ∀ (m : Mem) (v0 : Nat) (v1 : Int32) (v2 : Int32) (v3 : Int32) (v4 : Int32) (v5 : Int32), GS s m → ok s v0 10 → nl_X10_meet_45 F s n m v0 v1 v2 v3 v4 v5 = some (r, m') → J3 (l_X10_meet_45 F n (bl s m) v0 v1 v2 v3 v4 v5) (r, bl s m') (GS s m') := by
  induction n with
  | zero => intro m v0 v1 v2 v3 v4 v5 hw o_v0 hf; cases hf
  | succ n ih => intro m v0 v1 v2 v3 v4 v5 hw o_v0 hf; exact ub_X10_meet_45 (F := F) hw o_v0 ih hf
def nb_X10_meet_0 (F : Nat) (s : List Sh) (m : Mem) (v0 : Nat) (v1 : Int32) (v2 : Int32) (v3 : Int32) (v4 : Int32) : Option (Int32 × Mem) := bindv (wI m v0 0 (0 : Int32)) fun m1 => ((n_X10_isTenant s m1 v0 v1).bind fun x2 => (if x2 = 0 then (some ((-2 : Int32), m1)) else ((n_X10_isTenant s m1 v0 v2).bind fun x3 => (if x3 = 0 then (some ((-2 : Int32), m1)) else (if v1 = v2 then (some ((-2 : Int32), m1)) else ((m_X10_within (Int32.toInt64 v4) (0 : Int64) (2 : Int64)).bind fun x4 => (if x4 = 0 then (some ((-2 : Int32), m1)) else (nl_X10_meet_45 F s F m1 v0 v1 v2 v3 v4 (0 : Int32)))))))))
set_option maxRecDepth 20000 in
theorem u_X10_meet_0 {F : Nat} {s : List Sh} {m m' : Mem} {r : Int32} {v0 : Nat} {v1 : Int32} {v2 : Int32} {v3 : Int32} {v4 : Int32} (hw : GS s m) (o_v0 : ok s v0 10) (hf : nb_X10_meet_0 F s m v0 v1 v2 v3 v4 = some (r, m')) : J3 (b_X10_meet_0 F (bl s m) v0 v1 v2 v3 v4) (r, bl s m') (GS s m') := by
  unfold nb_X10_meet_0 at hf
  unfold b_X10_meet_0
  refine k_pI hw (ok_o o_v0 (by decide)) rfl hf fun m1 hw hf => ?_
  refine k_cO (ok_o o_v0 (by decide)) ?_
  refine ob hf fun x2 ex hf => ?_
  refine k_b1 (un_X10_isTenant hw o_v0 ex) ?_
  refine k_if hf (fun hf => ?_) (fun hf => ?_)
  · exact k_ret hw hf
  · refine k_cO (ok_o o_v0 (by decide)) ?_
    refine ob hf fun x3 ex hf => ?_
    refine k_b1 (un_X10_isTenant hw o_v0 ex) ?_
    refine k_if hf (fun hf => ?_) (fun hf => ?_)
    · exact k_ret hw hf
    · refine k_if hf (fun hf => ?_) (fun hf => ?_)
      · exact k_ret hw hf
      · refine k_pure hf fun x4 hf => ?_
        refine k_if hf (fun hf => ?_) (fun hf => ?_)
        · exact k_ret hw hf
        · exact ul_X10_meet_45 F _ _ _ _ _ _ _ hw o_v0 hf
def n_X10_meet (F : Nat) (s : List Sh) (m : Mem) (p0 : Nat) (p1 : Int32) (p2 : Int32) (p3 : Int32) (p4 : Int32) : Option (Int32 × Mem) := nb_X10_meet_0 F s m p0 p1 p2 p3 p4
theorem un_X10_meet {F : Nat} {s : List Sh} {m m' : Mem} {p0 : Nat} {p1 : Int32} {p2 : Int32} {p3 : Int32} {p4 : Int32} {r : Int32} (hw : GS s m) (o_p0 : ok s p0 10) (ex : n_X10_meet F s m p0 p1 p2 p3 p4 = some (r, m')) : J3 (m_X10_meet F (bl s m) p0 p1 p2 p3 p4) (r, bl s m') (GS s m') := u_X10_meet_0 hw o_p0 ex
/-! FractionLiftModel.laysAddress(JJ)I over the memory -/
def nb_X10_laysAddress_9 (F : Nat) (s : List Sh) (nself6 : Mem → Nat → Int32 → Int64 → Int64 → Option (Int32 × Mem)) (m : Mem) (v0 : Nat) (v5 : Int32) (v6 : Int64) (v8 : Int64) : Option (Int32 × Mem) := if v8 = (0 : Int64) then (some (v5, m)) else ((m.2.2 v0 41).bind fun a1 => (if v8 = 0 then none else ((stI s m a1 v5 ((Int64.toInt32 (v6 / v8)))).bind fun m2 => (bindv (v5 + (1)) fun x3 => (if v8 = 0 then none else (bindv (remL v6 v8) fun x4 => (nself6 m2 v0 x3 v8 x4)))))))
set_option maxRecDepth 20000 in
theorem ub_X10_laysAddress_9 {F : Nat} {s : List Sh} {self6 : PH → Nat → Int32 → Int64 → Int64 → Option (Int32 × PH)} {nself6 : Mem → Nat → Int32 → Int64 → Int64 → Option (Int32 × Mem)} {m m' : Mem} {r : Int32} {v0 : Nat} {v5 : Int32} {v6 : Int64} {v8 : Int64} (hw : GS s m) (o_v0 : ok s v0 10) (ih6 : ∀ (m : Mem) (v0 : Nat) (v5 : Int32) (v6 : Int64) (v8 : Int64), GS s m → ok s v0 10 → nself6 m v0 v5 v6 v8 = some (r, m') → J3 (self6 (bl s m) v0 v5 v6 v8) (r, bl s m') (GS s m')) (hf : nb_X10_laysAddress_9 F s nself6 m v0 v5 v6 v8 = some (r, m')) : J3 (b_X10_laysAddress_9 F self6 (bl s m) v0 v5 v6 v8) (r, bl s m') (GS s m') := by
  unfold nb_X10_laysAddress_9 at hf
  unfold b_X10_laysAddress_9
  refine k_if hf (fun hf => ?_) (fun hf => ?_)
  · exact k_ret hw hf
  · refine k_gR hw (ok_o o_v0 (by decide)) rfl hf fun a1 o_a1 hf => ?_
    refine k_if hf (fun hf => by cases hf) (fun hf => ?_)
    refine k_sI hw (ka rfl o_a1) hf fun m2 hw hf => ?_
    refine k_bv hf fun x3 hf => ?_
    refine k_if hf (fun hf => by cases hf) (fun hf => ?_)
    refine k_bv hf fun x4 hf => ?_
    exact ih6 _ _ _ _ _ hw o_v0 hf
def nl_X10_laysAddress_9 (F : Nat) (s : List Sh) : Nat → Mem → Nat → Int32 → Int64 → Int64 → Option (Int32 × Mem)
  | 0 => fun _ _ _ _ _ => none
  | n + 1 => fun m v0 v5 v6 v8 => nb_X10_laysAddress_9 F s (nl_X10_laysAddress_9 F s n) m v0 v5 v6 v8
theorem ul_X10_laysAddress_9 {F : Nat} {s : List Sh} {m' : Mem} {r : Int32} (n : Nat) : ∀ (m : Mem) (v0 : Nat) (v5 : Int32) (v6 : Int64) (v8 : Int64), GS s m → ok s v0 10 → nl_X10_laysAddress_9 F s n m v0 v5 v6 v8 = some (r, m') → J3 (l_X10_laysAddress_9 F n (bl s m) v0 v5 v6 v8) (r, bl s m') (GS s m') := by
  induction n with
  | zero => intro m v0 v5 v6 v8 hw o_v0 hf; cases hf
  | succ n ih => intro m v0 v5 v6 v8 hw o_v0 hf; exact ub_X10_laysAddress_9 (F := F) hw o_v0 ih hf
def nb_X10_laysAddress_0 (F : Nat) (s : List Sh) (m : Mem) (v0 : Nat) (v1 : Int64) (v3 : Int64) : Option (Int32 × Mem) := nl_X10_laysAddress_9 F s F m v0 (0 : Int32) v1 v3
set_option maxRecDepth 20000 in
theorem u_X10_laysAddress_0 {F : Nat} {s : List Sh} {m m' : Mem} {r : Int32} {v0 : Nat} {v1 : Int64} {v3 : Int64} (hw : GS s m) (o_v0 : ok s v0 10) (hf : nb_X10_laysAddress_0 F s m v0 v1 v3 = some (r, m')) : J3 (b_X10_laysAddress_0 F (bl s m) v0 v1 v3) (r, bl s m') (GS s m') := by
  unfold nb_X10_laysAddress_0 at hf
  unfold b_X10_laysAddress_0
  exact ul_X10_laysAddress_9 F _ _ _ _ _ hw o_v0 hf
def n_X10_laysAddress (F : Nat) (s : List Sh) (m : Mem) (p0 : Nat) (p1 : Int64) (p3 : Int64) : Option (Int32 × Mem) := nb_X10_laysAddress_0 F s m p0 p1 p3
theorem un_X10_laysAddress {F : Nat} {s : List Sh} {m m' : Mem} {p0 : Nat} {p1 : Int64} {p3 : Int64} {r : Int32} (hw : GS s m) (o_p0 : ok s p0 10) (ex : n_X10_laysAddress F s m p0 p1 p3 = some (r, m')) : J3 (m_X10_laysAddress F (bl s m) p0 p1 p3) (r, bl s m') (GS s m') := u_X10_laysAddress_0 hw o_p0 ex
/-! FractionLiftModel.address(III)I over the memory -/
def nb_X10_address_0 (F : Nat) (s : List Sh) (m : Mem) (v0 : Nat) (v1 : Int32) (v2 : Int32) (v3 : Int32) : Option (Int32 × Mem) := bindv (wI m v0 0 (0 : Int32)) fun m1 => (bind2 (n_X10_asks s m1 v0 (Int32.toInt64 v1) (Int32.toInt64 v2)) fun x2 m3 => (if x2 = 0 then (some ((-3 : Int32), m3)) else (bind2 (n_X10_laysAddress F s m3 v0 (m3.2.1 v0 15) (m3.2.1 v0 16)) fun x4 m5 => (if v3 = (-1 : Int32) then (some (x4, m5)) else ((m_X10_within (Int32.toInt64 v3) (0 : Int64) ((Int32.toInt64 ((x4 - (1 : Int32)))))).bind fun x6 => (if x6 = 0 then (some ((-1 : Int32), m5)) else ((m5.2.2 v0 41).bind fun a7 => ((rdI s m5 a7 v3).bind fun x8 => (some (x8, m5))))))))))
set_option maxRecDepth 20000 in
theorem u_X10_address_0 {F : Nat} {s : List Sh} {m m' : Mem} {r : Int32} {v0 : Nat} {v1 : Int32} {v2 : Int32} {v3 : Int32} (hw : GS s m) (o_v0 : ok s v0 10) (hf : nb_X10_address_0 F s m v0 v1 v2 v3 = some (r, m')) : J3 (b_X10_address_0 F (bl s m) v0 v1 v2 v3) (r, bl s m') (GS s m') := by
  unfold nb_X10_address_0 at hf
  unfold b_X10_address_0
  refine k_pI hw (ok_o o_v0 (by decide)) rfl hf fun m1 hw hf => ?_
  refine k_cO (ok_o o_v0 (by decide)) ?_
  refine ob2 hf fun x2 m3 ex hf => ?_
  refine k_b2 (un_X10_asks hw o_v0 ex) fun hw => ?_
  refine k_if hf (fun hf => ?_) (fun hf => ?_)
  · exact k_ret hw hf
  · refine k_gL (ok_o o_v0 (by decide)) rfl ?_
    refine k_gL (ok_o o_v0 (by decide)) rfl ?_
    refine k_cO (ok_o o_v0 (by decide)) ?_
    refine ob2 hf fun x4 m5 ex hf => ?_
    refine k_b2 (un_X10_laysAddress hw o_v0 ex) fun hw => ?_
    refine k_if hf (fun hf => ?_) (fun hf => ?_)
    · exact k_ret hw hf
    · refine k_pure hf fun x6 hf => ?_
      refine k_if hf (fun hf => ?_) (fun hf => ?_)
      · exact k_ret hw hf
      · refine k_gR hw (ok_o o_v0 (by decide)) rfl hf fun a7 o_a7 hf => ?_
        refine k_aI (Or.inl rfl) (ka rfl o_a7) hf fun x8 hf => ?_
        exact k_ret hw hf
def n_X10_address (F : Nat) (s : List Sh) (m : Mem) (p0 : Nat) (p1 : Int32) (p2 : Int32) (p3 : Int32) : Option (Int32 × Mem) := nb_X10_address_0 F s m p0 p1 p2 p3
theorem un_X10_address {F : Nat} {s : List Sh} {m m' : Mem} {p0 : Nat} {p1 : Int32} {p2 : Int32} {p3 : Int32} {r : Int32} (hw : GS s m) (o_p0 : ok s p0 10) (ex : n_X10_address F s m p0 p1 p2 p3 = some (r, m')) : J3 (m_X10_address F (bl s m) p0 p1 p2 p3) (r, bl s m') (GS s m') := u_X10_address_0 hw o_p0 ex
/-! FractionLiftModel.neighbour(IIIZI)I over the memory -/
def nb_X10_neighbour_201 (F : Nat) (s : List Sh) (nself38 : Mem → Nat → Int32 → Int32 → Int32 → Int64 → Int64 → Int64 → Int64 → Int64 → Option (Int32 × Mem)) (m : Mem) (v0 : Nat) (v3 : Int32) (v4 : Int32) (v5 : Int32) (v6 : Int64) (v8 : Int64) (v10 : Int64) (v12 : Int64) (v14 : Int64) : Option (Int32 × Mem) := bindv ((v14 + (1 : Int64))) fun x1 => (nself38 m v0 v3 v4 v5 v6 v8 v10 v12 x1)
set_option maxRecDepth 20000 in
theorem u_X10_neighbour_201 {F : Nat} {s : List Sh} {self38 : PH → Nat → Int32 → Int32 → Int32 → Int64 → Int64 → Int64 → Int64 → Int64 → Option (Int32 × PH)} {nself38 : Mem → Nat → Int32 → Int32 → Int32 → Int64 → Int64 → Int64 → Int64 → Int64 → Option (Int32 × Mem)} {m m' : Mem} {r : Int32} {v0 : Nat} {v3 : Int32} {v4 : Int32} {v5 : Int32} {v6 : Int64} {v8 : Int64} {v10 : Int64} {v12 : Int64} {v14 : Int64} (hw : GS s m) (o_v0 : ok s v0 10) (ih38 : ∀ (m : Mem) (v0 : Nat) (v3 : Int32) (v4 : Int32) (v5 : Int32) (v6 : Int64) (v8 : Int64) (v10 : Int64) (v12 : Int64) (v14 : Int64), GS s m → ok s v0 10 → nself38 m v0 v3 v4 v5 v6 v8 v10 v12 v14 = some (r, m') → J3 (self38 (bl s m) v0 v3 v4 v5 v6 v8 v10 v12 v14) (r, bl s m') (GS s m')) (hf : nb_X10_neighbour_201 F s nself38 m v0 v3 v4 v5 v6 v8 v10 v12 v14 = some (r, m')) : J3 (b_X10_neighbour_201 F self38 (bl s m) v0 v3 v4 v5 v6 v8 v10 v12 v14) (r, bl s m') (GS s m') := by
  unfold nb_X10_neighbour_201 at hf
  unfold b_X10_neighbour_201
  refine k_bv hf fun x1 hf => ?_
  exact ih38 _ _ _ _ _ _ _ _ _ _ hw o_v0 hf
def nb_X10_neighbour_193 (F : Nat) (s : List Sh) (nself38 : Mem → Nat → Int32 → Int32 → Int32 → Int64 → Int64 → Int64 → Int64 → Int64 → Option (Int32 × Mem)) (m : Mem) (v0 : Nat) (v3 : Int32) (v4 : Int32) (v5 : Int32) (v6 : Int64) (v8 : Int64) (v14 : Int64) (v16 : Int64) : Option (Int32 × Mem) := nb_X10_neighbour_201 F s nself38 m v0 v3 v4 v5 v6 v8 v16 v14 v14
set_option maxRecDepth 20000 in
theorem u_X10_neighbour_193 {F : Nat} {s : List Sh} {self38 : PH → Nat → Int32 → Int32 → Int32 → Int64 → Int64 → Int64 → Int64 → Int64 → Option (Int32 × PH)} {nself38 : Mem → Nat → Int32 → Int32 → Int32 → Int64 → Int64 → Int64 → Int64 → Int64 → Option (Int32 × Mem)} {m m' : Mem} {r : Int32} {v0 : Nat} {v3 : Int32} {v4 : Int32} {v5 : Int32} {v6 : Int64} {v8 : Int64} {v14 : Int64} {v16 : Int64} (hw : GS s m) (o_v0 : ok s v0 10) (ih38 : ∀ (m : Mem) (v0 : Nat) (v3 : Int32) (v4 : Int32) (v5 : Int32) (v6 : Int64) (v8 : Int64) (v10 : Int64) (v12 : Int64) (v14 : Int64), GS s m → ok s v0 10 → nself38 m v0 v3 v4 v5 v6 v8 v10 v12 v14 = some (r, m') → J3 (self38 (bl s m) v0 v3 v4 v5 v6 v8 v10 v12 v14) (r, bl s m') (GS s m')) (hf : nb_X10_neighbour_193 F s nself38 m v0 v3 v4 v5 v6 v8 v14 v16 = some (r, m')) : J3 (b_X10_neighbour_193 F self38 (bl s m) v0 v3 v4 v5 v6 v8 v14 v16) (r, bl s m') (GS s m') := by
  unfold nb_X10_neighbour_193 at hf
  unfold b_X10_neighbour_193
  exact u_X10_neighbour_201 hw o_v0 ih38 hf
def nb_X10_neighbour_161 (F : Nat) (s : List Sh) (nself38 : Mem → Nat → Int32 → Int32 → Int32 → Int64 → Int64 → Int64 → Int64 → Int64 → Option (Int32 × Mem)) (m : Mem) (v0 : Nat) (v3 : Int32) (v4 : Int32) (v5 : Int32) (v6 : Int64) (v8 : Int64) (v10 : Int64) (v12 : Int64) (v14 : Int64) (v16 : Int64) (s0 : Int32) : Option (Int32 × Mem) := if v10 = (-1 : Int64) then (nb_X10_neighbour_193 F s nself38 m v0 v3 v4 v5 v6 v8 v14 v16) else (if v4 = 0 then (if 0 < s0 then (nb_X10_neighbour_193 F s nself38 m v0 v3 v4 v5 v6 v8 v14 v16) else (nb_X10_neighbour_201 F s nself38 m v0 v3 v4 v5 v6 v8 v10 v12 v14)) else (if s0 < 0 then (nb_X10_neighbour_193 F s nself38 m v0 v3 v4 v5 v6 v8 v14 v16) else (nb_X10_neighbour_201 F s nself38 m v0 v3 v4 v5 v6 v8 v10 v12 v14)))
set_option maxRecDepth 20000 in
theorem u_X10_neighbour_161 {F : Nat} {s : List Sh} {self38 : PH → Nat → Int32 → Int32 → Int32 → Int64 → Int64 → Int64 → Int64 → Int64 → Option (Int32 × PH)} {nself38 : Mem → Nat → Int32 → Int32 → Int32 → Int64 → Int64 → Int64 → Int64 → Int64 → Option (Int32 × Mem)} {m m' : Mem} {r : Int32} {v0 : Nat} {v3 : Int32} {v4 : Int32} {v5 : Int32} {v6 : Int64} {v8 : Int64} {v10 : Int64} {v12 : Int64} {v14 : Int64} {v16 : Int64} {s0 : Int32} (hw : GS s m) (o_v0 : ok s v0 10) (ih38 : ∀ (m : Mem) (v0 : Nat) (v3 : Int32) (v4 : Int32) (v5 : Int32) (v6 : Int64) (v8 : Int64) (v10 : Int64) (v12 : Int64) (v14 : Int64), GS s m → ok s v0 10 → nself38 m v0 v3 v4 v5 v6 v8 v10 v12 v14 = some (r, m') → J3 (self38 (bl s m) v0 v3 v4 v5 v6 v8 v10 v12 v14) (r, bl s m') (GS s m')) (hf : nb_X10_neighbour_161 F s nself38 m v0 v3 v4 v5 v6 v8 v10 v12 v14 v16 s0 = some (r, m')) : J3 (b_X10_neighbour_161 F self38 (bl s m) v0 v3 v4 v5 v6 v8 v10 v12 v14 v16 s0) (r, bl s m') (GS s m') := by
  unfold nb_X10_neighbour_161 at hf
  unfold b_X10_neighbour_161
  refine k_if hf (fun hf => ?_) (fun hf => ?_)
  · exact u_X10_neighbour_193 hw o_v0 ih38 hf
  · refine k_if hf (fun hf => ?_) (fun hf => ?_)
    · refine k_if hf (fun hf => ?_) (fun hf => ?_)
      · exact u_X10_neighbour_193 hw o_v0 ih38 hf
      · exact u_X10_neighbour_201 hw o_v0 ih38 hf
    · refine k_if hf (fun hf => ?_) (fun hf => ?_)
      · exact u_X10_neighbour_193 hw o_v0 ih38 hf
      · exact u_X10_neighbour_201 hw o_v0 ih38 hf
def nb_X10_neighbour_109 (F : Nat) (s : List Sh) (nself38 : Mem → Nat → Int32 → Int32 → Int32 → Int64 → Int64 → Int64 → Int64 → Int64 → Option (Int32 × Mem)) (m : Mem) (v0 : Nat) (v3 : Int32) (v4 : Int32) (v5 : Int32) (v6 : Int64) (v8 : Int64) (v10 : Int64) (v12 : Int64) (v14 : Int64) (s0 : Int64) : Option (Int32 × Mem) := if s0 < (0 : Int64) then (nb_X10_neighbour_201 F s nself38 m v0 v3 v4 v5 v6 v8 v10 v12 v14) else ((m.2.2 v0 1).bind fun a1 => ((rdI s m a1 (1 : Int32)).bind fun x2 => (if s0 ≤ (((Int32.toInt64 x2) * v14)) then (if v10 = (-1 : Int64) then (nb_X10_neighbour_161 F s nself38 m v0 v3 v4 v5 v6 v8 v10 v12 v14 s0 (0 : Int32)) else ((m_X10_against s0 v14 v10 v12).bind fun x3 => (nb_X10_neighbour_161 F s nself38 m v0 v3 v4 v5 v6 v8 v10 v12 v14 s0 x3))) else (nb_X10_neighbour_201 F s nself38 m v0 v3 v4 v5 v6 v8 v10 v12 v14))))
set_option maxRecDepth 20000 in
theorem u_X10_neighbour_109 {F : Nat} {s : List Sh} {self38 : PH → Nat → Int32 → Int32 → Int32 → Int64 → Int64 → Int64 → Int64 → Int64 → Option (Int32 × PH)} {nself38 : Mem → Nat → Int32 → Int32 → Int32 → Int64 → Int64 → Int64 → Int64 → Int64 → Option (Int32 × Mem)} {m m' : Mem} {r : Int32} {v0 : Nat} {v3 : Int32} {v4 : Int32} {v5 : Int32} {v6 : Int64} {v8 : Int64} {v10 : Int64} {v12 : Int64} {v14 : Int64} {s0 : Int64} (hw : GS s m) (o_v0 : ok s v0 10) (ih38 : ∀ (m : Mem) (v0 : Nat) (v3 : Int32) (v4 : Int32) (v5 : Int32) (v6 : Int64) (v8 : Int64) (v10 : Int64) (v12 : Int64) (v14 : Int64), GS s m → ok s v0 10 → nself38 m v0 v3 v4 v5 v6 v8 v10 v12 v14 = some (r, m') → J3 (self38 (bl s m) v0 v3 v4 v5 v6 v8 v10 v12 v14) (r, bl s m') (GS s m')) (hf : nb_X10_neighbour_109 F s nself38 m v0 v3 v4 v5 v6 v8 v10 v12 v14 s0 = some (r, m')) : J3 (b_X10_neighbour_109 F self38 (bl s m) v0 v3 v4 v5 v6 v8 v10 v12 v14 s0) (r, bl s m') (GS s m') := by
  unfold nb_X10_neighbour_109 at hf
  unfold b_X10_neighbour_109
  refine k_if hf (fun hf => ?_) (fun hf => ?_)
  · exact u_X10_neighbour_201 hw o_v0 ih38 hf
  · refine k_gR hw (ok_o o_v0 (by decide)) rfl hf fun a1 o_a1 hf => ?_
    refine k_aI (Or.inl rfl) (ka rfl o_a1) hf fun x2 hf => ?_
    refine k_if hf (fun hf => ?_) (fun hf => ?_)
    · refine k_if hf (fun hf => ?_) (fun hf => ?_)
      · exact u_X10_neighbour_161 hw o_v0 ih38 hf
      · refine k_pure hf fun x3 hf => ?_
        exact u_X10_neighbour_161 hw o_v0 ih38 hf
    · exact u_X10_neighbour_201 hw o_v0 ih38 hf
def nb_X10_neighbour_68 (F : Nat) (s : List Sh) (nself38 : Mem → Nat → Int32 → Int32 → Int32 → Int64 → Int64 → Int64 → Int64 → Int64 → Option (Int32 × Mem)) (m : Mem) (v0 : Nat) (v3 : Int32) (v4 : Int32) (v5 : Int32) (v6 : Int64) (v8 : Int64) (v10 : Int64) (v12 : Int64) (v14 : Int64) : Option (Int32 × Mem) := if (Int32.toInt64 v3) < v14 then (if v10 = (-1 : Int64) then (some ((-1 : Int32), m)) else (if v5 = 0 then (some ((Int64.toInt32 v10), m)) else (some ((Int64.toInt32 v12), m)))) else (if v4 = 0 then (if v8 = 0 then none else (nb_X10_neighbour_109 F s nself38 m v0 v3 v4 v5 v6 v8 v10 v12 v14 (((((((((v6 * v14) + v8)) - (1 : Int64))) / v8)) - (1 : Int64))))) else (if v8 = 0 then none else (nb_X10_neighbour_109 F s nself38 m v0 v3 v4 v5 v6 v8 v10 v12 v14 (((((v6 * v14) / v8)) + (1 : Int64))))))
set_option maxRecDepth 20000 in
theorem ub_X10_neighbour_68 {F : Nat} {s : List Sh} {self38 : PH → Nat → Int32 → Int32 → Int32 → Int64 → Int64 → Int64 → Int64 → Int64 → Option (Int32 × PH)} {nself38 : Mem → Nat → Int32 → Int32 → Int32 → Int64 → Int64 → Int64 → Int64 → Int64 → Option (Int32 × Mem)} {m m' : Mem} {r : Int32} {v0 : Nat} {v3 : Int32} {v4 : Int32} {v5 : Int32} {v6 : Int64} {v8 : Int64} {v10 : Int64} {v12 : Int64} {v14 : Int64} (hw : GS s m) (o_v0 : ok s v0 10) (ih38 : ∀ (m : Mem) (v0 : Nat) (v3 : Int32) (v4 : Int32) (v5 : Int32) (v6 : Int64) (v8 : Int64) (v10 : Int64) (v12 : Int64) (v14 : Int64), GS s m → ok s v0 10 → nself38 m v0 v3 v4 v5 v6 v8 v10 v12 v14 = some (r, m') → J3 (self38 (bl s m) v0 v3 v4 v5 v6 v8 v10 v12 v14) (r, bl s m') (GS s m')) (hf : nb_X10_neighbour_68 F s nself38 m v0 v3 v4 v5 v6 v8 v10 v12 v14 = some (r, m')) : J3 (b_X10_neighbour_68 F self38 (bl s m) v0 v3 v4 v5 v6 v8 v10 v12 v14) (r, bl s m') (GS s m') := by
  unfold nb_X10_neighbour_68 at hf
  unfold b_X10_neighbour_68
  refine k_if hf (fun hf => ?_) (fun hf => ?_)
  · refine k_if hf (fun hf => ?_) (fun hf => ?_)
    · exact k_ret hw hf
    · refine k_if hf (fun hf => ?_) (fun hf => ?_)
      · exact k_ret hw hf
      · exact k_ret hw hf
  · refine k_if hf (fun hf => ?_) (fun hf => ?_)
    · refine k_if hf (fun hf => by cases hf) (fun hf => ?_)
      exact u_X10_neighbour_109 hw o_v0 ih38 hf
    · refine k_if hf (fun hf => by cases hf) (fun hf => ?_)
      exact u_X10_neighbour_109 hw o_v0 ih38 hf
def nl_X10_neighbour_68 (F : Nat) (s : List Sh) : Nat → Mem → Nat → Int32 → Int32 → Int32 → Int64 → Int64 → Int64 → Int64 → Int64 → Option (Int32 × Mem)
  | 0 => fun _ _ _ _ _ _ _ _ _ _ => none
  | n + 1 => fun m v0 v3 v4 v5 v6 v8 v10 v12 v14 => nb_X10_neighbour_68 F s (nl_X10_neighbour_68 F s n) m v0 v3 v4 v5 v6 v8 v10 v12 v14
theorem ul_X10_neighbour_68 {F : Nat} {s : List Sh} {m' : Mem} {r : Int32} (n : Nat) : ∀ (m : Mem) (v0 : Nat) (v3 : Int32) (v4 : Int32) (v5 : Int32) (v6 : Int64) (v8 : Int64) (v10 : Int64) (v12 : Int64) (v14 : Int64), GS s m → ok s v0 10 → nl_X10_neighbour_68 F s n m v0 v3 v4 v5 v6 v8 v10 v12 v14 = some (r, m') → J3 (l_X10_neighbour_68 F n (bl s m) v0 v3 v4 v5 v6 v8 v10 v12 v14) (r, bl s m') (GS s m') := by
  induction n with
  | zero => intro m v0 v3 v4 v5 v6 v8 v10 v12 v14 hw o_v0 hf; cases hf
  | succ n ih => intro m v0 v3 v4 v5 v6 v8 v10 v12 v14 hw o_v0 hf; exact ub_X10_neighbour_68 (F := F) hw o_v0 ih hf
def nb_X10_neighbour_0 (F : Nat) (s : List Sh) (m : Mem) (v0 : Nat) (v1 : Int32) (v2 : Int32) (v3 : Int32) (v4 : Int32) (v5 : Int32) : Option (Int32 × Mem) := bindv (wI m v0 0 (0 : Int32)) fun m1 => ((m_X10_within (Int32.toInt64 v5) (0 : Int64) (1 : Int64)).bind fun x2 => (if x2 = 0 then (some ((-2 : Int32), m1)) else ((m_X10_within (Int32.toInt64 v3) (1 : Int64) (1000 : Int64)).bind fun x3 => (if x3 = 0 then (some ((-3 : Int32), m1)) else (bind2 (n_X10_asks s m1 v0 (Int32.toInt64 v1) (Int32.toInt64 v2)) fun x4 m5 => (if x4 = 0 then (some ((-3 : Int32), m5)) else (nl_X10_neighbour_68 F s F m5 v0 v3 v4 v5 (m5.2.1 v0 15) (m5.2.1 v0 16) (-1 : Int64) (1 : Int64) (1 : Int64))))))))
set_option maxRecDepth 20000 in
theorem u_X10_neighbour_0 {F : Nat} {s : List Sh} {m m' : Mem} {r : Int32} {v0 : Nat} {v1 : Int32} {v2 : Int32} {v3 : Int32} {v4 : Int32} {v5 : Int32} (hw : GS s m) (o_v0 : ok s v0 10) (hf : nb_X10_neighbour_0 F s m v0 v1 v2 v3 v4 v5 = some (r, m')) : J3 (b_X10_neighbour_0 F (bl s m) v0 v1 v2 v3 v4 v5) (r, bl s m') (GS s m') := by
  unfold nb_X10_neighbour_0 at hf
  unfold b_X10_neighbour_0
  refine k_pI hw (ok_o o_v0 (by decide)) rfl hf fun m1 hw hf => ?_
  refine k_pure hf fun x2 hf => ?_
  refine k_if hf (fun hf => ?_) (fun hf => ?_)
  · exact k_ret hw hf
  · refine k_pure hf fun x3 hf => ?_
    refine k_if hf (fun hf => ?_) (fun hf => ?_)
    · exact k_ret hw hf
    · refine k_cO (ok_o o_v0 (by decide)) ?_
      refine ob2 hf fun x4 m5 ex hf => ?_
      refine k_b2 (un_X10_asks hw o_v0 ex) fun hw => ?_
      refine k_if hf (fun hf => ?_) (fun hf => ?_)
      · exact k_ret hw hf
      · refine k_gL (ok_o o_v0 (by decide)) rfl ?_
        refine k_gL (ok_o o_v0 (by decide)) rfl ?_
        exact ul_X10_neighbour_68 F _ _ _ _ _ _ _ _ _ _ hw o_v0 hf
def n_X10_neighbour (F : Nat) (s : List Sh) (m : Mem) (p0 : Nat) (p1 : Int32) (p2 : Int32) (p3 : Int32) (p4 : Int32) (p5 : Int32) : Option (Int32 × Mem) := nb_X10_neighbour_0 F s m p0 p1 p2 p3 p4 p5
theorem un_X10_neighbour {F : Nat} {s : List Sh} {m m' : Mem} {p0 : Nat} {p1 : Int32} {p2 : Int32} {p3 : Int32} {p4 : Int32} {p5 : Int32} {r : Int32} (hw : GS s m) (o_p0 : ok s p0 10) (ex : n_X10_neighbour F s m p0 p1 p2 p3 p4 p5 = some (r, m')) : J3 (m_X10_neighbour F (bl s m) p0 p1 p2 p3 p4 p5) (r, bl s m') (GS s m') := u_X10_neighbour_0 hw o_p0 ex
/-! FractionLiftModel.simplest(IIIII)I over the memory -/
def nb_X10_simplest_148 (F : Nat) (s : List Sh) (nself53 : Mem → Int32 → Int64 → Int64 → Int64 → Int64 → Int32 → Int64 → Option (Int32 × Mem)) (m : Mem) (v5 : Int32) (v6 : Int64) (v8 : Int64) (v10 : Int64) (v12 : Int64) (v14 : Int32) (v15 : Int64) : Option (Int32 × Mem) := bindv ((v15 + (1 : Int64))) fun x1 => (nself53 m v5 v6 v8 v10 v12 v14 x1)
set_option maxRecDepth 20000 in
theorem u_X10_simplest_148 {F : Nat} {s : List Sh} {self53 : PH → Int32 → Int64 → Int64 → Int64 → Int64 → Int32 → Int64 → Option (Int32 × PH)} {nself53 : Mem → Int32 → Int64 → Int64 → Int64 → Int64 → Int32 → Int64 → Option (Int32 × Mem)} {m m' : Mem} {r : Int32} {v5 : Int32} {v6 : Int64} {v8 : Int64} {v10 : Int64} {v12 : Int64} {v14 : Int32} {v15 : Int64} (hw : GS s m) (ih53 : ∀ (m : Mem) (v5 : Int32) (v6 : Int64) (v8 : Int64) (v10 : Int64) (v12 : Int64) (v14 : Int32) (v15 : Int64), GS s m → nself53 m v5 v6 v8 v10 v12 v14 v15 = some (r, m') → J3 (self53 (bl s m) v5 v6 v8 v10 v12 v14 v15) (r, bl s m') (GS s m')) (hf : nb_X10_simplest_148 F s nself53 m v5 v6 v8 v10 v12 v14 v15 = some (r, m')) : J3 (b_X10_simplest_148 F self53 (bl s m) v5 v6 v8 v10 v12 v14 v15) (r, bl s m') (GS s m') := by
  unfold nb_X10_simplest_148 at hf
  unfold b_X10_simplest_148
  refine k_bv hf fun x1 hf => ?_
  exact ih53 _ _ _ _ _ _ _ _ hw hf
def nb_X10_simplest_157 (F : Nat) (s : List Sh) (m : Mem) (v5 : Int32) (v6 : Int64) (v8 : Int64) (v10 : Int64) (v12 : Int64) (v14 : Int32) (v15 : Int64) : Option (Int32 × Mem) := if v5 = (1 : Int32) then (some ((Int64.toInt32 v15), m)) else (if 0 ≤ v14 then (if v12 = 0 then none else (some (((Int64.toInt32 (((((v10 * v15) / v12)) + (1 : Int64))))), m))) else (if v8 = 0 then none else (some (((Int64.toInt32 (((((v6 * v15) / v8)) + (1 : Int64))))), m))))
set_option maxRecDepth 20000 in
theorem u_X10_simplest_157 {F : Nat} {s : List Sh} {m m' : Mem} {r : Int32} {v5 : Int32} {v6 : Int64} {v8 : Int64} {v10 : Int64} {v12 : Int64} {v14 : Int32} {v15 : Int64} (hw : GS s m) (hf : nb_X10_simplest_157 F s m v5 v6 v8 v10 v12 v14 v15 = some (r, m')) : J3 (b_X10_simplest_157 F (bl s m) v5 v6 v8 v10 v12 v14 v15) (r, bl s m') (GS s m') := by
  unfold nb_X10_simplest_157 at hf
  unfold b_X10_simplest_157
  refine k_if hf (fun hf => ?_) (fun hf => ?_)
  · exact k_ret hw hf
  · refine k_if hf (fun hf => ?_) (fun hf => ?_)
    · refine k_if hf (fun hf => by cases hf) (fun hf => ?_)
      exact k_ret hw hf
    · refine k_if hf (fun hf => by cases hf) (fun hf => ?_)
      exact k_ret hw hf
def nb_X10_simplest_96 (F : Nat) (s : List Sh) (nself53 : Mem → Int32 → Int64 → Int64 → Int64 → Int64 → Int32 → Int64 → Option (Int32 × Mem)) (m : Mem) (v5 : Int32) (v6 : Int64) (v8 : Int64) (v10 : Int64) (v12 : Int64) (v14 : Int32) (v15 : Int64) : Option (Int32 × Mem) := if 0 ≤ v14 then (if v12 = 0 then none else ((m_X10_against (((((v10 * v15) / v12)) + (1 : Int64))) v15 v6 v8).bind fun x1 => (if x1 < 0 then (nb_X10_simplest_157 F s m v5 v6 v8 v10 v12 v14 v15) else (nb_X10_simplest_148 F s nself53 m v5 v6 v8 v10 v12 v14 v15)))) else (if v8 = 0 then none else ((m_X10_against (((((v6 * v15) / v8)) + (1 : Int64))) v15 v10 v12).bind fun x2 => (if x2 < 0 then (nb_X10_simplest_157 F s m v5 v6 v8 v10 v12 v14 v15) else (nb_X10_simplest_148 F s nself53 m v5 v6 v8 v10 v12 v14 v15))))
set_option maxRecDepth 20000 in
theorem ub_X10_simplest_96 {F : Nat} {s : List Sh} {self53 : PH → Int32 → Int64 → Int64 → Int64 → Int64 → Int32 → Int64 → Option (Int32 × PH)} {nself53 : Mem → Int32 → Int64 → Int64 → Int64 → Int64 → Int32 → Int64 → Option (Int32 × Mem)} {m m' : Mem} {r : Int32} {v5 : Int32} {v6 : Int64} {v8 : Int64} {v10 : Int64} {v12 : Int64} {v14 : Int32} {v15 : Int64} (hw : GS s m) (ih53 : ∀ (m : Mem) (v5 : Int32) (v6 : Int64) (v8 : Int64) (v10 : Int64) (v12 : Int64) (v14 : Int32) (v15 : Int64), GS s m → nself53 m v5 v6 v8 v10 v12 v14 v15 = some (r, m') → J3 (self53 (bl s m) v5 v6 v8 v10 v12 v14 v15) (r, bl s m') (GS s m')) (hf : nb_X10_simplest_96 F s nself53 m v5 v6 v8 v10 v12 v14 v15 = some (r, m')) : J3 (b_X10_simplest_96 F self53 (bl s m) v5 v6 v8 v10 v12 v14 v15) (r, bl s m') (GS s m') := by
  unfold nb_X10_simplest_96 at hf
  unfold b_X10_simplest_96
  refine k_if hf (fun hf => ?_) (fun hf => ?_)
  · refine k_if hf (fun hf => by cases hf) (fun hf => ?_)
    refine k_pure hf fun x1 hf => ?_
    refine k_if hf (fun hf => ?_) (fun hf => ?_)
    · exact u_X10_simplest_157 hw hf
    · exact u_X10_simplest_148 hw ih53 hf
  · refine k_if hf (fun hf => by cases hf) (fun hf => ?_)
    refine k_pure hf fun x2 hf => ?_
    refine k_if hf (fun hf => ?_) (fun hf => ?_)
    · exact u_X10_simplest_157 hw hf
    · exact u_X10_simplest_148 hw ih53 hf
def nl_X10_simplest_96 (F : Nat) (s : List Sh) : Nat → Mem → Int32 → Int64 → Int64 → Int64 → Int64 → Int32 → Int64 → Option (Int32 × Mem)
  | 0 => fun _ _ _ _ _ _ _ _ => none
  | n + 1 => fun m v5 v6 v8 v10 v12 v14 v15 => nb_X10_simplest_96 F s (nl_X10_simplest_96 F s n) m v5 v6 v8 v10 v12 v14 v15
theorem ul_X10_simplest_96 {F : Nat} {s : List Sh} {m' : Mem} {r : Int32} (n : Nat) : ∀ (m : Mem) (v5 : Int32) (v6 : Int64) (v8 : Int64) (v10 : Int64) (v12 : Int64) (v14 : Int32) (v15 : Int64), GS s m → nl_X10_simplest_96 F s n m v5 v6 v8 v10 v12 v14 v15 = some (r, m') → J3 (l_X10_simplest_96 F n (bl s m) v5 v6 v8 v10 v12 v14 v15) (r, bl s m') (GS s m') := by
  induction n with
  | zero => intro m v5 v6 v8 v10 v12 v14 v15 hw hf; cases hf
  | succ n ih => intro m v5 v6 v8 v10 v12 v14 v15 hw hf; exact ub_X10_simplest_96 (F := F) hw ih hf
def nb_X10_simplest_0 (F : Nat) (s : List Sh) (m : Mem) (v0 : Nat) (v1 : Int32) (v2 : Int32) (v3 : Int32) (v4 : Int32) (v5 : Int32) : Option (Int32 × Mem) := bindv (wI m v0 0 (0 : Int32)) fun m1 => ((m_X10_within (Int32.toInt64 v5) (0 : Int64) (1 : Int64)).bind fun x2 => (if x2 = 0 then (some ((-2 : Int32), m1)) else (bind2 (n_X10_asks s m1 v0 (Int32.toInt64 v1) (Int32.toInt64 v2)) fun x3 m4 => (if x3 = 0 then (some ((-3 : Int32), m4)) else (bind2 (n_X10_asks s m4 v0 (Int32.toInt64 v3) (Int32.toInt64 v4)) fun x5 m6 => (if x5 = 0 then (some ((-3 : Int32), m6)) else ((m_X10_against (m4.2.1 v0 15) (m4.2.1 v0 16) (m6.2.1 v0 15) (m6.2.1 v0 16)).bind fun x7 => (if x7 = 0 then (some ((-3 : Int32), m6)) else (nl_X10_simplest_96 F s F m6 v5 (m4.2.1 v0 15) (m4.2.1 v0 16) (m6.2.1 v0 15) (m6.2.1 v0 16) x7 (1 : Int64))))))))))
set_option maxRecDepth 20000 in
theorem u_X10_simplest_0 {F : Nat} {s : List Sh} {m m' : Mem} {r : Int32} {v0 : Nat} {v1 : Int32} {v2 : Int32} {v3 : Int32} {v4 : Int32} {v5 : Int32} (hw : GS s m) (o_v0 : ok s v0 10) (hf : nb_X10_simplest_0 F s m v0 v1 v2 v3 v4 v5 = some (r, m')) : J3 (b_X10_simplest_0 F (bl s m) v0 v1 v2 v3 v4 v5) (r, bl s m') (GS s m') := by
  unfold nb_X10_simplest_0 at hf
  unfold b_X10_simplest_0
  refine k_pI hw (ok_o o_v0 (by decide)) rfl hf fun m1 hw hf => ?_
  refine k_pure hf fun x2 hf => ?_
  refine k_if hf (fun hf => ?_) (fun hf => ?_)
  · exact k_ret hw hf
  · refine k_cO (ok_o o_v0 (by decide)) ?_
    refine ob2 hf fun x3 m4 ex hf => ?_
    refine k_b2 (un_X10_asks hw o_v0 ex) fun hw => ?_
    refine k_if hf (fun hf => ?_) (fun hf => ?_)
    · exact k_ret hw hf
    · refine k_gL (ok_o o_v0 (by decide)) rfl ?_
      refine k_gL (ok_o o_v0 (by decide)) rfl ?_
      refine k_cO (ok_o o_v0 (by decide)) ?_
      refine ob2 hf fun x5 m6 ex hf => ?_
      refine k_b2 (un_X10_asks hw o_v0 ex) fun hw => ?_
      refine k_if hf (fun hf => ?_) (fun hf => ?_)
      · exact k_ret hw hf
      · refine k_gL (ok_o o_v0 (by decide)) rfl ?_
        refine k_gL (ok_o o_v0 (by decide)) rfl ?_
        refine k_pure hf fun x7 hf => ?_
        refine k_if hf (fun hf => ?_) (fun hf => ?_)
        · exact k_ret hw hf
        · exact ul_X10_simplest_96 F _ _ _ _ _ _ _ _ hw hf
def n_X10_simplest (F : Nat) (s : List Sh) (m : Mem) (p0 : Nat) (p1 : Int32) (p2 : Int32) (p3 : Int32) (p4 : Int32) (p5 : Int32) : Option (Int32 × Mem) := nb_X10_simplest_0 F s m p0 p1 p2 p3 p4 p5
theorem un_X10_simplest {F : Nat} {s : List Sh} {m m' : Mem} {p0 : Nat} {p1 : Int32} {p2 : Int32} {p3 : Int32} {p4 : Int32} {p5 : Int32} {r : Int32} (hw : GS s m) (o_p0 : ok s p0 10) (ex : n_X10_simplest F s m p0 p1 p2 p3 p4 p5 = some (r, m')) : J3 (m_X10_simplest F (bl s m) p0 p1 p2 p3 p4 p5) (r, bl s m') (GS s m') := u_X10_simplest_0 hw o_p0 ex
/-! FractionLiftModel.floors(I)I over the memory -/
def nb_X10_floors_0 (F : Nat) (s : List Sh) (m : Mem) (v0 : Nat) (v1 : Int32) : Option (Int32 × Mem) := bindv (wI m v0 0 (0 : Int32)) fun m1 => ((m_X10_within (Int32.toInt64 v1) (1 : Int64) (200 : Int64)).bind fun x2 => (if x2 = 0 then (some ((-3 : Int32), m1)) else ((m1.2.2 v0 1).bind fun a3 => ((rdI s m1 a3 (1 : Int32)).bind fun x4 => ((m_X10_below F v0 (Int32.toInt64 x4) (1 : Int64) v1).bind fun x5 => (some (((x5 + (1 : Int32))), m1)))))))
set_option maxRecDepth 20000 in
theorem u_X10_floors_0 {F : Nat} {s : List Sh} {m m' : Mem} {r : Int32} {v0 : Nat} {v1 : Int32} (hw : GS s m) (o_v0 : ok s v0 10) (hf : nb_X10_floors_0 F s m v0 v1 = some (r, m')) : J3 (b_X10_floors_0 F (bl s m) v0 v1) (r, bl s m') (GS s m') := by
  unfold nb_X10_floors_0 at hf
  unfold b_X10_floors_0
  refine k_pI hw (ok_o o_v0 (by decide)) rfl hf fun m1 hw hf => ?_
  refine k_pure hf fun x2 hf => ?_
  refine k_if hf (fun hf => ?_) (fun hf => ?_)
  · exact k_ret hw hf
  · refine k_gR hw (ok_o o_v0 (by decide)) rfl hf fun a3 o_a3 hf => ?_
    refine k_aI (Or.inl rfl) (ka rfl o_a3) hf fun x4 hf => ?_
    refine k_cO (ok_o o_v0 (by decide)) ?_
    refine k_pure hf fun x5 hf => ?_
    exact k_ret hw hf
def n_X10_floors (F : Nat) (s : List Sh) (m : Mem) (p0 : Nat) (p1 : Int32) : Option (Int32 × Mem) := nb_X10_floors_0 F s m p0 p1
theorem un_X10_floors {F : Nat} {s : List Sh} {m m' : Mem} {p0 : Nat} {p1 : Int32} {r : Int32} (hw : GS s m) (o_p0 : ok s p0 10) (ex : n_X10_floors F s m p0 p1 = some (r, m')) : J3 (m_X10_floors F (bl s m) p0 p1) (r, bl s m') (GS s m') := u_X10_floors_0 hw o_p0 ex
/-! FractionLiftModel.rank(III)I over the memory -/
def nb_X10_rank_0 (F : Nat) (s : List Sh) (m : Mem) (v0 : Nat) (v1 : Int32) (v2 : Int32) (v3 : Int32) : Option (Int32 × Mem) := bindv (wI m v0 0 (0 : Int32)) fun m1 => ((m_X10_within (Int32.toInt64 v3) (1 : Int64) (200 : Int64)).bind fun x2 => (if x2 = 0 then (some ((-3 : Int32), m1)) else (bind2 (n_X10_asks s m1 v0 (Int32.toInt64 v1) (Int32.toInt64 v2)) fun x3 m4 => (if x3 = 0 then (some ((-3 : Int32), m4)) else ((m_X10_below F v0 (m4.2.1 v0 15) (m4.2.1 v0 16) v3).bind fun x5 => (some (x5, m4)))))))
set_option maxRecDepth 20000 in
theorem u_X10_rank_0 {F : Nat} {s : List Sh} {m m' : Mem} {r : Int32} {v0 : Nat} {v1 : Int32} {v2 : Int32} {v3 : Int32} (hw : GS s m) (o_v0 : ok s v0 10) (hf : nb_X10_rank_0 F s m v0 v1 v2 v3 = some (r, m')) : J3 (b_X10_rank_0 F (bl s m) v0 v1 v2 v3) (r, bl s m') (GS s m') := by
  unfold nb_X10_rank_0 at hf
  unfold b_X10_rank_0
  refine k_pI hw (ok_o o_v0 (by decide)) rfl hf fun m1 hw hf => ?_
  refine k_pure hf fun x2 hf => ?_
  refine k_if hf (fun hf => ?_) (fun hf => ?_)
  · exact k_ret hw hf
  · refine k_cO (ok_o o_v0 (by decide)) ?_
    refine ob2 hf fun x3 m4 ex hf => ?_
    refine k_b2 (un_X10_asks hw o_v0 ex) fun hw => ?_
    refine k_if hf (fun hf => ?_) (fun hf => ?_)
    · exact k_ret hw hf
    · refine k_gL (ok_o o_v0 (by decide)) rfl ?_
      refine k_gL (ok_o o_v0 (by decide)) rfl ?_
      refine k_cO (ok_o o_v0 (by decide)) ?_
      refine k_pure hf fun x5 hf => ?_
      exact k_ret hw hf
def n_X10_rank (F : Nat) (s : List Sh) (m : Mem) (p0 : Nat) (p1 : Int32) (p2 : Int32) (p3 : Int32) : Option (Int32 × Mem) := nb_X10_rank_0 F s m p0 p1 p2 p3
theorem un_X10_rank {F : Nat} {s : List Sh} {m m' : Mem} {p0 : Nat} {p1 : Int32} {p2 : Int32} {p3 : Int32} {r : Int32} (hw : GS s m) (o_p0 : ok s p0 10) (ex : n_X10_rank F s m p0 p1 p2 p3 = some (r, m')) : J3 (m_X10_rank F (bl s m) p0 p1 p2 p3) (r, bl s m') (GS s m') := u_X10_rank_0 hw o_p0 ex
/-! FractionLiftModel.laysParts(JJ)I over the memory -/
def nb_X10_laysParts_11 (F : Nat) (s : List Sh) (nself8 : Mem → Nat → Int64 → Int64 → Int32 → Option (Int32 × Mem)) (m : Mem) (v0 : Nat) (v5 : Int64) (v7 : Int64) (v9 : Int32) : Option (Int32 × Mem) := if v5 = (0 : Int64) then (some (v9, m)) else (if v5 = 0 then none else (bindv (((((v7 + v5) - (1 : Int64))) / v5)) fun x1 => (if x1 ≤ (1000000000 : Int64) then ((m.2.2 v0 42).bind fun a2 => ((stI s m a2 v9 (Int64.toInt32 x1)).bind fun m3 => (bindv (v9 + (1)) fun x4 => (bind2 (n_X10_lays s m3 v0 (((v5 * x1) - v7)) (v7 * x1)) fun _ m6 => (if (m6.2.1 v0 16) ≤ (1000000000 : Int64) then (nself8 m6 v0 (m6.2.1 v0 15) (m6.2.1 v0 16) x4) else (some ((-4 : Int32), m6))))))) else (some ((-4 : Int32), m)))))
set_option maxRecDepth 20000 in
theorem ub_X10_laysParts_11 {F : Nat} {s : List Sh} {self8 : PH → Nat → Int64 → Int64 → Int32 → Option (Int32 × PH)} {nself8 : Mem → Nat → Int64 → Int64 → Int32 → Option (Int32 × Mem)} {m m' : Mem} {r : Int32} {v0 : Nat} {v5 : Int64} {v7 : Int64} {v9 : Int32} (hw : GS s m) (o_v0 : ok s v0 10) (ih8 : ∀ (m : Mem) (v0 : Nat) (v5 : Int64) (v7 : Int64) (v9 : Int32), GS s m → ok s v0 10 → nself8 m v0 v5 v7 v9 = some (r, m') → J3 (self8 (bl s m) v0 v5 v7 v9) (r, bl s m') (GS s m')) (hf : nb_X10_laysParts_11 F s nself8 m v0 v5 v7 v9 = some (r, m')) : J3 (b_X10_laysParts_11 F self8 (bl s m) v0 v5 v7 v9) (r, bl s m') (GS s m') := by
  unfold nb_X10_laysParts_11 at hf
  unfold b_X10_laysParts_11
  refine k_if hf (fun hf => ?_) (fun hf => ?_)
  · exact k_ret hw hf
  · refine k_if hf (fun hf => by cases hf) (fun hf => ?_)
    refine k_bv hf fun x1 hf => ?_
    refine k_if hf (fun hf => ?_) (fun hf => ?_)
    · refine k_gR hw (ok_o o_v0 (by decide)) rfl hf fun a2 o_a2 hf => ?_
      refine k_sI hw (ka rfl o_a2) hf fun m3 hw hf => ?_
      refine k_bv hf fun x4 hf => ?_
      refine k_cO (ok_o o_v0 (by decide)) ?_
      refine ob2 hf fun u m6 ex hf => ?_
      refine k_b2 (un_X10_lays hw o_v0 ex) fun hw => ?_
      refine k_gL (ok_o o_v0 (by decide)) rfl ?_
      refine k_if hf (fun hf => ?_) (fun hf => ?_)
      · refine k_gL (ok_o o_v0 (by decide)) rfl ?_
        refine k_gL (ok_o o_v0 (by decide)) rfl ?_
        exact ih8 _ _ _ _ _ hw o_v0 hf
      · exact k_ret hw hf
    · exact k_ret hw hf
def nl_X10_laysParts_11 (F : Nat) (s : List Sh) : Nat → Mem → Nat → Int64 → Int64 → Int32 → Option (Int32 × Mem)
  | 0 => fun _ _ _ _ _ => none
  | n + 1 => fun m v0 v5 v7 v9 => nb_X10_laysParts_11 F s (nl_X10_laysParts_11 F s n) m v0 v5 v7 v9
theorem ul_X10_laysParts_11 {F : Nat} {s : List Sh} {m' : Mem} {r : Int32} (n : Nat) : ∀ (m : Mem) (v0 : Nat) (v5 : Int64) (v7 : Int64) (v9 : Int32), GS s m → ok s v0 10 → nl_X10_laysParts_11 F s n m v0 v5 v7 v9 = some (r, m') → J3 (l_X10_laysParts_11 F n (bl s m) v0 v5 v7 v9) (r, bl s m') (GS s m') := by
  induction n with
  | zero => intro m v0 v5 v7 v9 hw o_v0 hf; cases hf
  | succ n ih => intro m v0 v5 v7 v9 hw o_v0 hf; exact ub_X10_laysParts_11 (F := F) hw o_v0 ih hf
def nb_X10_laysParts_0 (F : Nat) (s : List Sh) (m : Mem) (v0 : Nat) (v1 : Int64) (v3 : Int64) : Option (Int32 × Mem) := if v3 = 0 then none else (bindv (remL v1 v3) fun x1 => (nl_X10_laysParts_11 F s F m v0 x1 v3 (0 : Int32)))
set_option maxRecDepth 20000 in
theorem u_X10_laysParts_0 {F : Nat} {s : List Sh} {m m' : Mem} {r : Int32} {v0 : Nat} {v1 : Int64} {v3 : Int64} (hw : GS s m) (o_v0 : ok s v0 10) (hf : nb_X10_laysParts_0 F s m v0 v1 v3 = some (r, m')) : J3 (b_X10_laysParts_0 F (bl s m) v0 v1 v3) (r, bl s m') (GS s m') := by
  unfold nb_X10_laysParts_0 at hf
  unfold b_X10_laysParts_0
  refine k_if hf (fun hf => by cases hf) (fun hf => ?_)
  refine k_bv hf fun x1 hf => ?_
  exact ul_X10_laysParts_11 F _ _ _ _ _ hw o_v0 hf
def n_X10_laysParts (F : Nat) (s : List Sh) (m : Mem) (p0 : Nat) (p1 : Int64) (p3 : Int64) : Option (Int32 × Mem) := nb_X10_laysParts_0 F s m p0 p1 p3
theorem un_X10_laysParts {F : Nat} {s : List Sh} {m m' : Mem} {p0 : Nat} {p1 : Int64} {p3 : Int64} {r : Int32} (hw : GS s m) (o_p0 : ok s p0 10) (ex : n_X10_laysParts F s m p0 p1 p3 = some (r, m')) : J3 (m_X10_laysParts F (bl s m) p0 p1 p3) (r, bl s m') (GS s m') := u_X10_laysParts_0 hw o_p0 ex
/-! FractionLiftModel.parts(III)I over the memory -/
def nb_X10_parts_0 (F : Nat) (s : List Sh) (m : Mem) (v0 : Nat) (v1 : Int32) (v2 : Int32) (v3 : Int32) : Option (Int32 × Mem) := bindv (wI m v0 0 (0 : Int32)) fun m1 => (bind2 (n_X10_asks s m1 v0 (Int32.toInt64 v1) (Int32.toInt64 v2)) fun x2 m3 => (if x2 = 0 then (some ((-3 : Int32), m3)) else (bind2 (n_X10_laysParts F s m3 v0 (m3.2.1 v0 15) (m3.2.1 v0 16)) fun x4 m5 => (if x4 < 0 then (some (x4, m5)) else (if v3 = (-1 : Int32) then (some (x4, m5)) else ((m_X10_within (Int32.toInt64 v3) (0 : Int64) ((Int32.toInt64 ((x4 - (1 : Int32)))))).bind fun x6 => (if x6 = 0 then (some ((-1 : Int32), m5)) else ((m5.2.2 v0 42).bind fun a7 => ((rdI s m5 a7 v3).bind fun x8 => (some (x8, m5)))))))))))
set_option maxRecDepth 20000 in
theorem u_X10_parts_0 {F : Nat} {s : List Sh} {m m' : Mem} {r : Int32} {v0 : Nat} {v1 : Int32} {v2 : Int32} {v3 : Int32} (hw : GS s m) (o_v0 : ok s v0 10) (hf : nb_X10_parts_0 F s m v0 v1 v2 v3 = some (r, m')) : J3 (b_X10_parts_0 F (bl s m) v0 v1 v2 v3) (r, bl s m') (GS s m') := by
  unfold nb_X10_parts_0 at hf
  unfold b_X10_parts_0
  refine k_pI hw (ok_o o_v0 (by decide)) rfl hf fun m1 hw hf => ?_
  refine k_cO (ok_o o_v0 (by decide)) ?_
  refine ob2 hf fun x2 m3 ex hf => ?_
  refine k_b2 (un_X10_asks hw o_v0 ex) fun hw => ?_
  refine k_if hf (fun hf => ?_) (fun hf => ?_)
  · exact k_ret hw hf
  · refine k_gL (ok_o o_v0 (by decide)) rfl ?_
    refine k_gL (ok_o o_v0 (by decide)) rfl ?_
    refine k_cO (ok_o o_v0 (by decide)) ?_
    refine ob2 hf fun x4 m5 ex hf => ?_
    refine k_b2 (un_X10_laysParts hw o_v0 ex) fun hw => ?_
    refine k_if hf (fun hf => ?_) (fun hf => ?_)
    · exact k_ret hw hf
    · refine k_if hf (fun hf => ?_) (fun hf => ?_)
      · exact k_ret hw hf
      · refine k_pure hf fun x6 hf => ?_
        refine k_if hf (fun hf => ?_) (fun hf => ?_)
        · exact k_ret hw hf
        · refine k_gR hw (ok_o o_v0 (by decide)) rfl hf fun a7 o_a7 hf => ?_
          refine k_aI (Or.inl rfl) (ka rfl o_a7) hf fun x8 hf => ?_
          exact k_ret hw hf
def n_X10_parts (F : Nat) (s : List Sh) (m : Mem) (p0 : Nat) (p1 : Int32) (p2 : Int32) (p3 : Int32) : Option (Int32 × Mem) := nb_X10_parts_0 F s m p0 p1 p2 p3
theorem un_X10_parts {F : Nat} {s : List Sh} {m m' : Mem} {p0 : Nat} {p1 : Int32} {p2 : Int32} {p3 : Int32} {r : Int32} (hw : GS s m) (o_p0 : ok s p0 10) (ex : n_X10_parts F s m p0 p1 p2 p3 = some (r, m')) : J3 (m_X10_parts F (bl s m) p0 p1 p2 p3) (r, bl s m') (GS s m') := u_X10_parts_0 hw o_p0 ex
/-! FractionLiftModel.laysRent(I)V over the memory -/
def nb_X10_laysRent_0 (F : Nat) (s : List Sh) (m : Mem) (v0 : Nat) (v1 : Int32) : Option (Unit × Mem) := (m.2.2 v0 1).bind fun a1 => ((rdI s m a1 (((49 : Int32) + v1))).bind fun x2 => ((m.2.2 v0 1).bind fun a3 => ((rdI s m a3 (((55 : Int32) + v1))).bind fun x4 => (bind2 (n_X10_laysStuff F s m v0 (0 : Int32) (3 : Int32) (Int32.toInt64 x2) (Int32.toInt64 x4)) fun _ m6 => (some ((), m6))))))
set_option maxRecDepth 20000 in
theorem u_X10_laysRent_0 {F : Nat} {s : List Sh} {m m' : Mem} {r : Unit} {v0 : Nat} {v1 : Int32} (hw : GS s m) (o_v0 : ok s v0 10) (hf : nb_X10_laysRent_0 F s m v0 v1 = some (r, m')) : J3 (b_X10_laysRent_0 F (bl s m) v0 v1) (r, bl s m') (GS s m') := by
  unfold nb_X10_laysRent_0 at hf
  unfold b_X10_laysRent_0
  refine k_gR hw (ok_o o_v0 (by decide)) rfl hf fun a1 o_a1 hf => ?_
  refine k_aI (Or.inl rfl) (ka rfl o_a1) hf fun x2 hf => ?_
  refine k_gR hw (ok_o o_v0 (by decide)) rfl hf fun a3 o_a3 hf => ?_
  refine k_aI (Or.inl rfl) (ka rfl o_a3) hf fun x4 hf => ?_
  refine k_cO (ok_o o_v0 (by decide)) ?_
  refine ob2 hf fun u m6 ex hf => ?_
  refine k_b2 (un_X10_laysStuff hw o_v0 ex) fun hw => ?_
  exact k_ret hw hf
def n_X10_laysRent (F : Nat) (s : List Sh) (m : Mem) (p0 : Nat) (p1 : Int32) : Option (Unit × Mem) := nb_X10_laysRent_0 F s m p0 p1
theorem un_X10_laysRent {F : Nat} {s : List Sh} {m m' : Mem} {p0 : Nat} {p1 : Int32} {r : Unit} (hw : GS s m) (o_p0 : ok s p0 10) (ex : n_X10_laysRent F s m p0 p1 = some (r, m')) : J3 (m_X10_laysRent F (bl s m) p0 p1) (r, bl s m') (GS s m') := u_X10_laysRent_0 hw o_p0 ex
/-! FractionLiftModel.rent(II)J over the memory -/
def nb_X10_rent_0 (F : Nat) (s : List Sh) (m : Mem) (v0 : Nat) (v1 : Int32) (v2 : Int32) : Option (Int64 × Mem) := bindv (wI m v0 0 (0 : Int32)) fun m1 => ((n_X10_isTenant s m1 v0 v1).bind fun x2 => (if x2 = 0 then (some ((-2 : Int64), m1)) else ((m_X10_within (Int32.toInt64 v2) (0 : Int64) (1 : Int64)).bind fun x3 => (if x3 = 0 then (some ((-2 : Int64), m1)) else (bind2 (n_X10_laysRent F s m1 v0 v1) fun _ m5 => (if v2 = 0 then (some ((m5.2.1 v0 15), m5)) else (some ((m5.2.1 v0 16), m5))))))))
set_option maxRecDepth 20000 in
theorem u_X10_rent_0 {F : Nat} {s : List Sh} {m m' : Mem} {r : Int64} {v0 : Nat} {v1 : Int32} {v2 : Int32} (hw : GS s m) (o_v0 : ok s v0 10) (hf : nb_X10_rent_0 F s m v0 v1 v2 = some (r, m')) : J3 (b_X10_rent_0 F (bl s m) v0 v1 v2) (r, bl s m') (GS s m') := by
  unfold nb_X10_rent_0 at hf
  unfold b_X10_rent_0
  refine k_pI hw (ok_o o_v0 (by decide)) rfl hf fun m1 hw hf => ?_
  refine k_cO (ok_o o_v0 (by decide)) ?_
  refine ob hf fun x2 ex hf => ?_
  refine k_b1 (un_X10_isTenant hw o_v0 ex) ?_
  refine k_if hf (fun hf => ?_) (fun hf => ?_)
  · exact k_ret hw hf
  · refine k_pure hf fun x3 hf => ?_
    refine k_if hf (fun hf => ?_) (fun hf => ?_)
    · exact k_ret hw hf
    · refine k_cO (ok_o o_v0 (by decide)) ?_
      refine ob2 hf fun u m5 ex hf => ?_
      refine k_b2 (un_X10_laysRent hw o_v0 ex) fun hw => ?_
      refine k_if hf (fun hf => ?_) (fun hf => ?_)
      · refine k_gL (ok_o o_v0 (by decide)) rfl ?_
        exact k_ret hw hf
      · refine k_gL (ok_o o_v0 (by decide)) rfl ?_
        exact k_ret hw hf
def n_X10_rent (F : Nat) (s : List Sh) (m : Mem) (p0 : Nat) (p1 : Int32) (p2 : Int32) : Option (Int64 × Mem) := nb_X10_rent_0 F s m p0 p1 p2
theorem un_X10_rent {F : Nat} {s : List Sh} {m m' : Mem} {p0 : Nat} {p1 : Int32} {p2 : Int32} {r : Int64} (hw : GS s m) (o_p0 : ok s p0 10) (ex : n_X10_rent F s m p0 p1 p2 = some (r, m')) : J3 (m_X10_rent F (bl s m) p0 p1 p2) (r, bl s m') (GS s m') := u_X10_rent_0 hw o_p0 ex
/-! FractionLiftModel.rents()I over the memory -/
def nb_X10_rents_9 (F : Nat) (s : List Sh) (nself7 : Mem → Nat → Int32 → Int32 → Option (Int32 × Mem)) (m : Mem) (v0 : Nat) (v1 : Int32) (v2 : Int32) : Option (Int32 × Mem) := (m.2.2 v0 1).bind fun a1 => ((rdI s m a1 (4 : Int32)).bind fun x2 => (if x2 ≤ v2 then (some (v1, m)) else (bind2 (n_X10_laysRent F s m v0 v2) fun _ m4 => (if (m4.2.1 v0 16) = 0 then none else (bindv ((v1 + ((Int64.toInt32 (((((100 : Int64) * (m4.2.1 v0 15))) / (m4.2.1 v0 16))))))) fun x5 => (bindv (v2 + (1)) fun x6 => (nself7 m4 v0 x5 x6)))))))
set_option maxRecDepth 20000 in
theorem ub_X10_rents_9 {F : Nat} {s : List Sh} {self7 : PH → Nat → Int32 → Int32 → Option (Int32 × PH)} {nself7 : Mem → Nat → Int32 → Int32 → Option (Int32 × Mem)} {m m' : Mem} {r : Int32} {v0 : Nat} {v1 : Int32} {v2 : Int32} (hw : GS s m) (o_v0 : ok s v0 10) (ih7 : ∀ (m : Mem) (v0 : Nat) (v1 : Int32) (v2 : Int32), GS s m → ok s v0 10 → nself7 m v0 v1 v2 = some (r, m') → J3 (self7 (bl s m) v0 v1 v2) (r, bl s m') (GS s m')) (hf : nb_X10_rents_9 F s nself7 m v0 v1 v2 = some (r, m')) : J3 (b_X10_rents_9 F self7 (bl s m) v0 v1 v2) (r, bl s m') (GS s m') := by
  unfold nb_X10_rents_9 at hf
  unfold b_X10_rents_9
  refine k_gR hw (ok_o o_v0 (by decide)) rfl hf fun a1 o_a1 hf => ?_
  refine k_aI (Or.inl rfl) (ka rfl o_a1) hf fun x2 hf => ?_
  refine k_if hf (fun hf => ?_) (fun hf => ?_)
  · exact k_ret hw hf
  · refine k_cO (ok_o o_v0 (by decide)) ?_
    refine ob2 hf fun u m4 ex hf => ?_
    refine k_b2 (un_X10_laysRent hw o_v0 ex) fun hw => ?_
    refine k_gL (ok_o o_v0 (by decide)) rfl ?_
    refine k_gL (ok_o o_v0 (by decide)) rfl ?_
    refine k_if hf (fun hf => by cases hf) (fun hf => ?_)
    refine k_bv hf fun x5 hf => ?_
    refine k_bv hf fun x6 hf => ?_
    exact ih7 _ _ _ _ hw o_v0 hf
def nl_X10_rents_9 (F : Nat) (s : List Sh) : Nat → Mem → Nat → Int32 → Int32 → Option (Int32 × Mem)
  | 0 => fun _ _ _ _ => none
  | n + 1 => fun m v0 v1 v2 => nb_X10_rents_9 F s (nl_X10_rents_9 F s n) m v0 v1 v2
theorem ul_X10_rents_9 {F : Nat} {s : List Sh} {m' : Mem} {r : Int32} (n : Nat) : ∀ (m : Mem) (v0 : Nat) (v1 : Int32) (v2 : Int32), GS s m → ok s v0 10 → nl_X10_rents_9 F s n m v0 v1 v2 = some (r, m') → J3 (l_X10_rents_9 F n (bl s m) v0 v1 v2) (r, bl s m') (GS s m') := by
  induction n with
  | zero => intro m v0 v1 v2 hw o_v0 hf; cases hf
  | succ n ih => intro m v0 v1 v2 hw o_v0 hf; exact ub_X10_rents_9 (F := F) hw o_v0 ih hf
def nb_X10_rents_0 (F : Nat) (s : List Sh) (m : Mem) (v0 : Nat) : Option (Int32 × Mem) := bindv (wI m v0 0 (0 : Int32)) fun m1 => (nl_X10_rents_9 F s F m1 v0 (0 : Int32) (0 : Int32))
set_option maxRecDepth 20000 in
theorem u_X10_rents_0 {F : Nat} {s : List Sh} {m m' : Mem} {r : Int32} {v0 : Nat} (hw : GS s m) (o_v0 : ok s v0 10) (hf : nb_X10_rents_0 F s m v0 = some (r, m')) : J3 (b_X10_rents_0 F (bl s m) v0) (r, bl s m') (GS s m') := by
  unfold nb_X10_rents_0 at hf
  unfold b_X10_rents_0
  refine k_pI hw (ok_o o_v0 (by decide)) rfl hf fun m1 hw hf => ?_
  exact ul_X10_rents_9 F _ _ _ _ hw o_v0 hf
def n_X10_rents (F : Nat) (s : List Sh) (m : Mem) (p0 : Nat) : Option (Int32 × Mem) := nb_X10_rents_0 F s m p0
theorem un_X10_rents {F : Nat} {s : List Sh} {m m' : Mem} {p0 : Nat} {r : Int32} (hw : GS s m) (o_p0 : ok s p0 10) (ex : n_X10_rents F s m p0 = some (r, m')) : J3 (m_X10_rents F (bl s m) p0) (r, bl s m') (GS s m') := u_X10_rents_0 hw o_p0 ex
/-! FractionLiftModel.moves(III)I over the memory -/
def nb_X10_moves_0 (F : Nat) (s : List Sh) (m : Mem) (v0 : Nat) (v1 : Int32) (v2 : Int32) (v3 : Int32) : Option (Int32 × Mem) := bindv (wI m v0 0 (0 : Int32)) fun m1 => ((n_X10_isTenant s m1 v0 v1).bind fun x2 => (if x2 = 0 then (some ((-2 : Int32), m1)) else (bind2 (n_X10_asks s m1 v0 (Int32.toInt64 v2) (Int32.toInt64 v3)) fun x3 m4 => (if x3 = 0 then (some ((-3 : Int32), m4)) else (if (m4.2.1 v0 16) ≤ (99 : Int64) then (bindv ((Int64.toInt32 (m4.2.1 v0 15))) fun x5 => (bindv ((Int64.toInt32 (m4.2.1 v0 16))) fun x6 => (bind2 (n_X10_laysRent F s m4 v0 v1) fun _ m8 => ((m8.2.2 v0 1).bind fun a9 => ((stI s m8 a9 (((49 : Int32) + v1)) x5).bind fun m10 => ((m10.2.2 v0 1).bind fun a11 => ((stI s m10 a11 (((55 : Int32) + v1)) x6).bind fun m12 => (bind2 (n_X10_laysRent F s m12 v0 v1) fun _ m14 => ((m_X10_against (m14.2.1 v0 15) (m14.2.1 v0 16) (m8.2.1 v0 15) (m8.2.1 v0 16)).bind fun x15 => (some (x15, m14))))))))))) else (some ((-3 : Int32), m4)))))))
set_option maxRecDepth 20000 in
theorem u_X10_moves_0 {F : Nat} {s : List Sh} {m m' : Mem} {r : Int32} {v0 : Nat} {v1 : Int32} {v2 : Int32} {v3 : Int32} (hw : GS s m) (o_v0 : ok s v0 10) (hf : nb_X10_moves_0 F s m v0 v1 v2 v3 = some (r, m')) : J3 (b_X10_moves_0 F (bl s m) v0 v1 v2 v3) (r, bl s m') (GS s m') := by
  unfold nb_X10_moves_0 at hf
  unfold b_X10_moves_0
  refine k_pI hw (ok_o o_v0 (by decide)) rfl hf fun m1 hw hf => ?_
  refine k_cO (ok_o o_v0 (by decide)) ?_
  refine ob hf fun x2 ex hf => ?_
  refine k_b1 (un_X10_isTenant hw o_v0 ex) ?_
  refine k_if hf (fun hf => ?_) (fun hf => ?_)
  · exact k_ret hw hf
  · refine k_cO (ok_o o_v0 (by decide)) ?_
    refine ob2 hf fun x3 m4 ex hf => ?_
    refine k_b2 (un_X10_asks hw o_v0 ex) fun hw => ?_
    refine k_if hf (fun hf => ?_) (fun hf => ?_)
    · exact k_ret hw hf
    · refine k_gL (ok_o o_v0 (by decide)) rfl ?_
      refine k_if hf (fun hf => ?_) (fun hf => ?_)
      · refine k_gL (ok_o o_v0 (by decide)) rfl ?_
        refine k_bv hf fun x5 hf => ?_
        refine k_gL (ok_o o_v0 (by decide)) rfl ?_
        refine k_bv hf fun x6 hf => ?_
        refine k_cO (ok_o o_v0 (by decide)) ?_
        refine ob2 hf fun u m8 ex hf => ?_
        refine k_b2 (un_X10_laysRent hw o_v0 ex) fun hw => ?_
        refine k_gL (ok_o o_v0 (by decide)) rfl ?_
        refine k_gL (ok_o o_v0 (by decide)) rfl ?_
        refine k_gR hw (ok_o o_v0 (by decide)) rfl hf fun a9 o_a9 hf => ?_
        refine k_sI hw (ka rfl o_a9) hf fun m10 hw hf => ?_
        refine k_gR hw (ok_o o_v0 (by decide)) rfl hf fun a11 o_a11 hf => ?_
        refine k_sI hw (ka rfl o_a11) hf fun m12 hw hf => ?_
        refine k_cO (ok_o o_v0 (by decide)) ?_
        refine ob2 hf fun u m14 ex hf => ?_
        refine k_b2 (un_X10_laysRent hw o_v0 ex) fun hw => ?_
        refine k_gL (ok_o o_v0 (by decide)) rfl ?_
        refine k_gL (ok_o o_v0 (by decide)) rfl ?_
        refine k_pure hf fun x15 hf => ?_
        exact k_ret hw hf
      · exact k_ret hw hf
def n_X10_moves (F : Nat) (s : List Sh) (m : Mem) (p0 : Nat) (p1 : Int32) (p2 : Int32) (p3 : Int32) : Option (Int32 × Mem) := nb_X10_moves_0 F s m p0 p1 p2 p3
theorem un_X10_moves {F : Nat} {s : List Sh} {m m' : Mem} {p0 : Nat} {p1 : Int32} {p2 : Int32} {p3 : Int32} {r : Int32} (hw : GS s m) (o_p0 : ok s p0 10) (ex : n_X10_moves F s m p0 p1 p2 p3 = some (r, m')) : J3 (m_X10_moves F (bl s m) p0 p1 p2 p3) (r, bl s m') (GS s m') := u_X10_moves_0 hw o_p0 ex
/-! FractionLiftModel.farOf(IJJJ)J over the memory -/
def nb_X10_farOf_91 (F : Nat) (s : List Sh) (nself4 : Nat → Int32 → Int64 → Int64 → Int64 → Int64 → Int32 → Option Int64) (m : Mem) (v0 : Nat) (v1 : Int32) (v2 : Int64) (v4 : Int64) (v6 : Int64) (v8 : Int64) (v10 : Int32) : Option Int64 := bindv (v10 + (1)) fun x1 => (nself4 v0 v1 v2 v4 v6 v8 x1)
set_option maxRecDepth 20000 in
theorem u_X10_farOf_91 {F : Nat} {s : List Sh} {self4 : Nat → Int32 → Int64 → Int64 → Int64 → Int64 → Int32 → Option Int64} {nself4 : Nat → Int32 → Int64 → Int64 → Int64 → Int64 → Int32 → Option Int64} {m : Mem} {r : Int64} {v0 : Nat} {v1 : Int32} {v2 : Int64} {v4 : Int64} {v6 : Int64} {v8 : Int64} {v10 : Int32} (hw : GS s m) (o_v0 : ok s v0 10) (ih4 : ∀ (v0 : Nat) (v1 : Int32) (v2 : Int64) (v4 : Int64) (v6 : Int64) (v8 : Int64) (v10 : Int32), ok s v0 10 → nself4 v0 v1 v2 v4 v6 v8 v10 = some r → J3 (self4 v0 v1 v2 v4 v6 v8 v10) r True) (hf : nb_X10_farOf_91 F s nself4 m v0 v1 v2 v4 v6 v8 v10 = some r) : J3 (b_X10_farOf_91 F self4 (bl s m) v0 v1 v2 v4 v6 v8 v10) r True := by
  unfold nb_X10_farOf_91 at hf
  unfold b_X10_farOf_91
  refine k_bv hf fun x1 hf => ?_
  exact ih4 _ _ _ _ _ _ _ o_v0 hf
def nb_X10_farOf_73 (F : Nat) (s : List Sh) (nself4 : Nat → Int32 → Int64 → Int64 → Int64 → Int64 → Int32 → Option Int64) (m : Mem) (v0 : Nat) (v1 : Int32) (v2 : Int64) (v4 : Int64) (v6 : Int64) (v10 : Int32) (s0 : Int64) (s1 : Int64) : Option Int64 := (m.2.2 v0 1).bind fun a1 => ((rdI s m a1 (((55 : Int32) + v10))).bind fun x2 => (if (Int32.toInt64 x2) = 0 then none else (bindv ((s0 + ((s1 * ((v6 / (Int32.toInt64 x2))))))) fun x3 => (nb_X10_farOf_91 F s nself4 m v0 v1 v2 v4 v6 x3 v10))))
set_option maxRecDepth 20000 in
theorem u_X10_farOf_73 {F : Nat} {s : List Sh} {self4 : Nat → Int32 → Int64 → Int64 → Int64 → Int64 → Int32 → Option Int64} {nself4 : Nat → Int32 → Int64 → Int64 → Int64 → Int64 → Int32 → Option Int64} {m : Mem} {r : Int64} {v0 : Nat} {v1 : Int32} {v2 : Int64} {v4 : Int64} {v6 : Int64} {v10 : Int32} {s0 : Int64} {s1 : Int64} (hw : GS s m) (o_v0 : ok s v0 10) (ih4 : ∀ (v0 : Nat) (v1 : Int32) (v2 : Int64) (v4 : Int64) (v6 : Int64) (v8 : Int64) (v10 : Int32), ok s v0 10 → nself4 v0 v1 v2 v4 v6 v8 v10 = some r → J3 (self4 v0 v1 v2 v4 v6 v8 v10) r True) (hf : nb_X10_farOf_73 F s nself4 m v0 v1 v2 v4 v6 v10 s0 s1 = some r) : J3 (b_X10_farOf_73 F self4 (bl s m) v0 v1 v2 v4 v6 v10 s0 s1) r True := by
  unfold nb_X10_farOf_73 at hf
  unfold b_X10_farOf_73
  refine k_gR hw (ok_o o_v0 (by decide)) rfl hf fun a1 o_a1 hf => ?_
  refine k_aI (Or.inl rfl) (ka rfl o_a1) hf fun x2 hf => ?_
  refine k_if hf (fun hf => by cases hf) (fun hf => ?_)
  refine k_bv hf fun x3 hf => ?_
  exact u_X10_farOf_91 hw o_v0 ih4 hf
def nb_X10_farOf_6 (F : Nat) (s : List Sh) (nself4 : Nat → Int32 → Int64 → Int64 → Int64 → Int64 → Int32 → Option Int64) (m : Mem) (v0 : Nat) (v1 : Int32) (v2 : Int64) (v4 : Int64) (v6 : Int64) (v8 : Int64) (v10 : Int32) : Option Int64 := (m.2.2 v0 1).bind fun a1 => ((rdI s m a1 (4 : Int32)).bind fun x2 => (if x2 ≤ v10 then (some v8) else (if v10 = v1 then (nb_X10_farOf_91 F s nself4 m v0 v1 v2 v4 v6 v8 v10) else ((m.2.2 v0 1).bind fun a3 => ((rdI s m a3 (((55 : Int32) + v10))).bind fun x4 => ((m.2.2 v0 1).bind fun a5 => ((rdI s m a5 (((49 : Int32) + v10))).bind fun x6 => (bindv ((((v2 * (Int32.toInt64 x4))) - (((Int32.toInt64 x6) * v4)))) fun x7 => (if (0 : Int64) ≤ x7 then (nb_X10_farOf_73 F s nself4 m v0 v1 v2 v4 v6 v10 v8 x7) else (nb_X10_farOf_73 F s nself4 m v0 v1 v2 v4 v6 v10 v8 (-x7)))))))))))
set_option maxRecDepth 20000 in
theorem ub_X10_farOf_6 {F : Nat} {s : List Sh} {self4 : Nat → Int32 → Int64 → Int64 → Int64 → Int64 → Int32 → Option Int64} {nself4 : Nat → Int32 → Int64 → Int64 → Int64 → Int64 → Int32 → Option Int64} {m : Mem} {r : Int64} {v0 : Nat} {v1 : Int32} {v2 : Int64} {v4 : Int64} {v6 : Int64} {v8 : Int64} {v10 : Int32} (hw : GS s m) (o_v0 : ok s v0 10) (ih4 : ∀ (v0 : Nat) (v1 : Int32) (v2 : Int64) (v4 : Int64) (v6 : Int64) (v8 : Int64) (v10 : Int32), ok s v0 10 → nself4 v0 v1 v2 v4 v6 v8 v10 = some r → J3 (self4 v0 v1 v2 v4 v6 v8 v10) r True) (hf : nb_X10_farOf_6 F s nself4 m v0 v1 v2 v4 v6 v8 v10 = some r) : J3 (b_X10_farOf_6 F self4 (bl s m) v0 v1 v2 v4 v6 v8 v10) r True := by
  unfold nb_X10_farOf_6 at hf
  unfold b_X10_farOf_6
  refine k_gR hw (ok_o o_v0 (by decide)) rfl hf fun a1 o_a1 hf => ?_
  refine k_aI (Or.inl rfl) (ka rfl o_a1) hf fun x2 hf => ?_
  refine k_if hf (fun hf => ?_) (fun hf => ?_)
  · exact k_retP hf
  · refine k_if hf (fun hf => ?_) (fun hf => ?_)
    · exact u_X10_farOf_91 hw o_v0 ih4 hf
    · refine k_gR hw (ok_o o_v0 (by decide)) rfl hf fun a3 o_a3 hf => ?_
      refine k_aI (Or.inl rfl) (ka rfl o_a3) hf fun x4 hf => ?_
      refine k_gR hw (ok_o o_v0 (by decide)) rfl hf fun a5 o_a5 hf => ?_
      refine k_aI (Or.inl rfl) (ka rfl o_a5) hf fun x6 hf => ?_
      refine k_bv hf fun x7 hf => ?_
      refine k_if hf (fun hf => ?_) (fun hf => ?_)
      · exact u_X10_farOf_73 hw o_v0 ih4 hf
      · exact u_X10_farOf_73 hw o_v0 ih4 hf
def nl_X10_farOf_6 (F : Nat) (s : List Sh) (m : Mem) : Nat → Nat → Int32 → Int64 → Int64 → Int64 → Int64 → Int32 → Option Int64
  | 0 => fun _ _ _ _ _ _ _ => none
  | n + 1 => fun v0 v1 v2 v4 v6 v8 v10 => nb_X10_farOf_6 F s (nl_X10_farOf_6 F s m n) m v0 v1 v2 v4 v6 v8 v10
theorem ul_X10_farOf_6 {F : Nat} {s : List Sh} {m : Mem} {r : Int64} (hw : GS s m) (n : Nat) : ∀ (v0 : Nat) (v1 : Int32) (v2 : Int64) (v4 : Int64) (v6 : Int64) (v8 : Int64) (v10 : Int32), ok s v0 10 → nl_X10_farOf_6 F s m n v0 v1 v2 v4 v6 v8 v10 = some r → J3 (l_X10_farOf_6 F (bl s m) n v0 v1 v2 v4 v6 v8 v10) r True := by
  induction n with
  | zero => intro v0 v1 v2 v4 v6 v8 v10 o_v0 hf; cases hf
  | succ n ih => intro v0 v1 v2 v4 v6 v8 v10 o_v0 hf; exact ub_X10_farOf_6 (F := F) hw o_v0 ih hf
def nb_X10_farOf_0 (F : Nat) (s : List Sh) (m : Mem) (v0 : Nat) (v1 : Int32) (v2 : Int64) (v4 : Int64) (v6 : Int64) : Option Int64 := nl_X10_farOf_6 F s m F v0 v1 v2 v4 v6 (0 : Int64) (0 : Int32)
set_option maxRecDepth 20000 in
theorem u_X10_farOf_0 {F : Nat} {s : List Sh} {m : Mem} {r : Int64} {v0 : Nat} {v1 : Int32} {v2 : Int64} {v4 : Int64} {v6 : Int64} (hw : GS s m) (o_v0 : ok s v0 10) (hf : nb_X10_farOf_0 F s m v0 v1 v2 v4 v6 = some r) : J3 (b_X10_farOf_0 F (bl s m) v0 v1 v2 v4 v6) r True := by
  unfold nb_X10_farOf_0 at hf
  unfold b_X10_farOf_0
  exact ul_X10_farOf_6 hw F _ _ _ _ _ _ _ o_v0 hf
def n_X10_farOf (F : Nat) (s : List Sh) (m : Mem) (p0 : Nat) (p1 : Int32) (p2 : Int64) (p4 : Int64) (p6 : Int64) : Option Int64 := nb_X10_farOf_0 F s m p0 p1 p2 p4 p6
theorem un_X10_farOf {F : Nat} {s : List Sh} {m : Mem} {p0 : Nat} {p1 : Int32} {p2 : Int64} {p4 : Int64} {p6 : Int64} {r : Int64} (hw : GS s m) (o_p0 : ok s p0 10) (ex : n_X10_farOf F s m p0 p1 p2 p4 p6 = some r) : J3 (m_X10_farOf F (bl s m) p0 p1 p2 p4 p6) r True := u_X10_farOf_0 hw o_p0 ex
/-! FractionLiftModel.fairest(II)J over the memory -/
def nb_X10_fairest_95 (F : Nat) (s : List Sh) (nself27 : Mem → Nat → Int32 → Int32 → Int64 → Int32 → Option (Int64 × Mem)) (m : Mem) (v0 : Nat) (v1 : Int32) (v2 : Int32) (v3 : Int64) (v5 : Int32) : Option (Int64 × Mem) := bindv (v5 + (1)) fun x1 => (nself27 m v0 v1 v2 v3 x1)
set_option maxRecDepth 20000 in
theorem u_X10_fairest_95 {F : Nat} {s : List Sh} {self27 : PH → Nat → Int32 → Int32 → Int64 → Int32 → Option (Int64 × PH)} {nself27 : Mem → Nat → Int32 → Int32 → Int64 → Int32 → Option (Int64 × Mem)} {m m' : Mem} {r : Int64} {v0 : Nat} {v1 : Int32} {v2 : Int32} {v3 : Int64} {v5 : Int32} (hw : GS s m) (o_v0 : ok s v0 10) (ih27 : ∀ (m : Mem) (v0 : Nat) (v1 : Int32) (v2 : Int32) (v3 : Int64) (v5 : Int32), GS s m → ok s v0 10 → nself27 m v0 v1 v2 v3 v5 = some (r, m') → J3 (self27 (bl s m) v0 v1 v2 v3 v5) (r, bl s m') (GS s m')) (hf : nb_X10_fairest_95 F s nself27 m v0 v1 v2 v3 v5 = some (r, m')) : J3 (b_X10_fairest_95 F self27 (bl s m) v0 v1 v2 v3 v5) (r, bl s m') (GS s m') := by
  unfold nb_X10_fairest_95 at hf
  unfold b_X10_fairest_95
  refine k_bv hf fun x1 hf => ?_
  exact ih27 _ _ _ _ _ _ hw o_v0 hf
def nb_X10_fairest_235 (F : Nat) (s : List Sh) (nself66 : Mem → Nat → Int32 → Int32 → Int64 → Int64 → Int64 → Int64 → Int64 → Option (Int64 × Mem)) (nself72 : Mem → Nat → Int32 → Int32 → Int64 → Int64 → Int64 → Int64 → Int64 → Int64 → Option (Int64 × Mem)) (m : Mem) (v0 : Nat) (v1 : Int32) (v2 : Int32) (v3 : Int64) (v5 : Int64) (v7 : Int64) (v9 : Int64) (v11 : Int64) (v13 : Int64) : Option (Int64 × Mem) := bindv ((v13 + (1 : Int64))) fun x1 => (nself72 m v0 v1 v2 v3 v5 v7 v9 v11 x1)
set_option maxRecDepth 20000 in
theorem u_X10_fairest_235 {F : Nat} {s : List Sh} {self66 : PH → Nat → Int32 → Int32 → Int64 → Int64 → Int64 → Int64 → Int64 → Option (Int64 × PH)} {nself66 : Mem → Nat → Int32 → Int32 → Int64 → Int64 → Int64 → Int64 → Int64 → Option (Int64 × Mem)} {self72 : PH → Nat → Int32 → Int32 → Int64 → Int64 → Int64 → Int64 → Int64 → Int64 → Option (Int64 × PH)} {nself72 : Mem → Nat → Int32 → Int32 → Int64 → Int64 → Int64 → Int64 → Int64 → Int64 → Option (Int64 × Mem)} {m m' : Mem} {r : Int64} {v0 : Nat} {v1 : Int32} {v2 : Int32} {v3 : Int64} {v5 : Int64} {v7 : Int64} {v9 : Int64} {v11 : Int64} {v13 : Int64} (hw : GS s m) (o_v0 : ok s v0 10) (ih66 : ∀ (m : Mem) (v0 : Nat) (v1 : Int32) (v2 : Int32) (v3 : Int64) (v5 : Int64) (v7 : Int64) (v9 : Int64) (v11 : Int64), GS s m → ok s v0 10 → nself66 m v0 v1 v2 v3 v5 v7 v9 v11 = some (r, m') → J3 (self66 (bl s m) v0 v1 v2 v3 v5 v7 v9 v11) (r, bl s m') (GS s m')) (ih72 : ∀ (m : Mem) (v0 : Nat) (v1 : Int32) (v2 : Int32) (v3 : Int64) (v5 : Int64) (v7 : Int64) (v9 : Int64) (v11 : Int64) (v13 : Int64), GS s m → ok s v0 10 → nself72 m v0 v1 v2 v3 v5 v7 v9 v11 v13 = some (r, m') → J3 (self72 (bl s m) v0 v1 v2 v3 v5 v7 v9 v11 v13) (r, bl s m') (GS s m')) (hf : nb_X10_fairest_235 F s nself66 nself72 m v0 v1 v2 v3 v5 v7 v9 v11 v13 = some (r, m')) : J3 (b_X10_fairest_235 F self66 self72 (bl s m) v0 v1 v2 v3 v5 v7 v9 v11 v13) (r, bl s m') (GS s m') := by
  unfold nb_X10_fairest_235 at hf
  unfold b_X10_fairest_235
  refine k_bv hf fun x1 hf => ?_
  exact ih72 _ _ _ _ _ _ _ _ _ _ hw o_v0 hf
def nb_X10_fairest_223 (F : Nat) (s : List Sh) (nself66 : Mem → Nat → Int32 → Int32 → Int64 → Int64 → Int64 → Int64 → Int64 → Option (Int64 × Mem)) (nself72 : Mem → Nat → Int32 → Int32 → Int64 → Int64 → Int64 → Int64 → Int64 → Int64 → Option (Int64 × Mem)) (m : Mem) (v0 : Nat) (v1 : Int32) (v2 : Int32) (v3 : Int64) (v11 : Int64) (v13 : Int64) (v15 : Int64) : Option (Int64 × Mem) := nb_X10_fairest_235 F s nself66 nself72 m v0 v1 v2 v3 v13 v11 v15 v11 v13
set_option maxRecDepth 20000 in
theorem u_X10_fairest_223 {F : Nat} {s : List Sh} {self66 : PH → Nat → Int32 → Int32 → Int64 → Int64 → Int64 → Int64 → Int64 → Option (Int64 × PH)} {nself66 : Mem → Nat → Int32 → Int32 → Int64 → Int64 → Int64 → Int64 → Int64 → Option (Int64 × Mem)} {self72 : PH → Nat → Int32 → Int32 → Int64 → Int64 → Int64 → Int64 → Int64 → Int64 → Option (Int64 × PH)} {nself72 : Mem → Nat → Int32 → Int32 → Int64 → Int64 → Int64 → Int64 → Int64 → Int64 → Option (Int64 × Mem)} {m m' : Mem} {r : Int64} {v0 : Nat} {v1 : Int32} {v2 : Int32} {v3 : Int64} {v11 : Int64} {v13 : Int64} {v15 : Int64} (hw : GS s m) (o_v0 : ok s v0 10) (ih66 : ∀ (m : Mem) (v0 : Nat) (v1 : Int32) (v2 : Int32) (v3 : Int64) (v5 : Int64) (v7 : Int64) (v9 : Int64) (v11 : Int64), GS s m → ok s v0 10 → nself66 m v0 v1 v2 v3 v5 v7 v9 v11 = some (r, m') → J3 (self66 (bl s m) v0 v1 v2 v3 v5 v7 v9 v11) (r, bl s m') (GS s m')) (ih72 : ∀ (m : Mem) (v0 : Nat) (v1 : Int32) (v2 : Int32) (v3 : Int64) (v5 : Int64) (v7 : Int64) (v9 : Int64) (v11 : Int64) (v13 : Int64), GS s m → ok s v0 10 → nself72 m v0 v1 v2 v3 v5 v7 v9 v11 v13 = some (r, m') → J3 (self72 (bl s m) v0 v1 v2 v3 v5 v7 v9 v11 v13) (r, bl s m') (GS s m')) (hf : nb_X10_fairest_223 F s nself66 nself72 m v0 v1 v2 v3 v11 v13 v15 = some (r, m')) : J3 (b_X10_fairest_223 F self66 self72 (bl s m) v0 v1 v2 v3 v11 v13 v15) (r, bl s m') (GS s m') := by
  unfold nb_X10_fairest_223 at hf
  unfold b_X10_fairest_223
  exact u_X10_fairest_235 hw o_v0 ih66 ih72 hf
def nb_X10_fairest_194 (F : Nat) (s : List Sh) (nself66 : Mem → Nat → Int32 → Int32 → Int64 → Int64 → Int64 → Int64 → Int64 → Option (Int64 × Mem)) (nself72 : Mem → Nat → Int32 → Int32 → Int64 → Int64 → Int64 → Int64 → Int64 → Int64 → Option (Int64 × Mem)) (m : Mem) (v0 : Nat) (v1 : Int32) (v2 : Int32) (v3 : Int64) (v5 : Int64) (v7 : Int64) (v9 : Int64) (v11 : Int64) (v13 : Int64) (v15 : Int64) (s0 : Int32) : Option (Int64 × Mem) := if 0 < s0 then (nb_X10_fairest_235 F s nself66 nself72 m v0 v1 v2 v3 v5 v7 v9 v11 v13) else (if s0 = 0 then ((m_X10_against v13 v11 v5 v7).bind fun x1 => (if x1 < 0 then (nb_X10_fairest_223 F s nself66 nself72 m v0 v1 v2 v3 v11 v13 v15) else (nb_X10_fairest_235 F s nself66 nself72 m v0 v1 v2 v3 v5 v7 v9 v11 v13))) else (nb_X10_fairest_223 F s nself66 nself72 m v0 v1 v2 v3 v11 v13 v15))
set_option maxRecDepth 20000 in
theorem u_X10_fairest_194 {F : Nat} {s : List Sh} {self66 : PH → Nat → Int32 → Int32 → Int64 → Int64 → Int64 → Int64 → Int64 → Option (Int64 × PH)} {nself66 : Mem → Nat → Int32 → Int32 → Int64 → Int64 → Int64 → Int64 → Int64 → Option (Int64 × Mem)} {self72 : PH → Nat → Int32 → Int32 → Int64 → Int64 → Int64 → Int64 → Int64 → Int64 → Option (Int64 × PH)} {nself72 : Mem → Nat → Int32 → Int32 → Int64 → Int64 → Int64 → Int64 → Int64 → Int64 → Option (Int64 × Mem)} {m m' : Mem} {r : Int64} {v0 : Nat} {v1 : Int32} {v2 : Int32} {v3 : Int64} {v5 : Int64} {v7 : Int64} {v9 : Int64} {v11 : Int64} {v13 : Int64} {v15 : Int64} {s0 : Int32} (hw : GS s m) (o_v0 : ok s v0 10) (ih66 : ∀ (m : Mem) (v0 : Nat) (v1 : Int32) (v2 : Int32) (v3 : Int64) (v5 : Int64) (v7 : Int64) (v9 : Int64) (v11 : Int64), GS s m → ok s v0 10 → nself66 m v0 v1 v2 v3 v5 v7 v9 v11 = some (r, m') → J3 (self66 (bl s m) v0 v1 v2 v3 v5 v7 v9 v11) (r, bl s m') (GS s m')) (ih72 : ∀ (m : Mem) (v0 : Nat) (v1 : Int32) (v2 : Int32) (v3 : Int64) (v5 : Int64) (v7 : Int64) (v9 : Int64) (v11 : Int64) (v13 : Int64), GS s m → ok s v0 10 → nself72 m v0 v1 v2 v3 v5 v7 v9 v11 v13 = some (r, m') → J3 (self72 (bl s m) v0 v1 v2 v3 v5 v7 v9 v11 v13) (r, bl s m') (GS s m')) (hf : nb_X10_fairest_194 F s nself66 nself72 m v0 v1 v2 v3 v5 v7 v9 v11 v13 v15 s0 = some (r, m')) : J3 (b_X10_fairest_194 F self66 self72 (bl s m) v0 v1 v2 v3 v5 v7 v9 v11 v13 v15 s0) (r, bl s m') (GS s m') := by
  unfold nb_X10_fairest_194 at hf
  unfold b_X10_fairest_194
  refine k_if hf (fun hf => ?_) (fun hf => ?_)
  · exact u_X10_fairest_235 hw o_v0 ih66 ih72 hf
  · refine k_if hf (fun hf => ?_) (fun hf => ?_)
    · refine k_pure hf fun x1 hf => ?_
      refine k_if hf (fun hf => ?_) (fun hf => ?_)
      · exact u_X10_fairest_223 hw o_v0 ih66 ih72 hf
      · exact u_X10_fairest_235 hw o_v0 ih66 ih72 hf
    · exact u_X10_fairest_223 hw o_v0 ih66 ih72 hf
def nb_X10_fairest_127 (F : Nat) (s : List Sh) (nself66 : Mem → Nat → Int32 → Int32 → Int64 → Int64 → Int64 → Int64 → Int64 → Option (Int64 × Mem)) (nself72 : Mem → Nat → Int32 → Int32 → Int64 → Int64 → Int64 → Int64 → Int64 → Int64 → Option (Int64 × Mem)) (m : Mem) (v0 : Nat) (v1 : Int32) (v2 : Int32) (v3 : Int64) (v5 : Int64) (v7 : Int64) (v9 : Int64) (v11 : Int64) (v13 : Int64) : Option (Int64 × Mem) := (m.2.2 v0 1).bind fun a1 => ((rdI s m a1 (1 : Int32)).bind fun x2 => (if (((Int32.toInt64 x2) * v11)) < v13 then (bindv ((v11 + (1 : Int64))) fun x3 => (nself66 m v0 v1 v2 v3 v5 v7 v9 x3)) else ((m_X10_common 130 v13 v11).bind fun x4 => (if x4 = (1 : Int64) then ((n_X10_farOf F s m v0 v1 v13 v11 v3).bind fun x5 => (if v5 = (-1 : Int64) then (nb_X10_fairest_194 F s nself66 nself72 m v0 v1 v2 v3 v5 v7 v9 v11 v13 x5 (-1 : Int32)) else ((m_X10_against x5 v11 v9 v7).bind fun x6 => (nb_X10_fairest_194 F s nself66 nself72 m v0 v1 v2 v3 v5 v7 v9 v11 v13 x5 x6)))) else (nb_X10_fairest_235 F s nself66 nself72 m v0 v1 v2 v3 v5 v7 v9 v11 v13)))))
set_option maxRecDepth 20000 in
theorem ub_X10_fairest_127 {F : Nat} {s : List Sh} {self66 : PH → Nat → Int32 → Int32 → Int64 → Int64 → Int64 → Int64 → Int64 → Option (Int64 × PH)} {nself66 : Mem → Nat → Int32 → Int32 → Int64 → Int64 → Int64 → Int64 → Int64 → Option (Int64 × Mem)} {self72 : PH → Nat → Int32 → Int32 → Int64 → Int64 → Int64 → Int64 → Int64 → Int64 → Option (Int64 × PH)} {nself72 : Mem → Nat → Int32 → Int32 → Int64 → Int64 → Int64 → Int64 → Int64 → Int64 → Option (Int64 × Mem)} {m m' : Mem} {r : Int64} {v0 : Nat} {v1 : Int32} {v2 : Int32} {v3 : Int64} {v5 : Int64} {v7 : Int64} {v9 : Int64} {v11 : Int64} {v13 : Int64} (hw : GS s m) (o_v0 : ok s v0 10) (ih66 : ∀ (m : Mem) (v0 : Nat) (v1 : Int32) (v2 : Int32) (v3 : Int64) (v5 : Int64) (v7 : Int64) (v9 : Int64) (v11 : Int64), GS s m → ok s v0 10 → nself66 m v0 v1 v2 v3 v5 v7 v9 v11 = some (r, m') → J3 (self66 (bl s m) v0 v1 v2 v3 v5 v7 v9 v11) (r, bl s m') (GS s m')) (ih72 : ∀ (m : Mem) (v0 : Nat) (v1 : Int32) (v2 : Int32) (v3 : Int64) (v5 : Int64) (v7 : Int64) (v9 : Int64) (v11 : Int64) (v13 : Int64), GS s m → ok s v0 10 → nself72 m v0 v1 v2 v3 v5 v7 v9 v11 v13 = some (r, m') → J3 (self72 (bl s m) v0 v1 v2 v3 v5 v7 v9 v11 v13) (r, bl s m') (GS s m')) (hf : nb_X10_fairest_127 F s nself66 nself72 m v0 v1 v2 v3 v5 v7 v9 v11 v13 = some (r, m')) : J3 (b_X10_fairest_127 F self66 self72 (bl s m) v0 v1 v2 v3 v5 v7 v9 v11 v13) (r, bl s m') (GS s m') := by
  unfold nb_X10_fairest_127 at hf
  unfold b_X10_fairest_127
  refine k_gR hw (ok_o o_v0 (by decide)) rfl hf fun a1 o_a1 hf => ?_
  refine k_aI (Or.inl rfl) (ka rfl o_a1) hf fun x2 hf => ?_
  refine k_if hf (fun hf => ?_) (fun hf => ?_)
  · refine k_bv hf fun x3 hf => ?_
    exact ih66 _ _ _ _ _ _ _ _ _ hw o_v0 hf
  · refine k_pure hf fun x4 hf => ?_
    refine k_if hf (fun hf => ?_) (fun hf => ?_)
    · refine k_cO (ok_o o_v0 (by decide)) ?_
      refine ob hf fun x5 ex hf => ?_
      refine k_b1 (un_X10_farOf hw o_v0 ex) ?_
      refine k_if hf (fun hf => ?_) (fun hf => ?_)
      · exact u_X10_fairest_194 hw o_v0 ih66 ih72 hf
      · refine k_pure hf fun x6 hf => ?_
        exact u_X10_fairest_194 hw o_v0 ih66 ih72 hf
    · exact u_X10_fairest_235 hw o_v0 ih66 ih72 hf
def nl_X10_fairest_127 (F : Nat) (s : List Sh) (nself66 : Mem → Nat → Int32 → Int32 → Int64 → Int64 → Int64 → Int64 → Int64 → Option (Int64 × Mem)) : Nat → Mem → Nat → Int32 → Int32 → Int64 → Int64 → Int64 → Int64 → Int64 → Int64 → Option (Int64 × Mem)
  | 0 => fun _ _ _ _ _ _ _ _ _ _ => none
  | n + 1 => fun m v0 v1 v2 v3 v5 v7 v9 v11 v13 => nb_X10_fairest_127 F s nself66 (nl_X10_fairest_127 F s nself66 n) m v0 v1 v2 v3 v5 v7 v9 v11 v13
theorem ul_X10_fairest_127 {F : Nat} {s : List Sh} {self66 : PH → Nat → Int32 → Int32 → Int64 → Int64 → Int64 → Int64 → Int64 → Option (Int64 × PH)} {nself66 : Mem → Nat → Int32 → Int32 → Int64 → Int64 → Int64 → Int64 → Int64 → Option (Int64 × Mem)} {m' : Mem} {r : Int64} (ih66 : ∀ (m : Mem) (v0 : Nat) (v1 : Int32) (v2 : Int32) (v3 : Int64) (v5 : Int64) (v7 : Int64) (v9 : Int64) (v11 : Int64), GS s m → ok s v0 10 → nself66 m v0 v1 v2 v3 v5 v7 v9 v11 = some (r, m') → J3 (self66 (bl s m) v0 v1 v2 v3 v5 v7 v9 v11) (r, bl s m') (GS s m')) (n : Nat) : ∀ (m : Mem) (v0 : Nat) (v1 : Int32) (v2 : Int32) (v3 : Int64) (v5 : Int64) (v7 : Int64) (v9 : Int64) (v11 : Int64) (v13 : Int64), GS s m → ok s v0 10 → nl_X10_fairest_127 F s nself66 n m v0 v1 v2 v3 v5 v7 v9 v11 v13 = some (r, m') → J3 (l_X10_fairest_127 F self66 n (bl s m) v0 v1 v2 v3 v5 v7 v9 v11 v13) (r, bl s m') (GS s m') := by
  induction n with
  | zero => intro m v0 v1 v2 v3 v5 v7 v9 v11 v13 hw o_v0 hf; cases hf
  | succ n ih => intro m v0 v1 v2 v3 v5 v7 v9 v11 v13 hw o_v0 hf; exact ub_X10_fairest_127 (F := F) hw o_v0 ih66 ih hf
def nb_X10_fairest_115 (F : Nat) (s : List Sh) (nself66 : Mem → Nat → Int32 → Int32 → Int64 → Int64 → Int64 → Int64 → Int64 → Option (Int64 × Mem)) (m : Mem) (v0 : Nat) (v1 : Int32) (v2 : Int32) (v3 : Int64) (v5 : Int64) (v7 : Int64) (v9 : Int64) (v11 : Int64) : Option (Int64 × Mem) := if (12 : Int64) < v11 then (if (2 : Int32) ≤ v2 then (bind2 (n_X10_lays s m v0 v9 (v7 * v3)) fun _ m2 => (if v2 = (2 : Int32) then (some ((m2.2.1 v0 15), m2)) else (some ((m2.2.1 v0 16), m2)))) else (if v2 = 0 then (some (v5, m)) else (some (v7, m)))) else (nl_X10_fairest_127 F s nself66 F m v0 v1 v2 v3 v5 v7 v9 v11 (0 : Int64))
set_option maxRecDepth 20000 in
theorem ub_X10_fairest_115 {F : Nat} {s : List Sh} {self66 : PH → Nat → Int32 → Int32 → Int64 → Int64 → Int64 → Int64 → Int64 → Option (Int64 × PH)} {nself66 : Mem → Nat → Int32 → Int32 → Int64 → Int64 → Int64 → Int64 → Int64 → Option (Int64 × Mem)} {m m' : Mem} {r : Int64} {v0 : Nat} {v1 : Int32} {v2 : Int32} {v3 : Int64} {v5 : Int64} {v7 : Int64} {v9 : Int64} {v11 : Int64} (hw : GS s m) (o_v0 : ok s v0 10) (ih66 : ∀ (m : Mem) (v0 : Nat) (v1 : Int32) (v2 : Int32) (v3 : Int64) (v5 : Int64) (v7 : Int64) (v9 : Int64) (v11 : Int64), GS s m → ok s v0 10 → nself66 m v0 v1 v2 v3 v5 v7 v9 v11 = some (r, m') → J3 (self66 (bl s m) v0 v1 v2 v3 v5 v7 v9 v11) (r, bl s m') (GS s m')) (hf : nb_X10_fairest_115 F s nself66 m v0 v1 v2 v3 v5 v7 v9 v11 = some (r, m')) : J3 (b_X10_fairest_115 F self66 (bl s m) v0 v1 v2 v3 v5 v7 v9 v11) (r, bl s m') (GS s m') := by
  unfold nb_X10_fairest_115 at hf
  unfold b_X10_fairest_115
  refine k_if hf (fun hf => ?_) (fun hf => ?_)
  · refine k_if hf (fun hf => ?_) (fun hf => ?_)
    · refine k_cO (ok_o o_v0 (by decide)) ?_
      refine ob2 hf fun u m2 ex hf => ?_
      refine k_b2 (un_X10_lays hw o_v0 ex) fun hw => ?_
      refine k_if hf (fun hf => ?_) (fun hf => ?_)
      · refine k_gL (ok_o o_v0 (by decide)) rfl ?_
        exact k_ret hw hf
      · refine k_gL (ok_o o_v0 (by decide)) rfl ?_
        exact k_ret hw hf
    · refine k_if hf (fun hf => ?_) (fun hf => ?_)
      · exact k_ret hw hf
      · exact k_ret hw hf
  · exact ul_X10_fairest_127 ih66 F _ _ _ _ _ _ _ _ _ _ hw o_v0 hf
def nl_X10_fairest_115 (F : Nat) (s : List Sh) : Nat → Mem → Nat → Int32 → Int32 → Int64 → Int64 → Int64 → Int64 → Int64 → Option (Int64 × Mem)
  | 0 => fun _ _ _ _ _ _ _ _ _ => none
  | n + 1 => fun m v0 v1 v2 v3 v5 v7 v9 v11 => nb_X10_fairest_115 F s (nl_X10_fairest_115 F s n) m v0 v1 v2 v3 v5 v7 v9 v11
theorem ul_X10_fairest_115 {F : Nat} {s : List Sh} {m' : Mem} {r : Int64} (n : Nat) : ∀ (m : Mem) (v0 : Nat) (v1 : Int32) (v2 : Int32) (v3 : Int64) (v5 : Int64) (v7 : Int64) (v9 : Int64) (v11 : Int64), GS s m → ok s v0 10 → nl_X10_fairest_115 F s n m v0 v1 v2 v3 v5 v7 v9 v11 = some (r, m') → J3 (l_X10_fairest_115 F n (bl s m) v0 v1 v2 v3 v5 v7 v9 v11) (r, bl s m') (GS s m') := by
  induction n with
  | zero => intro m v0 v1 v2 v3 v5 v7 v9 v11 hw o_v0 hf; cases hf
  | succ n ih => intro m v0 v1 v2 v3 v5 v7 v9 v11 hw o_v0 hf; exact ub_X10_fairest_115 (F := F) hw o_v0 ih hf
def nb_X10_fairest_48 (F : Nat) (s : List Sh) (nself27 : Mem → Nat → Int32 → Int32 → Int64 → Int32 → Option (Int64 × Mem)) (m : Mem) (v0 : Nat) (v1 : Int32) (v2 : Int32) (v3 : Int64) (v5 : Int32) : Option (Int64 × Mem) := (m.2.2 v0 1).bind fun a1 => ((rdI s m a1 (4 : Int32)).bind fun x2 => (if x2 ≤ v5 then (nl_X10_fairest_115 F s F m v0 v1 v2 v3 (-1 : Int64) (1 : Int64) (0 : Int64) (1 : Int64)) else (if v5 = v1 then (nb_X10_fairest_95 F s nself27 m v0 v1 v2 v3 v5) else ((m.2.2 v0 1).bind fun a3 => ((rdI s m a3 (((55 : Int32) + v5))).bind fun x4 => ((m_X10_common 130 v3 (Int32.toInt64 x4)).bind fun x5 => (if x5 = 0 then none else ((m.2.2 v0 1).bind fun a6 => ((rdI s m a6 (((55 : Int32) + v5))).bind fun x7 => (bindv (((v3 / x5) * (Int32.toInt64 x7))) fun x8 => (nb_X10_fairest_95 F s nself27 m v0 v1 v2 x8 v5)))))))))))
set_option maxRecDepth 20000 in
theorem ub_X10_fairest_48 {F : Nat} {s : List Sh} {self27 : PH → Nat → Int32 → Int32 → Int64 → Int32 → Option (Int64 × PH)} {nself27 : Mem → Nat → Int32 → Int32 → Int64 → Int32 → Option (Int64 × Mem)} {m m' : Mem} {r : Int64} {v0 : Nat} {v1 : Int32} {v2 : Int32} {v3 : Int64} {v5 : Int32} (hw : GS s m) (o_v0 : ok s v0 10) (ih27 : ∀ (m : Mem) (v0 : Nat) (v1 : Int32) (v2 : Int32) (v3 : Int64) (v5 : Int32), GS s m → ok s v0 10 → nself27 m v0 v1 v2 v3 v5 = some (r, m') → J3 (self27 (bl s m) v0 v1 v2 v3 v5) (r, bl s m') (GS s m')) (hf : nb_X10_fairest_48 F s nself27 m v0 v1 v2 v3 v5 = some (r, m')) : J3 (b_X10_fairest_48 F self27 (bl s m) v0 v1 v2 v3 v5) (r, bl s m') (GS s m') := by
  unfold nb_X10_fairest_48 at hf
  unfold b_X10_fairest_48
  refine k_gR hw (ok_o o_v0 (by decide)) rfl hf fun a1 o_a1 hf => ?_
  refine k_aI (Or.inl rfl) (ka rfl o_a1) hf fun x2 hf => ?_
  refine k_if hf (fun hf => ?_) (fun hf => ?_)
  · exact ul_X10_fairest_115 F _ _ _ _ _ _ _ _ _ hw o_v0 hf
  · refine k_if hf (fun hf => ?_) (fun hf => ?_)
    · exact u_X10_fairest_95 hw o_v0 ih27 hf
    · refine k_gR hw (ok_o o_v0 (by decide)) rfl hf fun a3 o_a3 hf => ?_
      refine k_aI (Or.inl rfl) (ka rfl o_a3) hf fun x4 hf => ?_
      refine k_pure hf fun x5 hf => ?_
      refine k_if hf (fun hf => by cases hf) (fun hf => ?_)
      refine k_gR hw (ok_o o_v0 (by decide)) rfl hf fun a6 o_a6 hf => ?_
      refine k_aI (Or.inl rfl) (ka rfl o_a6) hf fun x7 hf => ?_
      refine k_bv hf fun x8 hf => ?_
      exact u_X10_fairest_95 hw o_v0 ih27 hf
def nl_X10_fairest_48 (F : Nat) (s : List Sh) : Nat → Mem → Nat → Int32 → Int32 → Int64 → Int32 → Option (Int64 × Mem)
  | 0 => fun _ _ _ _ _ _ => none
  | n + 1 => fun m v0 v1 v2 v3 v5 => nb_X10_fairest_48 F s (nl_X10_fairest_48 F s n) m v0 v1 v2 v3 v5
theorem ul_X10_fairest_48 {F : Nat} {s : List Sh} {m' : Mem} {r : Int64} (n : Nat) : ∀ (m : Mem) (v0 : Nat) (v1 : Int32) (v2 : Int32) (v3 : Int64) (v5 : Int32), GS s m → ok s v0 10 → nl_X10_fairest_48 F s n m v0 v1 v2 v3 v5 = some (r, m') → J3 (l_X10_fairest_48 F n (bl s m) v0 v1 v2 v3 v5) (r, bl s m') (GS s m') := by
  induction n with
  | zero => intro m v0 v1 v2 v3 v5 hw o_v0 hf; cases hf
  | succ n ih => intro m v0 v1 v2 v3 v5 hw o_v0 hf; exact ub_X10_fairest_48 (F := F) hw o_v0 ih hf
def nb_X10_fairest_0 (F : Nat) (s : List Sh) (m : Mem) (v0 : Nat) (v1 : Int32) (v2 : Int32) : Option (Int64 × Mem) := bindv (wI m v0 0 (0 : Int32)) fun m1 => ((n_X10_isTenant s m1 v0 v1).bind fun x2 => (if x2 = 0 then (some ((-2 : Int64), m1)) else ((m_X10_within (Int32.toInt64 v2) (0 : Int64) (3 : Int64)).bind fun x3 => (if x3 = 0 then (some ((-2 : Int64), m1)) else ((m1.2.2 v0 1).bind fun a4 => ((rdI s m1 a4 (4 : Int32)).bind fun x5 => (if x5 = (1 : Int32) then (some ((-1 : Int64), m1)) else (nl_X10_fairest_48 F s F m1 v0 v1 v2 (1 : Int64) (0 : Int32)))))))))
set_option maxRecDepth 20000 in
theorem u_X10_fairest_0 {F : Nat} {s : List Sh} {m m' : Mem} {r : Int64} {v0 : Nat} {v1 : Int32} {v2 : Int32} (hw : GS s m) (o_v0 : ok s v0 10) (hf : nb_X10_fairest_0 F s m v0 v1 v2 = some (r, m')) : J3 (b_X10_fairest_0 F (bl s m) v0 v1 v2) (r, bl s m') (GS s m') := by
  unfold nb_X10_fairest_0 at hf
  unfold b_X10_fairest_0
  refine k_pI hw (ok_o o_v0 (by decide)) rfl hf fun m1 hw hf => ?_
  refine k_cO (ok_o o_v0 (by decide)) ?_
  refine ob hf fun x2 ex hf => ?_
  refine k_b1 (un_X10_isTenant hw o_v0 ex) ?_
  refine k_if hf (fun hf => ?_) (fun hf => ?_)
  · exact k_ret hw hf
  · refine k_pure hf fun x3 hf => ?_
    refine k_if hf (fun hf => ?_) (fun hf => ?_)
    · exact k_ret hw hf
    · refine k_gR hw (ok_o o_v0 (by decide)) rfl hf fun a4 o_a4 hf => ?_
      refine k_aI (Or.inl rfl) (ka rfl o_a4) hf fun x5 hf => ?_
      refine k_if hf (fun hf => ?_) (fun hf => ?_)
      · exact k_ret hw hf
      · exact ul_X10_fairest_48 F _ _ _ _ _ _ hw o_v0 hf
def n_X10_fairest (F : Nat) (s : List Sh) (m : Mem) (p0 : Nat) (p1 : Int32) (p2 : Int32) : Option (Int64 × Mem) := nb_X10_fairest_0 F s m p0 p1 p2
theorem un_X10_fairest {F : Nat} {s : List Sh} {m m' : Mem} {p0 : Nat} {p1 : Int32} {p2 : Int32} {r : Int64} (hw : GS s m) (o_p0 : ok s p0 10) (ex : n_X10_fairest F s m p0 p1 p2 = some (r, m')) : J3 (m_X10_fairest F (bl s m) p0 p1 p2) (r, bl s m') (GS s m') := u_X10_fairest_0 hw o_p0 ex
/-! FractionLiftModel.richest()I over the memory -/
def nb_X10_richest_71 (F : Nat) (s : List Sh) (nself11 : Mem → Nat → Int32 → Int64 → Int64 → Int32 → Option (Int32 × Mem)) (m : Mem) (v0 : Nat) (v1 : Int32) (v2 : Int64) (v4 : Int64) (v6 : Int32) : Option (Int32 × Mem) := bindv (v6 + (1)) fun x1 => (nself11 m v0 v1 v2 v4 x1)
set_option maxRecDepth 20000 in
theorem u_X10_richest_71 {F : Nat} {s : List Sh} {self11 : PH → Nat → Int32 → Int64 → Int64 → Int32 → Option (Int32 × PH)} {nself11 : Mem → Nat → Int32 → Int64 → Int64 → Int32 → Option (Int32 × Mem)} {m m' : Mem} {r : Int32} {v0 : Nat} {v1 : Int32} {v2 : Int64} {v4 : Int64} {v6 : Int32} (hw : GS s m) (o_v0 : ok s v0 10) (ih11 : ∀ (m : Mem) (v0 : Nat) (v1 : Int32) (v2 : Int64) (v4 : Int64) (v6 : Int32), GS s m → ok s v0 10 → nself11 m v0 v1 v2 v4 v6 = some (r, m') → J3 (self11 (bl s m) v0 v1 v2 v4 v6) (r, bl s m') (GS s m')) (hf : nb_X10_richest_71 F s nself11 m v0 v1 v2 v4 v6 = some (r, m')) : J3 (b_X10_richest_71 F self11 (bl s m) v0 v1 v2 v4 v6) (r, bl s m') (GS s m') := by
  unfold nb_X10_richest_71 at hf
  unfold b_X10_richest_71
  refine k_bv hf fun x1 hf => ?_
  exact ih11 _ _ _ _ _ _ hw o_v0 hf
def nb_X10_richest_57 (F : Nat) (s : List Sh) (nself11 : Mem → Nat → Int32 → Int64 → Int64 → Int32 → Option (Int32 × Mem)) (m : Mem) (v0 : Nat) (v6 : Int32) : Option (Int32 × Mem) := nb_X10_richest_71 F s nself11 m v0 v6 (m.2.1 v0 15) (m.2.1 v0 16) v6
set_option maxRecDepth 20000 in
theorem u_X10_richest_57 {F : Nat} {s : List Sh} {self11 : PH → Nat → Int32 → Int64 → Int64 → Int32 → Option (Int32 × PH)} {nself11 : Mem → Nat → Int32 → Int64 → Int64 → Int32 → Option (Int32 × Mem)} {m m' : Mem} {r : Int32} {v0 : Nat} {v6 : Int32} (hw : GS s m) (o_v0 : ok s v0 10) (ih11 : ∀ (m : Mem) (v0 : Nat) (v1 : Int32) (v2 : Int64) (v4 : Int64) (v6 : Int32), GS s m → ok s v0 10 → nself11 m v0 v1 v2 v4 v6 = some (r, m') → J3 (self11 (bl s m) v0 v1 v2 v4 v6) (r, bl s m') (GS s m')) (hf : nb_X10_richest_57 F s nself11 m v0 v6 = some (r, m')) : J3 (b_X10_richest_57 F self11 (bl s m) v0 v6) (r, bl s m') (GS s m') := by
  unfold nb_X10_richest_57 at hf
  unfold b_X10_richest_57
  refine k_gL (ok_o o_v0 (by decide)) rfl ?_
  refine k_gL (ok_o o_v0 (by decide)) rfl ?_
  exact u_X10_richest_71 hw o_v0 ih11 hf
def nb_X10_richest_15 (F : Nat) (s : List Sh) (nself11 : Mem → Nat → Int32 → Int64 → Int64 → Int32 → Option (Int32 × Mem)) (m : Mem) (v0 : Nat) (v1 : Int32) (v2 : Int64) (v4 : Int64) (v6 : Int32) : Option (Int32 × Mem) := (m.2.2 v0 1).bind fun a1 => ((rdI s m a1 (4 : Int32)).bind fun x2 => (if x2 ≤ v6 then (some (v1, m)) else (bind2 (n_X10_laysRent F s m v0 v6) fun _ m4 => (if v1 = (-1 : Int32) then (nb_X10_richest_57 F s nself11 m4 v0 v6) else ((m_X10_against (m4.2.1 v0 15) (m4.2.1 v0 16) v2 v4).bind fun x5 => (if 0 < x5 then (nb_X10_richest_57 F s nself11 m4 v0 v6) else (nb_X10_richest_71 F s nself11 m4 v0 v1 v2 v4 v6)))))))
set_option maxRecDepth 20000 in
theorem ub_X10_richest_15 {F : Nat} {s : List Sh} {self11 : PH → Nat → Int32 → Int64 → Int64 → Int32 → Option (Int32 × PH)} {nself11 : Mem → Nat → Int32 → Int64 → Int64 → Int32 → Option (Int32 × Mem)} {m m' : Mem} {r : Int32} {v0 : Nat} {v1 : Int32} {v2 : Int64} {v4 : Int64} {v6 : Int32} (hw : GS s m) (o_v0 : ok s v0 10) (ih11 : ∀ (m : Mem) (v0 : Nat) (v1 : Int32) (v2 : Int64) (v4 : Int64) (v6 : Int32), GS s m → ok s v0 10 → nself11 m v0 v1 v2 v4 v6 = some (r, m') → J3 (self11 (bl s m) v0 v1 v2 v4 v6) (r, bl s m') (GS s m')) (hf : nb_X10_richest_15 F s nself11 m v0 v1 v2 v4 v6 = some (r, m')) : J3 (b_X10_richest_15 F self11 (bl s m) v0 v1 v2 v4 v6) (r, bl s m') (GS s m') := by
  unfold nb_X10_richest_15 at hf
  unfold b_X10_richest_15
  refine k_gR hw (ok_o o_v0 (by decide)) rfl hf fun a1 o_a1 hf => ?_
  refine k_aI (Or.inl rfl) (ka rfl o_a1) hf fun x2 hf => ?_
  refine k_if hf (fun hf => ?_) (fun hf => ?_)
  · exact k_ret hw hf
  · refine k_cO (ok_o o_v0 (by decide)) ?_
    refine ob2 hf fun u m4 ex hf => ?_
    refine k_b2 (un_X10_laysRent hw o_v0 ex) fun hw => ?_
    refine k_if hf (fun hf => ?_) (fun hf => ?_)
    · exact u_X10_richest_57 hw o_v0 ih11 hf
    · refine k_gL (ok_o o_v0 (by decide)) rfl ?_
      refine k_gL (ok_o o_v0 (by decide)) rfl ?_
      refine k_pure hf fun x5 hf => ?_
      refine k_if hf (fun hf => ?_) (fun hf => ?_)
      · exact u_X10_richest_57 hw o_v0 ih11 hf
      · exact u_X10_richest_71 hw o_v0 ih11 hf
def nl_X10_richest_15 (F : Nat) (s : List Sh) : Nat → Mem → Nat → Int32 → Int64 → Int64 → Int32 → Option (Int32 × Mem)
  | 0 => fun _ _ _ _ _ _ => none
  | n + 1 => fun m v0 v1 v2 v4 v6 => nb_X10_richest_15 F s (nl_X10_richest_15 F s n) m v0 v1 v2 v4 v6
theorem ul_X10_richest_15 {F : Nat} {s : List Sh} {m' : Mem} {r : Int32} (n : Nat) : ∀ (m : Mem) (v0 : Nat) (v1 : Int32) (v2 : Int64) (v4 : Int64) (v6 : Int32), GS s m → ok s v0 10 → nl_X10_richest_15 F s n m v0 v1 v2 v4 v6 = some (r, m') → J3 (l_X10_richest_15 F n (bl s m) v0 v1 v2 v4 v6) (r, bl s m') (GS s m') := by
  induction n with
  | zero => intro m v0 v1 v2 v4 v6 hw o_v0 hf; cases hf
  | succ n ih => intro m v0 v1 v2 v4 v6 hw o_v0 hf; exact ub_X10_richest_15 (F := F) hw o_v0 ih hf
def nb_X10_richest_0 (F : Nat) (s : List Sh) (m : Mem) (v0 : Nat) : Option (Int32 × Mem) := bindv (wI m v0 0 (0 : Int32)) fun m1 => (nl_X10_richest_15 F s F m1 v0 (-1 : Int32) (0 : Int64) (1 : Int64) (0 : Int32))
set_option maxRecDepth 20000 in
theorem u_X10_richest_0 {F : Nat} {s : List Sh} {m m' : Mem} {r : Int32} {v0 : Nat} (hw : GS s m) (o_v0 : ok s v0 10) (hf : nb_X10_richest_0 F s m v0 = some (r, m')) : J3 (b_X10_richest_0 F (bl s m) v0) (r, bl s m') (GS s m') := by
  unfold nb_X10_richest_0 at hf
  unfold b_X10_richest_0
  refine k_pI hw (ok_o o_v0 (by decide)) rfl hf fun m1 hw hf => ?_
  exact ul_X10_richest_15 F _ _ _ _ _ _ hw o_v0 hf
def n_X10_richest (F : Nat) (s : List Sh) (m : Mem) (p0 : Nat) : Option (Int32 × Mem) := nb_X10_richest_0 F s m p0
theorem un_X10_richest {F : Nat} {s : List Sh} {m m' : Mem} {p0 : Nat} {r : Int32} (hw : GS s m) (o_p0 : ok s p0 10) (ex : n_X10_richest F s m p0 = some (r, m')) : J3 (m_X10_richest F (bl s m) p0) (r, bl s m') (GS s m') := u_X10_richest_0 hw o_p0 ex
/-! FractionLiftModel.goesFit(IIJJ)V over the memory -/
def nb_X10_goesFit_211 (nrc : Mem → Nat → Int32 → Int32 → Int64 → Int64 → Option (Unit × Mem)) (F : Nat) (s : List Sh) (nself64 : Mem → Nat → Int32 → Int32 → Int64 → Int64 → Int64 → Int32 → Option (Unit × Mem)) (m : Mem) (v0 : Nat) (v1 : Int32) (v2 : Int32) (v3 : Int64) (v5 : Int64) (v7 : Int64) (v9 : Int32) : Option (Unit × Mem) := bindv (v9 + (1)) fun x1 => (nself64 m v0 v1 v2 v3 v5 v7 x1)
set_option maxRecDepth 20000 in
theorem u_X10_goesFit_211 {rc : PH → Nat → Int32 → Int32 → Int64 → Int64 → Option (Unit × PH)} {nrc : Mem → Nat → Int32 → Int32 → Int64 → Int64 → Option (Unit × Mem)} {F : Nat} {s : List Sh} {self64 : PH → Nat → Int32 → Int32 → Int64 → Int64 → Int64 → Int32 → Option (Unit × PH)} {nself64 : Mem → Nat → Int32 → Int32 → Int64 → Int64 → Int64 → Int32 → Option (Unit × Mem)} {m m' : Mem} {r : Unit} {v0 : Nat} {v1 : Int32} {v2 : Int32} {v3 : Int64} {v5 : Int64} {v7 : Int64} {v9 : Int32} (hw : GS s m) (o_v0 : ok s v0 10) (hrc : ∀ {m m' : Mem} {p0 : Nat} {p1 : Int32} {p2 : Int32} {p3 : Int64} {p5 : Int64} {r : Unit}, GS s m → ok s p0 10 → nrc m p0 p1 p2 p3 p5 = some (r, m') → J3 (rc (bl s m) p0 p1 p2 p3 p5) (r, bl s m') (GS s m')) (ih64 : ∀ (m : Mem) (v0 : Nat) (v1 : Int32) (v2 : Int32) (v3 : Int64) (v5 : Int64) (v7 : Int64) (v9 : Int32), GS s m → ok s v0 10 → nself64 m v0 v1 v2 v3 v5 v7 v9 = some (r, m') → J3 (self64 (bl s m) v0 v1 v2 v3 v5 v7 v9) (r, bl s m') (GS s m')) (hf : nb_X10_goesFit_211 nrc F s nself64 m v0 v1 v2 v3 v5 v7 v9 = some (r, m')) : J3 (b_X10_goesFit_211 rc F self64 (bl s m) v0 v1 v2 v3 v5 v7 v9) (r, bl s m') (GS s m') := by
  unfold nb_X10_goesFit_211 at hf
  unfold b_X10_goesFit_211
  refine k_bv hf fun x1 hf => ?_
  exact ih64 _ _ _ _ _ _ _ _ hw o_v0 hf
def nb_X10_goesFit_187 (nrc : Mem → Nat → Int32 → Int32 → Int64 → Int64 → Option (Unit × Mem)) (F : Nat) (s : List Sh) (nself64 : Mem → Nat → Int32 → Int32 → Int64 → Int64 → Int64 → Int32 → Option (Unit × Mem)) (m : Mem) (v0 : Nat) (v1 : Int32) (v2 : Int32) (v3 : Int64) (v5 : Int64) (v7 : Int64) (v9 : Int32) : Option (Unit × Mem) := (m.2.2 v0 43).bind fun a1 => ((stI s m a1 v2 v9).bind fun m2 => (bind2 (nrc m2 v0 v1 ((v2 + (1 : Int32))) (m2.2.1 v0 15) (m2.2.1 v0 16)) fun _ m4 => (nb_X10_goesFit_211 nrc F s nself64 m4 v0 v1 v2 v3 v5 v7 v9)))
set_option maxRecDepth 20000 in
theorem u_X10_goesFit_187 {rc : PH → Nat → Int32 → Int32 → Int64 → Int64 → Option (Unit × PH)} {nrc : Mem → Nat → Int32 → Int32 → Int64 → Int64 → Option (Unit × Mem)} {F : Nat} {s : List Sh} {self64 : PH → Nat → Int32 → Int32 → Int64 → Int64 → Int64 → Int32 → Option (Unit × PH)} {nself64 : Mem → Nat → Int32 → Int32 → Int64 → Int64 → Int64 → Int32 → Option (Unit × Mem)} {m m' : Mem} {r : Unit} {v0 : Nat} {v1 : Int32} {v2 : Int32} {v3 : Int64} {v5 : Int64} {v7 : Int64} {v9 : Int32} (hw : GS s m) (o_v0 : ok s v0 10) (hrc : ∀ {m m' : Mem} {p0 : Nat} {p1 : Int32} {p2 : Int32} {p3 : Int64} {p5 : Int64} {r : Unit}, GS s m → ok s p0 10 → nrc m p0 p1 p2 p3 p5 = some (r, m') → J3 (rc (bl s m) p0 p1 p2 p3 p5) (r, bl s m') (GS s m')) (ih64 : ∀ (m : Mem) (v0 : Nat) (v1 : Int32) (v2 : Int32) (v3 : Int64) (v5 : Int64) (v7 : Int64) (v9 : Int32), GS s m → ok s v0 10 → nself64 m v0 v1 v2 v3 v5 v7 v9 = some (r, m') → J3 (self64 (bl s m) v0 v1 v2 v3 v5 v7 v9) (r, bl s m') (GS s m')) (hf : nb_X10_goesFit_187 nrc F s nself64 m v0 v1 v2 v3 v5 v7 v9 = some (r, m')) : J3 (b_X10_goesFit_187 rc F self64 (bl s m) v0 v1 v2 v3 v5 v7 v9) (r, bl s m') (GS s m') := by
  unfold nb_X10_goesFit_187 at hf
  unfold b_X10_goesFit_187
  refine k_gR hw (ok_o o_v0 (by decide)) rfl hf fun a1 o_a1 hf => ?_
  refine k_sI hw (ka rfl o_a1) hf fun m2 hw hf => ?_
  refine k_gL (ok_o o_v0 (by decide)) rfl ?_
  refine k_gL (ok_o o_v0 (by decide)) rfl ?_
  refine k_cO (ok_o o_v0 (by decide)) ?_
  refine ob2 hf fun u m4 ex hf => ?_
  refine k_b2 (hrc hw o_v0 ex) fun hw => ?_
  exact u_X10_goesFit_211 hw o_v0 hrc ih64 hf
def nb_X10_goesFit_109 (nrc : Mem → Nat → Int32 → Int32 → Int64 → Int64 → Option (Unit × Mem)) (F : Nat) (s : List Sh) (nself64 : Mem → Nat → Int32 → Int32 → Int64 → Int64 → Int64 → Int32 → Option (Unit × Mem)) (m : Mem) (v0 : Nat) (v1 : Int32) (v2 : Int32) (v3 : Int64) (v5 : Int64) (v7 : Int64) (v9 : Int32) : Option (Unit × Mem) := (m.2.2 v0 1).bind fun a1 => ((rdI s m a1 (2 : Int32)).bind fun x2 => (if x2 ≤ v9 then (some ((), m)) else (bind2 (n_X10_leadsFrom F s m v0 v9 v3 v5) fun x3 m4 => (if x3 = 0 then (if v7 = (-1 : Int64) then (nb_X10_goesFit_187 nrc F s nself64 m4 v0 v1 v2 v3 v5 v7 v9) else ((m4.2.2 v0 1).bind fun a5 => ((rdI s m4 a5 (((9 : Int32) + (Int64.toInt32 v7)))).bind fun x6 => (if (Int32.toInt64 x6) = (m4.2.1 v0 15) then ((m4.2.2 v0 1).bind fun a7 => ((rdI s m4 a7 (((17 : Int32) + (Int64.toInt32 v7)))).bind fun x8 => (if (Int32.toInt64 x8) = (m4.2.1 v0 16) then (nb_X10_goesFit_187 nrc F s nself64 m4 v0 v1 v2 v3 v5 v7 v9) else (nb_X10_goesFit_211 nrc F s nself64 m4 v0 v1 v2 v3 v5 v7 v9)))) else (nb_X10_goesFit_211 nrc F s nself64 m4 v0 v1 v2 v3 v5 v7 v9))))) else (nb_X10_goesFit_211 nrc F s nself64 m4 v0 v1 v2 v3 v5 v7 v9)))))
set_option maxRecDepth 20000 in
theorem ub_X10_goesFit_109 {rc : PH → Nat → Int32 → Int32 → Int64 → Int64 → Option (Unit × PH)} {nrc : Mem → Nat → Int32 → Int32 → Int64 → Int64 → Option (Unit × Mem)} {F : Nat} {s : List Sh} {self64 : PH → Nat → Int32 → Int32 → Int64 → Int64 → Int64 → Int32 → Option (Unit × PH)} {nself64 : Mem → Nat → Int32 → Int32 → Int64 → Int64 → Int64 → Int32 → Option (Unit × Mem)} {m m' : Mem} {r : Unit} {v0 : Nat} {v1 : Int32} {v2 : Int32} {v3 : Int64} {v5 : Int64} {v7 : Int64} {v9 : Int32} (hw : GS s m) (o_v0 : ok s v0 10) (hrc : ∀ {m m' : Mem} {p0 : Nat} {p1 : Int32} {p2 : Int32} {p3 : Int64} {p5 : Int64} {r : Unit}, GS s m → ok s p0 10 → nrc m p0 p1 p2 p3 p5 = some (r, m') → J3 (rc (bl s m) p0 p1 p2 p3 p5) (r, bl s m') (GS s m')) (ih64 : ∀ (m : Mem) (v0 : Nat) (v1 : Int32) (v2 : Int32) (v3 : Int64) (v5 : Int64) (v7 : Int64) (v9 : Int32), GS s m → ok s v0 10 → nself64 m v0 v1 v2 v3 v5 v7 v9 = some (r, m') → J3 (self64 (bl s m) v0 v1 v2 v3 v5 v7 v9) (r, bl s m') (GS s m')) (hf : nb_X10_goesFit_109 nrc F s nself64 m v0 v1 v2 v3 v5 v7 v9 = some (r, m')) : J3 (b_X10_goesFit_109 rc F self64 (bl s m) v0 v1 v2 v3 v5 v7 v9) (r, bl s m') (GS s m') := by
  unfold nb_X10_goesFit_109 at hf
  unfold b_X10_goesFit_109
  refine k_gR hw (ok_o o_v0 (by decide)) rfl hf fun a1 o_a1 hf => ?_
  refine k_aI (Or.inl rfl) (ka rfl o_a1) hf fun x2 hf => ?_
  refine k_if hf (fun hf => ?_) (fun hf => ?_)
  · exact k_ret hw hf
  · refine k_cO (ok_o o_v0 (by decide)) ?_
    refine ob2 hf fun x3 m4 ex hf => ?_
    refine k_b2 (un_X10_leadsFrom hw o_v0 ex) fun hw => ?_
    refine k_if hf (fun hf => ?_) (fun hf => ?_)
    · refine k_if hf (fun hf => ?_) (fun hf => ?_)
      · exact u_X10_goesFit_187 hw o_v0 hrc ih64 hf
      · refine k_gR hw (ok_o o_v0 (by decide)) rfl hf fun a5 o_a5 hf => ?_
        refine k_aI (Or.inl rfl) (ka rfl o_a5) hf fun x6 hf => ?_
        refine k_gL (ok_o o_v0 (by decide)) rfl ?_
        refine k_if hf (fun hf => ?_) (fun hf => ?_)
        · refine k_gR hw (ok_o o_v0 (by decide)) rfl hf fun a7 o_a7 hf => ?_
          refine k_aI (Or.inl rfl) (ka rfl o_a7) hf fun x8 hf => ?_
          refine k_gL (ok_o o_v0 (by decide)) rfl ?_
          refine k_if hf (fun hf => ?_) (fun hf => ?_)
          · exact u_X10_goesFit_187 hw o_v0 hrc ih64 hf
          · exact u_X10_goesFit_211 hw o_v0 hrc ih64 hf
        · exact u_X10_goesFit_211 hw o_v0 hrc ih64 hf
    · exact u_X10_goesFit_211 hw o_v0 hrc ih64 hf
def nl_X10_goesFit_109 (nrc : Mem → Nat → Int32 → Int32 → Int64 → Int64 → Option (Unit × Mem)) (F : Nat) (s : List Sh) : Nat → Mem → Nat → Int32 → Int32 → Int64 → Int64 → Int64 → Int32 → Option (Unit × Mem)
  | 0 => fun _ _ _ _ _ _ _ _ => none
  | n + 1 => fun m v0 v1 v2 v3 v5 v7 v9 => nb_X10_goesFit_109 nrc F s (nl_X10_goesFit_109 nrc F s n) m v0 v1 v2 v3 v5 v7 v9
theorem ul_X10_goesFit_109 {rc : PH → Nat → Int32 → Int32 → Int64 → Int64 → Option (Unit × PH)} {nrc : Mem → Nat → Int32 → Int32 → Int64 → Int64 → Option (Unit × Mem)} {F : Nat} {s : List Sh} {m' : Mem} {r : Unit} (hrc : ∀ {m m' : Mem} {p0 : Nat} {p1 : Int32} {p2 : Int32} {p3 : Int64} {p5 : Int64} {r : Unit}, GS s m → ok s p0 10 → nrc m p0 p1 p2 p3 p5 = some (r, m') → J3 (rc (bl s m) p0 p1 p2 p3 p5) (r, bl s m') (GS s m')) (n : Nat) : ∀ (m : Mem) (v0 : Nat) (v1 : Int32) (v2 : Int32) (v3 : Int64) (v5 : Int64) (v7 : Int64) (v9 : Int32), GS s m → ok s v0 10 → nl_X10_goesFit_109 nrc F s n m v0 v1 v2 v3 v5 v7 v9 = some (r, m') → J3 (l_X10_goesFit_109 rc F n (bl s m) v0 v1 v2 v3 v5 v7 v9) (r, bl s m') (GS s m') := by
  induction n with
  | zero => intro m v0 v1 v2 v3 v5 v7 v9 hw o_v0 hf; cases hf
  | succ n ih => intro m v0 v1 v2 v3 v5 v7 v9 hw o_v0 hf; exact ub_X10_goesFit_109 (F := F) hw o_v0 hrc ih hf
def nb_X10_goesFit_75 (nrc : Mem → Nat → Int32 → Int32 → Int64 → Int64 → Option (Unit × Mem)) (F : Nat) (s : List Sh) (nself8 : Mem → Nat → Int32 → Int32 → Option (Unit × Mem)) (m : Mem) (v0 : Nat) (v2 : Int32) (v7 : Int32) (s0 : Nat) (s1 : Int32) (s2 : Int32) : Option (Unit × Mem) := (stI s m s0 s1 s2).bind fun m1 => (bindv (v7 + (1)) fun x2 => (nself8 m1 v0 v2 x2))
set_option maxRecDepth 20000 in
theorem u_X10_goesFit_75 {rc : PH → Nat → Int32 → Int32 → Int64 → Int64 → Option (Unit × PH)} {nrc : Mem → Nat → Int32 → Int32 → Int64 → Int64 → Option (Unit × Mem)} {F : Nat} {s : List Sh} {self8 : PH → Nat → Int32 → Int32 → Option (Unit × PH)} {nself8 : Mem → Nat → Int32 → Int32 → Option (Unit × Mem)} {m m' : Mem} {r : Unit} {v0 : Nat} {v2 : Int32} {v7 : Int32} {s0 : Nat} {s1 : Int32} {s2 : Int32} (hw : GS s m) (o_v0 : ok s v0 10) (o_s0 : ok s s0 100) (hrc : ∀ {m m' : Mem} {p0 : Nat} {p1 : Int32} {p2 : Int32} {p3 : Int64} {p5 : Int64} {r : Unit}, GS s m → ok s p0 10 → nrc m p0 p1 p2 p3 p5 = some (r, m') → J3 (rc (bl s m) p0 p1 p2 p3 p5) (r, bl s m') (GS s m')) (ih8 : ∀ (m : Mem) (v0 : Nat) (v2 : Int32) (v7 : Int32), GS s m → ok s v0 10 → nself8 m v0 v2 v7 = some (r, m') → J3 (self8 (bl s m) v0 v2 v7) (r, bl s m') (GS s m')) (hf : nb_X10_goesFit_75 nrc F s nself8 m v0 v2 v7 s0 s1 s2 = some (r, m')) : J3 (b_X10_goesFit_75 rc F self8 (bl s m) v0 v2 v7 s0 s1 s2) (r, bl s m') (GS s m') := by
  unfold nb_X10_goesFit_75 at hf
  unfold b_X10_goesFit_75
  refine k_sI hw (ka rfl o_s0) hf fun m1 hw hf => ?_
  refine k_bv hf fun x2 hf => ?_
  exact ih8 _ _ _ _ hw o_v0 hf
def nb_X10_goesFit_13 (nrc : Mem → Nat → Int32 → Int32 → Int64 → Int64 → Option (Unit × Mem)) (F : Nat) (s : List Sh) (nself8 : Mem → Nat → Int32 → Int32 → Option (Unit × Mem)) (m : Mem) (v0 : Nat) (v2 : Int32) (v7 : Int32) : Option (Unit × Mem) := if v2 ≤ v7 then (bindv (wI m v0 46 (((m.1 v0 46) + (1 : Int32)))) fun m1 => (some ((), m1))) else ((m.2.2 v0 45).bind fun a2 => ((m.2.2 v0 43).bind fun a3 => ((rdI s m a3 v7).bind fun x4 => ((rdI s m a2 (((((6 : Int32) * v7)) + x4))).bind fun x5 => ((stI s m a2 (((((6 : Int32) * v7)) + x4)) ((x5 + (1 : Int32)))).bind fun m6 => ((m6.2.2 v0 44).bind fun a7 => (if (m6.1 v0 46) = (m6.1 v0 47) then ((m6.2.2 v0 43).bind fun a10 => ((rdI s m6 a10 v7).bind fun x11 => (nb_X10_goesFit_75 nrc F s nself8 m6 v0 v2 v7 a7 v7 x11))) else ((m6.2.2 v0 44).bind fun a8 => ((rdI s m6 a8 v7).bind fun x9 => (nb_X10_goesFit_75 nrc F s nself8 m6 v0 v2 v7 a7 v7 x9))))))))))
set_option maxRecDepth 20000 in
theorem ub_X10_goesFit_13 {rc : PH → Nat → Int32 → Int32 → Int64 → Int64 → Option (Unit × PH)} {nrc : Mem → Nat → Int32 → Int32 → Int64 → Int64 → Option (Unit × Mem)} {F : Nat} {s : List Sh} {self8 : PH → Nat → Int32 → Int32 → Option (Unit × PH)} {nself8 : Mem → Nat → Int32 → Int32 → Option (Unit × Mem)} {m m' : Mem} {r : Unit} {v0 : Nat} {v2 : Int32} {v7 : Int32} (hw : GS s m) (o_v0 : ok s v0 10) (hrc : ∀ {m m' : Mem} {p0 : Nat} {p1 : Int32} {p2 : Int32} {p3 : Int64} {p5 : Int64} {r : Unit}, GS s m → ok s p0 10 → nrc m p0 p1 p2 p3 p5 = some (r, m') → J3 (rc (bl s m) p0 p1 p2 p3 p5) (r, bl s m') (GS s m')) (ih8 : ∀ (m : Mem) (v0 : Nat) (v2 : Int32) (v7 : Int32), GS s m → ok s v0 10 → nself8 m v0 v2 v7 = some (r, m') → J3 (self8 (bl s m) v0 v2 v7) (r, bl s m') (GS s m')) (hf : nb_X10_goesFit_13 nrc F s nself8 m v0 v2 v7 = some (r, m')) : J3 (b_X10_goesFit_13 rc F self8 (bl s m) v0 v2 v7) (r, bl s m') (GS s m') := by
  unfold nb_X10_goesFit_13 at hf
  unfold b_X10_goesFit_13
  refine k_if hf (fun hf => ?_) (fun hf => ?_)
  · refine k_gI (ok_o o_v0 (by decide)) rfl ?_
    refine k_pI hw (ok_o o_v0 (by decide)) rfl hf fun m1 hw hf => ?_
    exact k_ret hw hf
  · refine k_gR hw (ok_o o_v0 (by decide)) rfl hf fun a2 o_a2 hf => ?_
    refine k_gR hw (ok_o o_v0 (by decide)) rfl hf fun a3 o_a3 hf => ?_
    refine k_aI (Or.inl rfl) (ka rfl o_a3) hf fun x4 hf => ?_
    refine k_aI (Or.inl rfl) (ka rfl o_a2) hf fun x5 hf => ?_
    refine k_sI hw (ka rfl o_a2) hf fun m6 hw hf => ?_
    refine k_gR hw (ok_o o_v0 (by decide)) rfl hf fun a7 o_a7 hf => ?_
    refine k_gI (ok_o o_v0 (by decide)) rfl ?_
    refine k_gI (ok_o o_v0 (by decide)) rfl ?_
    refine k_if hf (fun hf => ?_) (fun hf => ?_)
    · refine k_gR hw (ok_o o_v0 (by decide)) rfl hf fun a10 o_a10 hf => ?_
      refine k_aI (Or.inl rfl) (ka rfl o_a10) hf fun x11 hf => ?_
      exact u_X10_goesFit_75 hw o_v0 o_a7 hrc ih8 hf
    · refine k_gR hw (ok_o o_v0 (by decide)) rfl hf fun a8 o_a8 hf => ?_
      refine k_aI (Or.inl rfl) (ka rfl o_a8) hf fun x9 hf => ?_
      exact u_X10_goesFit_75 hw o_v0 o_a7 hrc ih8 hf
def nl_X10_goesFit_13 (nrc : Mem → Nat → Int32 → Int32 → Int64 → Int64 → Option (Unit × Mem)) (F : Nat) (s : List Sh) : Nat → Mem → Nat → Int32 → Int32 → Option (Unit × Mem)
  | 0 => fun _ _ _ _ => none
  | n + 1 => fun m v0 v2 v7 => nb_X10_goesFit_13 nrc F s (nl_X10_goesFit_13 nrc F s n) m v0 v2 v7
theorem ul_X10_goesFit_13 {rc : PH → Nat → Int32 → Int32 → Int64 → Int64 → Option (Unit × PH)} {nrc : Mem → Nat → Int32 → Int32 → Int64 → Int64 → Option (Unit × Mem)} {F : Nat} {s : List Sh} {m' : Mem} {r : Unit} (hrc : ∀ {m m' : Mem} {p0 : Nat} {p1 : Int32} {p2 : Int32} {p3 : Int64} {p5 : Int64} {r : Unit}, GS s m → ok s p0 10 → nrc m p0 p1 p2 p3 p5 = some (r, m') → J3 (rc (bl s m) p0 p1 p2 p3 p5) (r, bl s m') (GS s m')) (n : Nat) : ∀ (m : Mem) (v0 : Nat) (v2 : Int32) (v7 : Int32), GS s m → ok s v0 10 → nl_X10_goesFit_13 nrc F s n m v0 v2 v7 = some (r, m') → J3 (l_X10_goesFit_13 rc F n (bl s m) v0 v2 v7) (r, bl s m') (GS s m') := by
  induction n with
  | zero => intro m v0 v2 v7 hw o_v0 hf; cases hf
  | succ n ih => intro m v0 v2 v7 hw o_v0 hf; exact ub_X10_goesFit_13 (F := F) hw o_v0 hrc ih hf
def nb_X10_goesFit_0 (nrc : Mem → Nat → Int32 → Int32 → Int64 → Int64 → Option (Unit × Mem)) (F : Nat) (s : List Sh) (m : Mem) (v0 : Nat) (v1 : Int32) (v2 : Int32) (v3 : Int64) (v5 : Int64) : Option (Unit × Mem) := (m.2.2 v0 53).bind fun a1 => ((rdI s m a1 v1).bind fun x2 => (if v2 = x2 then (nl_X10_goesFit_13 nrc F s F m v0 v2 (0 : Int32)) else ((m.2.2 v0 54).bind fun a3 => ((rdL s m a3 (((((40 : Int32) * v1)) + v2))).bind fun x4 => (nl_X10_goesFit_109 nrc F s F m v0 v1 v2 v3 v5 x4 (0 : Int32))))))
set_option maxRecDepth 20000 in
theorem u_X10_goesFit_0 {rc : PH → Nat → Int32 → Int32 → Int64 → Int64 → Option (Unit × PH)} {nrc : Mem → Nat → Int32 → Int32 → Int64 → Int64 → Option (Unit × Mem)} {F : Nat} {s : List Sh} {m m' : Mem} {r : Unit} {v0 : Nat} {v1 : Int32} {v2 : Int32} {v3 : Int64} {v5 : Int64} (hw : GS s m) (o_v0 : ok s v0 10) (hrc : ∀ {m m' : Mem} {p0 : Nat} {p1 : Int32} {p2 : Int32} {p3 : Int64} {p5 : Int64} {r : Unit}, GS s m → ok s p0 10 → nrc m p0 p1 p2 p3 p5 = some (r, m') → J3 (rc (bl s m) p0 p1 p2 p3 p5) (r, bl s m') (GS s m')) (hf : nb_X10_goesFit_0 nrc F s m v0 v1 v2 v3 v5 = some (r, m')) : J3 (b_X10_goesFit_0 rc F (bl s m) v0 v1 v2 v3 v5) (r, bl s m') (GS s m') := by
  unfold nb_X10_goesFit_0 at hf
  unfold b_X10_goesFit_0
  refine k_gR hw (ok_o o_v0 (by decide)) rfl hf fun a1 o_a1 hf => ?_
  refine k_aI (Or.inl rfl) (ka rfl o_a1) hf fun x2 hf => ?_
  refine k_if hf (fun hf => ?_) (fun hf => ?_)
  · exact ul_X10_goesFit_13 hrc F _ _ _ _ hw o_v0 hf
  · refine k_gR hw (ok_o o_v0 (by decide)) rfl hf fun a3 o_a3 hf => ?_
    refine k_aL (ka rfl o_a3) hf fun x4 hf => ?_
    exact ul_X10_goesFit_109 hrc F _ _ _ _ _ _ _ _ hw o_v0 hf
def ng_X10_goesFit (nrc : Mem → Nat → Int32 → Int32 → Int64 → Int64 → Option (Unit × Mem)) (F : Nat) (s : List Sh) (m : Mem) (p0 : Nat) (p1 : Int32) (p2 : Int32) (p3 : Int64) (p5 : Int64) : Option (Unit × Mem) := nb_X10_goesFit_0 nrc F s m p0 p1 p2 p3 p5
theorem ug_X10_goesFit {rc : PH → Nat → Int32 → Int32 → Int64 → Int64 → Option (Unit × PH)} {nrc : Mem → Nat → Int32 → Int32 → Int64 → Int64 → Option (Unit × Mem)} {F : Nat} {s : List Sh} {m m' : Mem} {p0 : Nat} {p1 : Int32} {p2 : Int32} {p3 : Int64} {p5 : Int64} {r : Unit} (hrc : ∀ {m m' : Mem} {p0 : Nat} {p1 : Int32} {p2 : Int32} {p3 : Int64} {p5 : Int64} {r : Unit}, GS s m → ok s p0 10 → nrc m p0 p1 p2 p3 p5 = some (r, m') → J3 (rc (bl s m) p0 p1 p2 p3 p5) (r, bl s m') (GS s m')) (hw : GS s m) (o_p0 : ok s p0 10) (ex : ng_X10_goesFit nrc F s m p0 p1 p2 p3 p5 = some (r, m')) : J3 (g_X10_goesFit rc F (bl s m) p0 p1 p2 p3 p5) (r, bl s m') (GS s m') := u_X10_goesFit_0 hw o_p0 hrc ex
def nd_X10_goesFit (F : Nat) (s : List Sh) : Nat → Mem → Nat → Int32 → Int32 → Int64 → Int64 → Option (Unit × Mem)
  | 0 => fun _ _ _ _ _ _ => none
  | d + 1 => fun m p0 p1 p2 p3 p5 => ng_X10_goesFit (nd_X10_goesFit F s d) F s m p0 p1 p2 p3 p5
def n_X10_goesFit (F : Nat) (d : Nat) (s : List Sh) (m : Mem) (p0 : Nat) (p1 : Int32) (p2 : Int32) (p3 : Int64) (p5 : Int64) : Option (Unit × Mem) := nd_X10_goesFit F s d m p0 p1 p2 p3 p5
theorem ud_X10_goesFit {F : Nat} {s : List Sh} (d : Nat) : ∀ {m m' : Mem} {p0 : Nat} {p1 : Int32} {p2 : Int32} {p3 : Int64} {p5 : Int64} {r : Unit}, GS s m → ok s p0 10 → nd_X10_goesFit F s d m p0 p1 p2 p3 p5 = some (r, m') → J3 (m_X10_goesFit F d (bl s m) p0 p1 p2 p3 p5) (r, bl s m') (GS s m') := by
  induction d with
  | zero => intro _ _ _ _ _ _ _ _ hw o_p0 hf; cases hf
  | succ d ih => intro _ _ _ _ _ _ _ _ hw o_p0 hf; exact ug_X10_goesFit ih hw o_p0 hf
theorem un_X10_goesFit {F : Nat} {d : Nat} {s : List Sh} {m m' : Mem} {p0 : Nat} {p1 : Int32} {p2 : Int32} {p3 : Int64} {p5 : Int64} {r : Unit} (hw : GS s m) (o_p0 : ok s p0 10) (ex : n_X10_goesFit F d s m p0 p1 p2 p3 p5 = some (r, m')) : J3 (m_X10_goesFit F d (bl s m) p0 p1 p2 p3 p5) (r, bl s m') (GS s m') := ud_X10_goesFit d hw o_p0 ex
/-! FractionLiftModel.laysFits(IIZ)I over the memory -/
def nb_X10_laysFits_71 (F : Nat) (s : List Sh) (nself11 : Mem → Nat → Int32 → Int32 → Int32 → Int32 → Option (Int32 × Mem)) (m : Mem) (v0 : Nat) (v1 : Int32) (v2 : Int32) (v3 : Int32) (v5 : Int32) : Option (Int32 × Mem) := bindv (v5 + (1)) fun x1 => (nself11 m v0 v1 v2 v3 x1)
set_option maxRecDepth 20000 in
theorem u_X10_laysFits_71 {F : Nat} {s : List Sh} {self11 : PH → Nat → Int32 → Int32 → Int32 → Int32 → Option (Int32 × PH)} {nself11 : Mem → Nat → Int32 → Int32 → Int32 → Int32 → Option (Int32 × Mem)} {m m' : Mem} {r : Int32} {v0 : Nat} {v1 : Int32} {v2 : Int32} {v3 : Int32} {v5 : Int32} (hw : GS s m) (o_v0 : ok s v0 10) (ih11 : ∀ (m : Mem) (v0 : Nat) (v1 : Int32) (v2 : Int32) (v3 : Int32) (v5 : Int32), GS s m → ok s v0 10 → nself11 m v0 v1 v2 v3 v5 = some (r, m') → J3 (self11 (bl s m) v0 v1 v2 v3 v5) (r, bl s m') (GS s m')) (hf : nb_X10_laysFits_71 F s nself11 m v0 v1 v2 v3 v5 = some (r, m')) : J3 (b_X10_laysFits_71 F self11 (bl s m) v0 v1 v2 v3 v5) (r, bl s m') (GS s m') := by
  unfold nb_X10_laysFits_71 at hf
  unfold b_X10_laysFits_71
  refine k_bv hf fun x1 hf => ?_
  exact ih11 _ _ _ _ _ _ hw o_v0 hf
def nb_X10_laysFits_135 (F : Nat) (s : List Sh) (nself75 : Mem → Nat → Int32 → Int32 → Int32 → Option (Int32 × Mem)) (m : Mem) (v0 : Nat) (v1 : Int32) (v2 : Int32) (v7 : Int32) : Option (Int32 × Mem) := if (48 : Int32) ≤ v7 then (bindv (wI m v0 46 (0 : Int32)) fun m1 => (bindv (wI m1 v0 47 v2) fun m2 => ((m2.2.2 v0 1).bind fun a3 => ((rdI s m2 a3 (7 : Int32)).bind fun x4 => ((m2.2.2 v0 1).bind fun a5 => ((rdI s m2 a5 (8 : Int32)).bind fun x6 => (bind2 (n_X10_goesFit F 10 s m2 v0 v1 (0 : Int32) (Int32.toInt64 x4) (Int32.toInt64 x6)) fun _ m8 => (some ((0 : Int32), m8))))))))) else ((m.2.2 v0 45).bind fun a9 => ((stI s m a9 v7 (0 : Int32)).bind fun m10 => (bindv (v7 + (1)) fun x11 => (nself75 m10 v0 v1 v2 x11))))
set_option maxRecDepth 20000 in
theorem ub_X10_laysFits_135 {F : Nat} {s : List Sh} {self75 : PH → Nat → Int32 → Int32 → Int32 → Option (Int32 × PH)} {nself75 : Mem → Nat → Int32 → Int32 → Int32 → Option (Int32 × Mem)} {m m' : Mem} {r : Int32} {v0 : Nat} {v1 : Int32} {v2 : Int32} {v7 : Int32} (hw : GS s m) (o_v0 : ok s v0 10) (ih75 : ∀ (m : Mem) (v0 : Nat) (v1 : Int32) (v2 : Int32) (v7 : Int32), GS s m → ok s v0 10 → nself75 m v0 v1 v2 v7 = some (r, m') → J3 (self75 (bl s m) v0 v1 v2 v7) (r, bl s m') (GS s m')) (hf : nb_X10_laysFits_135 F s nself75 m v0 v1 v2 v7 = some (r, m')) : J3 (b_X10_laysFits_135 F self75 (bl s m) v0 v1 v2 v7) (r, bl s m') (GS s m') := by
  unfold nb_X10_laysFits_135 at hf
  unfold b_X10_laysFits_135
  refine k_if hf (fun hf => ?_) (fun hf => ?_)
  · refine k_pI hw (ok_o o_v0 (by decide)) rfl hf fun m1 hw hf => ?_
    refine k_pI hw (ok_o o_v0 (by decide)) rfl hf fun m2 hw hf => ?_
    refine k_gR hw (ok_o o_v0 (by decide)) rfl hf fun a3 o_a3 hf => ?_
    refine k_aI (Or.inl rfl) (ka rfl o_a3) hf fun x4 hf => ?_
    refine k_gR hw (ok_o o_v0 (by decide)) rfl hf fun a5 o_a5 hf => ?_
    refine k_aI (Or.inl rfl) (ka rfl o_a5) hf fun x6 hf => ?_
    refine k_cO (ok_o o_v0 (by decide)) ?_
    refine ob2 hf fun u m8 ex hf => ?_
    refine k_b2 (un_X10_goesFit hw o_v0 ex) fun hw => ?_
    exact k_ret hw hf
  · refine k_gR hw (ok_o o_v0 (by decide)) rfl hf fun a9 o_a9 hf => ?_
    refine k_sI hw (ka rfl o_a9) hf fun m10 hw hf => ?_
    refine k_bv hf fun x11 hf => ?_
    exact ih75 _ _ _ _ _ hw o_v0 hf
def nl_X10_laysFits_135 (F : Nat) (s : List Sh) : Nat → Mem → Nat → Int32 → Int32 → Int32 → Option (Int32 × Mem)
  | 0 => fun _ _ _ _ _ => none
  | n + 1 => fun m v0 v1 v2 v7 => nb_X10_laysFits_135 F s (nl_X10_laysFits_135 F s n) m v0 v1 v2 v7
theorem ul_X10_laysFits_135 {F : Nat} {s : List Sh} {m' : Mem} {r : Int32} (n : Nat) : ∀ (m : Mem) (v0 : Nat) (v1 : Int32) (v2 : Int32) (v7 : Int32), GS s m → ok s v0 10 → nl_X10_laysFits_135 F s n m v0 v1 v2 v7 = some (r, m') → J3 (l_X10_laysFits_135 F n (bl s m) v0 v1 v2 v7) (r, bl s m') (GS s m') := by
  induction n with
  | zero => intro m v0 v1 v2 v7 hw o_v0 hf; cases hf
  | succ n ih => intro m v0 v1 v2 v7 hw o_v0 hf; exact ub_X10_laysFits_135 (F := F) hw o_v0 ih hf
def nb_X10_laysFits_90 (F : Nat) (s : List Sh) (nself51 : Mem → Nat → Int32 → Int32 → Int64 → Int32 → Option (Int32 × Mem)) (m : Mem) (v0 : Nat) (v1 : Int32) (v2 : Int32) (v5 : Int64) (v7 : Int32) : Option (Int32 × Mem) := (m.2.2 v0 53).bind fun a1 => ((rdI s m a1 v1).bind fun x2 => (if x2 ≤ v7 then (if v5 ≤ (200000 : Int64) then (nl_X10_laysFits_135 F s F m v0 v1 v2 (0 : Int32)) else (some ((-1000 : Int32), m))) else ((m.2.2 v0 1).bind fun a3 => ((rdI s m a3 (2 : Int32)).bind fun x4 => (bindv ((v5 * (Int32.toInt64 x4))) fun x5 => (bindv (v7 + (1)) fun x6 => (nself51 m v0 v1 v2 x5 x6)))))))
set_option maxRecDepth 20000 in
theorem ub_X10_laysFits_90 {F : Nat} {s : List Sh} {self51 : PH → Nat → Int32 → Int32 → Int64 → Int32 → Option (Int32 × PH)} {nself51 : Mem → Nat → Int32 → Int32 → Int64 → Int32 → Option (Int32 × Mem)} {m m' : Mem} {r : Int32} {v0 : Nat} {v1 : Int32} {v2 : Int32} {v5 : Int64} {v7 : Int32} (hw : GS s m) (o_v0 : ok s v0 10) (ih51 : ∀ (m : Mem) (v0 : Nat) (v1 : Int32) (v2 : Int32) (v5 : Int64) (v7 : Int32), GS s m → ok s v0 10 → nself51 m v0 v1 v2 v5 v7 = some (r, m') → J3 (self51 (bl s m) v0 v1 v2 v5 v7) (r, bl s m') (GS s m')) (hf : nb_X10_laysFits_90 F s nself51 m v0 v1 v2 v5 v7 = some (r, m')) : J3 (b_X10_laysFits_90 F self51 (bl s m) v0 v1 v2 v5 v7) (r, bl s m') (GS s m') := by
  unfold nb_X10_laysFits_90 at hf
  unfold b_X10_laysFits_90
  refine k_gR hw (ok_o o_v0 (by decide)) rfl hf fun a1 o_a1 hf => ?_
  refine k_aI (Or.inl rfl) (ka rfl o_a1) hf fun x2 hf => ?_
  refine k_if hf (fun hf => ?_) (fun hf => ?_)
  · refine k_if hf (fun hf => ?_) (fun hf => ?_)
    · exact ul_X10_laysFits_135 F _ _ _ _ _ hw o_v0 hf
    · exact k_ret hw hf
  · refine k_gR hw (ok_o o_v0 (by decide)) rfl hf fun a3 o_a3 hf => ?_
    refine k_aI (Or.inl rfl) (ka rfl o_a3) hf fun x4 hf => ?_
    refine k_bv hf fun x5 hf => ?_
    refine k_bv hf fun x6 hf => ?_
    exact ih51 _ _ _ _ _ _ hw o_v0 hf
def nl_X10_laysFits_90 (F : Nat) (s : List Sh) : Nat → Mem → Nat → Int32 → Int32 → Int64 → Int32 → Option (Int32 × Mem)
  | 0 => fun _ _ _ _ _ _ => none
  | n + 1 => fun m v0 v1 v2 v5 v7 => nb_X10_laysFits_90 F s (nl_X10_laysFits_90 F s n) m v0 v1 v2 v5 v7
theorem ul_X10_laysFits_90 {F : Nat} {s : List Sh} {m' : Mem} {r : Int32} (n : Nat) : ∀ (m : Mem) (v0 : Nat) (v1 : Int32) (v2 : Int32) (v5 : Int64) (v7 : Int32), GS s m → ok s v0 10 → nl_X10_laysFits_90 F s n m v0 v1 v2 v5 v7 = some (r, m') → J3 (l_X10_laysFits_90 F n (bl s m) v0 v1 v2 v5 v7) (r, bl s m') (GS s m') := by
  induction n with
  | zero => intro m v0 v1 v2 v5 v7 hw o_v0 hf; cases hf
  | succ n ih => intro m v0 v1 v2 v5 v7 hw o_v0 hf; exact ub_X10_laysFits_90 (F := F) hw o_v0 ih hf
def nb_X10_laysFits_19 (F : Nat) (s : List Sh) (nself11 : Mem → Nat → Int32 → Int32 → Int32 → Int32 → Option (Int32 × Mem)) (m : Mem) (v0 : Nat) (v1 : Int32) (v2 : Int32) (v3 : Int32) (v5 : Int32) : Option (Int32 × Mem) := (m.2.2 v0 53).bind fun a1 => ((rdI s m a1 v1).bind fun x2 => (if x2 ≤ v5 then (if v3 = 0 then (some ((-3 : Int32), m)) else (nl_X10_laysFits_90 F s F m v0 v1 v2 (1 : Int64) (0 : Int32))) else ((m.2.2 v0 54).bind fun a3 => ((rdL s m a3 (((((40 : Int32) * v1)) + v5))).bind fun x4 => (if x4 = (-1 : Int64) then (nb_X10_laysFits_71 F s nself11 m v0 v1 v2 v3 v5) else ((m.2.2 v0 54).bind fun a5 => ((rdL s m a5 (((((40 : Int32) * v1)) + v5))).bind fun x6 => ((n_X10_isTold s m v0 x6).bind fun x7 => (if x7 = 0 then (some ((-3 : Int32), m)) else (nb_X10_laysFits_71 F s nself11 m v0 v1 v2 v3 v5))))))))))
set_option maxRecDepth 20000 in
theorem ub_X10_laysFits_19 {F : Nat} {s : List Sh} {self11 : PH → Nat → Int32 → Int32 → Int32 → Int32 → Option (Int32 × PH)} {nself11 : Mem → Nat → Int32 → Int32 → Int32 → Int32 → Option (Int32 × Mem)} {m m' : Mem} {r : Int32} {v0 : Nat} {v1 : Int32} {v2 : Int32} {v3 : Int32} {v5 : Int32} (hw : GS s m) (o_v0 : ok s v0 10) (ih11 : ∀ (m : Mem) (v0 : Nat) (v1 : Int32) (v2 : Int32) (v3 : Int32) (v5 : Int32), GS s m → ok s v0 10 → nself11 m v0 v1 v2 v3 v5 = some (r, m') → J3 (self11 (bl s m) v0 v1 v2 v3 v5) (r, bl s m') (GS s m')) (hf : nb_X10_laysFits_19 F s nself11 m v0 v1 v2 v3 v5 = some (r, m')) : J3 (b_X10_laysFits_19 F self11 (bl s m) v0 v1 v2 v3 v5) (r, bl s m') (GS s m') := by
  unfold nb_X10_laysFits_19 at hf
  unfold b_X10_laysFits_19
  refine k_gR hw (ok_o o_v0 (by decide)) rfl hf fun a1 o_a1 hf => ?_
  refine k_aI (Or.inl rfl) (ka rfl o_a1) hf fun x2 hf => ?_
  refine k_if hf (fun hf => ?_) (fun hf => ?_)
  · refine k_if hf (fun hf => ?_) (fun hf => ?_)
    · exact k_ret hw hf
    · exact ul_X10_laysFits_90 F _ _ _ _ _ _ hw o_v0 hf
  · refine k_gR hw (ok_o o_v0 (by decide)) rfl hf fun a3 o_a3 hf => ?_
    refine k_aL (ka rfl o_a3) hf fun x4 hf => ?_
    refine k_if hf (fun hf => ?_) (fun hf => ?_)
    · exact u_X10_laysFits_71 hw o_v0 ih11 hf
    · refine k_gR hw (ok_o o_v0 (by decide)) rfl hf fun a5 o_a5 hf => ?_
      refine k_aL (ka rfl o_a5) hf fun x6 hf => ?_
      refine k_cO (ok_o o_v0 (by decide)) ?_
      refine ob hf fun x7 ex hf => ?_
      refine k_b1 (un_X10_isTold hw o_v0 ex) ?_
      refine k_if hf (fun hf => ?_) (fun hf => ?_)
      · exact k_ret hw hf
      · exact u_X10_laysFits_71 hw o_v0 ih11 hf
def nl_X10_laysFits_19 (F : Nat) (s : List Sh) : Nat → Mem → Nat → Int32 → Int32 → Int32 → Int32 → Option (Int32 × Mem)
  | 0 => fun _ _ _ _ _ _ => none
  | n + 1 => fun m v0 v1 v2 v3 v5 => nb_X10_laysFits_19 F s (nl_X10_laysFits_19 F s n) m v0 v1 v2 v3 v5
theorem ul_X10_laysFits_19 {F : Nat} {s : List Sh} {m' : Mem} {r : Int32} (n : Nat) : ∀ (m : Mem) (v0 : Nat) (v1 : Int32) (v2 : Int32) (v3 : Int32) (v5 : Int32), GS s m → ok s v0 10 → nl_X10_laysFits_19 F s n m v0 v1 v2 v3 v5 = some (r, m') → J3 (l_X10_laysFits_19 F n (bl s m) v0 v1 v2 v3 v5) (r, bl s m') (GS s m') := by
  induction n with
  | zero => intro m v0 v1 v2 v3 v5 hw o_v0 hf; cases hf
  | succ n ih => intro m v0 v1 v2 v3 v5 hw o_v0 hf; exact ub_X10_laysFits_19 (F := F) hw o_v0 ih hf
def nb_X10_laysFits_0 (F : Nat) (s : List Sh) (m : Mem) (v0 : Nat) (v1 : Int32) (v2 : Int32) (v3 : Int32) : Option (Int32 × Mem) := (n_X10_noRow s m v0 v1 (2 : Int32)).bind fun x1 => (if x1 = 0 then (nl_X10_laysFits_19 F s F m v0 v1 v2 v3 (0 : Int32)) else (some (x1, m)))
set_option maxRecDepth 20000 in
theorem u_X10_laysFits_0 {F : Nat} {s : List Sh} {m m' : Mem} {r : Int32} {v0 : Nat} {v1 : Int32} {v2 : Int32} {v3 : Int32} (hw : GS s m) (o_v0 : ok s v0 10) (hf : nb_X10_laysFits_0 F s m v0 v1 v2 v3 = some (r, m')) : J3 (b_X10_laysFits_0 F (bl s m) v0 v1 v2 v3) (r, bl s m') (GS s m') := by
  unfold nb_X10_laysFits_0 at hf
  unfold b_X10_laysFits_0
  refine k_cO (ok_o o_v0 (by decide)) ?_
  refine ob hf fun x1 ex hf => ?_
  refine k_b1 (un_X10_noRow hw o_v0 ex) ?_
  refine k_if hf (fun hf => ?_) (fun hf => ?_)
  · exact ul_X10_laysFits_19 F _ _ _ _ _ _ hw o_v0 hf
  · exact k_ret hw hf
def n_X10_laysFits (F : Nat) (s : List Sh) (m : Mem) (p0 : Nat) (p1 : Int32) (p2 : Int32) (p3 : Int32) : Option (Int32 × Mem) := nb_X10_laysFits_0 F s m p0 p1 p2 p3
theorem un_X10_laysFits {F : Nat} {s : List Sh} {m m' : Mem} {p0 : Nat} {p1 : Int32} {p2 : Int32} {p3 : Int32} {r : Int32} (hw : GS s m) (o_p0 : ok s p0 10) (ex : n_X10_laysFits F s m p0 p1 p2 p3 = some (r, m')) : J3 (m_X10_laysFits F (bl s m) p0 p1 p2 p3) (r, bl s m') (GS s m') := u_X10_laysFits_0 hw o_p0 ex
/-! FractionLiftModel.fits(II)I over the memory -/
def nb_X10_fits_53 (F : Nat) (s : List Sh) (nself35 : Mem → Nat → Int32 → Int32 → Int32 → Option (Int32 × Mem)) (m : Mem) (v0 : Nat) (v1 : Int32) (v4 : Int32) (v5 : Int32) : Option (Int32 × Mem) := (m.2.2 v0 53).bind fun a1 => ((rdI s m a1 v1).bind fun x2 => (if x2 ≤ v5 then (some (v4, m)) else ((m.2.2 v0 44).bind fun a3 => ((rdI s m a3 v5).bind fun x4 => (bindv (((((6 : Int32) * v4)) + x4)) fun x5 => (bindv (v5 + (1)) fun x6 => (nself35 m v0 v1 x5 x6)))))))
set_option maxRecDepth 20000 in
theorem ub_X10_fits_53 {F : Nat} {s : List Sh} {self35 : PH → Nat → Int32 → Int32 → Int32 → Option (Int32 × PH)} {nself35 : Mem → Nat → Int32 → Int32 → Int32 → Option (Int32 × Mem)} {m m' : Mem} {r : Int32} {v0 : Nat} {v1 : Int32} {v4 : Int32} {v5 : Int32} (hw : GS s m) (o_v0 : ok s v0 10) (ih35 : ∀ (m : Mem) (v0 : Nat) (v1 : Int32) (v4 : Int32) (v5 : Int32), GS s m → ok s v0 10 → nself35 m v0 v1 v4 v5 = some (r, m') → J3 (self35 (bl s m) v0 v1 v4 v5) (r, bl s m') (GS s m')) (hf : nb_X10_fits_53 F s nself35 m v0 v1 v4 v5 = some (r, m')) : J3 (b_X10_fits_53 F self35 (bl s m) v0 v1 v4 v5) (r, bl s m') (GS s m') := by
  unfold nb_X10_fits_53 at hf
  unfold b_X10_fits_53
  refine k_gR hw (ok_o o_v0 (by decide)) rfl hf fun a1 o_a1 hf => ?_
  refine k_aI (Or.inl rfl) (ka rfl o_a1) hf fun x2 hf => ?_
  refine k_if hf (fun hf => ?_) (fun hf => ?_)
  · exact k_ret hw hf
  · refine k_gR hw (ok_o o_v0 (by decide)) rfl hf fun a3 o_a3 hf => ?_
    refine k_aI (Or.inl rfl) (ka rfl o_a3) hf fun x4 hf => ?_
    refine k_bv hf fun x5 hf => ?_
    refine k_bv hf fun x6 hf => ?_
    exact ih35 _ _ _ _ _ hw o_v0 hf
def nl_X10_fits_53 (F : Nat) (s : List Sh) : Nat → Mem → Nat → Int32 → Int32 → Int32 → Option (Int32 × Mem)
  | 0 => fun _ _ _ _ _ => none
  | n + 1 => fun m v0 v1 v4 v5 => nb_X10_fits_53 F s (nl_X10_fits_53 F s n) m v0 v1 v4 v5
theorem ul_X10_fits_53 {F : Nat} {s : List Sh} {m' : Mem} {r : Int32} (n : Nat) : ∀ (m : Mem) (v0 : Nat) (v1 : Int32) (v4 : Int32) (v5 : Int32), GS s m → ok s v0 10 → nl_X10_fits_53 F s n m v0 v1 v4 v5 = some (r, m') → J3 (l_X10_fits_53 F n (bl s m) v0 v1 v4 v5) (r, bl s m') (GS s m') := by
  induction n with
  | zero => intro m v0 v1 v4 v5 hw o_v0 hf; cases hf
  | succ n ih => intro m v0 v1 v4 v5 hw o_v0 hf; exact ub_X10_fits_53 (F := F) hw o_v0 ih hf
def nb_X10_fits_0 (F : Nat) (s : List Sh) (m : Mem) (v0 : Nat) (v1 : Int32) (v2 : Int32) : Option (Int32 × Mem) := bindv (wI m v0 0 (0 : Int32)) fun m1 => (bind2 (n_X10_laysFits F s m1 v0 v1 v2 (1 : Int32)) fun x2 m3 => (if x2 = 0 then (if v2 = (-1 : Int32) then (some ((m3.1 v0 46), m3)) else ((m_X10_within (Int32.toInt64 v2) (0 : Int64) ((Int32.toInt64 (((m3.1 v0 46) - (1 : Int32)))))).bind fun x4 => (if x4 = 0 then (some ((-1 : Int32), m3)) else (nl_X10_fits_53 F s F m3 v0 v1 (0 : Int32) (0 : Int32))))) else (some (x2, m3))))
set_option maxRecDepth 20000 in
theorem u_X10_fits_0 {F : Nat} {s : List Sh} {m m' : Mem} {r : Int32} {v0 : Nat} {v1 : Int32} {v2 : Int32} (hw : GS s m) (o_v0 : ok s v0 10) (hf : nb_X10_fits_0 F s m v0 v1 v2 = some (r, m')) : J3 (b_X10_fits_0 F (bl s m) v0 v1 v2) (r, bl s m') (GS s m') := by
  unfold nb_X10_fits_0 at hf
  unfold b_X10_fits_0
  refine k_pI hw (ok_o o_v0 (by decide)) rfl hf fun m1 hw hf => ?_
  refine k_cO (ok_o o_v0 (by decide)) ?_
  refine ob2 hf fun x2 m3 ex hf => ?_
  refine k_b2 (un_X10_laysFits hw o_v0 ex) fun hw => ?_
  refine k_if hf (fun hf => ?_) (fun hf => ?_)
  · refine k_if hf (fun hf => ?_) (fun hf => ?_)
    · refine k_gI (ok_o o_v0 (by decide)) rfl ?_
      exact k_ret hw hf
    · refine k_gI (ok_o o_v0 (by decide)) rfl ?_
      refine k_pure hf fun x4 hf => ?_
      refine k_if hf (fun hf => ?_) (fun hf => ?_)
      · exact k_ret hw hf
      · exact ul_X10_fits_53 F _ _ _ _ _ hw o_v0 hf
  · exact k_ret hw hf
def n_X10_fits (F : Nat) (s : List Sh) (m : Mem) (p0 : Nat) (p1 : Int32) (p2 : Int32) : Option (Int32 × Mem) := nb_X10_fits_0 F s m p0 p1 p2
theorem un_X10_fits {F : Nat} {s : List Sh} {m m' : Mem} {p0 : Nat} {p1 : Int32} {p2 : Int32} {r : Int32} (hw : GS s m) (o_p0 : ok s p0 10) (ex : n_X10_fits F s m p0 p1 p2 = some (r, m')) : J3 (m_X10_fits F (bl s m) p0 p1 p2) (r, bl s m') (GS s m') := u_X10_fits_0 hw o_p0 ex
/-! FractionLiftModel.sure(II)I over the memory -/
def nb_X10_sure_96 (F : Nat) (s : List Sh) (nself35 : Mem → Nat → Int32 → Int32 → Option (Int32 × Mem)) (m : Mem) (v0 : Nat) (v2 : Int32) (v4 : Int32) : Option (Int32 × Mem) := bindv (v4 + (1)) fun x1 => (nself35 m v0 v2 x1)
set_option maxRecDepth 20000 in
theorem u_X10_sure_96 {F : Nat} {s : List Sh} {self35 : PH → Nat → Int32 → Int32 → Option (Int32 × PH)} {nself35 : Mem → Nat → Int32 → Int32 → Option (Int32 × Mem)} {m m' : Mem} {r : Int32} {v0 : Nat} {v2 : Int32} {v4 : Int32} (hw : GS s m) (o_v0 : ok s v0 10) (ih35 : ∀ (m : Mem) (v0 : Nat) (v2 : Int32) (v4 : Int32), GS s m → ok s v0 10 → nself35 m v0 v2 v4 = some (r, m') → J3 (self35 (bl s m) v0 v2 v4) (r, bl s m') (GS s m')) (hf : nb_X10_sure_96 F s nself35 m v0 v2 v4 = some (r, m')) : J3 (b_X10_sure_96 F self35 (bl s m) v0 v2 v4) (r, bl s m') (GS s m') := by
  unfold nb_X10_sure_96 at hf
  unfold b_X10_sure_96
  refine k_bv hf fun x1 hf => ?_
  exact ih35 _ _ _ _ hw o_v0 hf
def nb_X10_sure_56 (F : Nat) (s : List Sh) (nself35 : Mem → Nat → Int32 → Int32 → Option (Int32 × Mem)) (m : Mem) (v0 : Nat) (v2 : Int32) (v4 : Int32) : Option (Int32 × Mem) := (m.2.2 v0 1).bind fun a1 => ((rdI s m a1 (2 : Int32)).bind fun x2 => (if x2 ≤ v4 then (some ((-1 : Int32), m)) else (if (m.1 v0 46) ≤ 0 then (nb_X10_sure_96 F s nself35 m v0 v2 v4) else ((m.2.2 v0 45).bind fun a3 => ((rdI s m a3 (((((6 : Int32) * v2)) + v4))).bind fun x4 => (if x4 = (m.1 v0 46) then (some (v4, m)) else (nb_X10_sure_96 F s nself35 m v0 v2 v4)))))))
set_option maxRecDepth 20000 in
theorem ub_X10_sure_56 {F : Nat} {s : List Sh} {self35 : PH → Nat → Int32 → Int32 → Option (Int32 × PH)} {nself35 : Mem → Nat → Int32 → Int32 → Option (Int32 × Mem)} {m m' : Mem} {r : Int32} {v0 : Nat} {v2 : Int32} {v4 : Int32} (hw : GS s m) (o_v0 : ok s v0 10) (ih35 : ∀ (m : Mem) (v0 : Nat) (v2 : Int32) (v4 : Int32), GS s m → ok s v0 10 → nself35 m v0 v2 v4 = some (r, m') → J3 (self35 (bl s m) v0 v2 v4) (r, bl s m') (GS s m')) (hf : nb_X10_sure_56 F s nself35 m v0 v2 v4 = some (r, m')) : J3 (b_X10_sure_56 F self35 (bl s m) v0 v2 v4) (r, bl s m') (GS s m') := by
  unfold nb_X10_sure_56 at hf
  unfold b_X10_sure_56
  refine k_gR hw (ok_o o_v0 (by decide)) rfl hf fun a1 o_a1 hf => ?_
  refine k_aI (Or.inl rfl) (ka rfl o_a1) hf fun x2 hf => ?_
  refine k_if hf (fun hf => ?_) (fun hf => ?_)
  · exact k_ret hw hf
  · refine k_gI (ok_o o_v0 (by decide)) rfl ?_
    refine k_if hf (fun hf => ?_) (fun hf => ?_)
    · exact u_X10_sure_96 hw o_v0 ih35 hf
    · refine k_gR hw (ok_o o_v0 (by decide)) rfl hf fun a3 o_a3 hf => ?_
      refine k_aI (Or.inl rfl) (ka rfl o_a3) hf fun x4 hf => ?_
      refine k_gI (ok_o o_v0 (by decide)) rfl ?_
      refine k_if hf (fun hf => ?_) (fun hf => ?_)
      · exact k_ret hw hf
      · exact u_X10_sure_96 hw o_v0 ih35 hf
def nl_X10_sure_56 (F : Nat) (s : List Sh) : Nat → Mem → Nat → Int32 → Int32 → Option (Int32 × Mem)
  | 0 => fun _ _ _ _ => none
  | n + 1 => fun m v0 v2 v4 => nb_X10_sure_56 F s (nl_X10_sure_56 F s n) m v0 v2 v4
theorem ul_X10_sure_56 {F : Nat} {s : List Sh} {m' : Mem} {r : Int32} (n : Nat) : ∀ (m : Mem) (v0 : Nat) (v2 : Int32) (v4 : Int32), GS s m → ok s v0 10 → nl_X10_sure_56 F s n m v0 v2 v4 = some (r, m') → J3 (l_X10_sure_56 F n (bl s m) v0 v2 v4) (r, bl s m') (GS s m') := by
  induction n with
  | zero => intro m v0 v2 v4 hw o_v0 hf; cases hf
  | succ n ih => intro m v0 v2 v4 hw o_v0 hf; exact ub_X10_sure_56 (F := F) hw o_v0 ih hf
def nb_X10_sure_43 (F : Nat) (s : List Sh) (m : Mem) (v0 : Nat) (v2 : Int32) (s0 : Nat) (s1 : Int32) (s2 : Int32) (s3 : Int32) : Option (Int32 × Mem) := bind2 (n_X10_laysFits F s m s0 s1 s2 s3) fun x1 m2 => (if x1 = 0 then (nl_X10_sure_56 F s F m2 v0 v2 (0 : Int32)) else (some (x1, m2)))
set_option maxRecDepth 20000 in
theorem u_X10_sure_43 {F : Nat} {s : List Sh} {m m' : Mem} {r : Int32} {v0 : Nat} {v2 : Int32} {s0 : Nat} {s1 : Int32} {s2 : Int32} {s3 : Int32} (hw : GS s m) (o_v0 : ok s v0 10) (o_s0 : ok s s0 10) (hf : nb_X10_sure_43 F s m v0 v2 s0 s1 s2 s3 = some (r, m')) : J3 (b_X10_sure_43 F (bl s m) v0 v2 s0 s1 s2 s3) (r, bl s m') (GS s m') := by
  unfold nb_X10_sure_43 at hf
  unfold b_X10_sure_43
  refine k_cO (ok_o o_s0 (by decide)) ?_
  refine ob2 hf fun x1 m2 ex hf => ?_
  refine k_b2 (un_X10_laysFits hw o_s0 ex) fun hw => ?_
  refine k_if hf (fun hf => ?_) (fun hf => ?_)
  · exact ul_X10_sure_56 F _ _ _ _ hw o_v0 hf
  · exact k_ret hw hf
def nb_X10_sure_38 (F : Nat) (s : List Sh) (m : Mem) (v0 : Nat) (v2 : Int32) (s0 : Nat) (s1 : Int32) (s2 : Int32) : Option (Int32 × Mem) := nb_X10_sure_43 F s m v0 v2 s0 s1 s2 (1 : Int32)
set_option maxRecDepth 20000 in
theorem u_X10_sure_38 {F : Nat} {s : List Sh} {m m' : Mem} {r : Int32} {v0 : Nat} {v2 : Int32} {s0 : Nat} {s1 : Int32} {s2 : Int32} (hw : GS s m) (o_v0 : ok s v0 10) (o_s0 : ok s s0 10) (hf : nb_X10_sure_38 F s m v0 v2 s0 s1 s2 = some (r, m')) : J3 (b_X10_sure_38 F (bl s m) v0 v2 s0 s1 s2) (r, bl s m') (GS s m') := by
  unfold nb_X10_sure_38 at hf
  unfold b_X10_sure_38
  exact u_X10_sure_43 hw o_v0 o_s0 hf
def nb_X10_sure_0 (F : Nat) (s : List Sh) (m : Mem) (v0 : Nat) (v1 : Int32) (v2 : Int32) : Option (Int32 × Mem) := bindv (wI m v0 0 (0 : Int32)) fun m1 => ((m_X10_within (Int32.toInt64 v1) (0 : Int64) (3 : Int64)).bind fun x2 => (if x2 = 0 then (nb_X10_sure_38 F s m1 v0 v2 v0 v1 (-1 : Int32)) else ((m1.2.2 v0 53).bind fun a3 => ((rdI s m1 a3 v1).bind fun x4 => ((m_X10_within (Int32.toInt64 v2) (0 : Int64) ((Int32.toInt64 ((x4 - (1 : Int32)))))).bind fun x5 => (if x5 = 0 then (nb_X10_sure_43 F s m1 v0 v2 v0 v1 (-1 : Int32) (0 : Int32)) else (nb_X10_sure_38 F s m1 v0 v2 v0 v1 (-1 : Int32))))))))
set_option maxRecDepth 20000 in
theorem u_X10_sure_0 {F : Nat} {s : List Sh} {m m' : Mem} {r : Int32} {v0 : Nat} {v1 : Int32} {v2 : Int32} (hw : GS s m) (o_v0 : ok s v0 10) (hf : nb_X10_sure_0 F s m v0 v1 v2 = some (r, m')) : J3 (b_X10_sure_0 F (bl s m) v0 v1 v2) (r, bl s m') (GS s m') := by
  unfold nb_X10_sure_0 at hf
  unfold b_X10_sure_0
  refine k_pI hw (ok_o o_v0 (by decide)) rfl hf fun m1 hw hf => ?_
  refine k_pure hf fun x2 hf => ?_
  refine k_if hf (fun hf => ?_) (fun hf => ?_)
  · exact u_X10_sure_38 hw o_v0 o_v0 hf
  · refine k_gR hw (ok_o o_v0 (by decide)) rfl hf fun a3 o_a3 hf => ?_
    refine k_aI (Or.inl rfl) (ka rfl o_a3) hf fun x4 hf => ?_
    refine k_pure hf fun x5 hf => ?_
    refine k_if hf (fun hf => ?_) (fun hf => ?_)
    · exact u_X10_sure_43 hw o_v0 o_v0 hf
    · exact u_X10_sure_38 hw o_v0 o_v0 hf
def n_X10_sure (F : Nat) (s : List Sh) (m : Mem) (p0 : Nat) (p1 : Int32) (p2 : Int32) : Option (Int32 × Mem) := nb_X10_sure_0 F s m p0 p1 p2
theorem un_X10_sure {F : Nat} {s : List Sh} {m m' : Mem} {p0 : Nat} {p1 : Int32} {p2 : Int32} {r : Int32} (hw : GS s m) (o_p0 : ok s p0 10) (ex : n_X10_sure F s m p0 p1 p2 = some (r, m')) : J3 (m_X10_sure F (bl s m) p0 p1 p2) (r, bl s m') (GS s m') := u_X10_sure_0 hw o_p0 ex
/-! FractionLiftModel.comes(JJJ)V over the memory -/
def nb_X10_comes_46 (F : Nat) (s : List Sh) (nself7 : Mem → Nat → Int64 → Int64 → Int64 → Int32 → Option (Unit × Mem)) (m : Mem) (v0 : Nat) (v1 : Int64) (v3 : Int64) (v5 : Int64) (v7 : Int32) : Option (Unit × Mem) := bindv (v7 + (1)) fun x1 => (nself7 m v0 v1 v3 v5 x1)
set_option maxRecDepth 20000 in
theorem u_X10_comes_46 {F : Nat} {s : List Sh} {self7 : PH → Nat → Int64 → Int64 → Int64 → Int32 → Option (Unit × PH)} {nself7 : Mem → Nat → Int64 → Int64 → Int64 → Int32 → Option (Unit × Mem)} {m m' : Mem} {r : Unit} {v0 : Nat} {v1 : Int64} {v3 : Int64} {v5 : Int64} {v7 : Int32} (hw : GS s m) (o_v0 : ok s v0 10) (ih7 : ∀ (m : Mem) (v0 : Nat) (v1 : Int64) (v3 : Int64) (v5 : Int64) (v7 : Int32), GS s m → ok s v0 10 → nself7 m v0 v1 v3 v5 v7 = some (r, m') → J3 (self7 (bl s m) v0 v1 v3 v5 v7) (r, bl s m') (GS s m')) (hf : nb_X10_comes_46 F s nself7 m v0 v1 v3 v5 v7 = some (r, m')) : J3 (b_X10_comes_46 F self7 (bl s m) v0 v1 v3 v5 v7) (r, bl s m') (GS s m') := by
  unfold nb_X10_comes_46 at hf
  unfold b_X10_comes_46
  refine k_bv hf fun x1 hf => ?_
  exact ih7 _ _ _ _ _ _ hw o_v0 hf
def nb_X10_comes_97 (F : Nat) (s : List Sh) (m : Mem) (v0 : Nat) (v5 : Int64) (v7 : Int32) : Option (Unit × Mem) := (m.2.2 v0 50).bind fun a1 => ((rdL s m a1 v7).bind fun x2 => ((stL s m a1 v7 (x2 + v5)).bind fun m3 => (some ((), m3))))
set_option maxRecDepth 20000 in
theorem u_X10_comes_97 {F : Nat} {s : List Sh} {m m' : Mem} {r : Unit} {v0 : Nat} {v5 : Int64} {v7 : Int32} (hw : GS s m) (o_v0 : ok s v0 10) (hf : nb_X10_comes_97 F s m v0 v5 v7 = some (r, m')) : J3 (b_X10_comes_97 F (bl s m) v0 v5 v7) (r, bl s m') (GS s m') := by
  unfold nb_X10_comes_97 at hf
  unfold b_X10_comes_97
  refine k_gR hw (ok_o o_v0 (by decide)) rfl hf fun a1 o_a1 hf => ?_
  refine k_aL (ka rfl o_a1) hf fun x2 hf => ?_
  refine k_sL hw (ka rfl o_a1) hf fun m3 hw hf => ?_
  exact k_ret hw hf
def nb_X10_comes_52 (F : Nat) (s : List Sh) (m : Mem) (v0 : Nat) (v1 : Int64) (v3 : Int64) (v5 : Int64) (v7 : Int32) : Option (Unit × Mem) := if v7 = (m.1 v0 51) then ((m.2.2 v0 48).bind fun a1 => ((stI s m a1 v7 (Int64.toInt32 v1)).bind fun m2 => ((m2.2.2 v0 49).bind fun a3 => ((stI s m2 a3 v7 (Int64.toInt32 v3)).bind fun m4 => ((m4.2.2 v0 50).bind fun a5 => ((stL s m4 a5 v7 (0 : Int64)).bind fun m6 => (bindv (wI m6 v0 51 (((m6.1 v0 51) + (1 : Int32)))) fun m7 => (nb_X10_comes_97 F s m7 v0 v5 v7)))))))) else (nb_X10_comes_97 F s m v0 v5 v7)
set_option maxRecDepth 20000 in
theorem u_X10_comes_52 {F : Nat} {s : List Sh} {m m' : Mem} {r : Unit} {v0 : Nat} {v1 : Int64} {v3 : Int64} {v5 : Int64} {v7 : Int32} (hw : GS s m) (o_v0 : ok s v0 10) (hf : nb_X10_comes_52 F s m v0 v1 v3 v5 v7 = some (r, m')) : J3 (b_X10_comes_52 F (bl s m) v0 v1 v3 v5 v7) (r, bl s m') (GS s m') := by
  unfold nb_X10_comes_52 at hf
  unfold b_X10_comes_52
  refine k_gI (ok_o o_v0 (by decide)) rfl ?_
  refine k_if hf (fun hf => ?_) (fun hf => ?_)
  · refine k_gR hw (ok_o o_v0 (by decide)) rfl hf fun a1 o_a1 hf => ?_
    refine k_sI hw (ka rfl o_a1) hf fun m2 hw hf => ?_
    refine k_gR hw (ok_o o_v0 (by decide)) rfl hf fun a3 o_a3 hf => ?_
    refine k_sI hw (ka rfl o_a3) hf fun m4 hw hf => ?_
    refine k_gR hw (ok_o o_v0 (by decide)) rfl hf fun a5 o_a5 hf => ?_
    refine k_sL hw (ka rfl o_a5) hf fun m6 hw hf => ?_
    refine k_gI (ok_o o_v0 (by decide)) rfl ?_
    refine k_pI hw (ok_o o_v0 (by decide)) rfl hf fun m7 hw hf => ?_
    exact u_X10_comes_97 hw o_v0 hf
  · exact u_X10_comes_97 hw o_v0 hf
def nb_X10_comes_11 (F : Nat) (s : List Sh) (nself7 : Mem → Nat → Int64 → Int64 → Int64 → Int32 → Option (Unit × Mem)) (m : Mem) (v0 : Nat) (v1 : Int64) (v3 : Int64) (v5 : Int64) (v7 : Int32) : Option (Unit × Mem) := if (m.1 v0 51) ≤ v7 then (nb_X10_comes_52 F s m v0 v1 v3 v5 v7) else ((m.2.2 v0 48).bind fun a1 => ((rdI s m a1 v7).bind fun x2 => (if (Int32.toInt64 x2) = v1 then ((m.2.2 v0 49).bind fun a3 => ((rdI s m a3 v7).bind fun x4 => (if (Int32.toInt64 x4) = v3 then (nb_X10_comes_52 F s m v0 v1 v3 v5 v7) else (nb_X10_comes_46 F s nself7 m v0 v1 v3 v5 v7)))) else (nb_X10_comes_46 F s nself7 m v0 v1 v3 v5 v7))))
set_option maxRecDepth 20000 in
theorem ub_X10_comes_11 {F : Nat} {s : List Sh} {self7 : PH → Nat → Int64 → Int64 → Int64 → Int32 → Option (Unit × PH)} {nself7 : Mem → Nat → Int64 → Int64 → Int64 → Int32 → Option (Unit × Mem)} {m m' : Mem} {r : Unit} {v0 : Nat} {v1 : Int64} {v3 : Int64} {v5 : Int64} {v7 : Int32} (hw : GS s m) (o_v0 : ok s v0 10) (ih7 : ∀ (m : Mem) (v0 : Nat) (v1 : Int64) (v3 : Int64) (v5 : Int64) (v7 : Int32), GS s m → ok s v0 10 → nself7 m v0 v1 v3 v5 v7 = some (r, m') → J3 (self7 (bl s m) v0 v1 v3 v5 v7) (r, bl s m') (GS s m')) (hf : nb_X10_comes_11 F s nself7 m v0 v1 v3 v5 v7 = some (r, m')) : J3 (b_X10_comes_11 F self7 (bl s m) v0 v1 v3 v5 v7) (r, bl s m') (GS s m') := by
  unfold nb_X10_comes_11 at hf
  unfold b_X10_comes_11
  refine k_gI (ok_o o_v0 (by decide)) rfl ?_
  refine k_if hf (fun hf => ?_) (fun hf => ?_)
  · exact u_X10_comes_52 hw o_v0 hf
  · refine k_gR hw (ok_o o_v0 (by decide)) rfl hf fun a1 o_a1 hf => ?_
    refine k_aI (Or.inl rfl) (ka rfl o_a1) hf fun x2 hf => ?_
    refine k_if hf (fun hf => ?_) (fun hf => ?_)
    · refine k_gR hw (ok_o o_v0 (by decide)) rfl hf fun a3 o_a3 hf => ?_
      refine k_aI (Or.inl rfl) (ka rfl o_a3) hf fun x4 hf => ?_
      refine k_if hf (fun hf => ?_) (fun hf => ?_)
      · exact u_X10_comes_52 hw o_v0 hf
      · exact u_X10_comes_46 hw o_v0 ih7 hf
    · exact u_X10_comes_46 hw o_v0 ih7 hf
def nl_X10_comes_11 (F : Nat) (s : List Sh) : Nat → Mem → Nat → Int64 → Int64 → Int64 → Int32 → Option (Unit × Mem)
  | 0 => fun _ _ _ _ _ _ => none
  | n + 1 => fun m v0 v1 v3 v5 v7 => nb_X10_comes_11 F s (nl_X10_comes_11 F s n) m v0 v1 v3 v5 v7
theorem ul_X10_comes_11 {F : Nat} {s : List Sh} {m' : Mem} {r : Unit} (n : Nat) : ∀ (m : Mem) (v0 : Nat) (v1 : Int64) (v3 : Int64) (v5 : Int64) (v7 : Int32), GS s m → ok s v0 10 → nl_X10_comes_11 F s n m v0 v1 v3 v5 v7 = some (r, m') → J3 (l_X10_comes_11 F n (bl s m) v0 v1 v3 v5 v7) (r, bl s m') (GS s m') := by
  induction n with
  | zero => intro m v0 v1 v3 v5 v7 hw o_v0 hf; cases hf
  | succ n ih => intro m v0 v1 v3 v5 v7 hw o_v0 hf; exact ub_X10_comes_11 (F := F) hw o_v0 ih hf
def nb_X10_comes_0 (F : Nat) (s : List Sh) (m : Mem) (v0 : Nat) (v1 : Int64) (v3 : Int64) (v5 : Int64) : Option (Unit × Mem) := if v5 = (0 : Int64) then (some ((), m)) else (nl_X10_comes_11 F s F m v0 v1 v3 v5 (0 : Int32))
set_option maxRecDepth 20000 in
theorem u_X10_comes_0 {F : Nat} {s : List Sh} {m m' : Mem} {r : Unit} {v0 : Nat} {v1 : Int64} {v3 : Int64} {v5 : Int64} (hw : GS s m) (o_v0 : ok s v0 10) (hf : nb_X10_comes_0 F s m v0 v1 v3 v5 = some (r, m')) : J3 (b_X10_comes_0 F (bl s m) v0 v1 v3 v5) (r, bl s m') (GS s m') := by
  unfold nb_X10_comes_0 at hf
  unfold b_X10_comes_0
  refine k_if hf (fun hf => ?_) (fun hf => ?_)
  · exact k_ret hw hf
  · exact ul_X10_comes_11 F _ _ _ _ _ _ hw o_v0 hf
def n_X10_comes (F : Nat) (s : List Sh) (m : Mem) (p0 : Nat) (p1 : Int64) (p3 : Int64) (p5 : Int64) : Option (Unit × Mem) := nb_X10_comes_0 F s m p0 p1 p3 p5
theorem un_X10_comes {F : Nat} {s : List Sh} {m m' : Mem} {p0 : Nat} {p1 : Int64} {p3 : Int64} {p5 : Int64} {r : Unit} (hw : GS s m) (o_p0 : ok s p0 10) (ex : n_X10_comes F s m p0 p1 p3 p5 = some (r, m')) : J3 (m_X10_comes F (bl s m) p0 p1 p3 p5) (r, bl s m') (GS s m') := u_X10_comes_0 hw o_p0 ex
/-! FractionLiftModel.goesOdds(IIJJJ)V over the memory -/
def nb_X10_goesOdds_17 (nrc : Mem → Nat → Int32 → Int32 → Int64 → Int64 → Int64 → Option (Unit × Mem)) (F : Nat) (s : List Sh) (m : Mem) (v0 : Nat) (v3 : Int64) (v5 : Int64) (v7 : Int64) : Option (Unit × Mem) := bind2 (n_X10_comes F s m v0 v3 v5 v7) fun _ m2 => (some ((), m2))
set_option maxRecDepth 20000 in
theorem u_X10_goesOdds_17 {rc : PH → Nat → Int32 → Int32 → Int64 → Int64 → Int64 → Option (Unit × PH)} {nrc : Mem → Nat → Int32 → Int32 → Int64 → Int64 → Int64 → Option (Unit × Mem)} {F : Nat} {s : List Sh} {m m' : Mem} {r : Unit} {v0 : Nat} {v3 : Int64} {v5 : Int64} {v7 : Int64} (hw : GS s m) (o_v0 : ok s v0 10) (hrc : ∀ {m m' : Mem} {p0 : Nat} {p1 : Int32} {p2 : Int32} {p3 : Int64} {p5 : Int64} {p7 : Int64} {r : Unit}, GS s m → ok s p0 10 → nrc m p0 p1 p2 p3 p5 p7 = some (r, m') → J3 (rc (bl s m) p0 p1 p2 p3 p5 p7) (r, bl s m') (GS s m')) (hf : nb_X10_goesOdds_17 nrc F s m v0 v3 v5 v7 = some (r, m')) : J3 (b_X10_goesOdds_17 rc F (bl s m) v0 v3 v5 v7) (r, bl s m') (GS s m') := by
  unfold nb_X10_goesOdds_17 at hf
  unfold b_X10_goesOdds_17
  refine k_cO (ok_o o_v0 (by decide)) ?_
  refine ob2 hf fun u m2 ex hf => ?_
  refine k_b2 (un_X10_comes hw o_v0 ex) fun hw => ?_
  exact k_ret hw hf
def nb_X10_goesOdds_0 (nrc : Mem → Nat → Int32 → Int32 → Int64 → Int64 → Int64 → Option (Unit × Mem)) (F : Nat) (s : List Sh) (m : Mem) (v0 : Nat) (v1 : Int32) (v2 : Int32) (v3 : Int64) (v5 : Int64) (v7 : Int64) : Option (Unit × Mem) := if v7 = (0 : Int64) then (nb_X10_goesOdds_17 nrc F s m v0 v3 v5 v7) else ((m.2.2 v0 53).bind fun a1 => ((rdI s m a1 v1).bind fun x2 => (if v2 = x2 then (nb_X10_goesOdds_17 nrc F s m v0 v3 v5 v7) else ((n_X10_told s m v0 v1 v2).bind fun x3 => (bind2 (n_X10_leadsFrom F s m v0 x3 v3 v5) fun x4 m5 => (if x4 = 0 then ((m5.2.2 v0 1).bind fun a6 => ((rdI s m5 a6 (5 : Int32)).bind fun x7 => (bind2 (nrc m5 v0 v1 ((v2 + (1 : Int32))) v3 v5 ((v7 * (Int32.toInt64 x7)))) fun _ m9 => ((m9.2.2 v0 1).bind fun a10 => ((rdI s m9 a10 (5 : Int32)).bind fun x11 => (bind2 (nrc m9 v0 v1 ((v2 + (1 : Int32))) (m5.2.1 v0 15) (m5.2.1 v0 16) ((v7 * ((Int32.toInt64 (((10 : Int32) - x11))))))) fun _ m13 => (some ((), m13)))))))) else (bind2 (nrc m5 v0 v1 ((v2 + (1 : Int32))) v3 v5 (((10 : Int64) * v7))) fun _ m15 => (some ((), m15)))))))))
set_option maxRecDepth 20000 in
theorem u_X10_goesOdds_0 {rc : PH → Nat → Int32 → Int32 → Int64 → Int64 → Int64 → Option (Unit × PH)} {nrc : Mem → Nat → Int32 → Int32 → Int64 → Int64 → Int64 → Option (Unit × Mem)} {F : Nat} {s : List Sh} {m m' : Mem} {r : Unit} {v0 : Nat} {v1 : Int32} {v2 : Int32} {v3 : Int64} {v5 : Int64} {v7 : Int64} (hw : GS s m) (o_v0 : ok s v0 10) (hrc : ∀ {m m' : Mem} {p0 : Nat} {p1 : Int32} {p2 : Int32} {p3 : Int64} {p5 : Int64} {p7 : Int64} {r : Unit}, GS s m → ok s p0 10 → nrc m p0 p1 p2 p3 p5 p7 = some (r, m') → J3 (rc (bl s m) p0 p1 p2 p3 p5 p7) (r, bl s m') (GS s m')) (hf : nb_X10_goesOdds_0 nrc F s m v0 v1 v2 v3 v5 v7 = some (r, m')) : J3 (b_X10_goesOdds_0 rc F (bl s m) v0 v1 v2 v3 v5 v7) (r, bl s m') (GS s m') := by
  unfold nb_X10_goesOdds_0 at hf
  unfold b_X10_goesOdds_0
  refine k_if hf (fun hf => ?_) (fun hf => ?_)
  · exact u_X10_goesOdds_17 hw o_v0 hrc hf
  · refine k_gR hw (ok_o o_v0 (by decide)) rfl hf fun a1 o_a1 hf => ?_
    refine k_aI (Or.inl rfl) (ka rfl o_a1) hf fun x2 hf => ?_
    refine k_if hf (fun hf => ?_) (fun hf => ?_)
    · exact u_X10_goesOdds_17 hw o_v0 hrc hf
    · refine k_cO (ok_o o_v0 (by decide)) ?_
      refine ob hf fun x3 ex hf => ?_
      refine k_b1 (un_X10_told hw o_v0 ex) ?_
      refine k_cO (ok_o o_v0 (by decide)) ?_
      refine ob2 hf fun x4 m5 ex hf => ?_
      refine k_b2 (un_X10_leadsFrom hw o_v0 ex) fun hw => ?_
      refine k_if hf (fun hf => ?_) (fun hf => ?_)
      · refine k_gL (ok_o o_v0 (by decide)) rfl ?_
        refine k_gL (ok_o o_v0 (by decide)) rfl ?_
        refine k_gR hw (ok_o o_v0 (by decide)) rfl hf fun a6 o_a6 hf => ?_
        refine k_aI (Or.inl rfl) (ka rfl o_a6) hf fun x7 hf => ?_
        refine k_cO (ok_o o_v0 (by decide)) ?_
        refine ob2 hf fun u m9 ex hf => ?_
        refine k_b2 (hrc hw o_v0 ex) fun hw => ?_
        refine k_gR hw (ok_o o_v0 (by decide)) rfl hf fun a10 o_a10 hf => ?_
        refine k_aI (Or.inl rfl) (ka rfl o_a10) hf fun x11 hf => ?_
        refine k_cO (ok_o o_v0 (by decide)) ?_
        refine ob2 hf fun u m13 ex hf => ?_
        refine k_b2 (hrc hw o_v0 ex) fun hw => ?_
        exact k_ret hw hf
      · refine k_cO (ok_o o_v0 (by decide)) ?_
        refine ob2 hf fun u m15 ex hf => ?_
        refine k_b2 (hrc hw o_v0 ex) fun hw => ?_
        exact k_ret hw hf
def ng_X10_goesOdds (nrc : Mem → Nat → Int32 → Int32 → Int64 → Int64 → Int64 → Option (Unit × Mem)) (F : Nat) (s : List Sh) (m : Mem) (p0 : Nat) (p1 : Int32) (p2 : Int32) (p3 : Int64) (p5 : Int64) (p7 : Int64) : Option (Unit × Mem) := nb_X10_goesOdds_0 nrc F s m p0 p1 p2 p3 p5 p7
theorem ug_X10_goesOdds {rc : PH → Nat → Int32 → Int32 → Int64 → Int64 → Int64 → Option (Unit × PH)} {nrc : Mem → Nat → Int32 → Int32 → Int64 → Int64 → Int64 → Option (Unit × Mem)} {F : Nat} {s : List Sh} {m m' : Mem} {p0 : Nat} {p1 : Int32} {p2 : Int32} {p3 : Int64} {p5 : Int64} {p7 : Int64} {r : Unit} (hrc : ∀ {m m' : Mem} {p0 : Nat} {p1 : Int32} {p2 : Int32} {p3 : Int64} {p5 : Int64} {p7 : Int64} {r : Unit}, GS s m → ok s p0 10 → nrc m p0 p1 p2 p3 p5 p7 = some (r, m') → J3 (rc (bl s m) p0 p1 p2 p3 p5 p7) (r, bl s m') (GS s m')) (hw : GS s m) (o_p0 : ok s p0 10) (ex : ng_X10_goesOdds nrc F s m p0 p1 p2 p3 p5 p7 = some (r, m')) : J3 (g_X10_goesOdds rc F (bl s m) p0 p1 p2 p3 p5 p7) (r, bl s m') (GS s m') := u_X10_goesOdds_0 hw o_p0 hrc ex
def nd_X10_goesOdds (F : Nat) (s : List Sh) : Nat → Mem → Nat → Int32 → Int32 → Int64 → Int64 → Int64 → Option (Unit × Mem)
  | 0 => fun _ _ _ _ _ _ _ => none
  | d + 1 => fun m p0 p1 p2 p3 p5 p7 => ng_X10_goesOdds (nd_X10_goesOdds F s d) F s m p0 p1 p2 p3 p5 p7
def n_X10_goesOdds (F : Nat) (d : Nat) (s : List Sh) (m : Mem) (p0 : Nat) (p1 : Int32) (p2 : Int32) (p3 : Int64) (p5 : Int64) (p7 : Int64) : Option (Unit × Mem) := nd_X10_goesOdds F s d m p0 p1 p2 p3 p5 p7
theorem ud_X10_goesOdds {F : Nat} {s : List Sh} (d : Nat) : ∀ {m m' : Mem} {p0 : Nat} {p1 : Int32} {p2 : Int32} {p3 : Int64} {p5 : Int64} {p7 : Int64} {r : Unit}, GS s m → ok s p0 10 → nd_X10_goesOdds F s d m p0 p1 p2 p3 p5 p7 = some (r, m') → J3 (m_X10_goesOdds F d (bl s m) p0 p1 p2 p3 p5 p7) (r, bl s m') (GS s m') := by
  induction d with
  | zero => intro _ _ _ _ _ _ _ _ _ hw o_p0 hf; cases hf
  | succ d ih => intro _ _ _ _ _ _ _ _ _ hw o_p0 hf; exact ug_X10_goesOdds ih hw o_p0 hf
theorem un_X10_goesOdds {F : Nat} {d : Nat} {s : List Sh} {m m' : Mem} {p0 : Nat} {p1 : Int32} {p2 : Int32} {p3 : Int64} {p5 : Int64} {p7 : Int64} {r : Unit} (hw : GS s m) (o_p0 : ok s p0 10) (ex : n_X10_goesOdds F d s m p0 p1 p2 p3 p5 p7 = some (r, m')) : J3 (m_X10_goesOdds F d (bl s m) p0 p1 p2 p3 p5 p7) (r, bl s m') (GS s m') := ud_X10_goesOdds d hw o_p0 ex
/-! FractionLiftModel.noOdds(IZ)I over the memory -/
def nb_X10_noOdds_24 (F : Nat) (s : List Sh) (nself15 : Mem → Nat → Int32 → Int32 → Option (Int32 × Mem)) (m : Mem) (v0 : Nat) (v1 : Int32) (v4 : Int32) : Option (Int32 × Mem) := (m.2.2 v0 53).bind fun a1 => ((rdI s m a1 v1).bind fun x2 => (if x2 ≤ v4 then (bindv (wI m v0 51 (0 : Int32)) fun m3 => ((m3.2.2 v0 1).bind fun a4 => ((rdI s m3 a4 (7 : Int32)).bind fun x5 => ((m3.2.2 v0 1).bind fun a6 => ((rdI s m3 a6 (8 : Int32)).bind fun x7 => (bind2 (n_X10_goesOdds F 10 s m3 v0 v1 (0 : Int32) (Int32.toInt64 x5) (Int32.toInt64 x7) (1 : Int64)) fun _ m9 => (some ((0 : Int32), m9)))))))) else ((n_X10_told s m v0 v1 v4).bind fun x10 => (if x10 = (-1 : Int32) then (some ((-3 : Int32), m)) else (bindv (v4 + (1)) fun x11 => (nself15 m v0 v1 x11))))))
set_option maxRecDepth 20000 in
theorem ub_X10_noOdds_24 {F : Nat} {s : List Sh} {self15 : PH → Nat → Int32 → Int32 → Option (Int32 × PH)} {nself15 : Mem → Nat → Int32 → Int32 → Option (Int32 × Mem)} {m m' : Mem} {r : Int32} {v0 : Nat} {v1 : Int32} {v4 : Int32} (hw : GS s m) (o_v0 : ok s v0 10) (ih15 : ∀ (m : Mem) (v0 : Nat) (v1 : Int32) (v4 : Int32), GS s m → ok s v0 10 → nself15 m v0 v1 v4 = some (r, m') → J3 (self15 (bl s m) v0 v1 v4) (r, bl s m') (GS s m')) (hf : nb_X10_noOdds_24 F s nself15 m v0 v1 v4 = some (r, m')) : J3 (b_X10_noOdds_24 F self15 (bl s m) v0 v1 v4) (r, bl s m') (GS s m') := by
  unfold nb_X10_noOdds_24 at hf
  unfold b_X10_noOdds_24
  refine k_gR hw (ok_o o_v0 (by decide)) rfl hf fun a1 o_a1 hf => ?_
  refine k_aI (Or.inl rfl) (ka rfl o_a1) hf fun x2 hf => ?_
  refine k_if hf (fun hf => ?_) (fun hf => ?_)
  · refine k_pI hw (ok_o o_v0 (by decide)) rfl hf fun m3 hw hf => ?_
    refine k_gR hw (ok_o o_v0 (by decide)) rfl hf fun a4 o_a4 hf => ?_
    refine k_aI (Or.inl rfl) (ka rfl o_a4) hf fun x5 hf => ?_
    refine k_gR hw (ok_o o_v0 (by decide)) rfl hf fun a6 o_a6 hf => ?_
    refine k_aI (Or.inl rfl) (ka rfl o_a6) hf fun x7 hf => ?_
    refine k_cO (ok_o o_v0 (by decide)) ?_
    refine ob2 hf fun u m9 ex hf => ?_
    refine k_b2 (un_X10_goesOdds hw o_v0 ex) fun hw => ?_
    exact k_ret hw hf
  · refine k_cO (ok_o o_v0 (by decide)) ?_
    refine ob hf fun x10 ex hf => ?_
    refine k_b1 (un_X10_told hw o_v0 ex) ?_
    refine k_if hf (fun hf => ?_) (fun hf => ?_)
    · exact k_ret hw hf
    · refine k_bv hf fun x11 hf => ?_
      exact ih15 _ _ _ _ hw o_v0 hf
def nl_X10_noOdds_24 (F : Nat) (s : List Sh) : Nat → Mem → Nat → Int32 → Int32 → Option (Int32 × Mem)
  | 0 => fun _ _ _ _ => none
  | n + 1 => fun m v0 v1 v4 => nb_X10_noOdds_24 F s (nl_X10_noOdds_24 F s n) m v0 v1 v4
theorem ul_X10_noOdds_24 {F : Nat} {s : List Sh} {m' : Mem} {r : Int32} (n : Nat) : ∀ (m : Mem) (v0 : Nat) (v1 : Int32) (v4 : Int32), GS s m → ok s v0 10 → nl_X10_noOdds_24 F s n m v0 v1 v4 = some (r, m') → J3 (l_X10_noOdds_24 F n (bl s m) v0 v1 v4) (r, bl s m') (GS s m') := by
  induction n with
  | zero => intro m v0 v1 v4 hw o_v0 hf; cases hf
  | succ n ih => intro m v0 v1 v4 hw o_v0 hf; exact ub_X10_noOdds_24 (F := F) hw o_v0 ih hf
def nb_X10_noOdds_0 (F : Nat) (s : List Sh) (m : Mem) (v0 : Nat) (v1 : Int32) (v2 : Int32) : Option (Int32 × Mem) := (n_X10_noRow s m v0 v1 (8 : Int32)).bind fun x1 => (if x1 = 0 then (if v2 = 0 then (some ((-3 : Int32), m)) else (nl_X10_noOdds_24 F s F m v0 v1 (0 : Int32))) else (some (x1, m)))
set_option maxRecDepth 20000 in
theorem u_X10_noOdds_0 {F : Nat} {s : List Sh} {m m' : Mem} {r : Int32} {v0 : Nat} {v1 : Int32} {v2 : Int32} (hw : GS s m) (o_v0 : ok s v0 10) (hf : nb_X10_noOdds_0 F s m v0 v1 v2 = some (r, m')) : J3 (b_X10_noOdds_0 F (bl s m) v0 v1 v2) (r, bl s m') (GS s m') := by
  unfold nb_X10_noOdds_0 at hf
  unfold b_X10_noOdds_0
  refine k_cO (ok_o o_v0 (by decide)) ?_
  refine ob hf fun x1 ex hf => ?_
  refine k_b1 (un_X10_noRow hw o_v0 ex) ?_
  refine k_if hf (fun hf => ?_) (fun hf => ?_)
  · refine k_if hf (fun hf => ?_) (fun hf => ?_)
    · exact k_ret hw hf
    · exact ul_X10_noOdds_24 F _ _ _ _ hw o_v0 hf
  · exact k_ret hw hf
def n_X10_noOdds (F : Nat) (s : List Sh) (m : Mem) (p0 : Nat) (p1 : Int32) (p2 : Int32) : Option (Int32 × Mem) := nb_X10_noOdds_0 F s m p0 p1 p2
theorem un_X10_noOdds {F : Nat} {s : List Sh} {m m' : Mem} {p0 : Nat} {p1 : Int32} {p2 : Int32} {r : Int32} (hw : GS s m) (o_p0 : ok s p0 10) (ex : n_X10_noOdds F s m p0 p1 p2 = some (r, m')) : J3 (m_X10_noOdds F (bl s m) p0 p1 p2) (r, bl s m') (GS s m') := u_X10_noOdds_0 hw o_p0 ex
/-! FractionLiftModel.odds(III)J over the memory -/
def nb_X10_odds_93 (F : Nat) (s : List Sh) (nself28 : Mem → Nat → Int64 → Int64 → Int32 → Option (Int64 × Mem)) (m : Mem) (v0 : Nat) (v5 : Int64) (v7 : Int64) (v10 : Int32) : Option (Int64 × Mem) := bindv (v10 + (1)) fun x1 => (nself28 m v0 v5 v7 x1)
set_option maxRecDepth 20000 in
theorem u_X10_odds_93 {F : Nat} {s : List Sh} {self28 : PH → Nat → Int64 → Int64 → Int32 → Option (Int64 × PH)} {nself28 : Mem → Nat → Int64 → Int64 → Int32 → Option (Int64 × Mem)} {m m' : Mem} {r : Int64} {v0 : Nat} {v5 : Int64} {v7 : Int64} {v10 : Int32} (hw : GS s m) (o_v0 : ok s v0 10) (ih28 : ∀ (m : Mem) (v0 : Nat) (v5 : Int64) (v7 : Int64) (v10 : Int32), GS s m → ok s v0 10 → nself28 m v0 v5 v7 v10 = some (r, m') → J3 (self28 (bl s m) v0 v5 v7 v10) (r, bl s m') (GS s m')) (hf : nb_X10_odds_93 F s nself28 m v0 v5 v7 v10 = some (r, m')) : J3 (b_X10_odds_93 F self28 (bl s m) v0 v5 v7 v10) (r, bl s m') (GS s m') := by
  unfold nb_X10_odds_93 at hf
  unfold b_X10_odds_93
  refine k_bv hf fun x1 hf => ?_
  exact ih28 _ _ _ _ _ hw o_v0 hf
def nb_X10_odds_48 (F : Nat) (s : List Sh) (nself28 : Mem → Nat → Int64 → Int64 → Int32 → Option (Int64 × Mem)) (m : Mem) (v0 : Nat) (v5 : Int64) (v7 : Int64) (v10 : Int32) : Option (Int64 × Mem) := if (m.1 v0 51) ≤ v10 then (some ((0 : Int64), m)) else ((m.2.2 v0 48).bind fun a1 => ((rdI s m a1 v10).bind fun x2 => (if (Int32.toInt64 x2) = v5 then ((m.2.2 v0 49).bind fun a3 => ((rdI s m a3 v10).bind fun x4 => (if (Int32.toInt64 x4) = v7 then ((m.2.2 v0 50).bind fun a5 => ((rdL s m a5 v10).bind fun x6 => (some (x6, m)))) else (nb_X10_odds_93 F s nself28 m v0 v5 v7 v10)))) else (nb_X10_odds_93 F s nself28 m v0 v5 v7 v10))))
set_option maxRecDepth 20000 in
theorem ub_X10_odds_48 {F : Nat} {s : List Sh} {self28 : PH → Nat → Int64 → Int64 → Int32 → Option (Int64 × PH)} {nself28 : Mem → Nat → Int64 → Int64 → Int32 → Option (Int64 × Mem)} {m m' : Mem} {r : Int64} {v0 : Nat} {v5 : Int64} {v7 : Int64} {v10 : Int32} (hw : GS s m) (o_v0 : ok s v0 10) (ih28 : ∀ (m : Mem) (v0 : Nat) (v5 : Int64) (v7 : Int64) (v10 : Int32), GS s m → ok s v0 10 → nself28 m v0 v5 v7 v10 = some (r, m') → J3 (self28 (bl s m) v0 v5 v7 v10) (r, bl s m') (GS s m')) (hf : nb_X10_odds_48 F s nself28 m v0 v5 v7 v10 = some (r, m')) : J3 (b_X10_odds_48 F self28 (bl s m) v0 v5 v7 v10) (r, bl s m') (GS s m') := by
  unfold nb_X10_odds_48 at hf
  unfold b_X10_odds_48
  refine k_gI (ok_o o_v0 (by decide)) rfl ?_
  refine k_if hf (fun hf => ?_) (fun hf => ?_)
  · exact k_ret hw hf
  · refine k_gR hw (ok_o o_v0 (by decide)) rfl hf fun a1 o_a1 hf => ?_
    refine k_aI (Or.inl rfl) (ka rfl o_a1) hf fun x2 hf => ?_
    refine k_if hf (fun hf => ?_) (fun hf => ?_)
    · refine k_gR hw (ok_o o_v0 (by decide)) rfl hf fun a3 o_a3 hf => ?_
      refine k_aI (Or.inl rfl) (ka rfl o_a3) hf fun x4 hf => ?_
      refine k_if hf (fun hf => ?_) (fun hf => ?_)
      · refine k_gR hw (ok_o o_v0 (by decide)) rfl hf fun a5 o_a5 hf => ?_
        refine k_aL (ka rfl o_a5) hf fun x6 hf => ?_
        exact k_ret hw hf
      · exact u_X10_odds_93 hw o_v0 ih28 hf
    · exact u_X10_odds_93 hw o_v0 ih28 hf
def nl_X10_odds_48 (F : Nat) (s : List Sh) : Nat → Mem → Nat → Int64 → Int64 → Int32 → Option (Int64 × Mem)
  | 0 => fun _ _ _ _ _ => none
  | n + 1 => fun m v0 v5 v7 v10 => nb_X10_odds_48 F s (nl_X10_odds_48 F s n) m v0 v5 v7 v10
theorem ul_X10_odds_48 {F : Nat} {s : List Sh} {m' : Mem} {r : Int64} (n : Nat) : ∀ (m : Mem) (v0 : Nat) (v5 : Int64) (v7 : Int64) (v10 : Int32), GS s m → ok s v0 10 → nl_X10_odds_48 F s n m v0 v5 v7 v10 = some (r, m') → J3 (l_X10_odds_48 F n (bl s m) v0 v5 v7 v10) (r, bl s m') (GS s m') := by
  induction n with
  | zero => intro m v0 v5 v7 v10 hw o_v0 hf; cases hf
  | succ n ih => intro m v0 v5 v7 v10 hw o_v0 hf; exact ub_X10_odds_48 (F := F) hw o_v0 ih hf
def nb_X10_odds_0 (F : Nat) (s : List Sh) (m : Mem) (v0 : Nat) (v1 : Int32) (v2 : Int32) (v3 : Int32) : Option (Int64 × Mem) := bindv (wI m v0 0 (0 : Int32)) fun m1 => (bind2 (n_X10_asks s m1 v0 (Int32.toInt64 v2) (Int32.toInt64 v3)) fun x2 m3 => (bind2 (n_X10_noOdds F s m3 v0 v1 x2) fun x4 m5 => (if x4 = 0 then (nl_X10_odds_48 F s F m5 v0 (m3.2.1 v0 15) (m3.2.1 v0 16) (0 : Int32)) else (some ((Int32.toInt64 x4), m5)))))
set_option maxRecDepth 20000 in
theorem u_X10_odds_0 {F : Nat} {s : List Sh} {m m' : Mem} {r : Int64} {v0 : Nat} {v1 : Int32} {v2 : Int32} {v3 : Int32} (hw : GS s m) (o_v0 : ok s v0 10) (hf : nb_X10_odds_0 F s m v0 v1 v2 v3 = some (r, m')) : J3 (b_X10_odds_0 F (bl s m) v0 v1 v2 v3) (r, bl s m') (GS s m') := by
  unfold nb_X10_odds_0 at hf
  unfold b_X10_odds_0
  refine k_pI hw (ok_o o_v0 (by decide)) rfl hf fun m1 hw hf => ?_
  refine k_cO (ok_o o_v0 (by decide)) ?_
  refine ob2 hf fun x2 m3 ex hf => ?_
  refine k_b2 (un_X10_asks hw o_v0 ex) fun hw => ?_
  refine k_gL (ok_o o_v0 (by decide)) rfl ?_
  refine k_gL (ok_o o_v0 (by decide)) rfl ?_
  refine k_cO (ok_o o_v0 (by decide)) ?_
  refine ob2 hf fun x4 m5 ex hf => ?_
  refine k_b2 (un_X10_noOdds hw o_v0 ex) fun hw => ?_
  refine k_if hf (fun hf => ?_) (fun hf => ?_)
  · exact ul_X10_odds_48 F _ _ _ _ _ hw o_v0 hf
  · exact k_ret hw hf
def n_X10_odds (F : Nat) (s : List Sh) (m : Mem) (p0 : Nat) (p1 : Int32) (p2 : Int32) (p3 : Int32) : Option (Int64 × Mem) := nb_X10_odds_0 F s m p0 p1 p2 p3
theorem un_X10_odds {F : Nat} {s : List Sh} {m m' : Mem} {p0 : Nat} {p1 : Int32} {p2 : Int32} {p3 : Int32} {r : Int64} (hw : GS s m) (o_p0 : ok s p0 10) (ex : n_X10_odds F s m p0 p1 p2 p3 = some (r, m')) : J3 (m_X10_odds F (bl s m) p0 p1 p2 p3) (r, bl s m') (GS s m') := u_X10_odds_0 hw o_p0 ex
