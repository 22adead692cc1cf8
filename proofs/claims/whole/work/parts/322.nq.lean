/-! the same over the memory -/
def nq_routes (F : Nat) (s : List Sh) (m : Mem) (p : Nat) : Option (Nat × List Sh × Mem) := if m.2.2 p 16 = none then none else n_X9_routesFromHere F s m p
theorem nq_rt {F : Nat} {s : List Sh} {m : Mem} {p : Nat} {v : Nat × List Sh × Mem} (ex : nq_routes F s m p = some v) : n_X9_routesFromHere F s m p = some v := by
  unfold nq_routes at ex
  split at ex
  · cases ex
  · exact ex
theorem unq_routes {F : Nat} {s s' : List Sh} {m m' : Mem} {p0 : Nat} {r : Nat} (hw : GS s m) (o_p0 : ok s p0 9) (ex : nq_routes F s m p0 = some (r, s', m')) : J3 (mq_routes F (bl s m) p0) (r, bl s' m') (GS s' m' ∧ ∃ t, s' = s ++ t) := by
  have e := un_X9_routesFromHere hw o_p0 (nq_rt ex)
  unfold nq_routes at ex
  split at ex
  · cases ex
  · rename_i hn
    unfold mq_routes
    rw [gN_bl (ok_o o_p0 (by decide)) rfl, if_neg (fun z => hn (by injection z))]
    exact e
def nbq_X9_fewest_19 (F : Nat) (s : List Sh) (m : Mem) (v0 : Nat) (v1 : Int32) (v2 : Int32) (v3 : Int32) : Option (Int32 × List Sh × Mem) := bind2 (n_X9_asksFloor F s m v0 v1 v2) fun x1 m2 => (if x1 = 0 then (some ((-3 : Int32), s, m2)) else (bind3 (nq_routes F s m2 v0) fun a3 s4 m5 => ((m5.2.2 v0 12).bind fun a6 => ((m5.2.2 v0 12).bind fun a7 => (bind2 (n_X5_seekFewest F s4 m5 a3 ((Int64.toInt32 (m5.2.1 a6 0))) ((Int64.toInt32 (m5.2.1 a7 1)))) fun x8 m9 => (if x8 < 0 then (some (x8, s4, m9)) else (if v3 = 0 then (some (x8, s4, m9)) else (if x8 ≤ ((v3 - (10 : Int32))) then (some ((-1 : Int32), s4, m9)) else ((m9.2.2 a3 1).bind fun a10 => ((rdI s4 m9 a10 ((v3 - (10 : Int32)))).bind fun x11 => (some (x11, s4, m9))))))))))))
set_option maxRecDepth 20000 in
theorem uq_X9_fewest_19 {F : Nat} {s s' : List Sh} {m m' : Mem} {r : Int32} {v0 : Nat} {v1 : Int32} {v2 : Int32} {v3 : Int32} (hw : GS s m) (o_v0 : ok s v0 9) (hf : nbq_X9_fewest_19 F s m v0 v1 v2 v3 = some (r, s', m')) : J3 (bq_X9_fewest_19 F (bl s m) v0 v1 v2 v3) (r, bl s' m') (GS s' m' ∧ ∃ t, s' = s ++ t) := by
  have hp : ∃ t, s = s ++ t := ⟨[], by simp⟩
  unfold nbq_X9_fewest_19 at hf
  unfold bq_X9_fewest_19
  refine k_cO (ok_o o_v0 (by decide)) ?_
  refine ob2 hf fun x1 m2 ex hf => ?_
  refine k_b2 (un_X9_asksFloor hw o_v0 ex) fun hw => ?_
  refine k_if hf (fun hf => ?_) (fun hf => ?_)
  · exact k_retA hw hp hf
  · refine k_cO (ok_o o_v0 (by decide)) ?_
    refine ob3 hf fun a3 s4 m5 ex hf => ?_
    have o_a3 := ur_X9_routesFromHere hw o_v0 (nq_rt ex)
    refine k_b2 (unq_routes hw o_v0 ex) fun hz => ?_
    have hw := hz.1
    have o_v0 := ok_pre o_v0 hz.2
    have hp := pr_tr hp hz.2
    refine k_gR hw (ok_o o_v0 (by decide)) rfl hf fun a6 o_a6 hf => ?_
    refine k_gL (ok_o o_a6 (by decide)) rfl ?_
    refine k_gR hw (ok_o o_v0 (by decide)) rfl hf fun a7 o_a7 hf => ?_
    refine k_gL (ok_o o_a7 (by decide)) rfl ?_
    refine k_cO (ok_o o_a3 (by decide)) ?_
    refine ob2 hf fun x8 m9 ex hf => ?_
    refine k_b2 (un_X5_seekFewest hw o_a3 ex) fun hw => ?_
    refine k_if hf (fun hf => ?_) (fun hf => ?_)
    · exact k_retA hw hp hf
    · refine k_if hf (fun hf => ?_) (fun hf => ?_)
      · exact k_retA hw hp hf
      · refine k_if hf (fun hf => ?_) (fun hf => ?_)
        · exact k_retA hw hp hf
        · refine k_gR hw (ok_o o_a3 (by decide)) rfl hf fun a10 o_a10 hf => ?_
          refine k_aI (Or.inl rfl) (ka rfl o_a10) hf fun x11 hf => ?_
          exact k_retA hw hp hf
def nbq_X9_fewest_0 (F : Nat) (s : List Sh) (m : Mem) (v0 : Nat) (v1 : Int32) (v2 : Int32) (v3 : Int32) : Option (Int32 × List Sh × Mem) := if v3 = 0 then (nbq_X9_fewest_19 F s m v0 v1 v2 v3) else (if v3 < (10 : Int32) then (some ((-2 : Int32), s, m)) else (if v3 ≤ (17 : Int32) then (nbq_X9_fewest_19 F s m v0 v1 v2 v3) else (some ((-2 : Int32), s, m))))
set_option maxRecDepth 20000 in
theorem uq_X9_fewest_0 {F : Nat} {s s' : List Sh} {m m' : Mem} {r : Int32} {v0 : Nat} {v1 : Int32} {v2 : Int32} {v3 : Int32} (hw : GS s m) (o_v0 : ok s v0 9) (hf : nbq_X9_fewest_0 F s m v0 v1 v2 v3 = some (r, s', m')) : J3 (bq_X9_fewest_0 F (bl s m) v0 v1 v2 v3) (r, bl s' m') (GS s' m' ∧ ∃ t, s' = s ++ t) := by
  have hp : ∃ t, s = s ++ t := ⟨[], by simp⟩
  unfold nbq_X9_fewest_0 at hf
  unfold bq_X9_fewest_0
  refine k_if hf (fun hf => ?_) (fun hf => ?_)
  · exact j_pre (uq_X9_fewest_19 hw o_v0 hf) hp
  · refine k_if hf (fun hf => ?_) (fun hf => ?_)
    · exact k_retA hw hp hf
    · refine k_if hf (fun hf => ?_) (fun hf => ?_)
      · exact j_pre (uq_X9_fewest_19 hw o_v0 hf) hp
      · exact k_retA hw hp hf
def nq_X9_fewest (F : Nat) (s : List Sh) (m : Mem) (p0 : Nat) (p1 : Int32) (p2 : Int32) (p3 : Int32) : Option (Int32 × List Sh × Mem) := nbq_X9_fewest_0 F s m p0 p1 p2 p3
theorem unq_X9_fewest {F : Nat} {s s' : List Sh} {m m' : Mem} {p0 : Nat} {p1 : Int32} {p2 : Int32} {p3 : Int32} {r : Int32} (hw : GS s m) (o_p0 : ok s p0 9) (ex : nq_X9_fewest F s m p0 p1 p2 p3 = some (r, s', m')) : J3 (mq_X9_fewest F (bl s m) p0 p1 p2 p3) (r, bl s' m') (GS s' m' ∧ ∃ t, s' = s ++ t) := uq_X9_fewest_0 hw o_p0 ex
def nbq_X9_reach_0 (F : Nat) (s : List Sh) (m : Mem) (v0 : Nat) (v1 : Int32) : Option (Int32 × List Sh × Mem) := if v1 < 0 then (some ((-3 : Int32), s, m)) else (if v1 ≤ (5 : Int32) then (bind3 (nq_routes F s m v0) fun a1 s2 m3 => (bind2 (n_X5_layFloors F s2 m3 a1 v1) fun x4 m5 => ((m5.2.2 a1 0).bind fun a6 => (some ((((m5.1 a6 4) - x4)), s2, m5))))) else (some ((-3 : Int32), s, m)))
set_option maxRecDepth 20000 in
theorem uq_X9_reach_0 {F : Nat} {s s' : List Sh} {m m' : Mem} {r : Int32} {v0 : Nat} {v1 : Int32} (hw : GS s m) (o_v0 : ok s v0 9) (hf : nbq_X9_reach_0 F s m v0 v1 = some (r, s', m')) : J3 (bq_X9_reach_0 F (bl s m) v0 v1) (r, bl s' m') (GS s' m' ∧ ∃ t, s' = s ++ t) := by
  have hp : ∃ t, s = s ++ t := ⟨[], by simp⟩
  unfold nbq_X9_reach_0 at hf
  unfold bq_X9_reach_0
  refine k_if hf (fun hf => ?_) (fun hf => ?_)
  · exact k_retA hw hp hf
  · refine k_if hf (fun hf => ?_) (fun hf => ?_)
    · refine k_cO (ok_o o_v0 (by decide)) ?_
      refine ob3 hf fun a1 s2 m3 ex hf => ?_
      have o_a1 := ur_X9_routesFromHere hw o_v0 (nq_rt ex)
      refine k_b2 (unq_routes hw o_v0 ex) fun hz => ?_
      have hw := hz.1
      have o_v0 := ok_pre o_v0 hz.2
      have hp := pr_tr hp hz.2
      refine k_cO (ok_o o_a1 (by decide)) ?_
      refine ob2 hf fun x4 m5 ex hf => ?_
      refine k_b2 (un_X5_layFloors hw o_a1 ex) fun hw => ?_
      refine k_gR hw (ok_o o_a1 (by decide)) rfl hf fun a6 o_a6 hf => ?_
      refine k_gI (ok_o o_a6 (by decide)) rfl ?_
      exact k_retA hw hp hf
    · exact k_retA hw hp hf
def nq_X9_reach (F : Nat) (s : List Sh) (m : Mem) (p0 : Nat) (p1 : Int32) : Option (Int32 × List Sh × Mem) := nbq_X9_reach_0 F s m p0 p1
theorem unq_X9_reach {F : Nat} {s s' : List Sh} {m m' : Mem} {p0 : Nat} {p1 : Int32} {r : Int32} (hw : GS s m) (o_p0 : ok s p0 9) (ex : nq_X9_reach F s m p0 p1 = some (r, s', m')) : J3 (mq_X9_reach F (bl s m) p0 p1) (r, bl s' m') (GS s' m' ∧ ∃ t, s' = s ++ t) := uq_X9_reach_0 hw o_p0 ex
def nbq_X9_highest_0 (F : Nat) (s : List Sh) (m : Mem) (v0 : Nat) (v1 : Int32) (v2 : Int32) : Option (Int32 × List Sh × Mem) := if v2 < 0 then (some ((-2 : Int32), s, m)) else (if v2 ≤ (1 : Int32) then (if v1 < 0 then (some ((-3 : Int32), s, m)) else (if v1 ≤ (5 : Int32) then (bind3 (nq_routes F s m v0) fun a1 s2 m3 => (bind2 (n_X5_layFloors F s2 m3 a1 v1) fun x4 m5 => ((n_X5_greatestFrom F s2 m5 a1 x4).bind fun x6 => (if x6 = (-1 : Int32) then (some ((-1 : Int32), s2, m5)) else (if v2 = 0 then ((m5.2.2 a1 0).bind fun a10 => ((m5.2.2 a10 0).bind fun a11 => ((rdI s2 m5 a11 x6).bind fun x12 => (some (x12, s2, m5))))) else ((m5.2.2 a1 0).bind fun a7 => ((m5.2.2 a7 1).bind fun a8 => ((rdI s2 m5 a8 x6).bind fun x9 => (some (x9, s2, m5)))))))))) else (some ((-3 : Int32), s, m)))) else (some ((-2 : Int32), s, m)))
set_option maxRecDepth 20000 in
theorem uq_X9_highest_0 {F : Nat} {s s' : List Sh} {m m' : Mem} {r : Int32} {v0 : Nat} {v1 : Int32} {v2 : Int32} (hw : GS s m) (o_v0 : ok s v0 9) (hf : nbq_X9_highest_0 F s m v0 v1 v2 = some (r, s', m')) : J3 (bq_X9_highest_0 F (bl s m) v0 v1 v2) (r, bl s' m') (GS s' m' ∧ ∃ t, s' = s ++ t) := by
  have hp : ∃ t, s = s ++ t := ⟨[], by simp⟩
  unfold nbq_X9_highest_0 at hf
  unfold bq_X9_highest_0
  refine k_if hf (fun hf => ?_) (fun hf => ?_)
  · exact k_retA hw hp hf
  · refine k_if hf (fun hf => ?_) (fun hf => ?_)
    · refine k_if hf (fun hf => ?_) (fun hf => ?_)
      · exact k_retA hw hp hf
      · refine k_if hf (fun hf => ?_) (fun hf => ?_)
        · refine k_cO (ok_o o_v0 (by decide)) ?_
          refine ob3 hf fun a1 s2 m3 ex hf => ?_
          have o_a1 := ur_X9_routesFromHere hw o_v0 (nq_rt ex)
          refine k_b2 (unq_routes hw o_v0 ex) fun hz => ?_
          have hw := hz.1
          have o_v0 := ok_pre o_v0 hz.2
          have hp := pr_tr hp hz.2
          refine k_cO (ok_o o_a1 (by decide)) ?_
          refine ob2 hf fun x4 m5 ex hf => ?_
          refine k_b2 (un_X5_layFloors hw o_a1 ex) fun hw => ?_
          refine k_cO (ok_o o_a1 (by decide)) ?_
          refine ob hf fun x6 ex hf => ?_
          refine k_b1 (un_X5_greatestFrom hw o_a1 ex) ?_
          refine k_if hf (fun hf => ?_) (fun hf => ?_)
          · exact k_retA hw hp hf
          · refine k_if hf (fun hf => ?_) (fun hf => ?_)
            · refine k_gR hw (ok_o o_a1 (by decide)) rfl hf fun a10 o_a10 hf => ?_
              refine k_gR hw (ok_o o_a10 (by decide)) rfl hf fun a11 o_a11 hf => ?_
              refine k_aI (Or.inl rfl) (ka rfl o_a11) hf fun x12 hf => ?_
              exact k_retA hw hp hf
            · refine k_gR hw (ok_o o_a1 (by decide)) rfl hf fun a7 o_a7 hf => ?_
              refine k_gR hw (ok_o o_a7 (by decide)) rfl hf fun a8 o_a8 hf => ?_
              refine k_aI (Or.inl rfl) (ka rfl o_a8) hf fun x9 hf => ?_
              exact k_retA hw hp hf
        · exact k_retA hw hp hf
    · exact k_retA hw hp hf
def nq_X9_highest (F : Nat) (s : List Sh) (m : Mem) (p0 : Nat) (p1 : Int32) (p2 : Int32) : Option (Int32 × List Sh × Mem) := nbq_X9_highest_0 F s m p0 p1 p2
theorem unq_X9_highest {F : Nat} {s s' : List Sh} {m m' : Mem} {p0 : Nat} {p1 : Int32} {p2 : Int32} {r : Int32} (hw : GS s m) (o_p0 : ok s p0 9) (ex : nq_X9_highest F s m p0 p1 p2 = some (r, s', m')) : J3 (mq_X9_highest F (bl s m) p0 p1 p2) (r, bl s' m') (GS s' m' ∧ ∃ t, s' = s ++ t) := uq_X9_highest_0 hw o_p0 ex
def nbq_X9_twins_51 (F : Nat) (s : List Sh) (m : Mem) (v0 : Nat) (v1 : Int32) (v2 : Int32) : Option (Int32 × List Sh × Mem) := bind3 (nq_routes F s m v0) fun a1 s2 m3 => (bind2 (n_X5_seekTwins F s2 m3 a1) fun x4 m5 => (if x4 = (-1 : Int32) then (some (x4, s2, m5)) else (if v1 = 0 then (some (x4, s2, m5)) else (if (10 : Int32) = 0 then none else (bindv ((remI v1 (10 : Int32))) fun x6 => (if x6 < x4 then (if v2 = 0 then ((m5.2.2 a1 2).bind fun a7 => ((rdI s2 m5 a7 x6).bind fun x8 => (some (x8, s2, m5)))) else ((m5.2.2 a1 1).bind fun a9 => ((rdI s2 m5 a9 x6).bind fun x10 => (some (x10, s2, m5))))) else (some ((-1 : Int32), s2, m5))))))))
set_option maxRecDepth 20000 in
theorem uq_X9_twins_51 {F : Nat} {s s' : List Sh} {m m' : Mem} {r : Int32} {v0 : Nat} {v1 : Int32} {v2 : Int32} (hw : GS s m) (o_v0 : ok s v0 9) (hf : nbq_X9_twins_51 F s m v0 v1 v2 = some (r, s', m')) : J3 (bq_X9_twins_51 F (bl s m) v0 v1 v2) (r, bl s' m') (GS s' m' ∧ ∃ t, s' = s ++ t) := by
  have hp : ∃ t, s = s ++ t := ⟨[], by simp⟩
  unfold nbq_X9_twins_51 at hf
  unfold bq_X9_twins_51
  refine k_cO (ok_o o_v0 (by decide)) ?_
  refine ob3 hf fun a1 s2 m3 ex hf => ?_
  have o_a1 := ur_X9_routesFromHere hw o_v0 (nq_rt ex)
  refine k_b2 (unq_routes hw o_v0 ex) fun hz => ?_
  have hw := hz.1
  have o_v0 := ok_pre o_v0 hz.2
  have hp := pr_tr hp hz.2
  refine k_cO (ok_o o_a1 (by decide)) ?_
  refine ob2 hf fun x4 m5 ex hf => ?_
  refine k_b2 (un_X5_seekTwins hw o_a1 ex) fun hw => ?_
  refine k_if hf (fun hf => ?_) (fun hf => ?_)
  · exact k_retA hw hp hf
  · refine k_if hf (fun hf => ?_) (fun hf => ?_)
    · exact k_retA hw hp hf
    · refine k_if hf (fun hf => by cases hf) (fun hf => ?_)
      refine k_bv hf fun x6 hf => ?_
      refine k_if hf (fun hf => ?_) (fun hf => ?_)
      · refine k_if hf (fun hf => ?_) (fun hf => ?_)
        · refine k_gR hw (ok_o o_a1 (by decide)) rfl hf fun a7 o_a7 hf => ?_
          refine k_aI (Or.inl rfl) (ka rfl o_a7) hf fun x8 hf => ?_
          exact k_retA hw hp hf
        · refine k_gR hw (ok_o o_a1 (by decide)) rfl hf fun a9 o_a9 hf => ?_
          refine k_aI (Or.inl rfl) (ka rfl o_a9) hf fun x10 hf => ?_
          exact k_retA hw hp hf
      · exact k_retA hw hp hf
def nbq_X9_twins_35 (F : Nat) (s : List Sh) (m : Mem) (v0 : Nat) (v1 : Int32) (v2 : Int32) (s0 : Int32) : Option (Int32 × List Sh × Mem) := if v1 = 0 then (nbq_X9_twins_51 F s m v0 v1 v2) else (if v2 = 0 then (if s0 = 0 then (some ((-2 : Int32), s, m)) else (nbq_X9_twins_51 F s m v0 v1 v2)) else (nbq_X9_twins_51 F s m v0 v1 v2))
set_option maxRecDepth 20000 in
theorem uq_X9_twins_35 {F : Nat} {s s' : List Sh} {m m' : Mem} {r : Int32} {v0 : Nat} {v1 : Int32} {v2 : Int32} {s0 : Int32} (hw : GS s m) (o_v0 : ok s v0 9) (hf : nbq_X9_twins_35 F s m v0 v1 v2 s0 = some (r, s', m')) : J3 (bq_X9_twins_35 F (bl s m) v0 v1 v2 s0) (r, bl s' m') (GS s' m' ∧ ∃ t, s' = s ++ t) := by
  have hp : ∃ t, s = s ++ t := ⟨[], by simp⟩
  unfold nbq_X9_twins_35 at hf
  unfold bq_X9_twins_35
  refine k_if hf (fun hf => ?_) (fun hf => ?_)
  · exact j_pre (uq_X9_twins_51 hw o_v0 hf) hp
  · refine k_if hf (fun hf => ?_) (fun hf => ?_)
    · refine k_if hf (fun hf => ?_) (fun hf => ?_)
      · exact k_retA hw hp hf
      · exact j_pre (uq_X9_twins_51 hw o_v0 hf) hp
    · exact j_pre (uq_X9_twins_51 hw o_v0 hf) hp
def nbq_X9_twins_34 (F : Nat) (s : List Sh) (m : Mem) (v0 : Nat) (v1 : Int32) (v2 : Int32) : Option (Int32 × List Sh × Mem) := nbq_X9_twins_35 F s m v0 v1 v2 (0 : Int32)
set_option maxRecDepth 20000 in
theorem uq_X9_twins_34 {F : Nat} {s s' : List Sh} {m m' : Mem} {r : Int32} {v0 : Nat} {v1 : Int32} {v2 : Int32} (hw : GS s m) (o_v0 : ok s v0 9) (hf : nbq_X9_twins_34 F s m v0 v1 v2 = some (r, s', m')) : J3 (bq_X9_twins_34 F (bl s m) v0 v1 v2) (r, bl s' m') (GS s' m' ∧ ∃ t, s' = s ++ t) := by
  have hp : ∃ t, s = s ++ t := ⟨[], by simp⟩
  unfold nbq_X9_twins_34 at hf
  unfold bq_X9_twins_34
  exact j_pre (uq_X9_twins_35 hw o_v0 hf) hp
def nbq_X9_twins_17 (F : Nat) (s : List Sh) (m : Mem) (v0 : Nat) (v1 : Int32) (s0 : Int32) : Option (Int32 × List Sh × Mem) := if v1 < (20 : Int32) then (nbq_X9_twins_34 F s m v0 v1 s0) else (if (24 : Int32) < v1 then (nbq_X9_twins_34 F s m v0 v1 s0) else (nbq_X9_twins_35 F s m v0 v1 s0 (1 : Int32)))
set_option maxRecDepth 20000 in
theorem uq_X9_twins_17 {F : Nat} {s s' : List Sh} {m m' : Mem} {r : Int32} {v0 : Nat} {v1 : Int32} {s0 : Int32} (hw : GS s m) (o_v0 : ok s v0 9) (hf : nbq_X9_twins_17 F s m v0 v1 s0 = some (r, s', m')) : J3 (bq_X9_twins_17 F (bl s m) v0 v1 s0) (r, bl s' m') (GS s' m' ∧ ∃ t, s' = s ++ t) := by
  have hp : ∃ t, s = s ++ t := ⟨[], by simp⟩
  unfold nbq_X9_twins_17 at hf
  unfold bq_X9_twins_17
  refine k_if hf (fun hf => ?_) (fun hf => ?_)
  · exact j_pre (uq_X9_twins_34 hw o_v0 hf) hp
  · refine k_if hf (fun hf => ?_) (fun hf => ?_)
    · exact j_pre (uq_X9_twins_34 hw o_v0 hf) hp
    · exact j_pre (uq_X9_twins_35 hw o_v0 hf) hp
def nbq_X9_twins_16 (F : Nat) (s : List Sh) (m : Mem) (v0 : Nat) (v1 : Int32) : Option (Int32 × List Sh × Mem) := nbq_X9_twins_17 F s m v0 v1 (0 : Int32)
set_option maxRecDepth 20000 in
theorem uq_X9_twins_16 {F : Nat} {s s' : List Sh} {m m' : Mem} {r : Int32} {v0 : Nat} {v1 : Int32} (hw : GS s m) (o_v0 : ok s v0 9) (hf : nbq_X9_twins_16 F s m v0 v1 = some (r, s', m')) : J3 (bq_X9_twins_16 F (bl s m) v0 v1) (r, bl s' m') (GS s' m' ∧ ∃ t, s' = s ++ t) := by
  have hp : ∃ t, s = s ++ t := ⟨[], by simp⟩
  unfold nbq_X9_twins_16 at hf
  unfold bq_X9_twins_16
  exact j_pre (uq_X9_twins_17 hw o_v0 hf) hp
def nbq_X9_twins_0 (F : Nat) (s : List Sh) (m : Mem) (v0 : Nat) (v1 : Int32) : Option (Int32 × List Sh × Mem) := if v1 < (10 : Int32) then (nbq_X9_twins_16 F s m v0 v1) else (if (14 : Int32) < v1 then (nbq_X9_twins_16 F s m v0 v1) else (nbq_X9_twins_17 F s m v0 v1 (1 : Int32)))
set_option maxRecDepth 20000 in
theorem uq_X9_twins_0 {F : Nat} {s s' : List Sh} {m m' : Mem} {r : Int32} {v0 : Nat} {v1 : Int32} (hw : GS s m) (o_v0 : ok s v0 9) (hf : nbq_X9_twins_0 F s m v0 v1 = some (r, s', m')) : J3 (bq_X9_twins_0 F (bl s m) v0 v1) (r, bl s' m') (GS s' m' ∧ ∃ t, s' = s ++ t) := by
  have hp : ∃ t, s = s ++ t := ⟨[], by simp⟩
  unfold nbq_X9_twins_0 at hf
  unfold bq_X9_twins_0
  refine k_if hf (fun hf => ?_) (fun hf => ?_)
  · exact j_pre (uq_X9_twins_16 hw o_v0 hf) hp
  · refine k_if hf (fun hf => ?_) (fun hf => ?_)
    · exact j_pre (uq_X9_twins_16 hw o_v0 hf) hp
    · exact j_pre (uq_X9_twins_17 hw o_v0 hf) hp
def nq_X9_twins (F : Nat) (s : List Sh) (m : Mem) (p0 : Nat) (p1 : Int32) : Option (Int32 × List Sh × Mem) := nbq_X9_twins_0 F s m p0 p1
theorem unq_X9_twins {F : Nat} {s s' : List Sh} {m m' : Mem} {p0 : Nat} {p1 : Int32} {r : Int32} (hw : GS s m) (o_p0 : ok s p0 9) (ex : nq_X9_twins F s m p0 p1 = some (r, s', m')) : J3 (mq_X9_twins F (bl s m) p0 p1) (r, bl s' m') (GS s' m' ∧ ∃ t, s' = s ++ t) := uq_X9_twins_0 hw o_p0 ex
def nbq_X9_meet_0 (F : Nat) (s : List Sh) (m : Mem) (v0 : Nat) (v1 : Int32) (v2 : Int32) (v3 : Int32) (v4 : Int32) : Option (Int32 × List Sh × Mem) := (m.2.2 v0 4).bind fun a1 => (if v1 < 0 then (some ((-2 : Int32), s, m)) else (if (m.1 a1 15) ≤ v1 then (some ((-2 : Int32), s, m)) else (if v2 < 0 then (some ((-2 : Int32), s, m)) else (if (m.1 a1 15) ≤ v2 then (some ((-2 : Int32), s, m)) else (if v1 = v2 then (some ((-2 : Int32), s, m)) else (if v4 < 0 then (some ((-2 : Int32), s, m)) else (if v4 ≤ (2 : Int32) then (bind3 (nq_routes F s m v0) fun a2 s3 m4 => (bind2 (n_X5_seekMeeting F s3 m4 a2 v1 v2 v3) fun x5 m6 => (if x5 = (-1 : Int32) then (some (x5, s3, m6)) else (if v4 = 0 then (some (x5, s3, m6)) else (if v4 = (1 : Int32) then ((m6.2.2 a2 0).bind fun a10 => ((m6.2.2 a10 0).bind fun a11 => ((rdI s3 m6 a11 (m6.1 a2 3)).bind fun x12 => (some (x12, s3, m6))))) else ((m6.2.2 a2 0).bind fun a7 => ((m6.2.2 a7 1).bind fun a8 => ((rdI s3 m6 a8 (m6.1 a2 3)).bind fun x9 => (some (x9, s3, m6)))))))))) else (some ((-2 : Int32), s, m)))))))))
set_option maxRecDepth 20000 in
theorem uq_X9_meet_0 {F : Nat} {s s' : List Sh} {m m' : Mem} {r : Int32} {v0 : Nat} {v1 : Int32} {v2 : Int32} {v3 : Int32} {v4 : Int32} (hw : GS s m) (o_v0 : ok s v0 9) (hf : nbq_X9_meet_0 F s m v0 v1 v2 v3 v4 = some (r, s', m')) : J3 (bq_X9_meet_0 F (bl s m) v0 v1 v2 v3 v4) (r, bl s' m') (GS s' m' ∧ ∃ t, s' = s ++ t) := by
  have hp : ∃ t, s = s ++ t := ⟨[], by simp⟩
  unfold nbq_X9_meet_0 at hf
  unfold bq_X9_meet_0
  refine k_gR hw (ok_o o_v0 (by decide)) rfl hf fun a1 o_a1 hf => ?_
  refine k_gI (ok_o o_a1 (by decide)) rfl ?_
  refine k_if hf (fun hf => ?_) (fun hf => ?_)
  · exact k_retA hw hp hf
  · refine k_if hf (fun hf => ?_) (fun hf => ?_)
    · exact k_retA hw hp hf
    · refine k_if hf (fun hf => ?_) (fun hf => ?_)
      · exact k_retA hw hp hf
      · refine k_if hf (fun hf => ?_) (fun hf => ?_)
        · exact k_retA hw hp hf
        · refine k_if hf (fun hf => ?_) (fun hf => ?_)
          · exact k_retA hw hp hf
          · refine k_if hf (fun hf => ?_) (fun hf => ?_)
            · exact k_retA hw hp hf
            · refine k_if hf (fun hf => ?_) (fun hf => ?_)
              · refine k_cO (ok_o o_v0 (by decide)) ?_
                refine ob3 hf fun a2 s3 m4 ex hf => ?_
                have o_a2 := ur_X9_routesFromHere hw o_v0 (nq_rt ex)
                refine k_b2 (unq_routes hw o_v0 ex) fun hz => ?_
                have hw := hz.1
                have o_v0 := ok_pre o_v0 hz.2
                have hp := pr_tr hp hz.2
                refine k_cO (ok_o o_a2 (by decide)) ?_
                refine ob2 hf fun x5 m6 ex hf => ?_
                refine k_b2 (un_X5_seekMeeting hw o_a2 ex) fun hw => ?_
                refine k_if hf (fun hf => ?_) (fun hf => ?_)
                · exact k_retA hw hp hf
                · refine k_if hf (fun hf => ?_) (fun hf => ?_)
                  · exact k_retA hw hp hf
                  · refine k_if hf (fun hf => ?_) (fun hf => ?_)
                    · refine k_gR hw (ok_o o_a2 (by decide)) rfl hf fun a10 o_a10 hf => ?_
                      refine k_gR hw (ok_o o_a10 (by decide)) rfl hf fun a11 o_a11 hf => ?_
                      refine k_gI (ok_o o_a2 (by decide)) rfl ?_
                      refine k_aI (Or.inl rfl) (ka rfl o_a11) hf fun x12 hf => ?_
                      exact k_retA hw hp hf
                    · refine k_gR hw (ok_o o_a2 (by decide)) rfl hf fun a7 o_a7 hf => ?_
                      refine k_gR hw (ok_o o_a7 (by decide)) rfl hf fun a8 o_a8 hf => ?_
                      refine k_gI (ok_o o_a2 (by decide)) rfl ?_
                      refine k_aI (Or.inl rfl) (ka rfl o_a8) hf fun x9 hf => ?_
                      exact k_retA hw hp hf
              · exact k_retA hw hp hf
def nq_X9_meet (F : Nat) (s : List Sh) (m : Mem) (p0 : Nat) (p1 : Int32) (p2 : Int32) (p3 : Int32) (p4 : Int32) : Option (Int32 × List Sh × Mem) := nbq_X9_meet_0 F s m p0 p1 p2 p3 p4
theorem unq_X9_meet {F : Nat} {s s' : List Sh} {m m' : Mem} {p0 : Nat} {p1 : Int32} {p2 : Int32} {p3 : Int32} {p4 : Int32} {r : Int32} (hw : GS s m) (o_p0 : ok s p0 9) (ex : nq_X9_meet F s m p0 p1 p2 p3 p4 = some (r, s', m')) : J3 (mq_X9_meet F (bl s m) p0 p1 p2 p3 p4) (r, bl s' m') (GS s' m' ∧ ∃ t, s' = s ++ t) := uq_X9_meet_0 hw o_p0 ex
def nbq_X9_odds_0 (F : Nat) (s : List Sh) (m : Mem) (v0 : Nat) (v1 : Int32) (v2 : Int32) (v3 : Int32) : Option (Int64 × List Sh × Mem) := (n_X9_refusedRow s m v0 v1 (1 : Int32)).bind fun x1 => (if x1 = 0 then (bind2 (n_X9_asksFloor F s m v0 v2 v3) fun x2 m3 => (if x2 = 0 then (some ((-3 : Int64), s, m3)) else ((m3.2.2 v0 7).bind fun a4 => ((rdR s m3 a4 v1).bind fun a5 => ((n_X9_hasButtonsAlone F s m3 v0 a5).bind fun x6 => (if x6 = 0 then (some ((-3 : Int64), s, m3)) else (bind3 (nq_routes F s m3 v0) fun a7 s8 m9 => ((m9.2.2 v0 7).bind fun a10 => ((rdR s8 m9 a10 v1).bind fun a11 => (bind2 (n_X5_layChances F s8 m9 a7 a11) fun x12 m13 => ((m13.2.2 a7 0).bind fun a14 => ((m13.2.2 v0 12).bind fun a15 => ((m13.2.2 v0 12).bind fun a16 => ((n_X1_weightOf F s8 m13 a14 ((Int64.toInt32 (m13.2.1 a15 0))) ((Int64.toInt32 (m13.2.1 a16 1))) x12).bind fun x17 => (some (x17, s8, m13)))))))))))))))) else (some ((Int32.toInt64 x1), s, m)))
set_option maxRecDepth 20000 in
theorem uq_X9_odds_0 {F : Nat} {s s' : List Sh} {m m' : Mem} {r : Int64} {v0 : Nat} {v1 : Int32} {v2 : Int32} {v3 : Int32} (hw : GS s m) (o_v0 : ok s v0 9) (hf : nbq_X9_odds_0 F s m v0 v1 v2 v3 = some (r, s', m')) : J3 (bq_X9_odds_0 F (bl s m) v0 v1 v2 v3) (r, bl s' m') (GS s' m' ∧ ∃ t, s' = s ++ t) := by
  have hp : ∃ t, s = s ++ t := ⟨[], by simp⟩
  unfold nbq_X9_odds_0 at hf
  unfold bq_X9_odds_0
  refine k_cO (ok_o o_v0 (by decide)) ?_
  refine ob hf fun x1 ex hf => ?_
  refine k_b1 (un_X9_refusedRow hw o_v0 ex) ?_
  refine k_if hf (fun hf => ?_) (fun hf => ?_)
  · refine k_cO (ok_o o_v0 (by decide)) ?_
    refine ob2 hf fun x2 m3 ex hf => ?_
    refine k_b2 (un_X9_asksFloor hw o_v0 ex) fun hw => ?_
    refine k_if hf (fun hf => ?_) (fun hf => ?_)
    · exact k_retA hw hp hf
    · refine k_gR hw (ok_o o_v0 (by decide)) rfl hf fun a4 o_a4 hf => ?_
      refine k_aR hw (Or.inr rfl) (ka rfl o_a4) hf fun a5 o_a5 hf => ?_
      refine k_cO (ok_o o_v0 (by decide)) ?_
      refine ob hf fun x6 ex hf => ?_
      refine k_b1 (un_X9_hasButtonsAlone hw o_v0 o_a5 ex) ?_
      refine k_if hf (fun hf => ?_) (fun hf => ?_)
      · exact k_retA hw hp hf
      · refine k_cO (ok_o o_v0 (by decide)) ?_
        refine ob3 hf fun a7 s8 m9 ex hf => ?_
        have o_a7 := ur_X9_routesFromHere hw o_v0 (nq_rt ex)
        refine k_b2 (unq_routes hw o_v0 ex) fun hz => ?_
        have hw := hz.1
        have o_v0 := ok_pre o_v0 hz.2
        have hp := pr_tr hp hz.2
        refine k_gR hw (ok_o o_v0 (by decide)) rfl hf fun a10 o_a10 hf => ?_
        refine k_aR hw (Or.inr rfl) (ka rfl o_a10) hf fun a11 o_a11 hf => ?_
        refine k_cO (ok_o o_a7 (by decide)) ?_
        refine ob2 hf fun x12 m13 ex hf => ?_
        refine k_b2 (un_X5_layChances hw o_a7 o_a11 ex) fun hw => ?_
        refine k_gR hw (ok_o o_a7 (by decide)) rfl hf fun a14 o_a14 hf => ?_
        refine k_gR hw (ok_o o_v0 (by decide)) rfl hf fun a15 o_a15 hf => ?_
        refine k_gL (ok_o o_a15 (by decide)) rfl ?_
        refine k_gR hw (ok_o o_v0 (by decide)) rfl hf fun a16 o_a16 hf => ?_
        refine k_gL (ok_o o_a16 (by decide)) rfl ?_
        refine k_cO (ok_o o_a14 (by decide)) ?_
        refine ob hf fun x17 ex hf => ?_
        refine k_b1 (un_X1_weightOf hw o_a14 ex) ?_
        exact k_retA hw hp hf
  · exact k_retA hw hp hf
def nq_X9_odds (F : Nat) (s : List Sh) (m : Mem) (p0 : Nat) (p1 : Int32) (p2 : Int32) (p3 : Int32) : Option (Int64 × List Sh × Mem) := nbq_X9_odds_0 F s m p0 p1 p2 p3
theorem unq_X9_odds {F : Nat} {s s' : List Sh} {m m' : Mem} {p0 : Nat} {p1 : Int32} {p2 : Int32} {p3 : Int32} {r : Int64} (hw : GS s m) (o_p0 : ok s p0 9) (ex : nq_X9_odds F s m p0 p1 p2 p3 = some (r, s', m')) : J3 (mq_X9_odds F (bl s m) p0 p1 p2 p3) (r, bl s' m') (GS s' m' ∧ ∃ t, s' = s ++ t) := uq_X9_odds_0 hw o_p0 ex
def nbq_X9_ends_0 (F : Nat) (s : List Sh) (m : Mem) (v0 : Nat) (v1 : Int32) : Option (Int32 × List Sh × Mem) := (n_X9_refusedRow s m v0 v1 (1 : Int32)).bind fun x1 => (if x1 = 0 then ((m.2.2 v0 7).bind fun a2 => ((rdR s m a2 v1).bind fun a3 => ((n_X9_hasButtonsAlone F s m v0 a3).bind fun x4 => (if x4 = 0 then (some ((-3 : Int32), s, m)) else (bind3 (nq_routes F s m v0) fun a5 s6 m7 => ((m7.2.2 v0 7).bind fun a8 => ((rdR s6 m7 a8 v1).bind fun a9 => (bind2 (n_X5_layChances F s6 m7 a5 a9) fun x10 m11 => ((m11.2.2 a5 0).bind fun a12 => (some ((((m11.1 a12 4) - x10)), s6, m11))))))))))) else (some (x1, s, m)))
set_option maxRecDepth 20000 in
theorem uq_X9_ends_0 {F : Nat} {s s' : List Sh} {m m' : Mem} {r : Int32} {v0 : Nat} {v1 : Int32} (hw : GS s m) (o_v0 : ok s v0 9) (hf : nbq_X9_ends_0 F s m v0 v1 = some (r, s', m')) : J3 (bq_X9_ends_0 F (bl s m) v0 v1) (r, bl s' m') (GS s' m' ∧ ∃ t, s' = s ++ t) := by
  have hp : ∃ t, s = s ++ t := ⟨[], by simp⟩
  unfold nbq_X9_ends_0 at hf
  unfold bq_X9_ends_0
  refine k_cO (ok_o o_v0 (by decide)) ?_
  refine ob hf fun x1 ex hf => ?_
  refine k_b1 (un_X9_refusedRow hw o_v0 ex) ?_
  refine k_if hf (fun hf => ?_) (fun hf => ?_)
  · refine k_gR hw (ok_o o_v0 (by decide)) rfl hf fun a2 o_a2 hf => ?_
    refine k_aR hw (Or.inr rfl) (ka rfl o_a2) hf fun a3 o_a3 hf => ?_
    refine k_cO (ok_o o_v0 (by decide)) ?_
    refine ob hf fun x4 ex hf => ?_
    refine k_b1 (un_X9_hasButtonsAlone hw o_v0 o_a3 ex) ?_
    refine k_if hf (fun hf => ?_) (fun hf => ?_)
    · exact k_retA hw hp hf
    · refine k_cO (ok_o o_v0 (by decide)) ?_
      refine ob3 hf fun a5 s6 m7 ex hf => ?_
      have o_a5 := ur_X9_routesFromHere hw o_v0 (nq_rt ex)
      refine k_b2 (unq_routes hw o_v0 ex) fun hz => ?_
      have hw := hz.1
      have o_v0 := ok_pre o_v0 hz.2
      have hp := pr_tr hp hz.2
      refine k_gR hw (ok_o o_v0 (by decide)) rfl hf fun a8 o_a8 hf => ?_
      refine k_aR hw (Or.inr rfl) (ka rfl o_a8) hf fun a9 o_a9 hf => ?_
      refine k_cO (ok_o o_a5 (by decide)) ?_
      refine ob2 hf fun x10 m11 ex hf => ?_
      refine k_b2 (un_X5_layChances hw o_a5 o_a9 ex) fun hw => ?_
      refine k_gR hw (ok_o o_a5 (by decide)) rfl hf fun a12 o_a12 hf => ?_
      refine k_gI (ok_o o_a12 (by decide)) rfl ?_
      exact k_retA hw hp hf
  · exact k_retA hw hp hf
def nq_X9_ends (F : Nat) (s : List Sh) (m : Mem) (p0 : Nat) (p1 : Int32) : Option (Int32 × List Sh × Mem) := nbq_X9_ends_0 F s m p0 p1
theorem unq_X9_ends {F : Nat} {s s' : List Sh} {m m' : Mem} {p0 : Nat} {p1 : Int32} {r : Int32} (hw : GS s m) (o_p0 : ok s p0 9) (ex : nq_X9_ends F s m p0 p1 = some (r, s', m')) : J3 (mq_X9_ends F (bl s m) p0 p1) (r, bl s' m') (GS s' m' ∧ ∃ t, s' = s ++ t) := uq_X9_ends_0 hw o_p0 ex
