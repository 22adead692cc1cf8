/-! FractionLift$House.untell()V over the memory -/
def nb_X0_untell_0 (s : List Sh) (m : Mem) (v0 : Nat) : Option (Unit × Mem) := bindv (wI m v0 0 (4 : Int32)) fun m1 => (bindv (wI m1 v0 1 (0 : Int32)) fun m2 => (bindv (wI m2 v0 2 (0 : Int32)) fun m3 => (bindv (wI m3 v0 3 (0 : Int32)) fun m4 => (bindv (wI m4 v0 4 (0 : Int32)) fun m5 => (bindv (wI m5 v0 5 (1 : Int32)) fun m6 => (bindv (wI m6 v0 6 (0 : Int32)) fun m7 => (bindv (wI m7 v0 9 (0 : Int32)) fun m8 => (bindv (wI m8 v0 15 (0 : Int32)) fun m9 => (some ((), m9))))))))))
set_option maxRecDepth 20000 in
theorem u_X0_untell_0 {s : List Sh} {m m' : Mem} {r : Unit} {v0 : Nat} (hw : GS s m) (o_v0 : ok s v0 0) (hf : nb_X0_untell_0 s m v0 = some (r, m')) : J3 (b_X0_untell_0 (bl s m) v0) (r, bl s m') (GS s m') := by
  unfold nb_X0_untell_0 at hf
  unfold b_X0_untell_0
  refine k_pI hw (ok_o o_v0 (by decide)) rfl hf fun m1 hw hf => ?_
  refine k_pI hw (ok_o o_v0 (by decide)) rfl hf fun m2 hw hf => ?_
  refine k_pI hw (ok_o o_v0 (by decide)) rfl hf fun m3 hw hf => ?_
  refine k_pI hw (ok_o o_v0 (by decide)) rfl hf fun m4 hw hf => ?_
  refine k_pI hw (ok_o o_v0 (by decide)) rfl hf fun m5 hw hf => ?_
  refine k_pI hw (ok_o o_v0 (by decide)) rfl hf fun m6 hw hf => ?_
  refine k_pI hw (ok_o o_v0 (by decide)) rfl hf fun m7 hw hf => ?_
  refine k_pI hw (ok_o o_v0 (by decide)) rfl hf fun m8 hw hf => ?_
  refine k_pI hw (ok_o o_v0 (by decide)) rfl hf fun m9 hw hf => ?_
  exact k_ret hw hf
def n_X0_untell (s : List Sh) (m : Mem) (p0 : Nat) : Option (Unit × Mem) := nb_X0_untell_0 s m p0
theorem un_X0_untell {s : List Sh} {m m' : Mem} {p0 : Nat} {r : Unit} (hw : GS s m) (o_p0 : ok s p0 0) (ex : n_X0_untell s m p0 = some (r, m')) : J3 (m_X0_untell (bl s m) p0) (r, bl s m') (GS s m') := u_X0_untell_0 hw o_p0 ex
/-! FractionLift$House.takeFrom(LFractionLift$House;)V over the memory -/
def nb_X0_takeFrom_0 (s : List Sh) (m : Mem) (v0 : Nat) (v1 : Nat) : Option (Unit × Mem) := bindv (wI m v0 0 (m.1 v1 0)) fun m1 => (bindv (wI m1 v0 1 (m1.1 v1 1)) fun m2 => (bindv (wI m2 v0 2 (m2.1 v1 2)) fun m3 => (bindv (wI m3 v0 3 (m3.1 v1 3)) fun m4 => (bindv (wI m4 v0 4 (m4.1 v1 4)) fun m5 => (bindv (wI m5 v0 5 (m5.1 v1 5)) fun m6 => (bindv (wI m6 v0 6 (m6.1 v1 6)) fun m7 => ((m7.2.2 v1 7).bind fun a8 => ((m7.2.2 v0 7).bind fun a9 => ((m7.2.2 v0 7).bind fun a10 => ((cpM s m7 a8 (0 : Int32) a9 (0 : Int32) ((Int32.ofNat (ln s a10)))).bind fun m11 => ((m11.2.2 v1 8).bind fun a12 => ((m11.2.2 v0 8).bind fun a13 => ((m11.2.2 v0 8).bind fun a14 => ((cpM s m11 a12 (0 : Int32) a13 (0 : Int32) ((Int32.ofNat (ln s a14)))).bind fun m15 => (bindv (wI m15 v0 9 (m15.1 v1 9)) fun m16 => ((m16.2.2 v1 10).bind fun a17 => ((m16.2.2 v0 10).bind fun a18 => ((m16.2.2 v0 10).bind fun a19 => ((cpM s m16 a17 (0 : Int32) a18 (0 : Int32) ((Int32.ofNat (ln s a19)))).bind fun m20 => ((m20.2.2 v1 11).bind fun a21 => ((m20.2.2 v0 11).bind fun a22 => ((m20.2.2 v0 11).bind fun a23 => ((cpM s m20 a21 (0 : Int32) a22 (0 : Int32) ((Int32.ofNat (ln s a23)))).bind fun m24 => ((m24.2.2 v1 12).bind fun a25 => ((m24.2.2 v0 12).bind fun a26 => ((m24.2.2 v0 12).bind fun a27 => ((cpM s m24 a25 (0 : Int32) a26 (0 : Int32) ((Int32.ofNat (ln s a27)))).bind fun m28 => ((m28.2.2 v1 14).bind fun a29 => ((m28.2.2 v0 14).bind fun a30 => ((m28.2.2 v0 14).bind fun a31 => ((cpM s m28 a29 (0 : Int32) a30 (0 : Int32) ((Int32.ofNat (ln s a31)))).bind fun m32 => (bindv (wI m32 v0 15 (m32.1 v1 15)) fun m33 => ((m33.2.2 v1 16).bind fun a34 => ((m33.2.2 v0 16).bind fun a35 => ((m33.2.2 v0 16).bind fun a36 => ((cpM s m33 a34 (0 : Int32) a35 (0 : Int32) ((Int32.ofNat (ln s a36)))).bind fun m37 => ((m37.2.2 v1 17).bind fun a38 => ((m37.2.2 v0 17).bind fun a39 => ((m37.2.2 v0 17).bind fun a40 => ((cpM s m37 a38 (0 : Int32) a39 (0 : Int32) ((Int32.ofNat (ln s a40)))).bind fun m41 => (some ((), m41))))))))))))))))))))))))))))))))))))))))))
set_option maxRecDepth 20000 in
theorem u_X0_takeFrom_0 {s : List Sh} {m m' : Mem} {r : Unit} {v0 : Nat} {v1 : Nat} (hw : GS s m) (o_v0 : ok s v0 0) (o_v1 : ok s v1 0) (hf : nb_X0_takeFrom_0 s m v0 v1 = some (r, m')) : J3 (b_X0_takeFrom_0 (bl s m) v0 v1) (r, bl s m') (GS s m') := by
  unfold nb_X0_takeFrom_0 at hf
  unfold b_X0_takeFrom_0
  refine k_gI (ok_o o_v1 (by decide)) rfl ?_
  refine k_pI hw (ok_o o_v0 (by decide)) rfl hf fun m1 hw hf => ?_
  refine k_gI (ok_o o_v1 (by decide)) rfl ?_
  refine k_pI hw (ok_o o_v0 (by decide)) rfl hf fun m2 hw hf => ?_
  refine k_gI (ok_o o_v1 (by decide)) rfl ?_
  refine k_pI hw (ok_o o_v0 (by decide)) rfl hf fun m3 hw hf => ?_
  refine k_gI (ok_o o_v1 (by decide)) rfl ?_
  refine k_pI hw (ok_o o_v0 (by decide)) rfl hf fun m4 hw hf => ?_
  refine k_gI (ok_o o_v1 (by decide)) rfl ?_
  refine k_pI hw (ok_o o_v0 (by decide)) rfl hf fun m5 hw hf => ?_
  refine k_gI (ok_o o_v1 (by decide)) rfl ?_
  refine k_pI hw (ok_o o_v0 (by decide)) rfl hf fun m6 hw hf => ?_
  refine k_gI (ok_o o_v1 (by decide)) rfl ?_
  refine k_pI hw (ok_o o_v0 (by decide)) rfl hf fun m7 hw hf => ?_
  refine k_gR hw (ok_o o_v1 (by decide)) rfl hf fun a8 o_a8 hf => ?_
  refine k_gR hw (ok_o o_v0 (by decide)) rfl hf fun a9 o_a9 hf => ?_
  refine k_gR hw (ok_o o_v0 (by decide)) rfl hf fun a10 o_a10 hf => ?_
  refine k_len (t := 0) (by decide) (ka rfl o_a10) ?_
  refine k_cp hw (ka rfl o_a8) (ka rfl o_a9) hf fun m11 hw hf => ?_
  refine k_gR hw (ok_o o_v1 (by decide)) rfl hf fun a12 o_a12 hf => ?_
  refine k_gR hw (ok_o o_v0 (by decide)) rfl hf fun a13 o_a13 hf => ?_
  refine k_gR hw (ok_o o_v0 (by decide)) rfl hf fun a14 o_a14 hf => ?_
  refine k_len (t := 0) (by decide) (ka rfl o_a14) ?_
  refine k_cp hw (ka rfl o_a12) (ka rfl o_a13) hf fun m15 hw hf => ?_
  refine k_gI (ok_o o_v1 (by decide)) rfl ?_
  refine k_pI hw (ok_o o_v0 (by decide)) rfl hf fun m16 hw hf => ?_
  refine k_gR hw (ok_o o_v1 (by decide)) rfl hf fun a17 o_a17 hf => ?_
  refine k_gR hw (ok_o o_v0 (by decide)) rfl hf fun a18 o_a18 hf => ?_
  refine k_gR hw (ok_o o_v0 (by decide)) rfl hf fun a19 o_a19 hf => ?_
  refine k_len (t := 0) (by decide) (ka rfl o_a19) ?_
  refine k_cp hw (ka rfl o_a17) (ka rfl o_a18) hf fun m20 hw hf => ?_
  refine k_gR hw (ok_o o_v1 (by decide)) rfl hf fun a21 o_a21 hf => ?_
  refine k_gR hw (ok_o o_v0 (by decide)) rfl hf fun a22 o_a22 hf => ?_
  refine k_gR hw (ok_o o_v0 (by decide)) rfl hf fun a23 o_a23 hf => ?_
  refine k_len (t := 0) (by decide) (ka rfl o_a23) ?_
  refine k_cp hw (ka rfl o_a21) (ka rfl o_a22) hf fun m24 hw hf => ?_
  refine k_gR hw (ok_o o_v1 (by decide)) rfl hf fun a25 o_a25 hf => ?_
  refine k_gR hw (ok_o o_v0 (by decide)) rfl hf fun a26 o_a26 hf => ?_
  refine k_gR hw (ok_o o_v0 (by decide)) rfl hf fun a27 o_a27 hf => ?_
  refine k_len (t := 0) (by decide) (ka rfl o_a27) ?_
  refine k_cp hw (ka rfl o_a25) (ka rfl o_a26) hf fun m28 hw hf => ?_
  refine k_gR hw (ok_o o_v1 (by decide)) rfl hf fun a29 o_a29 hf => ?_
  refine k_gR hw (ok_o o_v0 (by decide)) rfl hf fun a30 o_a30 hf => ?_
  refine k_gR hw (ok_o o_v0 (by decide)) rfl hf fun a31 o_a31 hf => ?_
  refine k_len (t := 0) (by decide) (ka rfl o_a31) ?_
  refine k_cp hw (ka rfl o_a29) (ka rfl o_a30) hf fun m32 hw hf => ?_
  refine k_gI (ok_o o_v1 (by decide)) rfl ?_
  refine k_pI hw (ok_o o_v0 (by decide)) rfl hf fun m33 hw hf => ?_
  refine k_gR hw (ok_o o_v1 (by decide)) rfl hf fun a34 o_a34 hf => ?_
  refine k_gR hw (ok_o o_v0 (by decide)) rfl hf fun a35 o_a35 hf => ?_
  refine k_gR hw (ok_o o_v0 (by decide)) rfl hf fun a36 o_a36 hf => ?_
  refine k_len (t := 0) (by decide) (ka rfl o_a36) ?_
  refine k_cp hw (ka rfl o_a34) (ka rfl o_a35) hf fun m37 hw hf => ?_
  refine k_gR hw (ok_o o_v1 (by decide)) rfl hf fun a38 o_a38 hf => ?_
  refine k_gR hw (ok_o o_v0 (by decide)) rfl hf fun a39 o_a39 hf => ?_
  refine k_gR hw (ok_o o_v0 (by decide)) rfl hf fun a40 o_a40 hf => ?_
  refine k_len (t := 0) (by decide) (ka rfl o_a40) ?_
  refine k_cp hw (ka rfl o_a38) (ka rfl o_a39) hf fun m41 hw hf => ?_
  exact k_ret hw hf
def n_X0_takeFrom (s : List Sh) (m : Mem) (p0 : Nat) (p1 : Nat) : Option (Unit × Mem) := nb_X0_takeFrom_0 s m p0 p1
theorem un_X0_takeFrom {s : List Sh} {m m' : Mem} {p0 : Nat} {p1 : Nat} {r : Unit} (hw : GS s m) (o_p0 : ok s p0 0) (o_p1 : ok s p1 0) (ex : n_X0_takeFrom s m p0 p1 = some (r, m')) : J3 (m_X0_takeFrom (bl s m) p0 p1) (r, bl s m') (GS s m') := u_X0_takeFrom_0 hw o_p0 o_p1 ex
/-! FractionLift$House.isFloor(JJ)Z over the memory -/
def nb_X0_isFloor_0 (s : List Sh) (m : Mem) (v0 : Nat) (v1 : Int64) (v3 : Int64) : Option Int32 := if v1 < (0 : Int64) then (rZP (0 : Int32)) else (if v3 < (1 : Int64) then (rZP (0 : Int32)) else (if (1000000 : Int64) < v1 then (rZP (0 : Int32)) else (if (1000000 : Int64) < v3 then (rZP (0 : Int32)) else (if ((((Int32.toInt64 (m.1 v0 0))) * v3)) < v1 then (rZP (0 : Int32)) else (rZP (1 : Int32))))))
set_option maxRecDepth 20000 in
theorem u_X0_isFloor_0 {s : List Sh} {m : Mem} {r : Int32} {v0 : Nat} {v1 : Int64} {v3 : Int64} (hw : GS s m) (o_v0 : ok s v0 0) (hf : nb_X0_isFloor_0 s m v0 v1 v3 = some r) : J3 (b_X0_isFloor_0 (bl s m) v0 v1 v3) r True := by
  unfold nb_X0_isFloor_0 at hf
  unfold b_X0_isFloor_0
  refine k_if hf (fun hf => ?_) (fun hf => ?_)
  · exact k_rZP hf
  · refine k_if hf (fun hf => ?_) (fun hf => ?_)
    · exact k_rZP hf
    · refine k_if hf (fun hf => ?_) (fun hf => ?_)
      · exact k_rZP hf
      · refine k_if hf (fun hf => ?_) (fun hf => ?_)
        · exact k_rZP hf
        · refine k_gI (ok_o o_v0 (by decide)) rfl ?_
          refine k_if hf (fun hf => ?_) (fun hf => ?_)
          · exact k_rZP hf
          · exact k_rZP hf
def n_X0_isFloor (s : List Sh) (m : Mem) (p0 : Nat) (p1 : Int64) (p3 : Int64) : Option Int32 := nb_X0_isFloor_0 s m p0 p1 p3
theorem un_X0_isFloor {s : List Sh} {m : Mem} {p0 : Nat} {p1 : Int64} {p3 : Int64} {r : Int32} (hw : GS s m) (o_p0 : ok s p0 0) (ex : n_X0_isFloor s m p0 p1 p3 = some r) : J3 (m_X0_isFloor (bl s m) p0 p1 p3) r True := u_X0_isFloor_0 hw o_p0 ex
/-! FractionLift$House.stuffOf(II)I over the memory -/
def nb_X0_stuffOf_0 (s : List Sh) (m : Mem) (v0 : Nat) (v1 : Int32) (v2 : Int32) : Option Int32 := bindv ((((v1 * (3 : Int32))) + v2)) fun x1 => (if x1 < 0 then (some (0 : Int32)) else ((m.2.2 v0 12).bind fun a2 => (if ((Int32.ofNat (ln s a2))) ≤ x1 then (some (0 : Int32)) else ((m.2.2 v0 12).bind fun a3 => ((rdI s m a3 x1).bind fun x4 => (some x4))))))
set_option maxRecDepth 20000 in
theorem u_X0_stuffOf_0 {s : List Sh} {m : Mem} {r : Int32} {v0 : Nat} {v1 : Int32} {v2 : Int32} (hw : GS s m) (o_v0 : ok s v0 0) (hf : nb_X0_stuffOf_0 s m v0 v1 v2 = some r) : J3 (b_X0_stuffOf_0 (bl s m) v0 v1 v2) r True := by
  unfold nb_X0_stuffOf_0 at hf
  unfold b_X0_stuffOf_0
  refine k_bv hf fun x1 hf => ?_
  refine k_if hf (fun hf => ?_) (fun hf => ?_)
  · exact k_retP hf
  · refine k_gR hw (ok_o o_v0 (by decide)) rfl hf fun a2 o_a2 hf => ?_
    refine k_len (t := 0) (by decide) (ka rfl o_a2) ?_
    refine k_if hf (fun hf => ?_) (fun hf => ?_)
    · exact k_retP hf
    · refine k_gR hw (ok_o o_v0 (by decide)) rfl hf fun a3 o_a3 hf => ?_
      refine k_aI (Or.inl rfl) (ka rfl o_a3) hf fun x4 hf => ?_
      exact k_retP hf
def n_X0_stuffOf (s : List Sh) (m : Mem) (p0 : Nat) (p1 : Int32) (p2 : Int32) : Option Int32 := nb_X0_stuffOf_0 s m p0 p1 p2
theorem un_X0_stuffOf {s : List Sh} {m : Mem} {p0 : Nat} {p1 : Int32} {p2 : Int32} {r : Int32} (hw : GS s m) (o_p0 : ok s p0 0) (ex : n_X0_stuffOf s m p0 p1 p2 = some r) : J3 (m_X0_stuffOf (bl s m) p0 p1 p2) r True := u_X0_stuffOf_0 hw o_p0 ex
/-! FractionLift$House.floorAt(JJ)I over the memory -/
def nb_X0_floorAt_41 (F : Nat) (s : List Sh) (nself2 : Nat → Int64 → Int64 → Int32 → Option Int32) (m : Mem) (v0 : Nat) (v1 : Int64) (v3 : Int64) (v5 : Int32) : Option Int32 := bindv (v5 + (1)) fun x1 => (nself2 v0 v1 v3 x1)
set_option maxRecDepth 20000 in
theorem u_X0_floorAt_41 {F : Nat} {s : List Sh} {self2 : Nat → Int64 → Int64 → Int32 → Option Int32} {nself2 : Nat → Int64 → Int64 → Int32 → Option Int32} {m : Mem} {r : Int32} {v0 : Nat} {v1 : Int64} {v3 : Int64} {v5 : Int32} (hw : GS s m) (o_v0 : ok s v0 0) (ih2 : ∀ (v0 : Nat) (v1 : Int64) (v3 : Int64) (v5 : Int32), ok s v0 0 → nself2 v0 v1 v3 v5 = some r → J3 (self2 v0 v1 v3 v5) r True) (hf : nb_X0_floorAt_41 F s nself2 m v0 v1 v3 v5 = some r) : J3 (b_X0_floorAt_41 F self2 (bl s m) v0 v1 v3 v5) r True := by
  unfold nb_X0_floorAt_41 at hf
  unfold b_X0_floorAt_41
  refine k_bv hf fun x1 hf => ?_
  exact ih2 _ _ _ _ o_v0 hf
def nb_X0_floorAt_3 (F : Nat) (s : List Sh) (nself2 : Nat → Int64 → Int64 → Int32 → Option Int32) (m : Mem) (v0 : Nat) (v1 : Int64) (v3 : Int64) (v5 : Int32) : Option Int32 := if (m.1 v0 9) ≤ v5 then (some (-1 : Int32)) else ((m.2.2 v0 10).bind fun a1 => ((rdI s m a1 v5).bind fun x2 => (if (Int32.toInt64 x2) = v1 then ((m.2.2 v0 11).bind fun a3 => ((rdI s m a3 v5).bind fun x4 => (if (Int32.toInt64 x4) = v3 then (some v5) else (nb_X0_floorAt_41 F s nself2 m v0 v1 v3 v5)))) else (nb_X0_floorAt_41 F s nself2 m v0 v1 v3 v5))))
set_option maxRecDepth 20000 in
theorem ub_X0_floorAt_3 {F : Nat} {s : List Sh} {self2 : Nat → Int64 → Int64 → Int32 → Option Int32} {nself2 : Nat → Int64 → Int64 → Int32 → Option Int32} {m : Mem} {r : Int32} {v0 : Nat} {v1 : Int64} {v3 : Int64} {v5 : Int32} (hw : GS s m) (o_v0 : ok s v0 0) (ih2 : ∀ (v0 : Nat) (v1 : Int64) (v3 : Int64) (v5 : Int32), ok s v0 0 → nself2 v0 v1 v3 v5 = some r → J3 (self2 v0 v1 v3 v5) r True) (hf : nb_X0_floorAt_3 F s nself2 m v0 v1 v3 v5 = some r) : J3 (b_X0_floorAt_3 F self2 (bl s m) v0 v1 v3 v5) r True := by
  unfold nb_X0_floorAt_3 at hf
  unfold b_X0_floorAt_3
  refine k_gI (ok_o o_v0 (by decide)) rfl ?_
  refine k_if hf (fun hf => ?_) (fun hf => ?_)
  · exact k_retP hf
  · refine k_gR hw (ok_o o_v0 (by decide)) rfl hf fun a1 o_a1 hf => ?_
    refine k_aI (Or.inl rfl) (ka rfl o_a1) hf fun x2 hf => ?_
    refine k_if hf (fun hf => ?_) (fun hf => ?_)
    · refine k_gR hw (ok_o o_v0 (by decide)) rfl hf fun a3 o_a3 hf => ?_
      refine k_aI (Or.inl rfl) (ka rfl o_a3) hf fun x4 hf => ?_
      refine k_if hf (fun hf => ?_) (fun hf => ?_)
      · exact k_retP hf
      · exact u_X0_floorAt_41 hw o_v0 ih2 hf
    · exact u_X0_floorAt_41 hw o_v0 ih2 hf
def nl_X0_floorAt_3 (F : Nat) (s : List Sh) (m : Mem) : Nat → Nat → Int64 → Int64 → Int32 → Option Int32
  | 0 => fun _ _ _ _ => none
  | n + 1 => fun v0 v1 v3 v5 => nb_X0_floorAt_3 F s (nl_X0_floorAt_3 F s m n) m v0 v1 v3 v5
theorem ul_X0_floorAt_3 {F : Nat} {s : List Sh} {m : Mem} {r : Int32} (hw : GS s m) (n : Nat) : ∀ (v0 : Nat) (v1 : Int64) (v3 : Int64) (v5 : Int32), ok s v0 0 → nl_X0_floorAt_3 F s m n v0 v1 v3 v5 = some r → J3 (l_X0_floorAt_3 F (bl s m) n v0 v1 v3 v5) r True := by
  induction n with
  | zero => intro v0 v1 v3 v5 o_v0 hf; cases hf
  | succ n ih => intro v0 v1 v3 v5 o_v0 hf; exact ub_X0_floorAt_3 (F := F) hw o_v0 ih hf
def nb_X0_floorAt_0 (F : Nat) (s : List Sh) (m : Mem) (v0 : Nat) (v1 : Int64) (v3 : Int64) : Option Int32 := nl_X0_floorAt_3 F s m F v0 v1 v3 (0 : Int32)
set_option maxRecDepth 20000 in
theorem u_X0_floorAt_0 {F : Nat} {s : List Sh} {m : Mem} {r : Int32} {v0 : Nat} {v1 : Int64} {v3 : Int64} (hw : GS s m) (o_v0 : ok s v0 0) (hf : nb_X0_floorAt_0 F s m v0 v1 v3 = some r) : J3 (b_X0_floorAt_0 F (bl s m) v0 v1 v3) r True := by
  unfold nb_X0_floorAt_0 at hf
  unfold b_X0_floorAt_0
  exact ul_X0_floorAt_3 hw F _ _ _ _ o_v0 hf
def n_X0_floorAt (F : Nat) (s : List Sh) (m : Mem) (p0 : Nat) (p1 : Int64) (p3 : Int64) : Option Int32 := nb_X0_floorAt_0 F s m p0 p1 p3
theorem un_X0_floorAt {F : Nat} {s : List Sh} {m : Mem} {p0 : Nat} {p1 : Int64} {p3 : Int64} {r : Int32} (hw : GS s m) (o_p0 : ok s p0 0) (ex : n_X0_floorAt F s m p0 p1 p3 = some r) : J3 (m_X0_floorAt F (bl s m) p0 p1 p3) r True := u_X0_floorAt_0 hw o_p0 ex
/-! FractionLift$House.placeFromBelow(I)I over the memory -/
def nb_X0_placeFromBelow_2 (F : Nat) (s : List Sh) (nself2 : Nat → Int32 → Int32 → Option Int32) (m : Mem) (v0 : Nat) (v1 : Int32) (v2 : Int32) : Option Int32 := if (m.1 v0 9) ≤ v2 then (some (-1 : Int32)) else ((m.2.2 v0 14).bind fun a1 => ((rdI s m a1 v2).bind fun x2 => (if x2 = v1 then (some v2) else (bindv (v2 + (1)) fun x3 => (nself2 v0 v1 x3)))))
set_option maxRecDepth 20000 in
theorem ub_X0_placeFromBelow_2 {F : Nat} {s : List Sh} {self2 : Nat → Int32 → Int32 → Option Int32} {nself2 : Nat → Int32 → Int32 → Option Int32} {m : Mem} {r : Int32} {v0 : Nat} {v1 : Int32} {v2 : Int32} (hw : GS s m) (o_v0 : ok s v0 0) (ih2 : ∀ (v0 : Nat) (v1 : Int32) (v2 : Int32), ok s v0 0 → nself2 v0 v1 v2 = some r → J3 (self2 v0 v1 v2) r True) (hf : nb_X0_placeFromBelow_2 F s nself2 m v0 v1 v2 = some r) : J3 (b_X0_placeFromBelow_2 F self2 (bl s m) v0 v1 v2) r True := by
  unfold nb_X0_placeFromBelow_2 at hf
  unfold b_X0_placeFromBelow_2
  refine k_gI (ok_o o_v0 (by decide)) rfl ?_
  refine k_if hf (fun hf => ?_) (fun hf => ?_)
  · exact k_retP hf
  · refine k_gR hw (ok_o o_v0 (by decide)) rfl hf fun a1 o_a1 hf => ?_
    refine k_aI (Or.inl rfl) (ka rfl o_a1) hf fun x2 hf => ?_
    refine k_if hf (fun hf => ?_) (fun hf => ?_)
    · exact k_retP hf
    · refine k_bv hf fun x3 hf => ?_
      exact ih2 _ _ _ o_v0 hf
def nl_X0_placeFromBelow_2 (F : Nat) (s : List Sh) (m : Mem) : Nat → Nat → Int32 → Int32 → Option Int32
  | 0 => fun _ _ _ => none
  | n + 1 => fun v0 v1 v2 => nb_X0_placeFromBelow_2 F s (nl_X0_placeFromBelow_2 F s m n) m v0 v1 v2
theorem ul_X0_placeFromBelow_2 {F : Nat} {s : List Sh} {m : Mem} {r : Int32} (hw : GS s m) (n : Nat) : ∀ (v0 : Nat) (v1 : Int32) (v2 : Int32), ok s v0 0 → nl_X0_placeFromBelow_2 F s m n v0 v1 v2 = some r → J3 (l_X0_placeFromBelow_2 F (bl s m) n v0 v1 v2) r True := by
  induction n with
  | zero => intro v0 v1 v2 o_v0 hf; cases hf
  | succ n ih => intro v0 v1 v2 o_v0 hf; exact ub_X0_placeFromBelow_2 (F := F) hw o_v0 ih hf
def nb_X0_placeFromBelow_0 (F : Nat) (s : List Sh) (m : Mem) (v0 : Nat) (v1 : Int32) : Option Int32 := nl_X0_placeFromBelow_2 F s m F v0 v1 (0 : Int32)
set_option maxRecDepth 20000 in
theorem u_X0_placeFromBelow_0 {F : Nat} {s : List Sh} {m : Mem} {r : Int32} {v0 : Nat} {v1 : Int32} (hw : GS s m) (o_v0 : ok s v0 0) (hf : nb_X0_placeFromBelow_0 F s m v0 v1 = some r) : J3 (b_X0_placeFromBelow_0 F (bl s m) v0 v1) r True := by
  unfold nb_X0_placeFromBelow_0 at hf
  unfold b_X0_placeFromBelow_0
  exact ul_X0_placeFromBelow_2 hw F _ _ _ o_v0 hf
def n_X0_placeFromBelow (F : Nat) (s : List Sh) (m : Mem) (p0 : Nat) (p1 : Int32) : Option Int32 := nb_X0_placeFromBelow_0 F s m p0 p1
theorem un_X0_placeFromBelow {F : Nat} {s : List Sh} {m : Mem} {p0 : Nat} {p1 : Int32} {r : Int32} (hw : GS s m) (o_p0 : ok s p0 0) (ex : n_X0_placeFromBelow F s m p0 p1 = some r) : J3 (m_X0_placeFromBelow F (bl s m) p0 p1) r True := u_X0_placeFromBelow_0 hw o_p0 ex
/-! FractionLift$House.toldBelow(JJ)I over the memory -/
def nb_X0_toldBelow_42 (F : Nat) (s : List Sh) (nself4 : Nat → Int64 → Int64 → Int32 → Int32 → Option Int32) (m : Mem) (v0 : Nat) (v1 : Int64) (v3 : Int64) (v5 : Int32) (v6 : Int32) : Option Int32 := bindv (v6 + (1)) fun x1 => (nself4 v0 v1 v3 v5 x1)
set_option maxRecDepth 20000 in
theorem u_X0_toldBelow_42 {F : Nat} {s : List Sh} {self4 : Nat → Int64 → Int64 → Int32 → Int32 → Option Int32} {nself4 : Nat → Int64 → Int64 → Int32 → Int32 → Option Int32} {m : Mem} {r : Int32} {v0 : Nat} {v1 : Int64} {v3 : Int64} {v5 : Int32} {v6 : Int32} (hw : GS s m) (o_v0 : ok s v0 0) (ih4 : ∀ (v0 : Nat) (v1 : Int64) (v3 : Int64) (v5 : Int32) (v6 : Int32), ok s v0 0 → nself4 v0 v1 v3 v5 v6 = some r → J3 (self4 v0 v1 v3 v5 v6) r True) (hf : nb_X0_toldBelow_42 F s nself4 m v0 v1 v3 v5 v6 = some r) : J3 (b_X0_toldBelow_42 F self4 (bl s m) v0 v1 v3 v5 v6) r True := by
  unfold nb_X0_toldBelow_42 at hf
  unfold b_X0_toldBelow_42
  refine k_bv hf fun x1 hf => ?_
  exact ih4 _ _ _ _ _ o_v0 hf
def nb_X0_toldBelow_6 (F : Nat) (s : List Sh) (nself4 : Nat → Int64 → Int64 → Int32 → Int32 → Option Int32) (m : Mem) (v0 : Nat) (v1 : Int64) (v3 : Int64) (v5 : Int32) (v6 : Int32) : Option Int32 := if (m.1 v0 9) ≤ v6 then (some v5) else ((m.2.2 v0 10).bind fun a1 => ((rdI s m a1 v6).bind fun x2 => ((m.2.2 v0 11).bind fun a3 => ((rdI s m a3 v6).bind fun x4 => (if ((v1 * (Int32.toInt64 x4))) ≤ (((Int32.toInt64 x2) * v3)) then (nb_X0_toldBelow_42 F s nself4 m v0 v1 v3 v5 v6) else (bindv (v5 + (1)) fun x5 => (nb_X0_toldBelow_42 F s nself4 m v0 v1 v3 x5 v6)))))))
set_option maxRecDepth 20000 in
theorem ub_X0_toldBelow_6 {F : Nat} {s : List Sh} {self4 : Nat → Int64 → Int64 → Int32 → Int32 → Option Int32} {nself4 : Nat → Int64 → Int64 → Int32 → Int32 → Option Int32} {m : Mem} {r : Int32} {v0 : Nat} {v1 : Int64} {v3 : Int64} {v5 : Int32} {v6 : Int32} (hw : GS s m) (o_v0 : ok s v0 0) (ih4 : ∀ (v0 : Nat) (v1 : Int64) (v3 : Int64) (v5 : Int32) (v6 : Int32), ok s v0 0 → nself4 v0 v1 v3 v5 v6 = some r → J3 (self4 v0 v1 v3 v5 v6) r True) (hf : nb_X0_toldBelow_6 F s nself4 m v0 v1 v3 v5 v6 = some r) : J3 (b_X0_toldBelow_6 F self4 (bl s m) v0 v1 v3 v5 v6) r True := by
  unfold nb_X0_toldBelow_6 at hf
  unfold b_X0_toldBelow_6
  refine k_gI (ok_o o_v0 (by decide)) rfl ?_
  refine k_if hf (fun hf => ?_) (fun hf => ?_)
  · exact k_retP hf
  · refine k_gR hw (ok_o o_v0 (by decide)) rfl hf fun a1 o_a1 hf => ?_
    refine k_aI (Or.inl rfl) (ka rfl o_a1) hf fun x2 hf => ?_
    refine k_gR hw (ok_o o_v0 (by decide)) rfl hf fun a3 o_a3 hf => ?_
    refine k_aI (Or.inl rfl) (ka rfl o_a3) hf fun x4 hf => ?_
    refine k_if hf (fun hf => ?_) (fun hf => ?_)
    · exact u_X0_toldBelow_42 hw o_v0 ih4 hf
    · refine k_bv hf fun x5 hf => ?_
      exact u_X0_toldBelow_42 hw o_v0 ih4 hf
def nl_X0_toldBelow_6 (F : Nat) (s : List Sh) (m : Mem) : Nat → Nat → Int64 → Int64 → Int32 → Int32 → Option Int32
  | 0 => fun _ _ _ _ _ => none
  | n + 1 => fun v0 v1 v3 v5 v6 => nb_X0_toldBelow_6 F s (nl_X0_toldBelow_6 F s m n) m v0 v1 v3 v5 v6
theorem ul_X0_toldBelow_6 {F : Nat} {s : List Sh} {m : Mem} {r : Int32} (hw : GS s m) (n : Nat) : ∀ (v0 : Nat) (v1 : Int64) (v3 : Int64) (v5 : Int32) (v6 : Int32), ok s v0 0 → nl_X0_toldBelow_6 F s m n v0 v1 v3 v5 v6 = some r → J3 (l_X0_toldBelow_6 F (bl s m) n v0 v1 v3 v5 v6) r True := by
  induction n with
  | zero => intro v0 v1 v3 v5 v6 o_v0 hf; cases hf
  | succ n ih => intro v0 v1 v3 v5 v6 o_v0 hf; exact ub_X0_toldBelow_6 (F := F) hw o_v0 ih hf
def nb_X0_toldBelow_0 (F : Nat) (s : List Sh) (m : Mem) (v0 : Nat) (v1 : Int64) (v3 : Int64) : Option Int32 := nl_X0_toldBelow_6 F s m F v0 v1 v3 (0 : Int32) (0 : Int32)
set_option maxRecDepth 20000 in
theorem u_X0_toldBelow_0 {F : Nat} {s : List Sh} {m : Mem} {r : Int32} {v0 : Nat} {v1 : Int64} {v3 : Int64} (hw : GS s m) (o_v0 : ok s v0 0) (hf : nb_X0_toldBelow_0 F s m v0 v1 v3 = some r) : J3 (b_X0_toldBelow_0 F (bl s m) v0 v1 v3) r True := by
  unfold nb_X0_toldBelow_0 at hf
  unfold b_X0_toldBelow_0
  exact ul_X0_toldBelow_6 hw F _ _ _ _ _ o_v0 hf
def n_X0_toldBelow (F : Nat) (s : List Sh) (m : Mem) (p0 : Nat) (p1 : Int64) (p3 : Int64) : Option Int32 := nb_X0_toldBelow_0 F s m p0 p1 p3
theorem un_X0_toldBelow {F : Nat} {s : List Sh} {m : Mem} {p0 : Nat} {p1 : Int64} {p3 : Int64} {r : Int32} (hw : GS s m) (o_p0 : ok s p0 0) (ex : n_X0_toldBelow F s m p0 p1 p3 = some r) : J3 (m_X0_toldBelow F (bl s m) p0 p1 p3) r True := u_X0_toldBelow_0 hw o_p0 ex
/-! FractionLift$House.addFloor(II)V over the memory -/
def nb_X0_addFloor_25 (F : Nat) (s : List Sh) (nself15 : Mem → Nat → Int32 → Int32 → Int32 → Int32 → Option (Unit × Mem)) (m : Mem) (v0 : Nat) (v1 : Int32) (v2 : Int32) (v3 : Int32) (v4 : Int32) : Option (Unit × Mem) := if v4 ≤ v3 then ((m.2.2 v0 14).bind fun a1 => ((stI s m a1 v3 (m.1 v0 9)).bind fun m2 => ((m2.2.2 v0 10).bind fun a3 => ((stI s m2 a3 (m2.1 v0 9) v1).bind fun m4 => ((m4.2.2 v0 11).bind fun a5 => ((stI s m4 a5 (m4.1 v0 9) v2).bind fun m6 => ((m6.2.2 v0 13).bind fun a7 => ((m6.2.2 v0 12).bind fun a8 => ((cpM s m6 a7 (0 : Int32) a8 (((m6.1 v0 9) * (3 : Int32))) (3 : Int32)).bind fun m9 => (bindv (wI m9 v0 9 (((m9.1 v0 9) + (1 : Int32)))) fun m10 => (some ((), m10)))))))))))) else ((m.2.2 v0 14).bind fun a11 => ((m.2.2 v0 14).bind fun a12 => ((rdI s m a12 ((v4 - (1 : Int32)))).bind fun x13 => ((stI s m a11 v4 x13).bind fun m14 => (bindv (v4 + (-1)) fun x15 => (nself15 m14 v0 v1 v2 v3 x15))))))
set_option maxRecDepth 20000 in
theorem ub_X0_addFloor_25 {F : Nat} {s : List Sh} {self15 : PH → Nat → Int32 → Int32 → Int32 → Int32 → Option (Unit × PH)} {nself15 : Mem → Nat → Int32 → Int32 → Int32 → Int32 → Option (Unit × Mem)} {m m' : Mem} {r : Unit} {v0 : Nat} {v1 : Int32} {v2 : Int32} {v3 : Int32} {v4 : Int32} (hw : GS s m) (o_v0 : ok s v0 0) (ih15 : ∀ (m : Mem) (v0 : Nat) (v1 : Int32) (v2 : Int32) (v3 : Int32) (v4 : Int32), GS s m → ok s v0 0 → nself15 m v0 v1 v2 v3 v4 = some (r, m') → J3 (self15 (bl s m) v0 v1 v2 v3 v4) (r, bl s m') (GS s m')) (hf : nb_X0_addFloor_25 F s nself15 m v0 v1 v2 v3 v4 = some (r, m')) : J3 (b_X0_addFloor_25 F self15 (bl s m) v0 v1 v2 v3 v4) (r, bl s m') (GS s m') := by
  unfold nb_X0_addFloor_25 at hf
  unfold b_X0_addFloor_25
  refine k_if hf (fun hf => ?_) (fun hf => ?_)
  · refine k_gR hw (ok_o o_v0 (by decide)) rfl hf fun a1 o_a1 hf => ?_
    refine k_gI (ok_o o_v0 (by decide)) rfl ?_
    refine k_sI hw (ka rfl o_a1) hf fun m2 hw hf => ?_
    refine k_gR hw (ok_o o_v0 (by decide)) rfl hf fun a3 o_a3 hf => ?_
    refine k_gI (ok_o o_v0 (by decide)) rfl ?_
    refine k_sI hw (ka rfl o_a3) hf fun m4 hw hf => ?_
    refine k_gR hw (ok_o o_v0 (by decide)) rfl hf fun a5 o_a5 hf => ?_
    refine k_gI (ok_o o_v0 (by decide)) rfl ?_
    refine k_sI hw (ka rfl o_a5) hf fun m6 hw hf => ?_
    refine k_gR hw (ok_o o_v0 (by decide)) rfl hf fun a7 o_a7 hf => ?_
    refine k_gR hw (ok_o o_v0 (by decide)) rfl hf fun a8 o_a8 hf => ?_
    refine k_gI (ok_o o_v0 (by decide)) rfl ?_
    refine k_cp hw (ka rfl o_a7) (ka rfl o_a8) hf fun m9 hw hf => ?_
    refine k_gI (ok_o o_v0 (by decide)) rfl ?_
    refine k_pI hw (ok_o o_v0 (by decide)) rfl hf fun m10 hw hf => ?_
    exact k_ret hw hf
  · refine k_gR hw (ok_o o_v0 (by decide)) rfl hf fun a11 o_a11 hf => ?_
    refine k_gR hw (ok_o o_v0 (by decide)) rfl hf fun a12 o_a12 hf => ?_
    refine k_aI (Or.inl rfl) (ka rfl o_a12) hf fun x13 hf => ?_
    refine k_sI hw (ka rfl o_a11) hf fun m14 hw hf => ?_
    refine k_bv hf fun x15 hf => ?_
    exact ih15 _ _ _ _ _ _ hw o_v0 hf
def nl_X0_addFloor_25 (F : Nat) (s : List Sh) : Nat → Mem → Nat → Int32 → Int32 → Int32 → Int32 → Option (Unit × Mem)
  | 0 => fun _ _ _ _ _ _ => none
  | n + 1 => fun m v0 v1 v2 v3 v4 => nb_X0_addFloor_25 F s (nl_X0_addFloor_25 F s n) m v0 v1 v2 v3 v4
theorem ul_X0_addFloor_25 {F : Nat} {s : List Sh} {m' : Mem} {r : Unit} (n : Nat) : ∀ (m : Mem) (v0 : Nat) (v1 : Int32) (v2 : Int32) (v3 : Int32) (v4 : Int32), GS s m → ok s v0 0 → nl_X0_addFloor_25 F s n m v0 v1 v2 v3 v4 = some (r, m') → J3 (l_X0_addFloor_25 F n (bl s m) v0 v1 v2 v3 v4) (r, bl s m') (GS s m') := by
  induction n with
  | zero => intro m v0 v1 v2 v3 v4 hw o_v0 hf; cases hf
  | succ n ih => intro m v0 v1 v2 v3 v4 hw o_v0 hf; exact ub_X0_addFloor_25 (F := F) hw o_v0 ih hf
def nb_X0_addFloor_0 (F : Nat) (s : List Sh) (m : Mem) (v0 : Nat) (v1 : Int32) (v2 : Int32) : Option (Unit × Mem) := if (m.1 v0 9) < (8 : Int32) then ((n_X0_toldBelow F s m v0 (Int32.toInt64 v1) (Int32.toInt64 v2)).bind fun x1 => (nl_X0_addFloor_25 F s F m v0 v1 v2 x1 (m.1 v0 9))) else (some ((), m))
set_option maxRecDepth 20000 in
theorem u_X0_addFloor_0 {F : Nat} {s : List Sh} {m m' : Mem} {r : Unit} {v0 : Nat} {v1 : Int32} {v2 : Int32} (hw : GS s m) (o_v0 : ok s v0 0) (hf : nb_X0_addFloor_0 F s m v0 v1 v2 = some (r, m')) : J3 (b_X0_addFloor_0 F (bl s m) v0 v1 v2) (r, bl s m') (GS s m') := by
  unfold nb_X0_addFloor_0 at hf
  unfold b_X0_addFloor_0
  refine k_gI (ok_o o_v0 (by decide)) rfl ?_
  refine k_if hf (fun hf => ?_) (fun hf => ?_)
  · refine k_cO (ok_o o_v0 (by decide)) ?_
    refine ob hf fun x1 ex hf => ?_
    refine k_b1 (un_X0_toldBelow hw o_v0 ex) ?_
    refine k_gI (ok_o o_v0 (by decide)) rfl ?_
    exact ul_X0_addFloor_25 F _ _ _ _ _ _ hw o_v0 hf
  · exact k_ret hw hf
def n_X0_addFloor (F : Nat) (s : List Sh) (m : Mem) (p0 : Nat) (p1 : Int32) (p2 : Int32) : Option (Unit × Mem) := nb_X0_addFloor_0 F s m p0 p1 p2
theorem un_X0_addFloor {F : Nat} {s : List Sh} {m m' : Mem} {p0 : Nat} {p1 : Int32} {p2 : Int32} {r : Unit} (hw : GS s m) (o_p0 : ok s p0 0) (ex : n_X0_addFloor F s m p0 p1 p2 = some (r, m')) : J3 (m_X0_addFloor F (bl s m) p0 p1 p2) (r, bl s m') (GS s m') := u_X0_addFloor_0 hw o_p0 ex
/-! FractionLift$House.addTenant(II)V over the memory -/
def nb_X0_addTenant_0 (s : List Sh) (m : Mem) (v0 : Nat) (v1 : Int32) (v2 : Int32) : Option (Unit × Mem) := if (6 : Int32) ≤ (m.1 v0 15) then (some ((), m)) else ((m.2.2 v0 16).bind fun a1 => ((stI s m a1 (m.1 v0 15) v1).bind fun m2 => ((m2.2.2 v0 17).bind fun a3 => ((stI s m2 a3 (m2.1 v0 15) v2).bind fun m4 => (bindv (wI m4 v0 15 (((m4.1 v0 15) + (1 : Int32)))) fun m5 => (some ((), m5)))))))
set_option maxRecDepth 20000 in
theorem u_X0_addTenant_0 {s : List Sh} {m m' : Mem} {r : Unit} {v0 : Nat} {v1 : Int32} {v2 : Int32} (hw : GS s m) (o_v0 : ok s v0 0) (hf : nb_X0_addTenant_0 s m v0 v1 v2 = some (r, m')) : J3 (b_X0_addTenant_0 (bl s m) v0 v1 v2) (r, bl s m') (GS s m') := by
  unfold nb_X0_addTenant_0 at hf
  unfold b_X0_addTenant_0
  refine k_gI (ok_o o_v0 (by decide)) rfl ?_
  refine k_if hf (fun hf => ?_) (fun hf => ?_)
  · exact k_ret hw hf
  · refine k_gR hw (ok_o o_v0 (by decide)) rfl hf fun a1 o_a1 hf => ?_
    refine k_gI (ok_o o_v0 (by decide)) rfl ?_
    refine k_sI hw (ka rfl o_a1) hf fun m2 hw hf => ?_
    refine k_gR hw (ok_o o_v0 (by decide)) rfl hf fun a3 o_a3 hf => ?_
    refine k_gI (ok_o o_v0 (by decide)) rfl ?_
    refine k_sI hw (ka rfl o_a3) hf fun m4 hw hf => ?_
    refine k_gI (ok_o o_v0 (by decide)) rfl ?_
    refine k_pI hw (ok_o o_v0 (by decide)) rfl hf fun m5 hw hf => ?_
    exact k_ret hw hf
def n_X0_addTenant (s : List Sh) (m : Mem) (p0 : Nat) (p1 : Int32) (p2 : Int32) : Option (Unit × Mem) := nb_X0_addTenant_0 s m p0 p1 p2
theorem un_X0_addTenant {s : List Sh} {m m' : Mem} {p0 : Nat} {p1 : Int32} {p2 : Int32} {r : Unit} (hw : GS s m) (o_p0 : ok s p0 0) (ex : n_X0_addTenant s m p0 p1 p2 = some (r, m')) : J3 (m_X0_addTenant (bl s m) p0 p1 p2) (r, bl s m') (GS s m') := u_X0_addTenant_0 hw o_p0 ex
/-! FractionLift$Ratio.put(JJ)V over the memory -/
def nb_X2_put_28 (F : Nat) (s : List Sh) (m : Mem) (v0 : Nat) (v1 : Int64) (v3 : Int64) (v5 : Int64) : Option (Unit × Mem) := if v5 = 0 then none else (bindv (wL m v0 0 (v1 / v5)) fun m1 => (if v5 = 0 then none else (bindv (wL m1 v0 1 (v3 / v5)) fun m2 => (some ((), m2)))))
set_option maxRecDepth 20000 in
theorem u_X2_put_28 {F : Nat} {s : List Sh} {m m' : Mem} {r : Unit} {v0 : Nat} {v1 : Int64} {v3 : Int64} {v5 : Int64} (hw : GS s m) (o_v0 : ok s v0 2) (hf : nb_X2_put_28 F s m v0 v1 v3 v5 = some (r, m')) : J3 (b_X2_put_28 F (bl s m) v0 v1 v3 v5) (r, bl s m') (GS s m') := by
  unfold nb_X2_put_28 at hf
  unfold b_X2_put_28
  refine k_if hf (fun hf => by cases hf) (fun hf => ?_)
  refine k_pL hw (ok_o o_v0 (by decide)) rfl hf fun m1 hw hf => ?_
  refine k_if hf (fun hf => by cases hf) (fun hf => ?_)
  refine k_pL hw (ok_o o_v0 (by decide)) rfl hf fun m2 hw hf => ?_
  exact k_ret hw hf
def nb_X2_put_17 (F : Nat) (s : List Sh) (m : Mem) (v0 : Nat) (v1 : Int64) (v3 : Int64) (v5 : Int64) : Option (Unit × Mem) := if (0 : Int64) ≤ v3 then (nb_X2_put_28 F s m v0 v1 v3 v5) else (bindv (-v5) fun x1 => (nb_X2_put_28 F s m v0 v1 v3 x1))
set_option maxRecDepth 20000 in
theorem u_X2_put_17 {F : Nat} {s : List Sh} {m m' : Mem} {r : Unit} {v0 : Nat} {v1 : Int64} {v3 : Int64} {v5 : Int64} (hw : GS s m) (o_v0 : ok s v0 2) (hf : nb_X2_put_17 F s m v0 v1 v3 v5 = some (r, m')) : J3 (b_X2_put_17 F (bl s m) v0 v1 v3 v5) (r, bl s m') (GS s m') := by
  unfold nb_X2_put_17 at hf
  unfold b_X2_put_17
  refine k_if hf (fun hf => ?_) (fun hf => ?_)
  · exact u_X2_put_28 hw o_v0 hf
  · refine k_bv hf fun x1 hf => ?_
    exact u_X2_put_28 hw o_v0 hf
def nb_X2_put_0 (F : Nat) (s : List Sh) (m : Mem) (v0 : Nat) (v1 : Int64) (v3 : Int64) : Option (Unit × Mem) := (m_X9_commonFactor F v1 v3).bind fun x1 => (if x1 = (0 : Int64) then (nb_X2_put_17 F s m v0 v1 v3 (1 : Int64)) else (nb_X2_put_17 F s m v0 v1 v3 x1))
set_option maxRecDepth 20000 in
theorem u_X2_put_0 {F : Nat} {s : List Sh} {m m' : Mem} {r : Unit} {v0 : Nat} {v1 : Int64} {v3 : Int64} (hw : GS s m) (o_v0 : ok s v0 2) (hf : nb_X2_put_0 F s m v0 v1 v3 = some (r, m')) : J3 (b_X2_put_0 F (bl s m) v0 v1 v3) (r, bl s m') (GS s m') := by
  unfold nb_X2_put_0 at hf
  unfold b_X2_put_0
  refine k_pure hf fun x1 hf => ?_
  refine k_if hf (fun hf => ?_) (fun hf => ?_)
  · exact u_X2_put_17 hw o_v0 hf
  · exact u_X2_put_17 hw o_v0 hf
def n_X2_put (F : Nat) (s : List Sh) (m : Mem) (p0 : Nat) (p1 : Int64) (p3 : Int64) : Option (Unit × Mem) := nb_X2_put_0 F s m p0 p1 p3
theorem un_X2_put {F : Nat} {s : List Sh} {m m' : Mem} {p0 : Nat} {p1 : Int64} {p3 : Int64} {r : Unit} (hw : GS s m) (o_p0 : ok s p0 2) (ex : n_X2_put F s m p0 p1 p3 = some (r, m')) : J3 (m_X2_put F (bl s m) p0 p1 p3) (r, bl s m') (GS s m') := u_X2_put_0 hw o_p0 ex
/-! FractionLift$House.widthBetween(II)J over the memory -/
def nb_X0_widthBetween_0 (s : List Sh) (m : Mem) (v0 : Nat) (v1 : Int32) (v2 : Int32) : Option Int64 := (m.2.2 v0 10).bind fun a1 => ((rdI s m a1 v2).bind fun x2 => ((m.2.2 v0 11).bind fun a3 => ((rdI s m a3 v1).bind fun x4 => ((m.2.2 v0 10).bind fun a5 => ((rdI s m a5 v1).bind fun x6 => ((m.2.2 v0 11).bind fun a7 => ((rdI s m a7 v2).bind fun x8 => (some (((((Int32.toInt64 x2) * (Int32.toInt64 x4))) - (((Int32.toInt64 x6) * (Int32.toInt64 x8)))))))))))))
set_option maxRecDepth 20000 in
theorem u_X0_widthBetween_0 {s : List Sh} {m : Mem} {r : Int64} {v0 : Nat} {v1 : Int32} {v2 : Int32} (hw : GS s m) (o_v0 : ok s v0 0) (hf : nb_X0_widthBetween_0 s m v0 v1 v2 = some r) : J3 (b_X0_widthBetween_0 (bl s m) v0 v1 v2) r True := by
  unfold nb_X0_widthBetween_0 at hf
  unfold b_X0_widthBetween_0
  refine k_gR hw (ok_o o_v0 (by decide)) rfl hf fun a1 o_a1 hf => ?_
  refine k_aI (Or.inl rfl) (ka rfl o_a1) hf fun x2 hf => ?_
  refine k_gR hw (ok_o o_v0 (by decide)) rfl hf fun a3 o_a3 hf => ?_
  refine k_aI (Or.inl rfl) (ka rfl o_a3) hf fun x4 hf => ?_
  refine k_gR hw (ok_o o_v0 (by decide)) rfl hf fun a5 o_a5 hf => ?_
  refine k_aI (Or.inl rfl) (ka rfl o_a5) hf fun x6 hf => ?_
  refine k_gR hw (ok_o o_v0 (by decide)) rfl hf fun a7 o_a7 hf => ?_
  refine k_aI (Or.inl rfl) (ka rfl o_a7) hf fun x8 hf => ?_
  exact k_retP hf
def n_X0_widthBetween (s : List Sh) (m : Mem) (p0 : Nat) (p1 : Int32) (p2 : Int32) : Option Int64 := nb_X0_widthBetween_0 s m p0 p1 p2
theorem un_X0_widthBetween {s : List Sh} {m : Mem} {p0 : Nat} {p1 : Int32} {p2 : Int32} {r : Int64} (hw : GS s m) (o_p0 : ok s p0 0) (ex : n_X0_widthBetween s m p0 p1 p2 = some r) : J3 (m_X0_widthBetween (bl s m) p0 p1 p2) r True := u_X0_widthBetween_0 hw o_p0 ex
/-! FractionLift$House.stuffAt(IJJLFractionLift$Ratio;)V over the memory -/
def nb_X0_stuffAt_0 (F : Nat) (s : List Sh) (m : Mem) (v0 : Nat) (v1 : Int32) (v2 : Int64) (v4 : Int64) (v6 : Nat) : Option (Unit × Mem) := if (m.1 v0 9) = 0 then (bind2 (n_X2_put F s m v6 (0 : Int64) (1 : Int64)) fun _ m29 => (some ((), m29))) else ((n_X0_toldBelow F s m v0 v2 v4).bind fun x1 => (if x1 = (m.1 v0 9) then ((m.2.2 v0 14).bind fun a23 => ((rdI s m a23 ((x1 - (1 : Int32)))).bind fun x24 => ((n_X0_stuffOf s m v0 x24 v1).bind fun x25 => (bind2 (n_X2_put F s m v6 (Int32.toInt64 x25) (1 : Int64)) fun _ m27 => (some ((), m27)))))) else ((m.2.2 v0 14).bind fun a2 => ((rdI s m a2 x1).bind fun x3 => (if x1 = 0 then ((n_X0_stuffOf s m v0 x3 v1).bind fun x20 => (bind2 (n_X2_put F s m v6 (Int32.toInt64 x20) (1 : Int64)) fun _ m22 => (some ((), m22)))) else ((m.2.2 v0 14).bind fun a4 => ((rdI s m a4 ((x1 - (1 : Int32)))).bind fun x5 => ((n_X0_widthBetween s m v0 x5 x3).bind fun x6 => ((m.2.2 v0 11).bind fun a7 => ((rdI s m a7 x5).bind fun x8 => ((m.2.2 v0 10).bind fun a9 => ((rdI s m a9 x5).bind fun x10 => (bindv ((((v2 * (Int32.toInt64 x8))) - (((Int32.toInt64 x10) * v4)))) fun x11 => ((n_X0_stuffOf s m v0 x3 v1).bind fun x12 => ((n_X0_stuffOf s m v0 x5 v1).bind fun x13 => (bindv ((Int32.toInt64 (x12 - x13))) fun x14 => ((n_X0_stuffOf s m v0 x5 v1).bind fun x15 => ((m.2.2 v0 11).bind fun a16 => ((rdI s m a16 x3).bind fun x17 => (bind2 (n_X2_put F s m v6 (((((((Int32.toInt64 x15) * v4)) * x6)) + (((x14 * x11) * (Int32.toInt64 x17))))) (v4 * x6)) fun _ m19 => (some ((), m19))))))))))))))))))))))
set_option maxRecDepth 20000 in
theorem u_X0_stuffAt_0 {F : Nat} {s : List Sh} {m m' : Mem} {r : Unit} {v0 : Nat} {v1 : Int32} {v2 : Int64} {v4 : Int64} {v6 : Nat} (hw : GS s m) (o_v0 : ok s v0 0) (o_v6 : ok s v6 2) (hf : nb_X0_stuffAt_0 F s m v0 v1 v2 v4 v6 = some (r, m')) : J3 (b_X0_stuffAt_0 F (bl s m) v0 v1 v2 v4 v6) (r, bl s m') (GS s m') := by
  unfold nb_X0_stuffAt_0 at hf
  unfold b_X0_stuffAt_0
  refine k_gI (ok_o o_v0 (by decide)) rfl ?_
  refine k_if hf (fun hf => ?_) (fun hf => ?_)
  · refine k_cO (ok_o o_v6 (by decide)) ?_
    refine ob2 hf fun u m29 ex hf => ?_
    refine k_b2 (un_X2_put hw o_v6 ex) fun hw => ?_
    exact k_ret hw hf
  · refine k_cO (ok_o o_v0 (by decide)) ?_
    refine ob hf fun x1 ex hf => ?_
    refine k_b1 (un_X0_toldBelow hw o_v0 ex) ?_
    refine k_gI (ok_o o_v0 (by decide)) rfl ?_
    refine k_if hf (fun hf => ?_) (fun hf => ?_)
    · refine k_gR hw (ok_o o_v0 (by decide)) rfl hf fun a23 o_a23 hf => ?_
      refine k_aI (Or.inl rfl) (ka rfl o_a23) hf fun x24 hf => ?_
      refine k_cO (ok_o o_v0 (by decide)) ?_
      refine ob hf fun x25 ex hf => ?_
      refine k_b1 (un_X0_stuffOf hw o_v0 ex) ?_
      refine k_cO (ok_o o_v6 (by decide)) ?_
      refine ob2 hf fun u m27 ex hf => ?_
      refine k_b2 (un_X2_put hw o_v6 ex) fun hw => ?_
      exact k_ret hw hf
    · refine k_gR hw (ok_o o_v0 (by decide)) rfl hf fun a2 o_a2 hf => ?_
      refine k_aI (Or.inl rfl) (ka rfl o_a2) hf fun x3 hf => ?_
      refine k_if hf (fun hf => ?_) (fun hf => ?_)
      · refine k_cO (ok_o o_v0 (by decide)) ?_
        refine ob hf fun x20 ex hf => ?_
        refine k_b1 (un_X0_stuffOf hw o_v0 ex) ?_
        refine k_cO (ok_o o_v6 (by decide)) ?_
        refine ob2 hf fun u m22 ex hf => ?_
        refine k_b2 (un_X2_put hw o_v6 ex) fun hw => ?_
        exact k_ret hw hf
      · refine k_gR hw (ok_o o_v0 (by decide)) rfl hf fun a4 o_a4 hf => ?_
        refine k_aI (Or.inl rfl) (ka rfl o_a4) hf fun x5 hf => ?_
        refine k_cO (ok_o o_v0 (by decide)) ?_
        refine ob hf fun x6 ex hf => ?_
        refine k_b1 (un_X0_widthBetween hw o_v0 ex) ?_
        refine k_gR hw (ok_o o_v0 (by decide)) rfl hf fun a7 o_a7 hf => ?_
        refine k_aI (Or.inl rfl) (ka rfl o_a7) hf fun x8 hf => ?_
        refine k_gR hw (ok_o o_v0 (by decide)) rfl hf fun a9 o_a9 hf => ?_
        refine k_aI (Or.inl rfl) (ka rfl o_a9) hf fun x10 hf => ?_
        refine k_bv hf fun x11 hf => ?_
        refine k_cO (ok_o o_v0 (by decide)) ?_
        refine ob hf fun x12 ex hf => ?_
        refine k_b1 (un_X0_stuffOf hw o_v0 ex) ?_
        refine k_cO (ok_o o_v0 (by decide)) ?_
        refine ob hf fun x13 ex hf => ?_
        refine k_b1 (un_X0_stuffOf hw o_v0 ex) ?_
        refine k_bv hf fun x14 hf => ?_
        refine k_cO (ok_o o_v0 (by decide)) ?_
        refine ob hf fun x15 ex hf => ?_
        refine k_b1 (un_X0_stuffOf hw o_v0 ex) ?_
        refine k_gR hw (ok_o o_v0 (by decide)) rfl hf fun a16 o_a16 hf => ?_
        refine k_aI (Or.inl rfl) (ka rfl o_a16) hf fun x17 hf => ?_
        refine k_cO (ok_o o_v6 (by decide)) ?_
        refine ob2 hf fun u m19 ex hf => ?_
        refine k_b2 (un_X2_put hw o_v6 ex) fun hw => ?_
        exact k_ret hw hf
def n_X0_stuffAt (F : Nat) (s : List Sh) (m : Mem) (p0 : Nat) (p1 : Int32) (p2 : Int64) (p4 : Int64) (p6 : Nat) : Option (Unit × Mem) := nb_X0_stuffAt_0 F s m p0 p1 p2 p4 p6
theorem un_X0_stuffAt {F : Nat} {s : List Sh} {m m' : Mem} {p0 : Nat} {p1 : Int32} {p2 : Int64} {p4 : Int64} {p6 : Nat} {r : Unit} (hw : GS s m) (o_p0 : ok s p0 0) (o_p6 : ok s p6 2) (ex : n_X0_stuffAt F s m p0 p1 p2 p4 p6 = some (r, m')) : J3 (m_X0_stuffAt F (bl s m) p0 p1 p2 p4 p6) (r, bl s m') (GS s m') := u_X0_stuffAt_0 hw o_p0 o_p6 ex
/-! FractionLift$House.overAt(IIII)I over the memory -/
def nb_X0_overAt_0 (s : List Sh) (m : Mem) (v0 : Nat) (v1 : Int32) (v2 : Int32) (v3 : Int32) (v4 : Int32) : Option Int32 := (n_X0_stuffOf s m v0 v1 v2).bind fun x1 => (if v3 = (-1 : Int32) then (some (x1 - v4)) else ((n_X0_stuffOf s m v0 v1 v3).bind fun x2 => (some (x1 - x2))))
set_option maxRecDepth 20000 in
theorem u_X0_overAt_0 {s : List Sh} {m : Mem} {r : Int32} {v0 : Nat} {v1 : Int32} {v2 : Int32} {v3 : Int32} {v4 : Int32} (hw : GS s m) (o_v0 : ok s v0 0) (hf : nb_X0_overAt_0 s m v0 v1 v2 v3 v4 = some r) : J3 (b_X0_overAt_0 (bl s m) v0 v1 v2 v3 v4) r True := by
  unfold nb_X0_overAt_0 at hf
  unfold b_X0_overAt_0
  refine k_cO (ok_o o_v0 (by decide)) ?_
  refine ob hf fun x1 ex hf => ?_
  refine k_b1 (un_X0_stuffOf hw o_v0 ex) ?_
  refine k_if hf (fun hf => ?_) (fun hf => ?_)
  · exact k_retP hf
  · refine k_cO (ok_o o_v0 (by decide)) ?_
    refine ob hf fun x2 ex hf => ?_
    refine k_b1 (un_X0_stuffOf hw o_v0 ex) ?_
    exact k_retP hf
def n_X0_overAt (s : List Sh) (m : Mem) (p0 : Nat) (p1 : Int32) (p2 : Int32) (p3 : Int32) (p4 : Int32) : Option Int32 := nb_X0_overAt_0 s m p0 p1 p2 p3 p4
theorem un_X0_overAt {s : List Sh} {m : Mem} {p0 : Nat} {p1 : Int32} {p2 : Int32} {p3 : Int32} {p4 : Int32} {r : Int32} (hw : GS s m) (o_p0 : ok s p0 0) (ex : n_X0_overAt s m p0 p1 p2 p3 p4 = some r) : J3 (m_X0_overAt (bl s m) p0 p1 p2 p3 p4) r True := u_X0_overAt_0 hw o_p0 ex
/-! FractionLift$House.putCrossing(IIIILFractionLift$Ratio;)V over the memory -/
def nb_X0_putCrossing_0 (F : Nat) (s : List Sh) (m : Mem) (v0 : Nat) (v1 : Int32) (v2 : Int32) (v3 : Int32) (v4 : Int32) (v5 : Nat) : Option (Unit × Mem) := bindv ((Int32.toInt64 (v3 - v4))) fun x1 => ((m.2.2 v0 11).bind fun a2 => ((rdI s m a2 v1).bind fun x3 => ((m.2.2 v0 11).bind fun a4 => ((rdI s m a4 v2).bind fun x5 => (bindv (((Int32.toInt64 x3) * (Int32.toInt64 x5))) fun x6 => ((m.2.2 v0 10).bind fun a7 => ((rdI s m a7 v1).bind fun x8 => ((m.2.2 v0 11).bind fun a9 => ((rdI s m a9 v2).bind fun x10 => ((n_X0_widthBetween s m v0 v1 v2).bind fun x11 => (bindv ((((((Int32.toInt64 (x8 * x10))) * x1)) + ((x11 * (Int32.toInt64 v3))))) fun x12 => (bind2 (n_X2_put F s m v5 x12 (x6 * x1)) fun _ m14 => (some ((), m14))))))))))))))
set_option maxRecDepth 20000 in
theorem u_X0_putCrossing_0 {F : Nat} {s : List Sh} {m m' : Mem} {r : Unit} {v0 : Nat} {v1 : Int32} {v2 : Int32} {v3 : Int32} {v4 : Int32} {v5 : Nat} (hw : GS s m) (o_v0 : ok s v0 0) (o_v5 : ok s v5 2) (hf : nb_X0_putCrossing_0 F s m v0 v1 v2 v3 v4 v5 = some (r, m')) : J3 (b_X0_putCrossing_0 F (bl s m) v0 v1 v2 v3 v4 v5) (r, bl s m') (GS s m') := by
  unfold nb_X0_putCrossing_0 at hf
  unfold b_X0_putCrossing_0
  refine k_bv hf fun x1 hf => ?_
  refine k_gR hw (ok_o o_v0 (by decide)) rfl hf fun a2 o_a2 hf => ?_
  refine k_aI (Or.inl rfl) (ka rfl o_a2) hf fun x3 hf => ?_
  refine k_gR hw (ok_o o_v0 (by decide)) rfl hf fun a4 o_a4 hf => ?_
  refine k_aI (Or.inl rfl) (ka rfl o_a4) hf fun x5 hf => ?_
  refine k_bv hf fun x6 hf => ?_
  refine k_gR hw (ok_o o_v0 (by decide)) rfl hf fun a7 o_a7 hf => ?_
  refine k_aI (Or.inl rfl) (ka rfl o_a7) hf fun x8 hf => ?_
  refine k_gR hw (ok_o o_v0 (by decide)) rfl hf fun a9 o_a9 hf => ?_
  refine k_aI (Or.inl rfl) (ka rfl o_a9) hf fun x10 hf => ?_
  refine k_cO (ok_o o_v0 (by decide)) ?_
  refine ob hf fun x11 ex hf => ?_
  refine k_b1 (un_X0_widthBetween hw o_v0 ex) ?_
  refine k_bv hf fun x12 hf => ?_
  refine k_cO (ok_o o_v5 (by decide)) ?_
  refine ob2 hf fun u m14 ex hf => ?_
  refine k_b2 (un_X2_put hw o_v5 ex) fun hw => ?_
  exact k_ret hw hf
def n_X0_putCrossing (F : Nat) (s : List Sh) (m : Mem) (p0 : Nat) (p1 : Int32) (p2 : Int32) (p3 : Int32) (p4 : Int32) (p5 : Nat) : Option (Unit × Mem) := nb_X0_putCrossing_0 F s m p0 p1 p2 p3 p4 p5
theorem un_X0_putCrossing {F : Nat} {s : List Sh} {m m' : Mem} {p0 : Nat} {p1 : Int32} {p2 : Int32} {p3 : Int32} {p4 : Int32} {p5 : Nat} {r : Unit} (hw : GS s m) (o_p0 : ok s p0 0) (o_p5 : ok s p5 2) (ex : n_X0_putCrossing F s m p0 p1 p2 p3 p4 p5 = some (r, m')) : J3 (m_X0_putCrossing F (bl s m) p0 p1 p2 p3 p4 p5) (r, bl s m') (GS s m') := u_X0_putCrossing_0 hw o_p0 o_p5 ex
/-! FractionLift$House.leastLevel(IIILFractionLift$Ratio;)Z over the memory -/
def nb_X0_leastLevel_102 (F : Nat) (s : List Sh) (m : Mem) (v0 : Nat) (v4 : Nat) (v5 : Int32) (v6 : Int32) (v7 : Int32) : Option (Int32 × Mem) := (m.2.2 v0 14).bind fun a1 => ((rdI s m a1 ((v6 - (1 : Int32)))).bind fun x2 => ((m.2.2 v0 14).bind fun a3 => ((rdI s m a3 v6).bind fun x4 => (bind2 (n_X0_putCrossing F s m v0 x2 x4 v5 v7 v4) fun _ m6 => (rZM (1 : Int32) m6)))))
set_option maxRecDepth 20000 in
theorem u_X0_leastLevel_102 {F : Nat} {s : List Sh} {m m' : Mem} {r : Int32} {v0 : Nat} {v4 : Nat} {v5 : Int32} {v6 : Int32} {v7 : Int32} (hw : GS s m) (o_v0 : ok s v0 0) (o_v4 : ok s v4 2) (hf : nb_X0_leastLevel_102 F s m v0 v4 v5 v6 v7 = some (r, m')) : J3 (b_X0_leastLevel_102 F (bl s m) v0 v4 v5 v6 v7) (r, bl s m') (GS s m') := by
  unfold nb_X0_leastLevel_102 at hf
  unfold b_X0_leastLevel_102
  refine k_gR hw (ok_o o_v0 (by decide)) rfl hf fun a1 o_a1 hf => ?_
  refine k_aI (Or.inl rfl) (ka rfl o_a1) hf fun x2 hf => ?_
  refine k_gR hw (ok_o o_v0 (by decide)) rfl hf fun a3 o_a3 hf => ?_
  refine k_aI (Or.inl rfl) (ka rfl o_a3) hf fun x4 hf => ?_
  refine k_cO (ok_o o_v0 (by decide)) ?_
  refine ob2 hf fun u m6 ex hf => ?_
  refine k_b2 (un_X0_putCrossing hw o_v0 o_v4 ex) fun hw => ?_
  exact k_rZ hw hf
def nb_X0_leastLevel_99 (F : Nat) (s : List Sh) (nself29 : Mem → Nat → Int32 → Int32 → Int32 → Nat → Int32 → Int32 → Option (Int32 × Mem)) (m : Mem) (v0 : Nat) (v1 : Int32) (v2 : Int32) (v3 : Int32) (v4 : Nat) (v5 : Int32) (v6 : Int32) (v7 : Int32) (s0 : Int32) (s1 : Int32) : Option (Int32 × Mem) := if s0 = s1 then (bindv (v6 + (1)) fun x1 => (nself29 m v0 v1 v2 v3 v4 v7 x1)) else (nb_X0_leastLevel_102 F s m v0 v4 v5 v6 v7)
set_option maxRecDepth 20000 in
theorem u_X0_leastLevel_99 {F : Nat} {s : List Sh} {self29 : PH → Nat → Int32 → Int32 → Int32 → Nat → Int32 → Int32 → Option (Int32 × PH)} {nself29 : Mem → Nat → Int32 → Int32 → Int32 → Nat → Int32 → Int32 → Option (Int32 × Mem)} {m m' : Mem} {r : Int32} {v0 : Nat} {v1 : Int32} {v2 : Int32} {v3 : Int32} {v4 : Nat} {v5 : Int32} {v6 : Int32} {v7 : Int32} {s0 : Int32} {s1 : Int32} (hw : GS s m) (o_v0 : ok s v0 0) (o_v4 : ok s v4 2) (ih29 : ∀ (m : Mem) (v0 : Nat) (v1 : Int32) (v2 : Int32) (v3 : Int32) (v4 : Nat) (v5 : Int32) (v6 : Int32), GS s m → ok s v0 0 → ok s v4 2 → nself29 m v0 v1 v2 v3 v4 v5 v6 = some (r, m') → J3 (self29 (bl s m) v0 v1 v2 v3 v4 v5 v6) (r, bl s m') (GS s m')) (hf : nb_X0_leastLevel_99 F s nself29 m v0 v1 v2 v3 v4 v5 v6 v7 s0 s1 = some (r, m')) : J3 (b_X0_leastLevel_99 F self29 (bl s m) v0 v1 v2 v3 v4 v5 v6 v7 s0 s1) (r, bl s m') (GS s m') := by
  unfold nb_X0_leastLevel_99 at hf
  unfold b_X0_leastLevel_99
  refine k_if hf (fun hf => ?_) (fun hf => ?_)
  · refine k_bv hf fun x1 hf => ?_
    exact ih29 _ _ _ _ _ _ _ _ hw o_v0 o_v4 hf
  · exact u_X0_leastLevel_102 hw o_v0 o_v4 hf
def nb_X0_leastLevel_89 (F : Nat) (s : List Sh) (nself29 : Mem → Nat → Int32 → Int32 → Int32 → Nat → Int32 → Int32 → Option (Int32 × Mem)) (m : Mem) (v0 : Nat) (v1 : Int32) (v2 : Int32) (v3 : Int32) (v4 : Nat) (v5 : Int32) (v6 : Int32) (v7 : Int32) (s0 : Int32) : Option (Int32 × Mem) := if v5 ≤ 0 then (nb_X0_leastLevel_99 F s nself29 m v0 v1 v2 v3 v4 v5 v6 v7 s0 (0 : Int32)) else (nb_X0_leastLevel_99 F s nself29 m v0 v1 v2 v3 v4 v5 v6 v7 s0 (1 : Int32))
set_option maxRecDepth 20000 in
theorem u_X0_leastLevel_89 {F : Nat} {s : List Sh} {self29 : PH → Nat → Int32 → Int32 → Int32 → Nat → Int32 → Int32 → Option (Int32 × PH)} {nself29 : Mem → Nat → Int32 → Int32 → Int32 → Nat → Int32 → Int32 → Option (Int32 × Mem)} {m m' : Mem} {r : Int32} {v0 : Nat} {v1 : Int32} {v2 : Int32} {v3 : Int32} {v4 : Nat} {v5 : Int32} {v6 : Int32} {v7 : Int32} {s0 : Int32} (hw : GS s m) (o_v0 : ok s v0 0) (o_v4 : ok s v4 2) (ih29 : ∀ (m : Mem) (v0 : Nat) (v1 : Int32) (v2 : Int32) (v3 : Int32) (v4 : Nat) (v5 : Int32) (v6 : Int32), GS s m → ok s v0 0 → ok s v4 2 → nself29 m v0 v1 v2 v3 v4 v5 v6 = some (r, m') → J3 (self29 (bl s m) v0 v1 v2 v3 v4 v5 v6) (r, bl s m') (GS s m')) (hf : nb_X0_leastLevel_89 F s nself29 m v0 v1 v2 v3 v4 v5 v6 v7 s0 = some (r, m')) : J3 (b_X0_leastLevel_89 F self29 (bl s m) v0 v1 v2 v3 v4 v5 v6 v7 s0) (r, bl s m') (GS s m') := by
  unfold nb_X0_leastLevel_89 at hf
  unfold b_X0_leastLevel_89
  refine k_if hf (fun hf => ?_) (fun hf => ?_)
  · exact u_X0_leastLevel_99 hw o_v0 o_v4 ih29 hf
  · exact u_X0_leastLevel_99 hw o_v0 o_v4 ih29 hf
def nb_X0_leastLevel_49 (F : Nat) (s : List Sh) (nself29 : Mem → Nat → Int32 → Int32 → Int32 → Nat → Int32 → Int32 → Option (Int32 × Mem)) (m : Mem) (v0 : Nat) (v1 : Int32) (v2 : Int32) (v3 : Int32) (v4 : Nat) (v5 : Int32) (v6 : Int32) : Option (Int32 × Mem) := if (m.1 v0 9) ≤ v6 then (rZM (0 : Int32) m) else ((m.2.2 v0 14).bind fun a1 => ((rdI s m a1 v6).bind fun x2 => ((n_X0_overAt s m v0 x2 v1 v2 v3).bind fun x3 => (if x3 = 0 then (nb_X0_leastLevel_102 F s m v0 v4 v5 v6 x3) else (if x3 ≤ 0 then (nb_X0_leastLevel_89 F s nself29 m v0 v1 v2 v3 v4 v5 v6 x3 (0 : Int32)) else (nb_X0_leastLevel_89 F s nself29 m v0 v1 v2 v3 v4 v5 v6 x3 (1 : Int32)))))))
set_option maxRecDepth 20000 in
theorem ub_X0_leastLevel_49 {F : Nat} {s : List Sh} {self29 : PH → Nat → Int32 → Int32 → Int32 → Nat → Int32 → Int32 → Option (Int32 × PH)} {nself29 : Mem → Nat → Int32 → Int32 → Int32 → Nat → Int32 → Int32 → Option (Int32 × Mem)} {m m' : Mem} {r : Int32} {v0 : Nat} {v1 : Int32} {v2 : Int32} {v3 : Int32} {v4 : Nat} {v5 : Int32} {v6 : Int32} (hw : GS s m) (o_v0 : ok s v0 0) (o_v4 : ok s v4 2) (ih29 : ∀ (m : Mem) (v0 : Nat) (v1 : Int32) (v2 : Int32) (v3 : Int32) (v4 : Nat) (v5 : Int32) (v6 : Int32), GS s m → ok s v0 0 → ok s v4 2 → nself29 m v0 v1 v2 v3 v4 v5 v6 = some (r, m') → J3 (self29 (bl s m) v0 v1 v2 v3 v4 v5 v6) (r, bl s m') (GS s m')) (hf : nb_X0_leastLevel_49 F s nself29 m v0 v1 v2 v3 v4 v5 v6 = some (r, m')) : J3 (b_X0_leastLevel_49 F self29 (bl s m) v0 v1 v2 v3 v4 v5 v6) (r, bl s m') (GS s m') := by
  unfold nb_X0_leastLevel_49 at hf
  unfold b_X0_leastLevel_49
  refine k_gI (ok_o o_v0 (by decide)) rfl ?_
  refine k_if hf (fun hf => ?_) (fun hf => ?_)
  · exact k_rZ hw hf
  · refine k_gR hw (ok_o o_v0 (by decide)) rfl hf fun a1 o_a1 hf => ?_
    refine k_aI (Or.inl rfl) (ka rfl o_a1) hf fun x2 hf => ?_
    refine k_cO (ok_o o_v0 (by decide)) ?_
    refine ob hf fun x3 ex hf => ?_
    refine k_b1 (un_X0_overAt hw o_v0 ex) ?_
    refine k_if hf (fun hf => ?_) (fun hf => ?_)
    · exact u_X0_leastLevel_102 hw o_v0 o_v4 hf
    · refine k_if hf (fun hf => ?_) (fun hf => ?_)
      · exact u_X0_leastLevel_89 hw o_v0 o_v4 ih29 hf
      · exact u_X0_leastLevel_89 hw o_v0 o_v4 ih29 hf
def nl_X0_leastLevel_49 (F : Nat) (s : List Sh) : Nat → Mem → Nat → Int32 → Int32 → Int32 → Nat → Int32 → Int32 → Option (Int32 × Mem)
  | 0 => fun _ _ _ _ _ _ _ _ => none
  | n + 1 => fun m v0 v1 v2 v3 v4 v5 v6 => nb_X0_leastLevel_49 F s (nl_X0_leastLevel_49 F s n) m v0 v1 v2 v3 v4 v5 v6
theorem ul_X0_leastLevel_49 {F : Nat} {s : List Sh} {m' : Mem} {r : Int32} (n : Nat) : ∀ (m : Mem) (v0 : Nat) (v1 : Int32) (v2 : Int32) (v3 : Int32) (v4 : Nat) (v5 : Int32) (v6 : Int32), GS s m → ok s v0 0 → ok s v4 2 → nl_X0_leastLevel_49 F s n m v0 v1 v2 v3 v4 v5 v6 = some (r, m') → J3 (l_X0_leastLevel_49 F n (bl s m) v0 v1 v2 v3 v4 v5 v6) (r, bl s m') (GS s m') := by
  induction n with
  | zero => intro m v0 v1 v2 v3 v4 v5 v6 hw o_v0 o_v4 hf; cases hf
  | succ n ih => intro m v0 v1 v2 v3 v4 v5 v6 hw o_v0 o_v4 hf; exact ub_X0_leastLevel_49 (F := F) hw o_v0 o_v4 ih hf
def nb_X0_leastLevel_0 (F : Nat) (s : List Sh) (m : Mem) (v0 : Nat) (v1 : Int32) (v2 : Int32) (v3 : Int32) (v4 : Nat) : Option (Int32 × Mem) := bind2 (n_X2_put F s m v4 (0 : Int64) (1 : Int64)) fun _ m2 => (if (m2.1 v0 9) = 0 then (if v3 = 0 then (rZM (1 : Int32) m2) else (rZM (0 : Int32) m2)) else ((m2.2.2 v0 14).bind fun a3 => ((rdI s m2 a3 (0 : Int32)).bind fun x4 => ((n_X0_overAt s m2 v0 x4 v1 v2 v3).bind fun x5 => (if x5 = 0 then (rZM (1 : Int32) m2) else (nl_X0_leastLevel_49 F s F m2 v0 v1 v2 v3 v4 x5 (1 : Int32)))))))
set_option maxRecDepth 20000 in
theorem u_X0_leastLevel_0 {F : Nat} {s : List Sh} {m m' : Mem} {r : Int32} {v0 : Nat} {v1 : Int32} {v2 : Int32} {v3 : Int32} {v4 : Nat} (hw : GS s m) (o_v0 : ok s v0 0) (o_v4 : ok s v4 2) (hf : nb_X0_leastLevel_0 F s m v0 v1 v2 v3 v4 = some (r, m')) : J3 (b_X0_leastLevel_0 F (bl s m) v0 v1 v2 v3 v4) (r, bl s m') (GS s m') := by
  unfold nb_X0_leastLevel_0 at hf
  unfold b_X0_leastLevel_0
  refine k_cO (ok_o o_v4 (by decide)) ?_
  refine ob2 hf fun u m2 ex hf => ?_
  refine k_b2 (un_X2_put hw o_v4 ex) fun hw => ?_
  refine k_gI (ok_o o_v0 (by decide)) rfl ?_
  refine k_if hf (fun hf => ?_) (fun hf => ?_)
  · refine k_if hf (fun hf => ?_) (fun hf => ?_)
    · exact k_rZ hw hf
    · exact k_rZ hw hf
  · refine k_gR hw (ok_o o_v0 (by decide)) rfl hf fun a3 o_a3 hf => ?_
    refine k_aI (Or.inl rfl) (ka rfl o_a3) hf fun x4 hf => ?_
    refine k_cO (ok_o o_v0 (by decide)) ?_
    refine ob hf fun x5 ex hf => ?_
    refine k_b1 (un_X0_overAt hw o_v0 ex) ?_
    refine k_if hf (fun hf => ?_) (fun hf => ?_)
    · exact k_rZ hw hf
    · exact ul_X0_leastLevel_49 F _ _ _ _ _ _ _ _ hw o_v0 o_v4 hf
def n_X0_leastLevel (F : Nat) (s : List Sh) (m : Mem) (p0 : Nat) (p1 : Int32) (p2 : Int32) (p3 : Int32) (p4 : Nat) : Option (Int32 × Mem) := nb_X0_leastLevel_0 F s m p0 p1 p2 p3 p4
theorem un_X0_leastLevel {F : Nat} {s : List Sh} {m m' : Mem} {p0 : Nat} {p1 : Int32} {p2 : Int32} {p3 : Int32} {p4 : Nat} {r : Int32} (hw : GS s m) (o_p0 : ok s p0 0) (o_p4 : ok s p4 2) (ex : n_X0_leastLevel F s m p0 p1 p2 p3 p4 = some (r, m')) : J3 (m_X0_leastLevel F (bl s m) p0 p1 p2 p3 p4) (r, bl s m') (GS s m') := u_X0_leastLevel_0 hw o_p0 o_p4 ex
/-! FractionLift$House.rentOf(ILFractionLift$Ratio;)V over the memory -/
def nb_X0_rentOf_0 (F : Nat) (s : List Sh) (m : Mem) (v0 : Nat) (v1 : Int32) (v2 : Nat) : Option (Unit × Mem) := (m.2.2 v0 16).bind fun a1 => ((rdI s m a1 v1).bind fun x2 => ((m.2.2 v0 17).bind fun a3 => ((rdI s m a3 v1).bind fun x4 => (bind2 (n_X0_stuffAt F s m v0 (0 : Int32) (Int32.toInt64 x2) (Int32.toInt64 x4) v2) fun _ m6 => (some ((), m6))))))
set_option maxRecDepth 20000 in
theorem u_X0_rentOf_0 {F : Nat} {s : List Sh} {m m' : Mem} {r : Unit} {v0 : Nat} {v1 : Int32} {v2 : Nat} (hw : GS s m) (o_v0 : ok s v0 0) (o_v2 : ok s v2 2) (hf : nb_X0_rentOf_0 F s m v0 v1 v2 = some (r, m')) : J3 (b_X0_rentOf_0 F (bl s m) v0 v1 v2) (r, bl s m') (GS s m') := by
  unfold nb_X0_rentOf_0 at hf
  unfold b_X0_rentOf_0
  refine k_gR hw (ok_o o_v0 (by decide)) rfl hf fun a1 o_a1 hf => ?_
  refine k_aI (Or.inl rfl) (ka rfl o_a1) hf fun x2 hf => ?_
  refine k_gR hw (ok_o o_v0 (by decide)) rfl hf fun a3 o_a3 hf => ?_
  refine k_aI (Or.inl rfl) (ka rfl o_a3) hf fun x4 hf => ?_
  refine k_cO (ok_o o_v0 (by decide)) ?_
  refine ob2 hf fun u m6 ex hf => ?_
  refine k_b2 (un_X0_stuffAt hw o_v0 o_v2 ex) fun hw => ?_
  exact k_ret hw hf
def n_X0_rentOf (F : Nat) (s : List Sh) (m : Mem) (p0 : Nat) (p1 : Int32) (p2 : Nat) : Option (Unit × Mem) := nb_X0_rentOf_0 F s m p0 p1 p2
theorem un_X0_rentOf {F : Nat} {s : List Sh} {m m' : Mem} {p0 : Nat} {p1 : Int32} {p2 : Nat} {r : Unit} (hw : GS s m) (o_p0 : ok s p0 0) (o_p2 : ok s p2 2) (ex : n_X0_rentOf F s m p0 p1 p2 = some (r, m')) : J3 (m_X0_rentOf F (bl s m) p0 p1 p2) (r, bl s m') (GS s m') := u_X0_rentOf_0 hw o_p0 o_p2 ex
/-! java/util/Arrays.fill([II)V over the memory -/
def nb_J7_fill_53178_5 (F : Nat) (s : List Sh) (nself5 : Mem → Nat → Int32 → Int32 → Int32 → Option (Unit × Mem)) (m : Mem) (v0 : Nat) (v1 : Int32) (v2 : Int32) (v3 : Int32) : Option (Unit × Mem) := if v3 ≤ v2 then (some ((), m)) else ((stI s m v0 v2 v1).bind fun m1 => (bindv (v2 + (1)) fun x2 => (nself5 m1 v0 v1 x2 v3)))
set_option maxRecDepth 20000 in
theorem ub_J7_fill_53178_5 {F : Nat} {s : List Sh} {self5 : PH → Nat → Int32 → Int32 → Int32 → Option (Unit × PH)} {nself5 : Mem → Nat → Int32 → Int32 → Int32 → Option (Unit × Mem)} {m m' : Mem} {r : Unit} {v0 : Nat} {v1 : Int32} {v2 : Int32} {v3 : Int32} (hw : GS s m) (o_v0 : ok s v0 100) (ih5 : ∀ (m : Mem) (v0 : Nat) (v1 : Int32) (v2 : Int32) (v3 : Int32), GS s m → ok s v0 100 → nself5 m v0 v1 v2 v3 = some (r, m') → J3 (self5 (bl s m) v0 v1 v2 v3) (r, bl s m') (GS s m')) (hf : nb_J7_fill_53178_5 F s nself5 m v0 v1 v2 v3 = some (r, m')) : J3 (b_J7_fill_53178_5 F self5 (bl s m) v0 v1 v2 v3) (r, bl s m') (GS s m') := by
  unfold nb_J7_fill_53178_5 at hf
  unfold b_J7_fill_53178_5
  refine k_if hf (fun hf => ?_) (fun hf => ?_)
  · exact k_ret hw hf
  · refine k_sI hw (ka rfl o_v0) hf fun m1 hw hf => ?_
    refine k_bv hf fun x2 hf => ?_
    exact ih5 _ _ _ _ _ hw o_v0 hf
def nl_J7_fill_53178_5 (F : Nat) (s : List Sh) : Nat → Mem → Nat → Int32 → Int32 → Int32 → Option (Unit × Mem)
  | 0 => fun _ _ _ _ _ => none
  | n + 1 => fun m v0 v1 v2 v3 => nb_J7_fill_53178_5 F s (nl_J7_fill_53178_5 F s n) m v0 v1 v2 v3
theorem ul_J7_fill_53178_5 {F : Nat} {s : List Sh} {m' : Mem} {r : Unit} (n : Nat) : ∀ (m : Mem) (v0 : Nat) (v1 : Int32) (v2 : Int32) (v3 : Int32), GS s m → ok s v0 100 → nl_J7_fill_53178_5 F s n m v0 v1 v2 v3 = some (r, m') → J3 (l_J7_fill_53178_5 F n (bl s m) v0 v1 v2 v3) (r, bl s m') (GS s m') := by
  induction n with
  | zero => intro m v0 v1 v2 v3 hw o_v0 hf; cases hf
  | succ n ih => intro m v0 v1 v2 v3 hw o_v0 hf; exact ub_J7_fill_53178_5 (F := F) hw o_v0 ih hf
def nb_J7_fill_53178_0 (F : Nat) (s : List Sh) (m : Mem) (v0 : Nat) (v1 : Int32) : Option (Unit × Mem) := nl_J7_fill_53178_5 F s F m v0 v1 (0 : Int32) ((Int32.ofNat (ln s v0)))
set_option maxRecDepth 20000 in
theorem u_J7_fill_53178_0 {F : Nat} {s : List Sh} {m m' : Mem} {r : Unit} {v0 : Nat} {v1 : Int32} (hw : GS s m) (o_v0 : ok s v0 100) (hf : nb_J7_fill_53178_0 F s m v0 v1 = some (r, m')) : J3 (b_J7_fill_53178_0 F (bl s m) v0 v1) (r, bl s m') (GS s m') := by
  unfold nb_J7_fill_53178_0 at hf
  unfold b_J7_fill_53178_0
  refine k_len (t := 0) (by decide) (ka rfl o_v0) ?_
  exact ul_J7_fill_53178_5 F _ _ _ _ _ hw o_v0 hf
def n_J7_fill_53178 (F : Nat) (s : List Sh) (m : Mem) (p0 : Nat) (p1 : Int32) : Option (Unit × Mem) := nb_J7_fill_53178_0 F s m p0 p1
theorem un_J7_fill_53178 {F : Nat} {s : List Sh} {m m' : Mem} {p0 : Nat} {p1 : Int32} {r : Unit} (hw : GS s m) (o_p0 : ok s p0 100) (ex : n_J7_fill_53178 F s m p0 p1 = some (r, m')) : J3 (m_J7_fill_53178 F (bl s m) p0 p1) (r, bl s m') (GS s m') := u_J7_fill_53178_0 hw o_p0 ex
/-! FractionLift$Landings.clearAll()V over the memory -/
def nb_X1_clearAll_0 (F : Nat) (s : List Sh) (m : Mem) (v0 : Nat) : Option (Unit × Mem) := bindv (wI m v0 4 (0 : Int32)) fun m1 => ((m1.2.2 v0 5).bind fun a2 => (bind2 (n_J7_fill_53178 F s m1 a2 (-1 : Int32)) fun _ m4 => (some ((), m4))))
set_option maxRecDepth 20000 in
theorem u_X1_clearAll_0 {F : Nat} {s : List Sh} {m m' : Mem} {r : Unit} {v0 : Nat} (hw : GS s m) (o_v0 : ok s v0 1) (hf : nb_X1_clearAll_0 F s m v0 = some (r, m')) : J3 (b_X1_clearAll_0 F (bl s m) v0) (r, bl s m') (GS s m') := by
  unfold nb_X1_clearAll_0 at hf
  unfold b_X1_clearAll_0
  refine k_pI hw (ok_o o_v0 (by decide)) rfl hf fun m1 hw hf => ?_
  refine k_gR hw (ok_o o_v0 (by decide)) rfl hf fun a2 o_a2 hf => ?_
  refine ob2 hf fun u m4 ex hf => ?_
  refine k_b2 (un_J7_fill_53178 hw o_a2 ex) fun hw => ?_
  exact k_ret hw hf
def n_X1_clearAll (F : Nat) (s : List Sh) (m : Mem) (p0 : Nat) : Option (Unit × Mem) := nb_X1_clearAll_0 F s m p0
theorem un_X1_clearAll {F : Nat} {s : List Sh} {m m' : Mem} {p0 : Nat} {r : Unit} (hw : GS s m) (o_p0 : ok s p0 1) (ex : n_X1_clearAll F s m p0 = some (r, m')) : J3 (m_X1_clearAll F (bl s m) p0) (r, bl s m') (GS s m') := u_X1_clearAll_0 hw o_p0 ex
/-! FractionLift$Landings.put(III)V over the memory -/
def nb_X1_put_0 (s : List Sh) (m : Mem) (v0 : Nat) (v1 : Int32) (v2 : Int32) (v3 : Int32) : Option (Unit × Mem) := if (m.1 v0 4) < (9331 : Int32) then ((m_X1_headOf v1 v2).bind fun x1 => ((m.2.2 v0 0).bind fun a2 => ((stI s m a2 (m.1 v0 4) v1).bind fun m3 => ((m3.2.2 v0 1).bind fun a4 => ((stI s m3 a4 (m3.1 v0 4) v2).bind fun m5 => ((m5.2.2 v0 2).bind fun a6 => ((stI s m5 a6 (m5.1 v0 4) v3).bind fun m7 => ((m7.2.2 v0 6).bind fun a8 => ((m7.2.2 v0 5).bind fun a9 => ((rdI s m7 a9 x1).bind fun x10 => ((stI s m7 a8 (m7.1 v0 4) x10).bind fun m11 => ((m11.2.2 v0 5).bind fun a12 => ((stI s m11 a12 x1 (m11.1 v0 4)).bind fun m13 => (bindv (wI m13 v0 4 (((m13.1 v0 4) + (1 : Int32)))) fun m14 => (some ((), m14)))))))))))))))) else (some ((), m))
set_option maxRecDepth 20000 in
theorem u_X1_put_0 {s : List Sh} {m m' : Mem} {r : Unit} {v0 : Nat} {v1 : Int32} {v2 : Int32} {v3 : Int32} (hw : GS s m) (o_v0 : ok s v0 1) (hf : nb_X1_put_0 s m v0 v1 v2 v3 = some (r, m')) : J3 (b_X1_put_0 (bl s m) v0 v1 v2 v3) (r, bl s m') (GS s m') := by
  unfold nb_X1_put_0 at hf
  unfold b_X1_put_0
  refine k_gI (ok_o o_v0 (by decide)) rfl ?_
  refine k_if hf (fun hf => ?_) (fun hf => ?_)
  · refine k_pure hf fun x1 hf => ?_
    refine k_gR hw (ok_o o_v0 (by decide)) rfl hf fun a2 o_a2 hf => ?_
    refine k_gI (ok_o o_v0 (by decide)) rfl ?_
    refine k_sI hw (ka rfl o_a2) hf fun m3 hw hf => ?_
    refine k_gR hw (ok_o o_v0 (by decide)) rfl hf fun a4 o_a4 hf => ?_
    refine k_gI (ok_o o_v0 (by decide)) rfl ?_
    refine k_sI hw (ka rfl o_a4) hf fun m5 hw hf => ?_
    refine k_gR hw (ok_o o_v0 (by decide)) rfl hf fun a6 o_a6 hf => ?_
    refine k_gI (ok_o o_v0 (by decide)) rfl ?_
    refine k_sI hw (ka rfl o_a6) hf fun m7 hw hf => ?_
    refine k_gR hw (ok_o o_v0 (by decide)) rfl hf fun a8 o_a8 hf => ?_
    refine k_gI (ok_o o_v0 (by decide)) rfl ?_
    refine k_gR hw (ok_o o_v0 (by decide)) rfl hf fun a9 o_a9 hf => ?_
    refine k_aI (Or.inl rfl) (ka rfl o_a9) hf fun x10 hf => ?_
    refine k_sI hw (ka rfl o_a8) hf fun m11 hw hf => ?_
    refine k_gR hw (ok_o o_v0 (by decide)) rfl hf fun a12 o_a12 hf => ?_
    refine k_gI (ok_o o_v0 (by decide)) rfl ?_
    refine k_sI hw (ka rfl o_a12) hf fun m13 hw hf => ?_
    refine k_gI (ok_o o_v0 (by decide)) rfl ?_
    refine k_pI hw (ok_o o_v0 (by decide)) rfl hf fun m14 hw hf => ?_
    exact k_ret hw hf
  · exact k_ret hw hf
def n_X1_put (s : List Sh) (m : Mem) (p0 : Nat) (p1 : Int32) (p2 : Int32) (p3 : Int32) : Option (Unit × Mem) := nb_X1_put_0 s m p0 p1 p2 p3
theorem un_X1_put {s : List Sh} {m m' : Mem} {p0 : Nat} {p1 : Int32} {p2 : Int32} {p3 : Int32} {r : Unit} (hw : GS s m) (o_p0 : ok s p0 1) (ex : n_X1_put s m p0 p1 p2 p3 = some (r, m')) : J3 (m_X1_put (bl s m) p0 p1 p2 p3) (r, bl s m') (GS s m') := u_X1_put_0 hw o_p0 ex
/-! FractionLift$Landings.find(IIII)I over the memory -/
def nb_X1_find_66 (F : Nat) (s : List Sh) (nself9 : Nat → Int32 → Int32 → Int32 → Int32 → Int32 → Int32 → Option Int32) (m : Mem) (v0 : Nat) (v1 : Int32) (v2 : Int32) (v3 : Int32) (v4 : Int32) (v5 : Int32) (v6 : Int32) : Option Int32 := (m.2.2 v0 6).bind fun a1 => ((rdI s m a1 v5).bind fun x2 => (bindv (v6 + (1)) fun x3 => (nself9 v0 v1 v2 v3 v4 x2 x3)))
set_option maxRecDepth 20000 in
theorem u_X1_find_66 {F : Nat} {s : List Sh} {self9 : Nat → Int32 → Int32 → Int32 → Int32 → Int32 → Int32 → Option Int32} {nself9 : Nat → Int32 → Int32 → Int32 → Int32 → Int32 → Int32 → Option Int32} {m : Mem} {r : Int32} {v0 : Nat} {v1 : Int32} {v2 : Int32} {v3 : Int32} {v4 : Int32} {v5 : Int32} {v6 : Int32} (hw : GS s m) (o_v0 : ok s v0 1) (ih9 : ∀ (v0 : Nat) (v1 : Int32) (v2 : Int32) (v3 : Int32) (v4 : Int32) (v5 : Int32) (v6 : Int32), ok s v0 1 → nself9 v0 v1 v2 v3 v4 v5 v6 = some r → J3 (self9 v0 v1 v2 v3 v4 v5 v6) r True) (hf : nb_X1_find_66 F s nself9 m v0 v1 v2 v3 v4 v5 v6 = some r) : J3 (b_X1_find_66 F self9 (bl s m) v0 v1 v2 v3 v4 v5 v6) r True := by
  unfold nb_X1_find_66 at hf
  unfold b_X1_find_66
  refine k_gR hw (ok_o o_v0 (by decide)) rfl hf fun a1 o_a1 hf => ?_
  refine k_aI (Or.inl rfl) (ka rfl o_a1) hf fun x2 hf => ?_
  refine k_bv hf fun x3 hf => ?_
  exact ih9 _ _ _ _ _ _ _ o_v0 hf
def nb_X1_find_15 (F : Nat) (s : List Sh) (nself9 : Nat → Int32 → Int32 → Int32 → Int32 → Int32 → Int32 → Option Int32) (m : Mem) (v0 : Nat) (v1 : Int32) (v2 : Int32) (v3 : Int32) (v4 : Int32) (v5 : Int32) (v6 : Int32) : Option Int32 := if (9331 : Int32) ≤ v6 then (some (-1 : Int32)) else (if v5 < v3 then (some (-1 : Int32)) else (if v5 < 0 then (some (-1 : Int32)) else (if v4 ≤ v5 then (nb_X1_find_66 F s nself9 m v0 v1 v2 v3 v4 v5 v6) else ((m.2.2 v0 0).bind fun a1 => ((rdI s m a1 v5).bind fun x2 => (if x2 = v1 then ((m.2.2 v0 1).bind fun a3 => ((rdI s m a3 v5).bind fun x4 => (if x4 = v2 then (some v5) else (nb_X1_find_66 F s nself9 m v0 v1 v2 v3 v4 v5 v6)))) else (nb_X1_find_66 F s nself9 m v0 v1 v2 v3 v4 v5 v6)))))))
set_option maxRecDepth 20000 in
theorem ub_X1_find_15 {F : Nat} {s : List Sh} {self9 : Nat → Int32 → Int32 → Int32 → Int32 → Int32 → Int32 → Option Int32} {nself9 : Nat → Int32 → Int32 → Int32 → Int32 → Int32 → Int32 → Option Int32} {m : Mem} {r : Int32} {v0 : Nat} {v1 : Int32} {v2 : Int32} {v3 : Int32} {v4 : Int32} {v5 : Int32} {v6 : Int32} (hw : GS s m) (o_v0 : ok s v0 1) (ih9 : ∀ (v0 : Nat) (v1 : Int32) (v2 : Int32) (v3 : Int32) (v4 : Int32) (v5 : Int32) (v6 : Int32), ok s v0 1 → nself9 v0 v1 v2 v3 v4 v5 v6 = some r → J3 (self9 v0 v1 v2 v3 v4 v5 v6) r True) (hf : nb_X1_find_15 F s nself9 m v0 v1 v2 v3 v4 v5 v6 = some r) : J3 (b_X1_find_15 F self9 (bl s m) v0 v1 v2 v3 v4 v5 v6) r True := by
  unfold nb_X1_find_15 at hf
  unfold b_X1_find_15
  refine k_if hf (fun hf => ?_) (fun hf => ?_)
  · exact k_retP hf
  · refine k_if hf (fun hf => ?_) (fun hf => ?_)
    · exact k_retP hf
    · refine k_if hf (fun hf => ?_) (fun hf => ?_)
      · exact k_retP hf
      · refine k_if hf (fun hf => ?_) (fun hf => ?_)
        · exact u_X1_find_66 hw o_v0 ih9 hf
        · refine k_gR hw (ok_o o_v0 (by decide)) rfl hf fun a1 o_a1 hf => ?_
          refine k_aI (Or.inl rfl) (ka rfl o_a1) hf fun x2 hf => ?_
          refine k_if hf (fun hf => ?_) (fun hf => ?_)
          · refine k_gR hw (ok_o o_v0 (by decide)) rfl hf fun a3 o_a3 hf => ?_
            refine k_aI (Or.inl rfl) (ka rfl o_a3) hf fun x4 hf => ?_
            refine k_if hf (fun hf => ?_) (fun hf => ?_)
            · exact k_retP hf
            · exact u_X1_find_66 hw o_v0 ih9 hf
          · exact u_X1_find_66 hw o_v0 ih9 hf
def nl_X1_find_15 (F : Nat) (s : List Sh) (m : Mem) : Nat → Nat → Int32 → Int32 → Int32 → Int32 → Int32 → Int32 → Option Int32
  | 0 => fun _ _ _ _ _ _ _ => none
  | n + 1 => fun v0 v1 v2 v3 v4 v5 v6 => nb_X1_find_15 F s (nl_X1_find_15 F s m n) m v0 v1 v2 v3 v4 v5 v6
theorem ul_X1_find_15 {F : Nat} {s : List Sh} {m : Mem} {r : Int32} (hw : GS s m) (n : Nat) : ∀ (v0 : Nat) (v1 : Int32) (v2 : Int32) (v3 : Int32) (v4 : Int32) (v5 : Int32) (v6 : Int32), ok s v0 1 → nl_X1_find_15 F s m n v0 v1 v2 v3 v4 v5 v6 = some r → J3 (l_X1_find_15 F (bl s m) n v0 v1 v2 v3 v4 v5 v6) r True := by
  induction n with
  | zero => intro v0 v1 v2 v3 v4 v5 v6 o_v0 hf; cases hf
  | succ n ih => intro v0 v1 v2 v3 v4 v5 v6 o_v0 hf; exact ub_X1_find_15 (F := F) hw o_v0 ih hf
def nb_X1_find_0 (F : Nat) (s : List Sh) (m : Mem) (v0 : Nat) (v1 : Int32) (v2 : Int32) (v3 : Int32) (v4 : Int32) : Option Int32 := (m.2.2 v0 5).bind fun a1 => ((m_X1_headOf v1 v2).bind fun x2 => ((rdI s m a1 x2).bind fun x3 => (nl_X1_find_15 F s m F v0 v1 v2 v3 v4 x3 (0 : Int32))))
set_option maxRecDepth 20000 in
theorem u_X1_find_0 {F : Nat} {s : List Sh} {m : Mem} {r : Int32} {v0 : Nat} {v1 : Int32} {v2 : Int32} {v3 : Int32} {v4 : Int32} (hw : GS s m) (o_v0 : ok s v0 1) (hf : nb_X1_find_0 F s m v0 v1 v2 v3 v4 = some r) : J3 (b_X1_find_0 F (bl s m) v0 v1 v2 v3 v4) r True := by
  unfold nb_X1_find_0 at hf
  unfold b_X1_find_0
  refine k_gR hw (ok_o o_v0 (by decide)) rfl hf fun a1 o_a1 hf => ?_
  refine k_pure hf fun x2 hf => ?_
  refine k_aI (Or.inl rfl) (ka rfl o_a1) hf fun x3 hf => ?_
  exact ul_X1_find_15 hw F _ _ _ _ _ _ _ o_v0 hf
def n_X1_find (F : Nat) (s : List Sh) (m : Mem) (p0 : Nat) (p1 : Int32) (p2 : Int32) (p3 : Int32) (p4 : Int32) : Option Int32 := nb_X1_find_0 F s m p0 p1 p2 p3 p4
theorem un_X1_find {F : Nat} {s : List Sh} {m : Mem} {p0 : Nat} {p1 : Int32} {p2 : Int32} {p3 : Int32} {p4 : Int32} {r : Int32} (hw : GS s m) (o_p0 : ok s p0 1) (ex : n_X1_find F s m p0 p1 p2 p3 p4 = some r) : J3 (m_X1_find F (bl s m) p0 p1 p2 p3 p4) r True := u_X1_find_0 hw o_p0 ex
/-! FractionLift$Landings.isBelow(II)Z over the memory -/
def nb_X1_isBelow_0 (s : List Sh) (m : Mem) (v0 : Nat) (v1 : Int32) (v2 : Int32) : Option Int32 := (m.2.2 v0 0).bind fun a1 => ((rdI s m a1 v1).bind fun x2 => ((m.2.2 v0 1).bind fun a3 => ((rdI s m a3 v2).bind fun x4 => ((m.2.2 v0 0).bind fun a5 => ((rdI s m a5 v2).bind fun x6 => ((m.2.2 v0 1).bind fun a7 => ((rdI s m a7 v1).bind fun x8 => (if (((Int32.toInt64 x6) * (Int32.toInt64 x8))) ≤ (((Int32.toInt64 x2) * (Int32.toInt64 x4))) then (rZP (0 : Int32)) else (rZP (1 : Int32))))))))))
set_option maxRecDepth 20000 in
theorem u_X1_isBelow_0 {s : List Sh} {m : Mem} {r : Int32} {v0 : Nat} {v1 : Int32} {v2 : Int32} (hw : GS s m) (o_v0 : ok s v0 1) (hf : nb_X1_isBelow_0 s m v0 v1 v2 = some r) : J3 (b_X1_isBelow_0 (bl s m) v0 v1 v2) r True := by
  unfold nb_X1_isBelow_0 at hf
  unfold b_X1_isBelow_0
  refine k_gR hw (ok_o o_v0 (by decide)) rfl hf fun a1 o_a1 hf => ?_
  refine k_aI (Or.inl rfl) (ka rfl o_a1) hf fun x2 hf => ?_
  refine k_gR hw (ok_o o_v0 (by decide)) rfl hf fun a3 o_a3 hf => ?_
  refine k_aI (Or.inl rfl) (ka rfl o_a3) hf fun x4 hf => ?_
  refine k_gR hw (ok_o o_v0 (by decide)) rfl hf fun a5 o_a5 hf => ?_
  refine k_aI (Or.inl rfl) (ka rfl o_a5) hf fun x6 hf => ?_
  refine k_gR hw (ok_o o_v0 (by decide)) rfl hf fun a7 o_a7 hf => ?_
  refine k_aI (Or.inl rfl) (ka rfl o_a7) hf fun x8 hf => ?_
  refine k_if hf (fun hf => ?_) (fun hf => ?_)
  · exact k_rZP hf
  · exact k_rZP hf
def n_X1_isBelow (s : List Sh) (m : Mem) (p0 : Nat) (p1 : Int32) (p2 : Int32) : Option Int32 := nb_X1_isBelow_0 s m p0 p1 p2
theorem un_X1_isBelow {s : List Sh} {m : Mem} {p0 : Nat} {p1 : Int32} {p2 : Int32} {r : Int32} (hw : GS s m) (o_p0 : ok s p0 1) (ex : n_X1_isBelow s m p0 p1 p2 = some r) : J3 (m_X1_isBelow (bl s m) p0 p1 p2) r True := u_X1_isBelow_0 hw o_p0 ex
/-! FractionLift$Landings.weightOf(III)J over the memory -/
def nb_X1_weightOf_0 (F : Nat) (s : List Sh) (m : Mem) (v0 : Nat) (v1 : Int32) (v2 : Int32) (v3 : Int32) : Option Int64 := (n_X1_find F s m v0 v1 v2 v3 (m.1 v0 4)).bind fun x1 => (if x1 < 0 then (some (0 : Int64)) else (if (511 : Int32) ≤ x1 then (some (0 : Int64)) else ((m.2.2 v0 3).bind fun a2 => ((rdL s m a2 x1).bind fun x3 => (some x3)))))
set_option maxRecDepth 20000 in
theorem u_X1_weightOf_0 {F : Nat} {s : List Sh} {m : Mem} {r : Int64} {v0 : Nat} {v1 : Int32} {v2 : Int32} {v3 : Int32} (hw : GS s m) (o_v0 : ok s v0 1) (hf : nb_X1_weightOf_0 F s m v0 v1 v2 v3 = some r) : J3 (b_X1_weightOf_0 F (bl s m) v0 v1 v2 v3) r True := by
  unfold nb_X1_weightOf_0 at hf
  unfold b_X1_weightOf_0
  refine k_gI (ok_o o_v0 (by decide)) rfl ?_
  refine k_cO (ok_o o_v0 (by decide)) ?_
  refine ob hf fun x1 ex hf => ?_
  refine k_b1 (un_X1_find hw o_v0 ex) ?_
  refine k_if hf (fun hf => ?_) (fun hf => ?_)
  · exact k_retP hf
  · refine k_if hf (fun hf => ?_) (fun hf => ?_)
    · exact k_retP hf
    · refine k_gR hw (ok_o o_v0 (by decide)) rfl hf fun a2 o_a2 hf => ?_
      refine k_aL (ka rfl o_a2) hf fun x3 hf => ?_
      exact k_retP hf
def n_X1_weightOf (F : Nat) (s : List Sh) (m : Mem) (p0 : Nat) (p1 : Int32) (p2 : Int32) (p3 : Int32) : Option Int64 := nb_X1_weightOf_0 F s m p0 p1 p2 p3
theorem un_X1_weightOf {F : Nat} {s : List Sh} {m : Mem} {p0 : Nat} {p1 : Int32} {p2 : Int32} {p3 : Int32} {r : Int64} (hw : GS s m) (o_p0 : ok s p0 1) (ex : n_X1_weightOf F s m p0 p1 p2 p3 = some r) : J3 (m_X1_weightOf F (bl s m) p0 p1 p2 p3) r True := u_X1_weightOf_0 hw o_p0 ex
/-! FractionLift$Landings.addWeight(IIIJ)V over the memory -/
def nb_X1_addWeight_48 (F : Nat) (s : List Sh) (m : Mem) (v0 : Nat) (v4 : Int64) (v6 : Int32) : Option (Unit × Mem) := if (511 : Int32) ≤ v6 then (some ((), m)) else ((m.2.2 v0 3).bind fun a1 => ((rdL s m a1 v6).bind fun x2 => ((stL s m a1 v6 (x2 + v4)).bind fun m3 => (some ((), m3)))))
set_option maxRecDepth 20000 in
theorem u_X1_addWeight_48 {F : Nat} {s : List Sh} {m m' : Mem} {r : Unit} {v0 : Nat} {v4 : Int64} {v6 : Int32} (hw : GS s m) (o_v0 : ok s v0 1) (hf : nb_X1_addWeight_48 F s m v0 v4 v6 = some (r, m')) : J3 (b_X1_addWeight_48 F (bl s m) v0 v4 v6) (r, bl s m') (GS s m') := by
  unfold nb_X1_addWeight_48 at hf
  unfold b_X1_addWeight_48
  refine k_if hf (fun hf => ?_) (fun hf => ?_)
  · exact k_ret hw hf
  · refine k_gR hw (ok_o o_v0 (by decide)) rfl hf fun a1 o_a1 hf => ?_
    refine k_aL (ka rfl o_a1) hf fun x2 hf => ?_
    refine k_sL hw (ka rfl o_a1) hf fun m3 hw hf => ?_
    exact k_ret hw hf
def nb_X1_addWeight_0 (F : Nat) (s : List Sh) (m : Mem) (v0 : Nat) (v1 : Int32) (v2 : Int32) (v3 : Int32) (v4 : Int64) : Option (Unit × Mem) := (n_X1_find F s m v0 v1 v2 v3 (m.1 v0 4)).bind fun x1 => (if x1 = (-1 : Int32) then (bind2 (n_X1_put s m v0 v1 v2 (-1 : Int32)) fun _ m3 => (if (511 : Int32) ≤ (m.1 v0 4) then (nb_X1_addWeight_48 F s m3 v0 v4 (m.1 v0 4)) else ((m3.2.2 v0 3).bind fun a4 => ((stL s m3 a4 (m.1 v0 4) (0 : Int64)).bind fun m5 => (nb_X1_addWeight_48 F s m5 v0 v4 (m.1 v0 4)))))) else (nb_X1_addWeight_48 F s m v0 v4 x1))
set_option maxRecDepth 20000 in
theorem u_X1_addWeight_0 {F : Nat} {s : List Sh} {m m' : Mem} {r : Unit} {v0 : Nat} {v1 : Int32} {v2 : Int32} {v3 : Int32} {v4 : Int64} (hw : GS s m) (o_v0 : ok s v0 1) (hf : nb_X1_addWeight_0 F s m v0 v1 v2 v3 v4 = some (r, m')) : J3 (b_X1_addWeight_0 F (bl s m) v0 v1 v2 v3 v4) (r, bl s m') (GS s m') := by
  unfold nb_X1_addWeight_0 at hf
  unfold b_X1_addWeight_0
  refine k_gI (ok_o o_v0 (by decide)) rfl ?_
  refine k_cO (ok_o o_v0 (by decide)) ?_
  refine ob hf fun x1 ex hf => ?_
  refine k_b1 (un_X1_find hw o_v0 ex) ?_
  refine k_if hf (fun hf => ?_) (fun hf => ?_)
  · refine k_gI (ok_o o_v0 (by decide)) rfl ?_
    refine k_cO (ok_o o_v0 (by decide)) ?_
    refine ob2 hf fun u m3 ex hf => ?_
    refine k_b2 (un_X1_put hw o_v0 ex) fun hw => ?_
    refine k_if hf (fun hf => ?_) (fun hf => ?_)
    · exact u_X1_addWeight_48 hw o_v0 hf
    · refine k_gR hw (ok_o o_v0 (by decide)) rfl hf fun a4 o_a4 hf => ?_
      refine k_sL hw (ka rfl o_a4) hf fun m5 hw hf => ?_
      exact u_X1_addWeight_48 hw o_v0 hf
  · exact u_X1_addWeight_48 hw o_v0 hf
def n_X1_addWeight (F : Nat) (s : List Sh) (m : Mem) (p0 : Nat) (p1 : Int32) (p2 : Int32) (p3 : Int32) (p4 : Int64) : Option (Unit × Mem) := nb_X1_addWeight_0 F s m p0 p1 p2 p3 p4
theorem un_X1_addWeight {F : Nat} {s : List Sh} {m m' : Mem} {p0 : Nat} {p1 : Int32} {p2 : Int32} {p3 : Int32} {p4 : Int64} {r : Unit} (hw : GS s m) (o_p0 : ok s p0 1) (ex : n_X1_addWeight F s m p0 p1 p2 p3 p4 = some (r, m')) : J3 (m_X1_addWeight F (bl s m) p0 p1 p2 p3 p4) (r, bl s m') (GS s m') := u_X1_addWeight_0 hw o_p0 ex
/-! FractionLift$Ratio.part(I)J over the memory -/
def nb_X2_part_0 (s : List Sh) (m : Mem) (v0 : Nat) (v1 : Int32) : Option Int64 := if v1 = 0 then (some (m.2.1 v0 0)) else (some (m.2.1 v0 1))
set_option maxRecDepth 20000 in
theorem u_X2_part_0 {s : List Sh} {m : Mem} {r : Int64} {v0 : Nat} {v1 : Int32} (hw : GS s m) (o_v0 : ok s v0 2) (hf : nb_X2_part_0 s m v0 v1 = some r) : J3 (b_X2_part_0 (bl s m) v0 v1) r True := by
  unfold nb_X2_part_0 at hf
  unfold b_X2_part_0
  refine k_if hf (fun hf => ?_) (fun hf => ?_)
  · refine k_gL (ok_o o_v0 (by decide)) rfl ?_
    exact k_retP hf
  · refine k_gL (ok_o o_v0 (by decide)) rfl ?_
    exact k_retP hf
def n_X2_part (s : List Sh) (m : Mem) (p0 : Nat) (p1 : Int32) : Option Int64 := nb_X2_part_0 s m p0 p1
theorem un_X2_part {s : List Sh} {m : Mem} {p0 : Nat} {p1 : Int32} {r : Int64} (hw : GS s m) (o_p0 : ok s p0 2) (ex : n_X2_part s m p0 p1 = some r) : J3 (m_X2_part (bl s m) p0 p1) r True := u_X2_part_0 hw o_p0 ex
/-! FractionLift$Ratio.whole()J over the memory -/
def nb_X2_whole_0 (s : List Sh) (m : Mem) (v0 : Nat) : Option Int64 := if (m.2.1 v0 1) ≤ (0 : Int64) then (some (0 : Int64)) else (if (m.2.1 v0 1) = 0 then none else (some (((m.2.1 v0 0) / (m.2.1 v0 1)))))
set_option maxRecDepth 20000 in
theorem u_X2_whole_0 {s : List Sh} {m : Mem} {r : Int64} {v0 : Nat} (hw : GS s m) (o_v0 : ok s v0 2) (hf : nb_X2_whole_0 s m v0 = some r) : J3 (b_X2_whole_0 (bl s m) v0) r True := by
  unfold nb_X2_whole_0 at hf
  unfold b_X2_whole_0
  refine k_gL (ok_o o_v0 (by decide)) rfl ?_
  refine k_if hf (fun hf => ?_) (fun hf => ?_)
  · exact k_retP hf
  · refine k_gL (ok_o o_v0 (by decide)) rfl ?_
    refine k_gL (ok_o o_v0 (by decide)) rfl ?_
    refine k_if hf (fun hf => by cases hf) (fun hf => ?_)
    exact k_retP hf
def n_X2_whole (s : List Sh) (m : Mem) (p0 : Nat) : Option Int64 := nb_X2_whole_0 s m p0
theorem un_X2_whole {s : List Sh} {m : Mem} {p0 : Nat} {r : Int64} (hw : GS s m) (o_p0 : ok s p0 2) (ex : n_X2_whole s m p0 = some r) : J3 (m_X2_whole (bl s m) p0) r True := u_X2_whole_0 hw o_p0 ex
/-! FractionLift$Ratio.compared(LFractionLift$Ratio;)I over the memory -/
def nb_X2_compared_0 (s : List Sh) (m : Mem) (v0 : Nat) (v1 : Nat) : Option Int32 := (m_J13_compare_74951 (((m.2.1 v0 0) * (m.2.1 v1 1))) (((m.2.1 v1 0) * (m.2.1 v0 1)))).bind fun x1 => (some x1)
set_option maxRecDepth 20000 in
theorem u_X2_compared_0 {s : List Sh} {m : Mem} {r : Int32} {v0 : Nat} {v1 : Nat} (hw : GS s m) (o_v0 : ok s v0 2) (o_v1 : ok s v1 2) (hf : nb_X2_compared_0 s m v0 v1 = some r) : J3 (b_X2_compared_0 (bl s m) v0 v1) r True := by
  unfold nb_X2_compared_0 at hf
  unfold b_X2_compared_0
  refine k_gL (ok_o o_v0 (by decide)) rfl ?_
  refine k_gL (ok_o o_v1 (by decide)) rfl ?_
  refine k_gL (ok_o o_v1 (by decide)) rfl ?_
  refine k_gL (ok_o o_v0 (by decide)) rfl ?_
  refine k_pure hf fun x1 hf => ?_
  exact k_retP hf
def n_X2_compared (s : List Sh) (m : Mem) (p0 : Nat) (p1 : Nat) : Option Int32 := nb_X2_compared_0 s m p0 p1
theorem un_X2_compared {s : List Sh} {m : Mem} {p0 : Nat} {p1 : Nat} {r : Int32} (hw : GS s m) (o_p0 : ok s p0 2) (o_p1 : ok s p1 2) (ex : n_X2_compared s m p0 p1 = some r) : J3 (m_X2_compared (bl s m) p0 p1) r True := u_X2_compared_0 hw o_p0 o_p1 ex
/-! FractionLift$Tokens.behindBlanks(I)I over the memory -/
def nb_X6_behindBlanks_32 (F : Nat) (s : List Sh) (nself2 : Nat → Int32 → Option Int32) (m : Mem) (v0 : Nat) (v2 : Int32) : Option Int32 := bindv (v2 + (1)) fun x1 => (nself2 v0 x1)
set_option maxRecDepth 20000 in
theorem u_X6_behindBlanks_32 {F : Nat} {s : List Sh} {self2 : Nat → Int32 → Option Int32} {nself2 : Nat → Int32 → Option Int32} {m : Mem} {r : Int32} {v0 : Nat} {v2 : Int32} (hw : GS s m) (o_v0 : ok s v0 6) (ih2 : ∀ (v0 : Nat) (v2 : Int32), ok s v0 6 → nself2 v0 v2 = some r → J3 (self2 v0 v2) r True) (hf : nb_X6_behindBlanks_32 F s nself2 m v0 v2 = some r) : J3 (b_X6_behindBlanks_32 F self2 (bl s m) v0 v2) r True := by
  unfold nb_X6_behindBlanks_32 at hf
  unfold b_X6_behindBlanks_32
  refine k_bv hf fun x1 hf => ?_
  exact ih2 _ _ o_v0 hf
def nb_X6_behindBlanks_2 (F : Nat) (s : List Sh) (nself2 : Nat → Int32 → Option Int32) (m : Mem) (v0 : Nat) (v2 : Int32) : Option Int32 := if (m.1 v0 5) ≤ v2 then (some v2) else ((m.2.2 v0 4).bind fun a1 => ((rdI s m a1 v2).bind fun x2 => (if x2 = (32 : Int32) then (nb_X6_behindBlanks_32 F s nself2 m v0 v2) else ((m.2.2 v0 4).bind fun a3 => ((rdI s m a3 v2).bind fun x4 => (if x4 = (10 : Int32) then (nb_X6_behindBlanks_32 F s nself2 m v0 v2) else (some v2)))))))
set_option maxRecDepth 20000 in
theorem ub_X6_behindBlanks_2 {F : Nat} {s : List Sh} {self2 : Nat → Int32 → Option Int32} {nself2 : Nat → Int32 → Option Int32} {m : Mem} {r : Int32} {v0 : Nat} {v2 : Int32} (hw : GS s m) (o_v0 : ok s v0 6) (ih2 : ∀ (v0 : Nat) (v2 : Int32), ok s v0 6 → nself2 v0 v2 = some r → J3 (self2 v0 v2) r True) (hf : nb_X6_behindBlanks_2 F s nself2 m v0 v2 = some r) : J3 (b_X6_behindBlanks_2 F self2 (bl s m) v0 v2) r True := by
  unfold nb_X6_behindBlanks_2 at hf
  unfold b_X6_behindBlanks_2
  refine k_gI (ok_o o_v0 (by decide)) rfl ?_
  refine k_if hf (fun hf => ?_) (fun hf => ?_)
  · exact k_retP hf
  · refine k_gR hw (ok_o o_v0 (by decide)) rfl hf fun a1 o_a1 hf => ?_
    refine k_aI (Or.inl rfl) (ka rfl o_a1) hf fun x2 hf => ?_
    refine k_if hf (fun hf => ?_) (fun hf => ?_)
    · exact u_X6_behindBlanks_32 hw o_v0 ih2 hf
    · refine k_gR hw (ok_o o_v0 (by decide)) rfl hf fun a3 o_a3 hf => ?_
      refine k_aI (Or.inl rfl) (ka rfl o_a3) hf fun x4 hf => ?_
      refine k_if hf (fun hf => ?_) (fun hf => ?_)
      · exact u_X6_behindBlanks_32 hw o_v0 ih2 hf
      · exact k_retP hf
def nl_X6_behindBlanks_2 (F : Nat) (s : List Sh) (m : Mem) : Nat → Nat → Int32 → Option Int32
  | 0 => fun _ _ => none
  | n + 1 => fun v0 v2 => nb_X6_behindBlanks_2 F s (nl_X6_behindBlanks_2 F s m n) m v0 v2
theorem ul_X6_behindBlanks_2 {F : Nat} {s : List Sh} {m : Mem} {r : Int32} (hw : GS s m) (n : Nat) : ∀ (v0 : Nat) (v2 : Int32), ok s v0 6 → nl_X6_behindBlanks_2 F s m n v0 v2 = some r → J3 (l_X6_behindBlanks_2 F (bl s m) n v0 v2) r True := by
  induction n with
  | zero => intro v0 v2 o_v0 hf; cases hf
  | succ n ih => intro v0 v2 o_v0 hf; exact ub_X6_behindBlanks_2 (F := F) hw o_v0 ih hf
def nb_X6_behindBlanks_0 (F : Nat) (s : List Sh) (m : Mem) (v0 : Nat) (v1 : Int32) : Option Int32 := nl_X6_behindBlanks_2 F s m F v0 v1
set_option maxRecDepth 20000 in
theorem u_X6_behindBlanks_0 {F : Nat} {s : List Sh} {m : Mem} {r : Int32} {v0 : Nat} {v1 : Int32} (hw : GS s m) (o_v0 : ok s v0 6) (hf : nb_X6_behindBlanks_0 F s m v0 v1 = some r) : J3 (b_X6_behindBlanks_0 F (bl s m) v0 v1) r True := by
  unfold nb_X6_behindBlanks_0 at hf
  unfold b_X6_behindBlanks_0
  exact ul_X6_behindBlanks_2 hw F _ _ o_v0 hf
def n_X6_behindBlanks (F : Nat) (s : List Sh) (m : Mem) (p0 : Nat) (p1 : Int32) : Option Int32 := nb_X6_behindBlanks_0 F s m p0 p1
theorem un_X6_behindBlanks {F : Nat} {s : List Sh} {m : Mem} {p0 : Nat} {p1 : Int32} {r : Int32} (hw : GS s m) (o_p0 : ok s p0 6) (ex : n_X6_behindBlanks F s m p0 p1 = some r) : J3 (m_X6_behindBlanks F (bl s m) p0 p1) r True := u_X6_behindBlanks_0 hw o_p0 ex
/-! FractionLift$Tokens.endOf(I)I over the memory -/
def nb_X6_endOf_14 (F : Nat) (s : List Sh) (nself8 : Nat → Int32 → Option Int32) (m : Mem) (v0 : Nat) (v2 : Int32) : Option Int32 := if (m.1 v0 5) ≤ v2 then (some v2) else ((m.2.2 v0 4).bind fun a1 => ((rdI s m a1 v2).bind fun x2 => ((m_X6_isDigit x2).bind fun x3 => (if x3 = 0 then (some v2) else (bindv (v2 + (1)) fun x4 => (nself8 v0 x4))))))
set_option maxRecDepth 20000 in
theorem ub_X6_endOf_14 {F : Nat} {s : List Sh} {self8 : Nat → Int32 → Option Int32} {nself8 : Nat → Int32 → Option Int32} {m : Mem} {r : Int32} {v0 : Nat} {v2 : Int32} (hw : GS s m) (o_v0 : ok s v0 6) (ih8 : ∀ (v0 : Nat) (v2 : Int32), ok s v0 6 → nself8 v0 v2 = some r → J3 (self8 v0 v2) r True) (hf : nb_X6_endOf_14 F s nself8 m v0 v2 = some r) : J3 (b_X6_endOf_14 F self8 (bl s m) v0 v2) r True := by
  unfold nb_X6_endOf_14 at hf
  unfold b_X6_endOf_14
  refine k_gI (ok_o o_v0 (by decide)) rfl ?_
  refine k_if hf (fun hf => ?_) (fun hf => ?_)
  · exact k_retP hf
  · refine k_gR hw (ok_o o_v0 (by decide)) rfl hf fun a1 o_a1 hf => ?_
    refine k_aI (Or.inl rfl) (ka rfl o_a1) hf fun x2 hf => ?_
    refine k_pure hf fun x3 hf => ?_
    refine k_if hf (fun hf => ?_) (fun hf => ?_)
    · exact k_retP hf
    · refine k_bv hf fun x4 hf => ?_
      exact ih8 _ _ o_v0 hf
def nl_X6_endOf_14 (F : Nat) (s : List Sh) (m : Mem) : Nat → Nat → Int32 → Option Int32
  | 0 => fun _ _ => none
  | n + 1 => fun v0 v2 => nb_X6_endOf_14 F s (nl_X6_endOf_14 F s m n) m v0 v2
theorem ul_X6_endOf_14 {F : Nat} {s : List Sh} {m : Mem} {r : Int32} (hw : GS s m) (n : Nat) : ∀ (v0 : Nat) (v2 : Int32), ok s v0 6 → nl_X6_endOf_14 F s m n v0 v2 = some r → J3 (l_X6_endOf_14 F (bl s m) n v0 v2) r True := by
  induction n with
  | zero => intro v0 v2 o_v0 hf; cases hf
  | succ n ih => intro v0 v2 o_v0 hf; exact ub_X6_endOf_14 (F := F) hw o_v0 ih hf
def nb_X6_endOf_68 (F : Nat) (s : List Sh) (m : Mem) (v1 : Int32) (v2 : Int32) : Option Int32 := if v2 = v1 then (some ((v1 + (1 : Int32)))) else (some v2)
set_option maxRecDepth 20000 in
theorem u_X6_endOf_68 {F : Nat} {s : List Sh} {m : Mem} {r : Int32} {v1 : Int32} {v2 : Int32} (hw : GS s m) (hf : nb_X6_endOf_68 F s m v1 v2 = some r) : J3 (b_X6_endOf_68 F (bl s m) v1 v2) r True := by
  unfold nb_X6_endOf_68 at hf
  unfold b_X6_endOf_68
  refine k_if hf (fun hf => ?_) (fun hf => ?_)
  · exact k_retP hf
  · exact k_retP hf
def nb_X6_endOf_42 (F : Nat) (s : List Sh) (nself22 : Nat → Int32 → Int32 → Option Int32) (m : Mem) (v0 : Nat) (v1 : Int32) (v2 : Int32) : Option Int32 := if (m.1 v0 5) ≤ v2 then (nb_X6_endOf_68 F s m v1 v2) else ((m.2.2 v0 4).bind fun a1 => ((rdI s m a1 v2).bind fun x2 => ((m_X6_isLetter x2).bind fun x3 => (if x3 = 0 then (nb_X6_endOf_68 F s m v1 v2) else (bindv (v2 + (1)) fun x4 => (nself22 v0 v1 x4))))))
set_option maxRecDepth 20000 in
theorem ub_X6_endOf_42 {F : Nat} {s : List Sh} {self22 : Nat → Int32 → Int32 → Option Int32} {nself22 : Nat → Int32 → Int32 → Option Int32} {m : Mem} {r : Int32} {v0 : Nat} {v1 : Int32} {v2 : Int32} (hw : GS s m) (o_v0 : ok s v0 6) (ih22 : ∀ (v0 : Nat) (v1 : Int32) (v2 : Int32), ok s v0 6 → nself22 v0 v1 v2 = some r → J3 (self22 v0 v1 v2) r True) (hf : nb_X6_endOf_42 F s nself22 m v0 v1 v2 = some r) : J3 (b_X6_endOf_42 F self22 (bl s m) v0 v1 v2) r True := by
  unfold nb_X6_endOf_42 at hf
  unfold b_X6_endOf_42
  refine k_gI (ok_o o_v0 (by decide)) rfl ?_
  refine k_if hf (fun hf => ?_) (fun hf => ?_)
  · exact u_X6_endOf_68 hw hf
  · refine k_gR hw (ok_o o_v0 (by decide)) rfl hf fun a1 o_a1 hf => ?_
    refine k_aI (Or.inl rfl) (ka rfl o_a1) hf fun x2 hf => ?_
    refine k_pure hf fun x3 hf => ?_
    refine k_if hf (fun hf => ?_) (fun hf => ?_)
    · exact u_X6_endOf_68 hw hf
    · refine k_bv hf fun x4 hf => ?_
      exact ih22 _ _ _ o_v0 hf
def nl_X6_endOf_42 (F : Nat) (s : List Sh) (m : Mem) : Nat → Nat → Int32 → Int32 → Option Int32
  | 0 => fun _ _ _ => none
  | n + 1 => fun v0 v1 v2 => nb_X6_endOf_42 F s (nl_X6_endOf_42 F s m n) m v0 v1 v2
theorem ul_X6_endOf_42 {F : Nat} {s : List Sh} {m : Mem} {r : Int32} (hw : GS s m) (n : Nat) : ∀ (v0 : Nat) (v1 : Int32) (v2 : Int32), ok s v0 6 → nl_X6_endOf_42 F s m n v0 v1 v2 = some r → J3 (l_X6_endOf_42 F (bl s m) n v0 v1 v2) r True := by
  induction n with
  | zero => intro v0 v1 v2 o_v0 hf; cases hf
  | succ n ih => intro v0 v1 v2 o_v0 hf; exact ub_X6_endOf_42 (F := F) hw o_v0 ih hf
def nb_X6_endOf_0 (F : Nat) (s : List Sh) (m : Mem) (v0 : Nat) (v1 : Int32) : Option Int32 := (m.2.2 v0 4).bind fun a1 => ((rdI s m a1 v1).bind fun x2 => ((m_X6_isDigit x2).bind fun x3 => (if x3 = 0 then (nl_X6_endOf_42 F s m F v0 v1 v1) else (nl_X6_endOf_14 F s m F v0 v1))))
set_option maxRecDepth 20000 in
theorem u_X6_endOf_0 {F : Nat} {s : List Sh} {m : Mem} {r : Int32} {v0 : Nat} {v1 : Int32} (hw : GS s m) (o_v0 : ok s v0 6) (hf : nb_X6_endOf_0 F s m v0 v1 = some r) : J3 (b_X6_endOf_0 F (bl s m) v0 v1) r True := by
  unfold nb_X6_endOf_0 at hf
  unfold b_X6_endOf_0
  refine k_gR hw (ok_o o_v0 (by decide)) rfl hf fun a1 o_a1 hf => ?_
  refine k_aI (Or.inl rfl) (ka rfl o_a1) hf fun x2 hf => ?_
  refine k_pure hf fun x3 hf => ?_
  refine k_if hf (fun hf => ?_) (fun hf => ?_)
  · exact ul_X6_endOf_42 hw F _ _ _ o_v0 hf
  · exact ul_X6_endOf_14 hw F _ _ o_v0 hf
def n_X6_endOf (F : Nat) (s : List Sh) (m : Mem) (p0 : Nat) (p1 : Int32) : Option Int32 := nb_X6_endOf_0 F s m p0 p1
theorem un_X6_endOf {F : Nat} {s : List Sh} {m : Mem} {p0 : Nat} {p1 : Int32} {r : Int32} (hw : GS s m) (o_p0 : ok s p0 6) (ex : n_X6_endOf F s m p0 p1 = some r) : J3 (m_X6_endOf F (bl s m) p0 p1) r True := u_X6_endOf_0 hw o_p0 ex
/-! FractionLift$Tokens.isWord(Ljava/lang/String;II)Z over the memory -/
def nb_X6_isWord_13 (F : Nat) (s : List Sh) (nself8 : Nat → Nat → Int32 → Int32 → Int32 → Option Int32) (m : Mem) (v0 : Nat) (v1 : Nat) (v2 : Int32) (v3 : Int32) (v4 : Int32) : Option Int32 := if v3 ≤ v4 then (rZP (1 : Int32)) else ((m.2.2 v0 4).bind fun a1 => ((rdI s m a1 (v2 + v4)).bind fun x2 => ((sChrF v1 v4).bind fun x3 => (if x2 = x3 then (bindv (v4 + (1)) fun x4 => (nself8 v0 v1 v2 v3 x4)) else (rZP (0 : Int32))))))
set_option maxRecDepth 20000 in
theorem ub_X6_isWord_13 {F : Nat} {s : List Sh} {self8 : Nat → Nat → Int32 → Int32 → Int32 → Option Int32} {nself8 : Nat → Nat → Int32 → Int32 → Int32 → Option Int32} {m : Mem} {r : Int32} {v0 : Nat} {v1 : Nat} {v2 : Int32} {v3 : Int32} {v4 : Int32} (hw : GS s m) (o_v0 : ok s v0 6) (ih8 : ∀ (v0 : Nat) (v1 : Nat) (v2 : Int32) (v3 : Int32) (v4 : Int32), ok s v0 6 → nself8 v0 v1 v2 v3 v4 = some r → J3 (self8 v0 v1 v2 v3 v4) r True) (hf : nb_X6_isWord_13 F s nself8 m v0 v1 v2 v3 v4 = some r) : J3 (b_X6_isWord_13 F self8 (bl s m) v0 v1 v2 v3 v4) r True := by
  unfold nb_X6_isWord_13 at hf
  unfold b_X6_isWord_13
  refine k_if hf (fun hf => ?_) (fun hf => ?_)
  · exact k_rZP hf
  · refine k_gR hw (ok_o o_v0 (by decide)) rfl hf fun a1 o_a1 hf => ?_
    refine k_aI (Or.inl rfl) (ka rfl o_a1) hf fun x2 hf => ?_
    refine k_pure hf fun x3 hf => ?_
    refine k_if hf (fun hf => ?_) (fun hf => ?_)
    · refine k_bv hf fun x4 hf => ?_
      exact ih8 _ _ _ _ _ o_v0 hf
    · exact k_rZP hf
def nl_X6_isWord_13 (F : Nat) (s : List Sh) (m : Mem) : Nat → Nat → Nat → Int32 → Int32 → Int32 → Option Int32
  | 0 => fun _ _ _ _ _ => none
  | n + 1 => fun v0 v1 v2 v3 v4 => nb_X6_isWord_13 F s (nl_X6_isWord_13 F s m n) m v0 v1 v2 v3 v4
theorem ul_X6_isWord_13 {F : Nat} {s : List Sh} {m : Mem} {r : Int32} (hw : GS s m) (n : Nat) : ∀ (v0 : Nat) (v1 : Nat) (v2 : Int32) (v3 : Int32) (v4 : Int32), ok s v0 6 → nl_X6_isWord_13 F s m n v0 v1 v2 v3 v4 = some r → J3 (l_X6_isWord_13 F (bl s m) n v0 v1 v2 v3 v4) r True := by
  induction n with
  | zero => intro v0 v1 v2 v3 v4 o_v0 hf; cases hf
  | succ n ih => intro v0 v1 v2 v3 v4 o_v0 hf; exact ub_X6_isWord_13 (F := F) hw o_v0 ih hf
def nb_X6_isWord_0 (F : Nat) (s : List Sh) (m : Mem) (v0 : Nat) (v1 : Nat) (v2 : Int32) (v3 : Int32) : Option Int32 := (sLenF v1).bind fun x1 => (if x1 = v3 then (nl_X6_isWord_13 F s m F v0 v1 v2 v3 (0 : Int32)) else (rZP (0 : Int32)))
set_option maxRecDepth 20000 in
theorem u_X6_isWord_0 {F : Nat} {s : List Sh} {m : Mem} {r : Int32} {v0 : Nat} {v1 : Nat} {v2 : Int32} {v3 : Int32} (hw : GS s m) (o_v0 : ok s v0 6) (hf : nb_X6_isWord_0 F s m v0 v1 v2 v3 = some r) : J3 (b_X6_isWord_0 F (bl s m) v0 v1 v2 v3) r True := by
  unfold nb_X6_isWord_0 at hf
  unfold b_X6_isWord_0
  refine k_pure hf fun x1 hf => ?_
  refine k_if hf (fun hf => ?_) (fun hf => ?_)
  · exact ul_X6_isWord_13 hw F _ _ _ _ _ o_v0 hf
  · exact k_rZP hf
def n_X6_isWord (F : Nat) (s : List Sh) (m : Mem) (p0 : Nat) (p1 : Nat) (p2 : Int32) (p3 : Int32) : Option Int32 := nb_X6_isWord_0 F s m p0 p1 p2 p3
theorem un_X6_isWord {F : Nat} {s : List Sh} {m : Mem} {p0 : Nat} {p1 : Nat} {p2 : Int32} {p3 : Int32} {r : Int32} (hw : GS s m) (o_p0 : ok s p0 6) (ex : n_X6_isWord F s m p0 p1 p2 p3 = some r) : J3 (m_X6_isWord F (bl s m) p0 p1 p2 p3) r True := u_X6_isWord_0 hw o_p0 ex
/-! FractionLift$Tokens.wordKind(II)I over the memory -/
def nb_X6_wordKind_0 (F : Nat) (s : List Sh) (m : Mem) (v0 : Nat) (v1 : Int32) (v2 : Int32) : Option Int32 := (n_X6_isWord F s m v0 0 v1 v2).bind fun x1 => (if x1 = 0 then ((n_X6_isWord F s m v0 1 v1 v2).bind fun x2 => (if x2 = 0 then ((n_X6_isWord F s m v0 2 v1 v2).bind fun x3 => (if x3 = 0 then ((n_X6_isWord F s m v0 3 v1 v2).bind fun x4 => (if x4 = 0 then ((n_X6_isWord F s m v0 4 v1 v2).bind fun x5 => (if x5 = 0 then ((n_X6_isWord F s m v0 5 v1 v2).bind fun x6 => (if x6 = 0 then ((n_X6_isWord F s m v0 6 v1 v2).bind fun x7 => (if x7 = 0 then ((n_X6_isWord F s m v0 7 v1 v2).bind fun x8 => (if x8 = 0 then (some (3 : Int32)) else (some (9 : Int32)))) else (some (8 : Int32)))) else (some (7 : Int32)))) else (some (10 : Int32)))) else (some (6 : Int32)))) else (some (5 : Int32)))) else (some (4 : Int32)))) else (some (11 : Int32)))
set_option maxRecDepth 20000 in
theorem u_X6_wordKind_0 {F : Nat} {s : List Sh} {m : Mem} {r : Int32} {v0 : Nat} {v1 : Int32} {v2 : Int32} (hw : GS s m) (o_v0 : ok s v0 6) (hf : nb_X6_wordKind_0 F s m v0 v1 v2 = some r) : J3 (b_X6_wordKind_0 F (bl s m) v0 v1 v2) r True := by
  unfold nb_X6_wordKind_0 at hf
  unfold b_X6_wordKind_0
  refine k_cO (ok_o o_v0 (by decide)) ?_
  refine ob hf fun x1 ex hf => ?_
  refine k_b1 (un_X6_isWord hw o_v0 ex) ?_
  refine k_if hf (fun hf => ?_) (fun hf => ?_)
  · refine k_cO (ok_o o_v0 (by decide)) ?_
    refine ob hf fun x2 ex hf => ?_
    refine k_b1 (un_X6_isWord hw o_v0 ex) ?_
    refine k_if hf (fun hf => ?_) (fun hf => ?_)
    · refine k_cO (ok_o o_v0 (by decide)) ?_
      refine ob hf fun x3 ex hf => ?_
      refine k_b1 (un_X6_isWord hw o_v0 ex) ?_
      refine k_if hf (fun hf => ?_) (fun hf => ?_)
      · refine k_cO (ok_o o_v0 (by decide)) ?_
        refine ob hf fun x4 ex hf => ?_
        refine k_b1 (un_X6_isWord hw o_v0 ex) ?_
        refine k_if hf (fun hf => ?_) (fun hf => ?_)
        · refine k_cO (ok_o o_v0 (by decide)) ?_
          refine ob hf fun x5 ex hf => ?_
          refine k_b1 (un_X6_isWord hw o_v0 ex) ?_
          refine k_if hf (fun hf => ?_) (fun hf => ?_)
          · refine k_cO (ok_o o_v0 (by decide)) ?_
            refine ob hf fun x6 ex hf => ?_
            refine k_b1 (un_X6_isWord hw o_v0 ex) ?_
            refine k_if hf (fun hf => ?_) (fun hf => ?_)
            · refine k_cO (ok_o o_v0 (by decide)) ?_
              refine ob hf fun x7 ex hf => ?_
              refine k_b1 (un_X6_isWord hw o_v0 ex) ?_
              refine k_if hf (fun hf => ?_) (fun hf => ?_)
              · refine k_cO (ok_o o_v0 (by decide)) ?_
                refine ob hf fun x8 ex hf => ?_
                refine k_b1 (un_X6_isWord hw o_v0 ex) ?_
                refine k_if hf (fun hf => ?_) (fun hf => ?_)
                · exact k_retP hf
                · exact k_retP hf
              · exact k_retP hf
            · exact k_retP hf
          · exact k_retP hf
        · exact k_retP hf
      · exact k_retP hf
    · exact k_retP hf
  · exact k_retP hf
def n_X6_wordKind (F : Nat) (s : List Sh) (m : Mem) (p0 : Nat) (p1 : Int32) (p2 : Int32) : Option Int32 := nb_X6_wordKind_0 F s m p0 p1 p2
theorem un_X6_wordKind {F : Nat} {s : List Sh} {m : Mem} {p0 : Nat} {p1 : Int32} {p2 : Int32} {r : Int32} (hw : GS s m) (o_p0 : ok s p0 6) (ex : n_X6_wordKind F s m p0 p1 p2 = some r) : J3 (m_X6_wordKind F (bl s m) p0 p1 p2) r True := u_X6_wordKind_0 hw o_p0 ex
/-! FractionLift$Tokens.kindOf(II)I over the memory -/
def nb_X6_kindOf_0 (F : Nat) (s : List Sh) (m : Mem) (v0 : Nat) (v1 : Int32) (v2 : Int32) : Option Int32 := (m.2.2 v0 4).bind fun a1 => ((rdI s m a1 v1).bind fun x2 => ((m_X6_isDigit x2).bind fun x3 => (if x3 = 0 then ((m_X6_isLetter x2).bind fun x4 => (if x4 = 0 then ((m_X6_isSign x2).bind fun x5 => (if x5 = 0 then (some (0 : Int32)) else (some x2))) else ((n_X6_wordKind F s m v0 v1 (v2 - v1)).bind fun x6 => (some x6)))) else (if (v2 - v1) ≤ (3 : Int32) then (some (2 : Int32)) else (some (0 : Int32))))))
set_option maxRecDepth 20000 in
theorem u_X6_kindOf_0 {F : Nat} {s : List Sh} {m : Mem} {r : Int32} {v0 : Nat} {v1 : Int32} {v2 : Int32} (hw : GS s m) (o_v0 : ok s v0 6) (hf : nb_X6_kindOf_0 F s m v0 v1 v2 = some r) : J3 (b_X6_kindOf_0 F (bl s m) v0 v1 v2) r True := by
  unfold nb_X6_kindOf_0 at hf
  unfold b_X6_kindOf_0
  refine k_gR hw (ok_o o_v0 (by decide)) rfl hf fun a1 o_a1 hf => ?_
  refine k_aI (Or.inl rfl) (ka rfl o_a1) hf fun x2 hf => ?_
  refine k_pure hf fun x3 hf => ?_
  refine k_if hf (fun hf => ?_) (fun hf => ?_)
  · refine k_pure hf fun x4 hf => ?_
    refine k_if hf (fun hf => ?_) (fun hf => ?_)
    · refine k_pure hf fun x5 hf => ?_
      refine k_if hf (fun hf => ?_) (fun hf => ?_)
      · exact k_retP hf
      · exact k_retP hf
    · refine k_cO (ok_o o_v0 (by decide)) ?_
      refine ob hf fun x6 ex hf => ?_
      refine k_b1 (un_X6_wordKind hw o_v0 ex) ?_
      exact k_retP hf
  · refine k_if hf (fun hf => ?_) (fun hf => ?_)
    · exact k_retP hf
    · exact k_retP hf
def n_X6_kindOf (F : Nat) (s : List Sh) (m : Mem) (p0 : Nat) (p1 : Int32) (p2 : Int32) : Option Int32 := nb_X6_kindOf_0 F s m p0 p1 p2
theorem un_X6_kindOf {F : Nat} {s : List Sh} {m : Mem} {p0 : Nat} {p1 : Int32} {p2 : Int32} {r : Int32} (hw : GS s m) (o_p0 : ok s p0 6) (ex : n_X6_kindOf F s m p0 p1 p2 = some r) : J3 (m_X6_kindOf F (bl s m) p0 p1 p2) r True := u_X6_kindOf_0 hw o_p0 ex
/-! FractionLift$Tokens.amountOf(II)I over the memory -/
def nb_X6_amountOf_5 (F : Nat) (s : List Sh) (nself4 : Nat → Int32 → Int32 → Int32 → Option Int32) (m : Mem) (v0 : Nat) (v2 : Int32) (v3 : Int32) (v4 : Int32) : Option Int32 := if v2 ≤ v4 then (some v3) else ((m.2.2 v0 4).bind fun a1 => ((rdI s m a1 v4).bind fun x2 => (bindv ((((((v3 * (10 : Int32))) + x2)) - (48 : Int32))) fun x3 => (bindv (v4 + (1)) fun x4 => (nself4 v0 v2 x3 x4)))))
set_option maxRecDepth 20000 in
theorem ub_X6_amountOf_5 {F : Nat} {s : List Sh} {self4 : Nat → Int32 → Int32 → Int32 → Option Int32} {nself4 : Nat → Int32 → Int32 → Int32 → Option Int32} {m : Mem} {r : Int32} {v0 : Nat} {v2 : Int32} {v3 : Int32} {v4 : Int32} (hw : GS s m) (o_v0 : ok s v0 6) (ih4 : ∀ (v0 : Nat) (v2 : Int32) (v3 : Int32) (v4 : Int32), ok s v0 6 → nself4 v0 v2 v3 v4 = some r → J3 (self4 v0 v2 v3 v4) r True) (hf : nb_X6_amountOf_5 F s nself4 m v0 v2 v3 v4 = some r) : J3 (b_X6_amountOf_5 F self4 (bl s m) v0 v2 v3 v4) r True := by
  unfold nb_X6_amountOf_5 at hf
  unfold b_X6_amountOf_5
  refine k_if hf (fun hf => ?_) (fun hf => ?_)
  · exact k_retP hf
  · refine k_gR hw (ok_o o_v0 (by decide)) rfl hf fun a1 o_a1 hf => ?_
    refine k_aI (Or.inl rfl) (ka rfl o_a1) hf fun x2 hf => ?_
    refine k_bv hf fun x3 hf => ?_
    refine k_bv hf fun x4 hf => ?_
    exact ih4 _ _ _ _ o_v0 hf
def nl_X6_amountOf_5 (F : Nat) (s : List Sh) (m : Mem) : Nat → Nat → Int32 → Int32 → Int32 → Option Int32
  | 0 => fun _ _ _ _ => none
  | n + 1 => fun v0 v2 v3 v4 => nb_X6_amountOf_5 F s (nl_X6_amountOf_5 F s m n) m v0 v2 v3 v4
theorem ul_X6_amountOf_5 {F : Nat} {s : List Sh} {m : Mem} {r : Int32} (hw : GS s m) (n : Nat) : ∀ (v0 : Nat) (v2 : Int32) (v3 : Int32) (v4 : Int32), ok s v0 6 → nl_X6_amountOf_5 F s m n v0 v2 v3 v4 = some r → J3 (l_X6_amountOf_5 F (bl s m) n v0 v2 v3 v4) r True := by
  induction n with
  | zero => intro v0 v2 v3 v4 o_v0 hf; cases hf
  | succ n ih => intro v0 v2 v3 v4 o_v0 hf; exact ub_X6_amountOf_5 (F := F) hw o_v0 ih hf
def nb_X6_amountOf_0 (F : Nat) (s : List Sh) (m : Mem) (v0 : Nat) (v1 : Int32) (v2 : Int32) : Option Int32 := nl_X6_amountOf_5 F s m F v0 v2 (0 : Int32) v1
set_option maxRecDepth 20000 in
theorem u_X6_amountOf_0 {F : Nat} {s : List Sh} {m : Mem} {r : Int32} {v0 : Nat} {v1 : Int32} {v2 : Int32} (hw : GS s m) (o_v0 : ok s v0 6) (hf : nb_X6_amountOf_0 F s m v0 v1 v2 = some r) : J3 (b_X6_amountOf_0 F (bl s m) v0 v1 v2) r True := by
  unfold nb_X6_amountOf_0 at hf
  unfold b_X6_amountOf_0
  exact ul_X6_amountOf_5 hw F _ _ _ _ o_v0 hf
def n_X6_amountOf (F : Nat) (s : List Sh) (m : Mem) (p0 : Nat) (p1 : Int32) (p2 : Int32) : Option Int32 := nb_X6_amountOf_0 F s m p0 p1 p2
theorem un_X6_amountOf {F : Nat} {s : List Sh} {m : Mem} {p0 : Nat} {p1 : Int32} {p2 : Int32} {r : Int32} (hw : GS s m) (o_p0 : ok s p0 6) (ex : n_X6_amountOf F s m p0 p1 p2 = some r) : J3 (m_X6_amountOf F (bl s m) p0 p1 p2) r True := u_X6_amountOf_0 hw o_p0 ex
/-! FractionLift$Tokens.add(III)V over the memory -/
def nb_X6_add_0 (s : List Sh) (m : Mem) (v0 : Nat) (v1 : Int32) (v2 : Int32) (v3 : Int32) : Option (Unit × Mem) := (m.2.2 v0 1).bind fun a1 => (if ((Int32.ofNat (ln s a1))) ≤ (m.1 v0 0) then (some ((), m)) else ((m.2.2 v0 1).bind fun a2 => ((stI s m a2 (m.1 v0 0) v1).bind fun m3 => ((m3.2.2 v0 2).bind fun a4 => ((stI s m3 a4 (m3.1 v0 0) v2).bind fun m5 => ((m5.2.2 v0 3).bind fun a6 => ((stI s m5 a6 (m5.1 v0 0) v3).bind fun m7 => (bindv (wI m7 v0 0 (((m7.1 v0 0) + (1 : Int32)))) fun m8 => (some ((), m8))))))))))
set_option maxRecDepth 20000 in
theorem u_X6_add_0 {s : List Sh} {m m' : Mem} {r : Unit} {v0 : Nat} {v1 : Int32} {v2 : Int32} {v3 : Int32} (hw : GS s m) (o_v0 : ok s v0 6) (hf : nb_X6_add_0 s m v0 v1 v2 v3 = some (r, m')) : J3 (b_X6_add_0 (bl s m) v0 v1 v2 v3) (r, bl s m') (GS s m') := by
  unfold nb_X6_add_0 at hf
  unfold b_X6_add_0
  refine k_gI (ok_o o_v0 (by decide)) rfl ?_
  refine k_gR hw (ok_o o_v0 (by decide)) rfl hf fun a1 o_a1 hf => ?_
  refine k_len (t := 0) (by decide) (ka rfl o_a1) ?_
  refine k_if hf (fun hf => ?_) (fun hf => ?_)
  · exact k_ret hw hf
  · refine k_gR hw (ok_o o_v0 (by decide)) rfl hf fun a2 o_a2 hf => ?_
    refine k_gI (ok_o o_v0 (by decide)) rfl ?_
    refine k_sI hw (ka rfl o_a2) hf fun m3 hw hf => ?_
    refine k_gR hw (ok_o o_v0 (by decide)) rfl hf fun a4 o_a4 hf => ?_
    refine k_gI (ok_o o_v0 (by decide)) rfl ?_
    refine k_sI hw (ka rfl o_a4) hf fun m5 hw hf => ?_
    refine k_gR hw (ok_o o_v0 (by decide)) rfl hf fun a6 o_a6 hf => ?_
    refine k_gI (ok_o o_v0 (by decide)) rfl ?_
    refine k_sI hw (ka rfl o_a6) hf fun m7 hw hf => ?_
    refine k_gI (ok_o o_v0 (by decide)) rfl ?_
    refine k_pI hw (ok_o o_v0 (by decide)) rfl hf fun m8 hw hf => ?_
    exact k_ret hw hf
def n_X6_add (s : List Sh) (m : Mem) (p0 : Nat) (p1 : Int32) (p2 : Int32) (p3 : Int32) : Option (Unit × Mem) := nb_X6_add_0 s m p0 p1 p2 p3
theorem un_X6_add {s : List Sh} {m m' : Mem} {p0 : Nat} {p1 : Int32} {p2 : Int32} {p3 : Int32} {r : Unit} (hw : GS s m) (o_p0 : ok s p0 6) (ex : n_X6_add s m p0 p1 p2 p3 = some (r, m')) : J3 (m_X6_add (bl s m) p0 p1 p2 p3) (r, bl s m') (GS s m') := u_X6_add_0 hw o_p0 ex
/-! FractionLift$Tokens.scanAll([II)V over the memory -/
def nb_X6_scanAll_105 (F : Nat) (s : List Sh) (m : Mem) (v0 : Nat) : Option (Unit × Mem) := bind2 (n_X6_add s m v0 (1 : Int32) (m.1 v0 5) (0 : Int32)) fun _ m2 => (some ((), m2))
set_option maxRecDepth 20000 in
theorem u_X6_scanAll_105 {F : Nat} {s : List Sh} {m m' : Mem} {r : Unit} {v0 : Nat} (hw : GS s m) (o_v0 : ok s v0 6) (hf : nb_X6_scanAll_105 F s m v0 = some (r, m')) : J3 (b_X6_scanAll_105 F (bl s m) v0) (r, bl s m') (GS s m') := by
  unfold nb_X6_scanAll_105 at hf
  unfold b_X6_scanAll_105
  refine k_gI (ok_o o_v0 (by decide)) rfl ?_
  refine k_cO (ok_o o_v0 (by decide)) ?_
  refine ob2 hf fun u m2 ex hf => ?_
  refine k_b2 (un_X6_add hw o_v0 ex) fun hw => ?_
  exact k_ret hw hf
def nb_X6_scanAll_83 (F : Nat) (s : List Sh) (nself18 : Mem → Nat → Int32 → Int32 → Option (Unit × Mem)) (m : Mem) (v0 : Nat) (v4 : Int32) (v5 : Int32) (v6 : Int32) (s0 : Nat) (s1 : Int32) (s2 : Int32) (s3 : Int32) : Option (Unit × Mem) := bind2 (n_X6_add s m s0 s1 s2 s3) fun _ m2 => (if v6 = 0 then (some ((), m2)) else ((n_X6_behindBlanks F s m2 v0 v5).bind fun x3 => (bindv (v4 + (1)) fun x4 => (nself18 m2 v0 x3 x4))))
set_option maxRecDepth 20000 in
theorem u_X6_scanAll_83 {F : Nat} {s : List Sh} {self18 : PH → Nat → Int32 → Int32 → Option (Unit × PH)} {nself18 : Mem → Nat → Int32 → Int32 → Option (Unit × Mem)} {m m' : Mem} {r : Unit} {v0 : Nat} {v4 : Int32} {v5 : Int32} {v6 : Int32} {s0 : Nat} {s1 : Int32} {s2 : Int32} {s3 : Int32} (hw : GS s m) (o_v0 : ok s v0 6) (o_s0 : ok s s0 6) (ih18 : ∀ (m : Mem) (v0 : Nat) (v3 : Int32) (v4 : Int32), GS s m → ok s v0 6 → nself18 m v0 v3 v4 = some (r, m') → J3 (self18 (bl s m) v0 v3 v4) (r, bl s m') (GS s m')) (hf : nb_X6_scanAll_83 F s nself18 m v0 v4 v5 v6 s0 s1 s2 s3 = some (r, m')) : J3 (b_X6_scanAll_83 F self18 (bl s m) v0 v4 v5 v6 s0 s1 s2 s3) (r, bl s m') (GS s m') := by
  unfold nb_X6_scanAll_83 at hf
  unfold b_X6_scanAll_83
  refine k_cO (ok_o o_s0 (by decide)) ?_
  refine ob2 hf fun u m2 ex hf => ?_
  refine k_b2 (un_X6_add hw o_s0 ex) fun hw => ?_
  refine k_if hf (fun hf => ?_) (fun hf => ?_)
  · exact k_ret hw hf
  · refine k_cO (ok_o o_v0 (by decide)) ?_
    refine ob hf fun x3 ex hf => ?_
    refine k_b1 (un_X6_behindBlanks hw o_v0 ex) ?_
    refine k_bv hf fun x4 hf => ?_
    exact ih18 _ _ _ _ hw o_v0 hf
def nb_X6_scanAll_29 (F : Nat) (s : List Sh) (nself18 : Mem → Nat → Int32 → Int32 → Option (Unit × Mem)) (m : Mem) (v0 : Nat) (v3 : Int32) (v4 : Int32) : Option (Unit × Mem) := if (m.1 v0 5) ≤ v4 then (nb_X6_scanAll_105 F s m v0) else (if (m.1 v0 5) ≤ v3 then (nb_X6_scanAll_105 F s m v0) else ((n_X6_endOf F s m v0 v3).bind fun x1 => ((n_X6_kindOf F s m v0 v3 x1).bind fun x2 => (if x2 = (2 : Int32) then ((n_X6_amountOf F s m v0 v3 x1).bind fun x3 => (nb_X6_scanAll_83 F s nself18 m v0 v4 x1 x2 v0 x2 v3 x3)) else (nb_X6_scanAll_83 F s nself18 m v0 v4 x1 x2 v0 x2 v3 (0 : Int32))))))
set_option maxRecDepth 20000 in
theorem ub_X6_scanAll_29 {F : Nat} {s : List Sh} {self18 : PH → Nat → Int32 → Int32 → Option (Unit × PH)} {nself18 : Mem → Nat → Int32 → Int32 → Option (Unit × Mem)} {m m' : Mem} {r : Unit} {v0 : Nat} {v3 : Int32} {v4 : Int32} (hw : GS s m) (o_v0 : ok s v0 6) (ih18 : ∀ (m : Mem) (v0 : Nat) (v3 : Int32) (v4 : Int32), GS s m → ok s v0 6 → nself18 m v0 v3 v4 = some (r, m') → J3 (self18 (bl s m) v0 v3 v4) (r, bl s m') (GS s m')) (hf : nb_X6_scanAll_29 F s nself18 m v0 v3 v4 = some (r, m')) : J3 (b_X6_scanAll_29 F self18 (bl s m) v0 v3 v4) (r, bl s m') (GS s m') := by
  unfold nb_X6_scanAll_29 at hf
  unfold b_X6_scanAll_29
  refine k_gI (ok_o o_v0 (by decide)) rfl ?_
  refine k_if hf (fun hf => ?_) (fun hf => ?_)
  · exact u_X6_scanAll_105 hw o_v0 hf
  · refine k_gI (ok_o o_v0 (by decide)) rfl ?_
    refine k_if hf (fun hf => ?_) (fun hf => ?_)
    · exact u_X6_scanAll_105 hw o_v0 hf
    · refine k_cO (ok_o o_v0 (by decide)) ?_
      refine ob hf fun x1 ex hf => ?_
      refine k_b1 (un_X6_endOf hw o_v0 ex) ?_
      refine k_cO (ok_o o_v0 (by decide)) ?_
      refine ob hf fun x2 ex hf => ?_
      refine k_b1 (un_X6_kindOf hw o_v0 ex) ?_
      refine k_if hf (fun hf => ?_) (fun hf => ?_)
      · refine k_cO (ok_o o_v0 (by decide)) ?_
        refine ob hf fun x3 ex hf => ?_
        refine k_b1 (un_X6_amountOf hw o_v0 ex) ?_
        exact u_X6_scanAll_83 hw o_v0 o_v0 ih18 hf
      · exact u_X6_scanAll_83 hw o_v0 o_v0 ih18 hf
def nl_X6_scanAll_29 (F : Nat) (s : List Sh) : Nat → Mem → Nat → Int32 → Int32 → Option (Unit × Mem)
  | 0 => fun _ _ _ _ => none
  | n + 1 => fun m v0 v3 v4 => nb_X6_scanAll_29 F s (nl_X6_scanAll_29 F s n) m v0 v3 v4
theorem ul_X6_scanAll_29 {F : Nat} {s : List Sh} {m' : Mem} {r : Unit} (n : Nat) : ∀ (m : Mem) (v0 : Nat) (v3 : Int32) (v4 : Int32), GS s m → ok s v0 6 → nl_X6_scanAll_29 F s n m v0 v3 v4 = some (r, m') → J3 (l_X6_scanAll_29 F n (bl s m) v0 v3 v4) (r, bl s m') (GS s m') := by
  induction n with
  | zero => intro m v0 v3 v4 hw o_v0 hf; cases hf
  | succ n ih => intro m v0 v3 v4 hw o_v0 hf; exact ub_X6_scanAll_29 (F := F) hw o_v0 ih hf
def nb_X6_scanAll_0 (F : Nat) (s : List Sh) (m : Mem) (v0 : Nat) (v1 : Nat) (v2 : Int32) : Option (Unit × Mem) := bindv (wR m v0 4 (some v1)) fun m1 => (bindv (wI m1 v0 5 ((jmin v2 ((Int32.ofNat (ln s v1)))))) fun m2 => (bindv (wI m2 v0 0 (0 : Int32)) fun m3 => ((n_X6_behindBlanks F s m3 v0 (0 : Int32)).bind fun x4 => (nl_X6_scanAll_29 F s F m3 v0 x4 (0 : Int32)))))
set_option maxRecDepth 20000 in
theorem u_X6_scanAll_0 {F : Nat} {s : List Sh} {m m' : Mem} {r : Unit} {v0 : Nat} {v1 : Nat} {v2 : Int32} (hw : GS s m) (o_v0 : ok s v0 6) (o_v1 : ok s v1 100) (hf : nb_X6_scanAll_0 F s m v0 v1 v2 = some (r, m')) : J3 (b_X6_scanAll_0 F (bl s m) v0 v1 v2) (r, bl s m') (GS s m') := by
  unfold nb_X6_scanAll_0 at hf
  unfold b_X6_scanAll_0
  refine k_pR hw (ok_o o_v0 (by decide)) rfl o_v1 hf fun m1 hw hf => ?_
  refine k_len (t := 0) (by decide) (ka rfl o_v1) ?_
  refine k_pI hw (ok_o o_v0 (by decide)) rfl hf fun m2 hw hf => ?_
  refine k_pI hw (ok_o o_v0 (by decide)) rfl hf fun m3 hw hf => ?_
  refine k_cO (ok_o o_v0 (by decide)) ?_
  refine ob hf fun x4 ex hf => ?_
  refine k_b1 (un_X6_behindBlanks hw o_v0 ex) ?_
  exact ul_X6_scanAll_29 F _ _ _ _ hw o_v0 hf
def n_X6_scanAll (F : Nat) (s : List Sh) (m : Mem) (p0 : Nat) (p1 : Nat) (p2 : Int32) : Option (Unit × Mem) := nb_X6_scanAll_0 F s m p0 p1 p2
theorem un_X6_scanAll {F : Nat} {s : List Sh} {m m' : Mem} {p0 : Nat} {p1 : Nat} {p2 : Int32} {r : Unit} (hw : GS s m) (o_p0 : ok s p0 6) (o_p1 : ok s p1 100) (ex : n_X6_scanAll F s m p0 p1 p2 = some (r, m')) : J3 (m_X6_scanAll F (bl s m) p0 p1 p2) (r, bl s m') (GS s m') := u_X6_scanAll_0 hw o_p0 o_p1 ex
/-! FractionLift$Reader.lookAt(I)V over the memory -/
def nb_X3_lookAt_25 (s : List Sh) (m : Mem) (v0 : Nat) (s0 : Nat) (s1 : Int32) : Option (Unit × Mem) := bindv (wI m s0 4 s1) fun m1 => (if (m1.1 v0 4) < 0 then (some ((), m1)) else ((m1.2.2 v0 3).bind fun a2 => ((m1.2.2 a2 1).bind fun a3 => ((rdI s m1 a3 (m1.1 v0 4)).bind fun x4 => (bindv (wI m1 v0 5 x4) fun m5 => ((m5.2.2 v0 3).bind fun a6 => ((m5.2.2 a6 2).bind fun a7 => ((rdI s m5 a7 (m5.1 v0 4)).bind fun x8 => (bindv (wI m5 v0 6 x8) fun m9 => ((m9.2.2 v0 3).bind fun a10 => ((m9.2.2 a10 3).bind fun a11 => ((rdI s m9 a11 (m9.1 v0 4)).bind fun x12 => (bindv (wI m9 v0 7 x12) fun m13 => (some ((), m13)))))))))))))))
set_option maxRecDepth 20000 in
theorem u_X3_lookAt_25 {s : List Sh} {m m' : Mem} {r : Unit} {v0 : Nat} {s0 : Nat} {s1 : Int32} (hw : GS s m) (o_v0 : ok s v0 3) (o_s0 : ok s s0 3) (hf : nb_X3_lookAt_25 s m v0 s0 s1 = some (r, m')) : J3 (b_X3_lookAt_25 (bl s m) v0 s0 s1) (r, bl s m') (GS s m') := by
  unfold nb_X3_lookAt_25 at hf
  unfold b_X3_lookAt_25
  refine k_pI hw (ok_o o_s0 (by decide)) rfl hf fun m1 hw hf => ?_
  refine k_gI (ok_o o_v0 (by decide)) rfl ?_
  refine k_if hf (fun hf => ?_) (fun hf => ?_)
  · exact k_ret hw hf
  · refine k_gR hw (ok_o o_v0 (by decide)) rfl hf fun a2 o_a2 hf => ?_
    refine k_gR hw (ok_o o_a2 (by decide)) rfl hf fun a3 o_a3 hf => ?_
    refine k_gI (ok_o o_v0 (by decide)) rfl ?_
    refine k_aI (Or.inl rfl) (ka rfl o_a3) hf fun x4 hf => ?_
    refine k_pI hw (ok_o o_v0 (by decide)) rfl hf fun m5 hw hf => ?_
    refine k_gR hw (ok_o o_v0 (by decide)) rfl hf fun a6 o_a6 hf => ?_
    refine k_gR hw (ok_o o_a6 (by decide)) rfl hf fun a7 o_a7 hf => ?_
    refine k_gI (ok_o o_v0 (by decide)) rfl ?_
    refine k_aI (Or.inl rfl) (ka rfl o_a7) hf fun x8 hf => ?_
    refine k_pI hw (ok_o o_v0 (by decide)) rfl hf fun m9 hw hf => ?_
    refine k_gR hw (ok_o o_v0 (by decide)) rfl hf fun a10 o_a10 hf => ?_
    refine k_gR hw (ok_o o_a10 (by decide)) rfl hf fun a11 o_a11 hf => ?_
    refine k_gI (ok_o o_v0 (by decide)) rfl ?_
    refine k_aI (Or.inl rfl) (ka rfl o_a11) hf fun x12 hf => ?_
    refine k_pI hw (ok_o o_v0 (by decide)) rfl hf fun m13 hw hf => ?_
    exact k_ret hw hf
def nb_X3_lookAt_0 (s : List Sh) (m : Mem) (v0 : Nat) (v1 : Int32) : Option (Unit × Mem) := (m.2.2 v0 3).bind fun a1 => (if (m.1 a1 0) ≤ v1 then ((m.2.2 v0 3).bind fun a2 => (nb_X3_lookAt_25 s m v0 v0 (((m.1 a2 0) - (1 : Int32))))) else (nb_X3_lookAt_25 s m v0 v0 v1))
set_option maxRecDepth 20000 in
theorem u_X3_lookAt_0 {s : List Sh} {m m' : Mem} {r : Unit} {v0 : Nat} {v1 : Int32} (hw : GS s m) (o_v0 : ok s v0 3) (hf : nb_X3_lookAt_0 s m v0 v1 = some (r, m')) : J3 (b_X3_lookAt_0 (bl s m) v0 v1) (r, bl s m') (GS s m') := by
  unfold nb_X3_lookAt_0 at hf
  unfold b_X3_lookAt_0
  refine k_gR hw (ok_o o_v0 (by decide)) rfl hf fun a1 o_a1 hf => ?_
  refine k_gI (ok_o o_a1 (by decide)) rfl ?_
  refine k_if hf (fun hf => ?_) (fun hf => ?_)
  · refine k_gR hw (ok_o o_v0 (by decide)) rfl hf fun a2 o_a2 hf => ?_
    refine k_gI (ok_o o_a2 (by decide)) rfl ?_
    exact u_X3_lookAt_25 hw o_v0 o_v0 hf
  · exact u_X3_lookAt_25 hw o_v0 o_v0 hf
def n_X3_lookAt (s : List Sh) (m : Mem) (p0 : Nat) (p1 : Int32) : Option (Unit × Mem) := nb_X3_lookAt_0 s m p0 p1
theorem un_X3_lookAt {s : List Sh} {m m' : Mem} {p0 : Nat} {p1 : Int32} {r : Unit} (hw : GS s m) (o_p0 : ok s p0 3) (ex : n_X3_lookAt s m p0 p1 = some (r, m')) : J3 (m_X3_lookAt (bl s m) p0 p1) (r, bl s m') (GS s m') := u_X3_lookAt_0 hw o_p0 ex
/-! FractionLift$Reader.failed(I)Z over the memory -/
def nb_X3_failed_0 (s : List Sh) (m : Mem) (v0 : Nat) (v1 : Int32) : Option (Int32 × Mem) := bindv (wI m v0 1 v1) fun m1 => (bindv (wI m1 v0 2 (m1.1 v0 6)) fun m2 => (rZM (0 : Int32) m2))
set_option maxRecDepth 20000 in
theorem u_X3_failed_0 {s : List Sh} {m m' : Mem} {r : Int32} {v0 : Nat} {v1 : Int32} (hw : GS s m) (o_v0 : ok s v0 3) (hf : nb_X3_failed_0 s m v0 v1 = some (r, m')) : J3 (b_X3_failed_0 (bl s m) v0 v1) (r, bl s m') (GS s m') := by
  unfold nb_X3_failed_0 at hf
  unfold b_X3_failed_0
  refine k_pI hw (ok_o o_v0 (by decide)) rfl hf fun m1 hw hf => ?_
  refine k_gI (ok_o o_v0 (by decide)) rfl ?_
  refine k_pI hw (ok_o o_v0 (by decide)) rfl hf fun m2 hw hf => ?_
  exact k_rZ hw hf
def n_X3_failed (s : List Sh) (m : Mem) (p0 : Nat) (p1 : Int32) : Option (Int32 × Mem) := nb_X3_failed_0 s m p0 p1
theorem un_X3_failed {s : List Sh} {m m' : Mem} {p0 : Nat} {p1 : Int32} {r : Int32} (hw : GS s m) (o_p0 : ok s p0 3) (ex : n_X3_failed s m p0 p1 = some (r, m')) : J3 (m_X3_failed (bl s m) p0 p1) (r, bl s m') (GS s m') := u_X3_failed_0 hw o_p0 ex
/-! FractionLift$Reader.cantStand()Z over the memory -/
def nb_X3_cantStand_13 (s : List Sh) (m : Mem) (s0 : Nat) (s1 : Int32) : Option (Int32 × Mem) := bind2 (n_X3_failed s m s0 s1) fun x1 m2 => (rZM x1 m2)
set_option maxRecDepth 20000 in
theorem u_X3_cantStand_13 {s : List Sh} {m m' : Mem} {r : Int32} {s0 : Nat} {s1 : Int32} (hw : GS s m) (o_s0 : ok s s0 3) (hf : nb_X3_cantStand_13 s m s0 s1 = some (r, m')) : J3 (b_X3_cantStand_13 (bl s m) s0 s1) (r, bl s m') (GS s m') := by
  unfold nb_X3_cantStand_13 at hf
  unfold b_X3_cantStand_13
  refine k_cO (ok_o o_s0 (by decide)) ?_
  refine ob2 hf fun x1 m2 ex hf => ?_
  refine k_b2 (un_X3_failed hw o_s0 ex) fun hw => ?_
  exact k_rZ hw hf
def nb_X3_cantStand_0 (s : List Sh) (m : Mem) (v0 : Nat) : Option (Int32 × Mem) := if (m.1 v0 5) = 0 then (nb_X3_cantStand_13 s m v0 (1 : Int32)) else (nb_X3_cantStand_13 s m v0 (2 : Int32))
set_option maxRecDepth 20000 in
theorem u_X3_cantStand_0 {s : List Sh} {m m' : Mem} {r : Int32} {v0 : Nat} (hw : GS s m) (o_v0 : ok s v0 3) (hf : nb_X3_cantStand_0 s m v0 = some (r, m')) : J3 (b_X3_cantStand_0 (bl s m) v0) (r, bl s m') (GS s m') := by
  unfold nb_X3_cantStand_0 at hf
  unfold b_X3_cantStand_0
  refine k_gI (ok_o o_v0 (by decide)) rfl ?_
  refine k_if hf (fun hf => ?_) (fun hf => ?_)
  · exact u_X3_cantStand_13 hw o_v0 hf
  · exact u_X3_cantStand_13 hw o_v0 hf
def n_X3_cantStand (s : List Sh) (m : Mem) (p0 : Nat) : Option (Int32 × Mem) := nb_X3_cantStand_0 s m p0
theorem un_X3_cantStand {s : List Sh} {m m' : Mem} {p0 : Nat} {r : Int32} (hw : GS s m) (o_p0 : ok s p0 3) (ex : n_X3_cantStand s m p0 = some (r, m')) : J3 (m_X3_cantStand (bl s m) p0) (r, bl s m') (GS s m') := u_X3_cantStand_0 hw o_p0 ex
/-! FractionLift$Reader.next()V over the memory -/
def nb_X3_next_0 (s : List Sh) (m : Mem) (v0 : Nat) : Option (Unit × Mem) := bind2 (n_X3_lookAt s m v0 (((m.1 v0 4) + (1 : Int32)))) fun _ m2 => (some ((), m2))
set_option maxRecDepth 20000 in
theorem u_X3_next_0 {s : List Sh} {m m' : Mem} {r : Unit} {v0 : Nat} (hw : GS s m) (o_v0 : ok s v0 3) (hf : nb_X3_next_0 s m v0 = some (r, m')) : J3 (b_X3_next_0 (bl s m) v0) (r, bl s m') (GS s m') := by
  unfold nb_X3_next_0 at hf
  unfold b_X3_next_0
  refine k_gI (ok_o o_v0 (by decide)) rfl ?_
  refine k_cO (ok_o o_v0 (by decide)) ?_
  refine ob2 hf fun u m2 ex hf => ?_
  refine k_b2 (un_X3_lookAt hw o_v0 ex) fun hw => ?_
  exact k_ret hw hf
def n_X3_next (s : List Sh) (m : Mem) (p0 : Nat) : Option (Unit × Mem) := nb_X3_next_0 s m p0
theorem un_X3_next {s : List Sh} {m m' : Mem} {p0 : Nat} {r : Unit} (hw : GS s m) (o_p0 : ok s p0 3) (ex : n_X3_next s m p0 = some (r, m')) : J3 (m_X3_next (bl s m) p0) (r, bl s m') (GS s m') := u_X3_next_0 hw o_p0 ex
/-! FractionLift$Reader.numberWithin(II)Z over the memory -/
def nb_X3_numberWithin_29 (s : List Sh) (m : Mem) (v0 : Nat) : Option (Int32 × Mem) := bind2 (n_X3_failed s m v0 (3 : Int32)) fun x1 m2 => (rZM x1 m2)
set_option maxRecDepth 20000 in
theorem u_X3_numberWithin_29 {s : List Sh} {m m' : Mem} {r : Int32} {v0 : Nat} (hw : GS s m) (o_v0 : ok s v0 3) (hf : nb_X3_numberWithin_29 s m v0 = some (r, m')) : J3 (b_X3_numberWithin_29 (bl s m) v0) (r, bl s m') (GS s m') := by
  unfold nb_X3_numberWithin_29 at hf
  unfold b_X3_numberWithin_29
  refine k_cO (ok_o o_v0 (by decide)) ?_
  refine ob2 hf fun x1 m2 ex hf => ?_
  refine k_b2 (un_X3_failed hw o_v0 ex) fun hw => ?_
  exact k_rZ hw hf
def nb_X3_numberWithin_0 (s : List Sh) (m : Mem) (v0 : Nat) (v1 : Int32) (v2 : Int32) : Option (Int32 × Mem) := if (m.1 v0 5) = (2 : Int32) then (if (m.1 v0 7) < v1 then (nb_X3_numberWithin_29 s m v0) else (if (m.1 v0 7) ≤ v2 then (bindv (wI m v0 8 (m.1 v0 7)) fun m1 => (bind2 (n_X3_next s m1 v0) fun _ m3 => (rZM (1 : Int32) m3))) else (nb_X3_numberWithin_29 s m v0))) else (bind2 (n_X3_cantStand s m v0) fun x4 m5 => (rZM x4 m5))
set_option maxRecDepth 20000 in
theorem u_X3_numberWithin_0 {s : List Sh} {m m' : Mem} {r : Int32} {v0 : Nat} {v1 : Int32} {v2 : Int32} (hw : GS s m) (o_v0 : ok s v0 3) (hf : nb_X3_numberWithin_0 s m v0 v1 v2 = some (r, m')) : J3 (b_X3_numberWithin_0 (bl s m) v0 v1 v2) (r, bl s m') (GS s m') := by
  unfold nb_X3_numberWithin_0 at hf
  unfold b_X3_numberWithin_0
  refine k_gI (ok_o o_v0 (by decide)) rfl ?_
  refine k_if hf (fun hf => ?_) (fun hf => ?_)
  · refine k_gI (ok_o o_v0 (by decide)) rfl ?_
    refine k_if hf (fun hf => ?_) (fun hf => ?_)
    · exact u_X3_numberWithin_29 hw o_v0 hf
    · refine k_gI (ok_o o_v0 (by decide)) rfl ?_
      refine k_if hf (fun hf => ?_) (fun hf => ?_)
      · refine k_gI (ok_o o_v0 (by decide)) rfl ?_
        refine k_pI hw (ok_o o_v0 (by decide)) rfl hf fun m1 hw hf => ?_
        refine k_cO (ok_o o_v0 (by decide)) ?_
        refine ob2 hf fun u m3 ex hf => ?_
        refine k_b2 (un_X3_next hw o_v0 ex) fun hw => ?_
        exact k_rZ hw hf
      · exact u_X3_numberWithin_29 hw o_v0 hf
  · refine k_cO (ok_o o_v0 (by decide)) ?_
    refine ob2 hf fun x4 m5 ex hf => ?_
    refine k_b2 (un_X3_cantStand hw o_v0 ex) fun hw => ?_
    exact k_rZ hw hf
def n_X3_numberWithin (s : List Sh) (m : Mem) (p0 : Nat) (p1 : Int32) (p2 : Int32) : Option (Int32 × Mem) := nb_X3_numberWithin_0 s m p0 p1 p2
theorem un_X3_numberWithin {s : List Sh} {m m' : Mem} {p0 : Nat} {p1 : Int32} {p2 : Int32} {r : Int32} (hw : GS s m) (o_p0 : ok s p0 3) (ex : n_X3_numberWithin s m p0 p1 p2 = some (r, m')) : J3 (m_X3_numberWithin (bl s m) p0 p1 p2) (r, bl s m') (GS s m') := u_X3_numberWithin_0 hw o_p0 ex
/-! FractionLift$Reader.topLine()Z over the memory -/
def nb_X3_topLine_27 (s : List Sh) (m : Mem) (v0 : Nat) : Option (Int32 × Mem) := bind2 (n_X3_cantStand s m v0) fun x1 m2 => (rZM x1 m2)
set_option maxRecDepth 20000 in
theorem u_X3_topLine_27 {s : List Sh} {m m' : Mem} {r : Int32} {v0 : Nat} (hw : GS s m) (o_v0 : ok s v0 3) (hf : nb_X3_topLine_27 s m v0 = some (r, m')) : J3 (b_X3_topLine_27 (bl s m) v0) (r, bl s m') (GS s m') := by
  unfold nb_X3_topLine_27 at hf
  unfold b_X3_topLine_27
  refine k_cO (ok_o o_v0 (by decide)) ?_
  refine ob2 hf fun x1 m2 ex hf => ?_
  refine k_b2 (un_X3_cantStand hw o_v0 ex) fun hw => ?_
  exact k_rZ hw hf
def nb_X3_topLine_0 (s : List Sh) (m : Mem) (v0 : Nat) : Option (Int32 × Mem) := if (m.1 v0 9) = 0 then ((m.2.2 v0 0).bind fun a1 => (if 0 < (m.1 a1 9) then (nb_X3_topLine_27 s m v0) else ((m.2.2 v0 0).bind fun a2 => (if (m.1 a2 15) ≤ 0 then (bind2 (n_X3_next s m v0) fun _ m4 => (bind2 (n_X3_numberWithin s m4 v0 (1 : Int32) (9 : Int32)) fun x5 m6 => (if x5 = 0 then (rZM (0 : Int32) m6) else ((m6.2.2 v0 0).bind fun a7 => (bindv (wI m6 a7 0 (m6.1 v0 8)) fun m8 => (rZM (1 : Int32) m8)))))) else (nb_X3_topLine_27 s m v0))))) else (nb_X3_topLine_27 s m v0)
set_option maxRecDepth 20000 in
theorem u_X3_topLine_0 {s : List Sh} {m m' : Mem} {r : Int32} {v0 : Nat} (hw : GS s m) (o_v0 : ok s v0 3) (hf : nb_X3_topLine_0 s m v0 = some (r, m')) : J3 (b_X3_topLine_0 (bl s m) v0) (r, bl s m') (GS s m') := by
  unfold nb_X3_topLine_0 at hf
  unfold b_X3_topLine_0
  refine k_gI (ok_o o_v0 (by decide)) rfl ?_
  refine k_if hf (fun hf => ?_) (fun hf => ?_)
  · refine k_gR hw (ok_o o_v0 (by decide)) rfl hf fun a1 o_a1 hf => ?_
    refine k_gI (ok_o o_a1 (by decide)) rfl ?_
    refine k_if hf (fun hf => ?_) (fun hf => ?_)
    · exact u_X3_topLine_27 hw o_v0 hf
    · refine k_gR hw (ok_o o_v0 (by decide)) rfl hf fun a2 o_a2 hf => ?_
      refine k_gI (ok_o o_a2 (by decide)) rfl ?_
      refine k_if hf (fun hf => ?_) (fun hf => ?_)
      · refine k_cO (ok_o o_v0 (by decide)) ?_
        refine ob2 hf fun u m4 ex hf => ?_
        refine k_b2 (un_X3_next hw o_v0 ex) fun hw => ?_
        refine k_cO (ok_o o_v0 (by decide)) ?_
        refine ob2 hf fun x5 m6 ex hf => ?_
        refine k_b2 (un_X3_numberWithin hw o_v0 ex) fun hw => ?_
        refine k_if hf (fun hf => ?_) (fun hf => ?_)
        · exact k_rZ hw hf
        · refine k_gR hw (ok_o o_v0 (by decide)) rfl hf fun a7 o_a7 hf => ?_
          refine k_gI (ok_o o_v0 (by decide)) rfl ?_
          refine k_pI hw (ok_o o_a7 (by decide)) rfl hf fun m8 hw hf => ?_
          exact k_rZ hw hf
      · exact u_X3_topLine_27 hw o_v0 hf
  · exact u_X3_topLine_27 hw o_v0 hf
def n_X3_topLine (s : List Sh) (m : Mem) (p0 : Nat) : Option (Int32 × Mem) := nb_X3_topLine_0 s m p0
theorem un_X3_topLine {s : List Sh} {m m' : Mem} {p0 : Nat} {r : Int32} (hw : GS s m) (o_p0 : ok s p0 3) (ex : n_X3_topLine s m p0 = some (r, m')) : J3 (m_X3_topLine (bl s m) p0) (r, bl s m') (GS s m') := u_X3_topLine_0 hw o_p0 ex
/-! FractionLift$Reader.pushSign(I)V over the memory -/
def nb_X3_pushSign_0 (s : List Sh) (m : Mem) (v0 : Nat) (v1 : Int32) : Option (Unit × Mem) := if (64 : Int32) ≤ (m.1 v0 12) then (some ((), m)) else ((m.2.2 v0 11).bind fun a1 => ((stI s m a1 (m.1 v0 12) v1).bind fun m2 => (bindv (wI m2 v0 12 (((m2.1 v0 12) + (1 : Int32)))) fun m3 => (some ((), m3)))))
set_option maxRecDepth 20000 in
theorem u_X3_pushSign_0 {s : List Sh} {m m' : Mem} {r : Unit} {v0 : Nat} {v1 : Int32} (hw : GS s m) (o_v0 : ok s v0 3) (hf : nb_X3_pushSign_0 s m v0 v1 = some (r, m')) : J3 (b_X3_pushSign_0 (bl s m) v0 v1) (r, bl s m') (GS s m') := by
  unfold nb_X3_pushSign_0 at hf
  unfold b_X3_pushSign_0
  refine k_gI (ok_o o_v0 (by decide)) rfl ?_
  refine k_if hf (fun hf => ?_) (fun hf => ?_)
  · exact k_ret hw hf
  · refine k_gR hw (ok_o o_v0 (by decide)) rfl hf fun a1 o_a1 hf => ?_
    refine k_gI (ok_o o_v0 (by decide)) rfl ?_
    refine k_sI hw (ka rfl o_a1) hf fun m2 hw hf => ?_
    refine k_gI (ok_o o_v0 (by decide)) rfl ?_
    refine k_pI hw (ok_o o_v0 (by decide)) rfl hf fun m3 hw hf => ?_
    exact k_ret hw hf
def n_X3_pushSign (s : List Sh) (m : Mem) (p0 : Nat) (p1 : Int32) : Option (Unit × Mem) := nb_X3_pushSign_0 s m p0 p1
theorem un_X3_pushSign {s : List Sh} {m m' : Mem} {p0 : Nat} {p1 : Int32} {r : Unit} (hw : GS s m) (o_p0 : ok s p0 3) (ex : n_X3_pushSign s m p0 p1 = some (r, m')) : J3 (m_X3_pushSign (bl s m) p0 p1) (r, bl s m') (GS s m') := u_X3_pushSign_0 hw o_p0 ex
/-! FractionLift$Reader.emit(I)V over the memory -/
def nb_X3_emit_0 (s : List Sh) (m : Mem) (v0 : Nat) (v1 : Int32) : Option (Unit × Mem) := (m.2.2 v0 0).bind fun a1 => ((m.2.2 a1 8).bind fun a2 => (if ((Int32.ofNat (ln s a2))) ≤ (m.1 v0 10) then (some ((), m)) else ((m.2.2 v0 0).bind fun a3 => ((m.2.2 a3 8).bind fun a4 => ((stI s m a4 (m.1 v0 10) v1).bind fun m5 => (bindv (wI m5 v0 10 (((m5.1 v0 10) + (1 : Int32)))) fun m6 => (some ((), m6))))))))
set_option maxRecDepth 20000 in
theorem u_X3_emit_0 {s : List Sh} {m m' : Mem} {r : Unit} {v0 : Nat} {v1 : Int32} (hw : GS s m) (o_v0 : ok s v0 3) (hf : nb_X3_emit_0 s m v0 v1 = some (r, m')) : J3 (b_X3_emit_0 (bl s m) v0 v1) (r, bl s m') (GS s m') := by
  unfold nb_X3_emit_0 at hf
  unfold b_X3_emit_0
  refine k_gI (ok_o o_v0 (by decide)) rfl ?_
  refine k_gR hw (ok_o o_v0 (by decide)) rfl hf fun a1 o_a1 hf => ?_
  refine k_gR hw (ok_o o_a1 (by decide)) rfl hf fun a2 o_a2 hf => ?_
  refine k_len (t := 0) (by decide) (ka rfl o_a2) ?_
  refine k_if hf (fun hf => ?_) (fun hf => ?_)
  · exact k_ret hw hf
  · refine k_gR hw (ok_o o_v0 (by decide)) rfl hf fun a3 o_a3 hf => ?_
    refine k_gR hw (ok_o o_a3 (by decide)) rfl hf fun a4 o_a4 hf => ?_
    refine k_gI (ok_o o_v0 (by decide)) rfl ?_
    refine k_sI hw (ka rfl o_a4) hf fun m5 hw hf => ?_
    refine k_gI (ok_o o_v0 (by decide)) rfl ?_
    refine k_pI hw (ok_o o_v0 (by decide)) rfl hf fun m6 hw hf => ?_
    exact k_ret hw hf
def n_X3_emit (s : List Sh) (m : Mem) (p0 : Nat) (p1 : Int32) : Option (Unit × Mem) := nb_X3_emit_0 s m p0 p1
theorem un_X3_emit {s : List Sh} {m m' : Mem} {p0 : Nat} {p1 : Int32} {r : Unit} (hw : GS s m) (o_p0 : ok s p0 3) (ex : n_X3_emit s m p0 p1 = some (r, m')) : J3 (m_X3_emit (bl s m) p0 p1) (r, bl s m') (GS s m') := u_X3_emit_0 hw o_p0 ex
/-! FractionLift$Reader.atom()Z over the memory -/
def nb_X3_atom_0 (s : List Sh) (m : Mem) (v0 : Nat) : Option (Int32 × Mem) := if (m.1 v0 5) = (2 : Int32) then (bind2 (n_X3_emit s m v0 (m.1 v0 7)) fun _ m2 => (rZM (1 : Int32) m2)) else (if (m.1 v0 5) = (4 : Int32) then (bind2 (n_X3_emit s m v0 (-2 : Int32)) fun _ m4 => (rZM (1 : Int32) m4)) else (if (m.1 v0 5) = (11 : Int32) then (bind2 (n_X3_emit s m v0 (-1 : Int32)) fun _ m6 => (rZM (1 : Int32) m6)) else (rZM (0 : Int32) m)))
set_option maxRecDepth 20000 in
theorem u_X3_atom_0 {s : List Sh} {m m' : Mem} {r : Int32} {v0 : Nat} (hw : GS s m) (o_v0 : ok s v0 3) (hf : nb_X3_atom_0 s m v0 = some (r, m')) : J3 (b_X3_atom_0 (bl s m) v0) (r, bl s m') (GS s m') := by
  unfold nb_X3_atom_0 at hf
  unfold b_X3_atom_0
  refine k_gI (ok_o o_v0 (by decide)) rfl ?_
  refine k_if hf (fun hf => ?_) (fun hf => ?_)
  · refine k_gI (ok_o o_v0 (by decide)) rfl ?_
    refine k_cO (ok_o o_v0 (by decide)) ?_
    refine ob2 hf fun u m2 ex hf => ?_
    refine k_b2 (un_X3_emit hw o_v0 ex) fun hw => ?_
    exact k_rZ hw hf
  refine k_if hf (fun hf => ?_) (fun hf => ?_)
  · refine k_cO (ok_o o_v0 (by decide)) ?_
    refine ob2 hf fun u m4 ex hf => ?_
    refine k_b2 (un_X3_emit hw o_v0 ex) fun hw => ?_
    exact k_rZ hw hf
  refine k_if hf (fun hf => ?_) (fun hf => ?_)
  · refine k_cO (ok_o o_v0 (by decide)) ?_
    refine ob2 hf fun u m6 ex hf => ?_
    refine k_b2 (un_X3_emit hw o_v0 ex) fun hw => ?_
    exact k_rZ hw hf
  exact k_rZ hw hf
def n_X3_atom (s : List Sh) (m : Mem) (p0 : Nat) : Option (Int32 × Mem) := nb_X3_atom_0 s m p0
theorem un_X3_atom {s : List Sh} {m m' : Mem} {p0 : Nat} {r : Int32} (hw : GS s m) (o_p0 : ok s p0 3) (ex : n_X3_atom s m p0 = some (r, m')) : J3 (m_X3_atom (bl s m) p0) (r, bl s m') (GS s m') := u_X3_atom_0 hw o_p0 ex
/-! FractionLift$Reader.popSigns(I)V over the memory -/
def nb_X3_popSigns_7 (F : Nat) (s : List Sh) (nself5 : Mem → Nat → Int32 → Int32 → Option (Unit × Mem)) (m : Mem) (v0 : Nat) (v1 : Int32) (v2 : Int32) : Option (Unit × Mem) := if v2 < 0 then (some ((), m)) else (if (64 : Int32) ≤ v2 then (some ((), m)) else ((m.2.2 v0 11).bind fun a1 => ((rdI s m a1 v2).bind fun x2 => ((m_X3_strength x2).bind fun x3 => (if x3 < v1 then (some ((), m)) else ((m.2.2 v0 11).bind fun a4 => ((rdI s m a4 v2).bind fun x5 => (bind2 (n_X3_emit s m v0 x5) fun _ m7 => (bindv (wI m7 v0 12 v2) fun m8 => (bindv (v2 + (-1)) fun x9 => (nself5 m8 v0 v1 x9)))))))))))
set_option maxRecDepth 20000 in
theorem ub_X3_popSigns_7 {F : Nat} {s : List Sh} {self5 : PH → Nat → Int32 → Int32 → Option (Unit × PH)} {nself5 : Mem → Nat → Int32 → Int32 → Option (Unit × Mem)} {m m' : Mem} {r : Unit} {v0 : Nat} {v1 : Int32} {v2 : Int32} (hw : GS s m) (o_v0 : ok s v0 3) (ih5 : ∀ (m : Mem) (v0 : Nat) (v1 : Int32) (v2 : Int32), GS s m → ok s v0 3 → nself5 m v0 v1 v2 = some (r, m') → J3 (self5 (bl s m) v0 v1 v2) (r, bl s m') (GS s m')) (hf : nb_X3_popSigns_7 F s nself5 m v0 v1 v2 = some (r, m')) : J3 (b_X3_popSigns_7 F self5 (bl s m) v0 v1 v2) (r, bl s m') (GS s m') := by
  unfold nb_X3_popSigns_7 at hf
  unfold b_X3_popSigns_7
  refine k_if hf (fun hf => ?_) (fun hf => ?_)
  · exact k_ret hw hf
  · refine k_if hf (fun hf => ?_) (fun hf => ?_)
    · exact k_ret hw hf
    · refine k_gR hw (ok_o o_v0 (by decide)) rfl hf fun a1 o_a1 hf => ?_
      refine k_aI (Or.inl rfl) (ka rfl o_a1) hf fun x2 hf => ?_
      refine k_pure hf fun x3 hf => ?_
      refine k_if hf (fun hf => ?_) (fun hf => ?_)
      · exact k_ret hw hf
      · refine k_gR hw (ok_o o_v0 (by decide)) rfl hf fun a4 o_a4 hf => ?_
        refine k_aI (Or.inl rfl) (ka rfl o_a4) hf fun x5 hf => ?_
        refine k_cO (ok_o o_v0 (by decide)) ?_
        refine ob2 hf fun u m7 ex hf => ?_
        refine k_b2 (un_X3_emit hw o_v0 ex) fun hw => ?_
        refine k_pI hw (ok_o o_v0 (by decide)) rfl hf fun m8 hw hf => ?_
        refine k_bv hf fun x9 hf => ?_
        exact ih5 _ _ _ _ hw o_v0 hf
def nl_X3_popSigns_7 (F : Nat) (s : List Sh) : Nat → Mem → Nat → Int32 → Int32 → Option (Unit × Mem)
  | 0 => fun _ _ _ _ => none
  | n + 1 => fun m v0 v1 v2 => nb_X3_popSigns_7 F s (nl_X3_popSigns_7 F s n) m v0 v1 v2
theorem ul_X3_popSigns_7 {F : Nat} {s : List Sh} {m' : Mem} {r : Unit} (n : Nat) : ∀ (m : Mem) (v0 : Nat) (v1 : Int32) (v2 : Int32), GS s m → ok s v0 3 → nl_X3_popSigns_7 F s n m v0 v1 v2 = some (r, m') → J3 (l_X3_popSigns_7 F n (bl s m) v0 v1 v2) (r, bl s m') (GS s m') := by
  induction n with
  | zero => intro m v0 v1 v2 hw o_v0 hf; cases hf
  | succ n ih => intro m v0 v1 v2 hw o_v0 hf; exact ub_X3_popSigns_7 (F := F) hw o_v0 ih hf
def nb_X3_popSigns_0 (F : Nat) (s : List Sh) (m : Mem) (v0 : Nat) (v1 : Int32) : Option (Unit × Mem) := bindv (((m.1 v0 12) - (1 : Int32))) fun x1 => (nl_X3_popSigns_7 F s F m v0 v1 x1)
set_option maxRecDepth 20000 in
theorem u_X3_popSigns_0 {F : Nat} {s : List Sh} {m m' : Mem} {r : Unit} {v0 : Nat} {v1 : Int32} (hw : GS s m) (o_v0 : ok s v0 3) (hf : nb_X3_popSigns_0 F s m v0 v1 = some (r, m')) : J3 (b_X3_popSigns_0 F (bl s m) v0 v1) (r, bl s m') (GS s m') := by
  unfold nb_X3_popSigns_0 at hf
  unfold b_X3_popSigns_0
  refine k_gI (ok_o o_v0 (by decide)) rfl ?_
  refine k_bv hf fun x1 hf => ?_
  exact ul_X3_popSigns_7 F _ _ _ _ hw o_v0 hf
def n_X3_popSigns (F : Nat) (s : List Sh) (m : Mem) (p0 : Nat) (p1 : Int32) : Option (Unit × Mem) := nb_X3_popSigns_0 F s m p0 p1
theorem un_X3_popSigns {F : Nat} {s : List Sh} {m m' : Mem} {p0 : Nat} {p1 : Int32} {r : Unit} (hw : GS s m) (o_p0 : ok s p0 3) (ex : n_X3_popSigns F s m p0 p1 = some (r, m')) : J3 (m_X3_popSigns F (bl s m) p0 p1) (r, bl s m') (GS s m') := u_X3_popSigns_0 hw o_p0 ex
/-! FractionLift$Reader.dropSign()V over the memory -/
def nb_X3_dropSign_0 (s : List Sh) (m : Mem) (v0 : Nat) : Option (Unit × Mem) := if (m.1 v0 12) ≤ 0 then (some ((), m)) else (bindv (wI m v0 12 (((m.1 v0 12) - (1 : Int32)))) fun m1 => (some ((), m1)))
set_option maxRecDepth 20000 in
theorem u_X3_dropSign_0 {s : List Sh} {m m' : Mem} {r : Unit} {v0 : Nat} (hw : GS s m) (o_v0 : ok s v0 3) (hf : nb_X3_dropSign_0 s m v0 = some (r, m')) : J3 (b_X3_dropSign_0 (bl s m) v0) (r, bl s m') (GS s m') := by
  unfold nb_X3_dropSign_0 at hf
  unfold b_X3_dropSign_0
  refine k_gI (ok_o o_v0 (by decide)) rfl ?_
  refine k_if hf (fun hf => ?_) (fun hf => ?_)
  · exact k_ret hw hf
  · refine k_gI (ok_o o_v0 (by decide)) rfl ?_
    refine k_pI hw (ok_o o_v0 (by decide)) rfl hf fun m1 hw hf => ?_
    exact k_ret hw hf
def n_X3_dropSign (s : List Sh) (m : Mem) (p0 : Nat) : Option (Unit × Mem) := nb_X3_dropSign_0 s m p0
theorem un_X3_dropSign {s : List Sh} {m m' : Mem} {p0 : Nat} {r : Unit} (hw : GS s m) (o_p0 : ok s p0 3) (ex : n_X3_dropSign s m p0 = some (r, m')) : J3 (m_X3_dropSign (bl s m) p0) (r, bl s m') (GS s m') := u_X3_dropSign_0 hw o_p0 ex
/-! FractionLift$Reader.signCode()I over the memory -/
def nb_X3_signCode_0 (s : List Sh) (m : Mem) (v0 : Nat) : Option Int32 := swN (m.1 v0 5) (42) [some (-5 : Int32), some (-3 : Int32), some (0 : Int32), some (-4 : Int32), some (0 : Int32), some (-6 : Int32)] (some (0 : Int32))
set_option maxRecDepth 20000 in
theorem u_X3_signCode_0 {s : List Sh} {m : Mem} {r : Int32} {v0 : Nat} (hw : GS s m) (o_v0 : ok s v0 3) (hf : nb_X3_signCode_0 s m v0 = some r) : J3 (b_X3_signCode_0 (bl s m) v0) r True := by
  unfold nb_X3_signCode_0 at hf
  unfold b_X3_signCode_0
  refine k_gI (ok_o o_v0 (by decide)) rfl ?_
  refine k_sw hf rfl (fun i hi hf => ?_) (fun hf => ?_)
  · rcases (show i = 0 ∨ i = 1 ∨ i = 2 ∨ i = 3 ∨ i = 4 ∨ i = 5 by simp only [List.length_cons, List.length_nil] at hi; omega) with rfl | rfl | rfl | rfl | rfl | rfl
    · have hf := gd_at hf rfl
      refine gd_goal rfl ?_
      exact k_retP hf
    · have hf := gd_at hf rfl
      refine gd_goal rfl ?_
      exact k_retP hf
    · have hf := gd_at hf rfl
      refine gd_goal rfl ?_
      exact k_retP hf
    · have hf := gd_at hf rfl
      refine gd_goal rfl ?_
      exact k_retP hf
    · have hf := gd_at hf rfl
      refine gd_goal rfl ?_
      exact k_retP hf
    · have hf := gd_at hf rfl
      refine gd_goal rfl ?_
      exact k_retP hf
  · exact k_retP hf
def n_X3_signCode (s : List Sh) (m : Mem) (p0 : Nat) : Option Int32 := nb_X3_signCode_0 s m p0
theorem un_X3_signCode {s : List Sh} {m : Mem} {p0 : Nat} {r : Int32} (hw : GS s m) (o_p0 : ok s p0 3) (ex : n_X3_signCode s m p0 = some r) : J3 (m_X3_signCode (bl s m) p0) r True := u_X3_signCode_0 hw o_p0 ex
/-! FractionLift$Reader.sumToEnd()Z over the memory -/
def nb_X3_sumToEnd_164 (F : Nat) (s : List Sh) (nself9 : Mem → Nat → Int32 → Int32 → Int32 → Option (Int32 × Mem)) (m : Mem) (v0 : Nat) (v1 : Int32) (v2 : Int32) (v3 : Int32) : Option (Int32 × Mem) := bind2 (n_X3_next s m v0) fun _ m2 => (bindv (v3 + (1)) fun x3 => (nself9 m2 v0 v1 v2 x3))
set_option maxRecDepth 20000 in
theorem u_X3_sumToEnd_164 {F : Nat} {s : List Sh} {self9 : PH → Nat → Int32 → Int32 → Int32 → Option (Int32 × PH)} {nself9 : Mem → Nat → Int32 → Int32 → Int32 → Option (Int32 × Mem)} {m m' : Mem} {r : Int32} {v0 : Nat} {v1 : Int32} {v2 : Int32} {v3 : Int32} (hw : GS s m) (o_v0 : ok s v0 3) (ih9 : ∀ (m : Mem) (v0 : Nat) (v1 : Int32) (v2 : Int32) (v3 : Int32), GS s m → ok s v0 3 → nself9 m v0 v1 v2 v3 = some (r, m') → J3 (self9 (bl s m) v0 v1 v2 v3) (r, bl s m') (GS s m')) (hf : nb_X3_sumToEnd_164 F s nself9 m v0 v1 v2 v3 = some (r, m')) : J3 (b_X3_sumToEnd_164 F self9 (bl s m) v0 v1 v2 v3) (r, bl s m') (GS s m') := by
  unfold nb_X3_sumToEnd_164 at hf
  unfold b_X3_sumToEnd_164
  refine k_cO (ok_o o_v0 (by decide)) ?_
  refine ob2 hf fun u m2 ex hf => ?_
  refine k_b2 (un_X3_next hw o_v0 ex) fun hw => ?_
  refine k_bv hf fun x3 hf => ?_
  exact ih9 _ _ _ _ _ hw o_v0 hf
def nb_X3_sumToEnd_128 (F : Nat) (s : List Sh) (nself9 : Mem → Nat → Int32 → Int32 → Int32 → Option (Int32 × Mem)) (m : Mem) (v0 : Nat) (v1 : Int32) (v3 : Int32) : Option (Int32 × Mem) := (n_X3_signCode s m v0).bind fun x1 => (if x1 = 0 then (bind2 (n_X3_cantStand s m v0) fun x2 m3 => (rZM x2 m3)) else ((n_X3_signCode s m v0).bind fun x4 => ((m_X3_strength x4).bind fun x5 => (bind2 (n_X3_popSigns F s m v0 x5) fun _ m7 => ((n_X3_signCode s m7 v0).bind fun x8 => (bind2 (n_X3_pushSign s m7 v0 x8) fun _ m10 => (nb_X3_sumToEnd_164 F s nself9 m10 v0 v1 (1 : Int32) v3)))))))
set_option maxRecDepth 20000 in
theorem u_X3_sumToEnd_128 {F : Nat} {s : List Sh} {self9 : PH → Nat → Int32 → Int32 → Int32 → Option (Int32 × PH)} {nself9 : Mem → Nat → Int32 → Int32 → Int32 → Option (Int32 × Mem)} {m m' : Mem} {r : Int32} {v0 : Nat} {v1 : Int32} {v3 : Int32} (hw : GS s m) (o_v0 : ok s v0 3) (ih9 : ∀ (m : Mem) (v0 : Nat) (v1 : Int32) (v2 : Int32) (v3 : Int32), GS s m → ok s v0 3 → nself9 m v0 v1 v2 v3 = some (r, m') → J3 (self9 (bl s m) v0 v1 v2 v3) (r, bl s m') (GS s m')) (hf : nb_X3_sumToEnd_128 F s nself9 m v0 v1 v3 = some (r, m')) : J3 (b_X3_sumToEnd_128 F self9 (bl s m) v0 v1 v3) (r, bl s m') (GS s m') := by
  unfold nb_X3_sumToEnd_128 at hf
  unfold b_X3_sumToEnd_128
  refine k_cO (ok_o o_v0 (by decide)) ?_
  refine ob hf fun x1 ex hf => ?_
  refine k_b1 (un_X3_signCode hw o_v0 ex) ?_
  refine k_if hf (fun hf => ?_) (fun hf => ?_)
  · refine k_cO (ok_o o_v0 (by decide)) ?_
    refine ob2 hf fun x2 m3 ex hf => ?_
    refine k_b2 (un_X3_cantStand hw o_v0 ex) fun hw => ?_
    exact k_rZ hw hf
  · refine k_cO (ok_o o_v0 (by decide)) ?_
    refine ob hf fun x4 ex hf => ?_
    refine k_b1 (un_X3_signCode hw o_v0 ex) ?_
    refine k_pure hf fun x5 hf => ?_
    refine k_cO (ok_o o_v0 (by decide)) ?_
    refine ob2 hf fun u m7 ex hf => ?_
    refine k_b2 (un_X3_popSigns hw o_v0 ex) fun hw => ?_
    refine k_cO (ok_o o_v0 (by decide)) ?_
    refine ob hf fun x8 ex hf => ?_
    refine k_b1 (un_X3_signCode hw o_v0 ex) ?_
    refine k_cO (ok_o o_v0 (by decide)) ?_
    refine ob2 hf fun u m10 ex hf => ?_
    refine k_b2 (un_X3_pushSign hw o_v0 ex) fun hw => ?_
    exact u_X3_sumToEnd_164 hw o_v0 ih9 hf
def nb_X3_sumToEnd_108 (F : Nat) (s : List Sh) (nself9 : Mem → Nat → Int32 → Int32 → Int32 → Option (Int32 × Mem)) (m : Mem) (v0 : Nat) (v1 : Int32) (v3 : Int32) : Option (Int32 × Mem) := if (m.1 v0 5) = (59 : Int32) then (if v1 = 0 then (bind2 (n_X3_popSigns F s m v0 (0 : Int32)) fun _ m2 => (rZM (1 : Int32) m2)) else (nb_X3_sumToEnd_128 F s nself9 m v0 v1 v3)) else (nb_X3_sumToEnd_128 F s nself9 m v0 v1 v3)
set_option maxRecDepth 20000 in
theorem u_X3_sumToEnd_108 {F : Nat} {s : List Sh} {self9 : PH → Nat → Int32 → Int32 → Int32 → Option (Int32 × PH)} {nself9 : Mem → Nat → Int32 → Int32 → Int32 → Option (Int32 × Mem)} {m m' : Mem} {r : Int32} {v0 : Nat} {v1 : Int32} {v3 : Int32} (hw : GS s m) (o_v0 : ok s v0 3) (ih9 : ∀ (m : Mem) (v0 : Nat) (v1 : Int32) (v2 : Int32) (v3 : Int32), GS s m → ok s v0 3 → nself9 m v0 v1 v2 v3 = some (r, m') → J3 (self9 (bl s m) v0 v1 v2 v3) (r, bl s m') (GS s m')) (hf : nb_X3_sumToEnd_108 F s nself9 m v0 v1 v3 = some (r, m')) : J3 (b_X3_sumToEnd_108 F self9 (bl s m) v0 v1 v3) (r, bl s m') (GS s m') := by
  unfold nb_X3_sumToEnd_108 at hf
  unfold b_X3_sumToEnd_108
  refine k_gI (ok_o o_v0 (by decide)) rfl ?_
  refine k_if hf (fun hf => ?_) (fun hf => ?_)
  · refine k_if hf (fun hf => ?_) (fun hf => ?_)
    · refine k_cO (ok_o o_v0 (by decide)) ?_
      refine ob2 hf fun u m2 ex hf => ?_
      refine k_b2 (un_X3_popSigns hw o_v0 ex) fun hw => ?_
      exact k_rZ hw hf
    · exact u_X3_sumToEnd_128 hw o_v0 ih9 hf
  · exact u_X3_sumToEnd_128 hw o_v0 ih9 hf
def nb_X3_sumToEnd_59 (F : Nat) (s : List Sh) (nself9 : Mem → Nat → Int32 → Int32 → Int32 → Option (Int32 × Mem)) (m : Mem) (v0 : Nat) (v1 : Int32) (v2 : Int32) (v3 : Int32) : Option (Int32 × Mem) := if v2 = 0 then (if (m.1 v0 5) = (41 : Int32) then (if v1 ≤ 0 then (nb_X3_sumToEnd_108 F s nself9 m v0 v1 v3) else (bindv (v1 + (-1)) fun x1 => (bind2 (n_X3_popSigns F s m v0 (0 : Int32)) fun _ m3 => (bind2 (n_X3_dropSign s m3 v0) fun _ m5 => (nb_X3_sumToEnd_164 F s nself9 m5 v0 x1 v2 v3))))) else (nb_X3_sumToEnd_108 F s nself9 m v0 v1 v3)) else (bind2 (n_X3_atom s m v0) fun x6 m7 => (if x6 = 0 then (bind2 (n_X3_cantStand s m7 v0) fun x8 m9 => (rZM x8 m9)) else (nb_X3_sumToEnd_164 F s nself9 m7 v0 v1 (0 : Int32) v3)))
set_option maxRecDepth 20000 in
theorem u_X3_sumToEnd_59 {F : Nat} {s : List Sh} {self9 : PH → Nat → Int32 → Int32 → Int32 → Option (Int32 × PH)} {nself9 : Mem → Nat → Int32 → Int32 → Int32 → Option (Int32 × Mem)} {m m' : Mem} {r : Int32} {v0 : Nat} {v1 : Int32} {v2 : Int32} {v3 : Int32} (hw : GS s m) (o_v0 : ok s v0 3) (ih9 : ∀ (m : Mem) (v0 : Nat) (v1 : Int32) (v2 : Int32) (v3 : Int32), GS s m → ok s v0 3 → nself9 m v0 v1 v2 v3 = some (r, m') → J3 (self9 (bl s m) v0 v1 v2 v3) (r, bl s m') (GS s m')) (hf : nb_X3_sumToEnd_59 F s nself9 m v0 v1 v2 v3 = some (r, m')) : J3 (b_X3_sumToEnd_59 F self9 (bl s m) v0 v1 v2 v3) (r, bl s m') (GS s m') := by
  unfold nb_X3_sumToEnd_59 at hf
  unfold b_X3_sumToEnd_59
  refine k_if hf (fun hf => ?_) (fun hf => ?_)
  · refine k_gI (ok_o o_v0 (by decide)) rfl ?_
    refine k_if hf (fun hf => ?_) (fun hf => ?_)
    · refine k_if hf (fun hf => ?_) (fun hf => ?_)
      · exact u_X3_sumToEnd_108 hw o_v0 ih9 hf
      · refine k_bv hf fun x1 hf => ?_
        refine k_cO (ok_o o_v0 (by decide)) ?_
        refine ob2 hf fun u m3 ex hf => ?_
        refine k_b2 (un_X3_popSigns hw o_v0 ex) fun hw => ?_
        refine k_cO (ok_o o_v0 (by decide)) ?_
        refine ob2 hf fun u m5 ex hf => ?_
        refine k_b2 (un_X3_dropSign hw o_v0 ex) fun hw => ?_
        exact u_X3_sumToEnd_164 hw o_v0 ih9 hf
    · exact u_X3_sumToEnd_108 hw o_v0 ih9 hf
  · refine k_cO (ok_o o_v0 (by decide)) ?_
    refine ob2 hf fun x6 m7 ex hf => ?_
    refine k_b2 (un_X3_atom hw o_v0 ex) fun hw => ?_
    refine k_if hf (fun hf => ?_) (fun hf => ?_)
    · refine k_cO (ok_o o_v0 (by decide)) ?_
      refine ob2 hf fun x8 m9 ex hf => ?_
      refine k_b2 (un_X3_cantStand hw o_v0 ex) fun hw => ?_
      exact k_rZ hw hf
    · exact u_X3_sumToEnd_164 hw o_v0 ih9 hf
def nb_X3_sumToEnd_11 (F : Nat) (s : List Sh) (nself9 : Mem → Nat → Int32 → Int32 → Int32 → Option (Int32 × Mem)) (m : Mem) (v0 : Nat) (v1 : Int32) (v2 : Int32) (v3 : Int32) : Option (Int32 × Mem) := (m.2.2 v0 3).bind fun a1 => (if (m.1 a1 0) ≤ v3 then (bind2 (n_X3_cantStand s m v0) fun x2 m3 => (rZM x2 m3)) else (if v2 = 0 then (nb_X3_sumToEnd_59 F s nself9 m v0 v1 v2 v3) else (if (m.1 v0 5) = (40 : Int32) then (if v1 < (6 : Int32) then (bindv (v1 + (1)) fun x4 => (bind2 (n_X3_pushSign s m v0 (-7 : Int32)) fun _ m6 => (nb_X3_sumToEnd_164 F s nself9 m6 v0 x4 v2 v3))) else (bind2 (n_X3_failed s m v0 (4 : Int32)) fun x7 m8 => (rZM x7 m8))) else (nb_X3_sumToEnd_59 F s nself9 m v0 v1 v2 v3))))
set_option maxRecDepth 20000 in
theorem ub_X3_sumToEnd_11 {F : Nat} {s : List Sh} {self9 : PH → Nat → Int32 → Int32 → Int32 → Option (Int32 × PH)} {nself9 : Mem → Nat → Int32 → Int32 → Int32 → Option (Int32 × Mem)} {m m' : Mem} {r : Int32} {v0 : Nat} {v1 : Int32} {v2 : Int32} {v3 : Int32} (hw : GS s m) (o_v0 : ok s v0 3) (ih9 : ∀ (m : Mem) (v0 : Nat) (v1 : Int32) (v2 : Int32) (v3 : Int32), GS s m → ok s v0 3 → nself9 m v0 v1 v2 v3 = some (r, m') → J3 (self9 (bl s m) v0 v1 v2 v3) (r, bl s m') (GS s m')) (hf : nb_X3_sumToEnd_11 F s nself9 m v0 v1 v2 v3 = some (r, m')) : J3 (b_X3_sumToEnd_11 F self9 (bl s m) v0 v1 v2 v3) (r, bl s m') (GS s m') := by
  unfold nb_X3_sumToEnd_11 at hf
  unfold b_X3_sumToEnd_11
  refine k_gR hw (ok_o o_v0 (by decide)) rfl hf fun a1 o_a1 hf => ?_
  refine k_gI (ok_o o_a1 (by decide)) rfl ?_
  refine k_if hf (fun hf => ?_) (fun hf => ?_)
  · refine k_cO (ok_o o_v0 (by decide)) ?_
    refine ob2 hf fun x2 m3 ex hf => ?_
    refine k_b2 (un_X3_cantStand hw o_v0 ex) fun hw => ?_
    exact k_rZ hw hf
  · refine k_if hf (fun hf => ?_) (fun hf => ?_)
    · exact u_X3_sumToEnd_59 hw o_v0 ih9 hf
    · refine k_gI (ok_o o_v0 (by decide)) rfl ?_
      refine k_if hf (fun hf => ?_) (fun hf => ?_)
      · refine k_if hf (fun hf => ?_) (fun hf => ?_)
        · refine k_bv hf fun x4 hf => ?_
          refine k_cO (ok_o o_v0 (by decide)) ?_
          refine ob2 hf fun u m6 ex hf => ?_
          refine k_b2 (un_X3_pushSign hw o_v0 ex) fun hw => ?_
          exact u_X3_sumToEnd_164 hw o_v0 ih9 hf
        · refine k_cO (ok_o o_v0 (by decide)) ?_
          refine ob2 hf fun x7 m8 ex hf => ?_
          refine k_b2 (un_X3_failed hw o_v0 ex) fun hw => ?_
          exact k_rZ hw hf
      · exact u_X3_sumToEnd_59 hw o_v0 ih9 hf
def nl_X3_sumToEnd_11 (F : Nat) (s : List Sh) : Nat → Mem → Nat → Int32 → Int32 → Int32 → Option (Int32 × Mem)
  | 0 => fun _ _ _ _ _ => none
  | n + 1 => fun m v0 v1 v2 v3 => nb_X3_sumToEnd_11 F s (nl_X3_sumToEnd_11 F s n) m v0 v1 v2 v3
theorem ul_X3_sumToEnd_11 {F : Nat} {s : List Sh} {m' : Mem} {r : Int32} (n : Nat) : ∀ (m : Mem) (v0 : Nat) (v1 : Int32) (v2 : Int32) (v3 : Int32), GS s m → ok s v0 3 → nl_X3_sumToEnd_11 F s n m v0 v1 v2 v3 = some (r, m') → J3 (l_X3_sumToEnd_11 F n (bl s m) v0 v1 v2 v3) (r, bl s m') (GS s m') := by
  induction n with
  | zero => intro m v0 v1 v2 v3 hw o_v0 hf; cases hf
  | succ n ih => intro m v0 v1 v2 v3 hw o_v0 hf; exact ub_X3_sumToEnd_11 (F := F) hw o_v0 ih hf
def nb_X3_sumToEnd_0 (F : Nat) (s : List Sh) (m : Mem) (v0 : Nat) : Option (Int32 × Mem) := bindv (wI m v0 12 (0 : Int32)) fun m1 => (nl_X3_sumToEnd_11 F s F m1 v0 (0 : Int32) (1 : Int32) (0 : Int32))
set_option maxRecDepth 20000 in
theorem u_X3_sumToEnd_0 {F : Nat} {s : List Sh} {m m' : Mem} {r : Int32} {v0 : Nat} (hw : GS s m) (o_v0 : ok s v0 3) (hf : nb_X3_sumToEnd_0 F s m v0 = some (r, m')) : J3 (b_X3_sumToEnd_0 F (bl s m) v0) (r, bl s m') (GS s m') := by
  unfold nb_X3_sumToEnd_0 at hf
  unfold b_X3_sumToEnd_0
  refine k_pI hw (ok_o o_v0 (by decide)) rfl hf fun m1 hw hf => ?_
  exact ul_X3_sumToEnd_11 F _ _ _ _ _ hw o_v0 hf
def n_X3_sumToEnd (F : Nat) (s : List Sh) (m : Mem) (p0 : Nat) : Option (Int32 × Mem) := nb_X3_sumToEnd_0 F s m p0
theorem un_X3_sumToEnd {F : Nat} {s : List Sh} {m m' : Mem} {p0 : Nat} {r : Int32} (hw : GS s m) (o_p0 : ok s p0 3) (ex : n_X3_sumToEnd F s m p0 = some (r, m')) : J3 (m_X3_sumToEnd F (bl s m) p0) (r, bl s m') (GS s m') := u_X3_sumToEnd_0 hw o_p0 ex
