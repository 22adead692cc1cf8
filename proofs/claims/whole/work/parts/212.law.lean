def lL_law_1517L : List (Nat × Instr × Nat × Nat) := [(1517, .aload_n 1, 1, 1518), (1518, .aload_n 0, 1, 1519), (1519, .iload_n 3, 1, 1520), (1520, .iconst 1, 1, 1521), (1521, .iadd, 1, 1522), (1522, .iaload, 1, 1523), (1523, .aload_n 0, 1, 1524), (1524, .iload_n 3, 1, 1525), (1525, .iconst 2, 1, 1526), (1526, .iadd, 1, 1527), (1527, .iaload, 1, 1528), (1528, .invokevirtual 164, 3, 1531), (1531, .aload_n 2, 1, 1532), (1532, .aload_n 0, 1, 1533), (1533, .iload_n 3, 1, 1534), (1534, .iconst 1, 1, 1535), (1535, .iadd, 1, 1536), (1536, .iaload, 1, 1537), (1537, .aload_n 0, 1, 1538), (1538, .iload_n 3, 1, 1539), (1539, .iconst 2, 1, 1540), (1540, .iadd, 1, 1541), (1541, .iaload, 1, 1542), (1542, .invokevirtual 167, 3, 1545), (1545, .lcmp, 1, 1546), (1546, .ifCond .eq 360, 3, 1549), (1549, .iconst 0, 1, 1550), (1550, .ireturn, 1, 1551)]
set_option maxRecDepth 20000 in
theorem dL_law_1517 : dcL cL_law lL_law_1517L = true := by decide +kernel
def b_law_1517 (F : Nat) (xs : Nat → Int32) (Ls : Nat) (self : Nat × Nat → PH → Nat → Nat → Int32 → Option Int32) (cs : Nat × Nat) (h : PH) (v1 : Nat) (v2 : Nat) (v3 : Int32) : Option Int32 := (scr xs Ls ((v3 + (1 : Int32)))).bind fun x1 => ((scr xs Ls ((v3 + (2 : Int32)))).bind fun x2 => (cO 9 h v1 (bind2 (m_X9_fairest F h v1 x1 x2) fun x3 h4 => ((scr xs Ls ((v3 + (1 : Int32)))).bind fun x5 => ((scr xs Ls ((v3 + (2 : Int32)))).bind fun x6 => (cO 10 h4 v2 (bind2 (m_X10_fairest F h4 v2 x5 x6) fun x7 h8 => (if x3 = x7 then (b_law_1906 F xs Ls self cs h8 v1 v2 v3) else (some (0 : Int32))))))))))
set_option maxRecDepth 20000 in
theorem t_law_1517 {M : MV} {X : XT} {F : Nat} {xs : Nat → Int32} {Ls b : Nat} {self : Nat × Nat → PH → Nat → Nat → Int32 → Option Int32} {cs : Nat × Nat} {h : PH} {v1 : Nat} {v2 : Nat} {v3 : Int32} (hc : Cx M X R_law code) (hr : Rx M 2048 84000 600000 7302250 4) (hL : Lx M X xs Ls b) (hm : cs.1 ≤ 600000) (hs : cs.2 ≤ 7302250) (ih : ∀ (cs : Nat × Nat) (h : PH) (v1 : Nat) (v2 : Nat) (v3 : Int32), cs.1 ≤ 600000 → cs.2 ≤ 7302250 → self cs h v1 v2 v3 = some 1 → GG M X h cs.1 cs.2 18 [(0, .ref b), (1, .ref (X.1 + v1)), (2, .ref (X.1 + v2)), (3, .int v3)] []) (hf : b_law_1517 F xs Ls self cs h v1 v2 v3 = some 1) : GG M X h cs.1 cs.2 1517 [(0, .ref b), (1, .ref (X.1 + v1)), (2, .ref (X.1 + v2)), (3, .int v3)] [] := by
  unfold b_law_1517 at hf
  refine r_aload_n hc 1 (dc_at dL_law_1517 0 rfl) rfl ?_
  refine r_aload_n hc 0 (dc_at dL_law_1517 1 rfl) rfl ?_
  refine r_iload_n hc 3 (dc_at dL_law_1517 2 rfl) rfl ?_
  refine r_iconst (1 : Int32) hc (dc_at dL_law_1517 3 rfl) (by decide) ?_
  refine r_iadd hc (dc_at dL_law_1517 4 rfl) ?_
  refine r_sload hL hc (dc_at dL_law_1517 5 rfl) hf fun x1 hf => ?_
  refine r_aload_n hc 0 (dc_at dL_law_1517 6 rfl) rfl ?_
  refine r_iload_n hc 3 (dc_at dL_law_1517 7 rfl) rfl ?_
  refine r_iconst (2 : Int32) hc (dc_at dL_law_1517 8 rfl) (by decide) ?_
  refine r_iadd hc (dc_at dL_law_1517 9 rfl) ?_
  refine r_sload hL hc (dc_at dL_law_1517 10 rfl) hf fun x2 hf => ?_
  obtain ⟨ho, hf⟩ := cO_some hf
  refine ob2 hf fun x3 h4 ex hf => ?_
  refine r_callVl (As := [.int x1, .int x2]) (ci := 9) hc hr (dc_at dL_law_1517 11 rfl) ml_L_164 mv_X9_fairest vi_X9_fairest rfl ho rfl (mt_X9_fairest ex) (Nat.le_of_ble_eq_true rfl) (Nat.le_of_ble_eq_true rfl) (by first | exact Nat.le_of_ble_eq_true rfl | decide) hm hs ?_
  refine r_aload_n hc 2 (dc_at dL_law_1517 12 rfl) rfl ?_
  refine r_aload_n hc 0 (dc_at dL_law_1517 13 rfl) rfl ?_
  refine r_iload_n hc 3 (dc_at dL_law_1517 14 rfl) rfl ?_
  refine r_iconst (1 : Int32) hc (dc_at dL_law_1517 15 rfl) (by decide) ?_
  refine r_iadd hc (dc_at dL_law_1517 16 rfl) ?_
  refine r_sload hL hc (dc_at dL_law_1517 17 rfl) hf fun x5 hf => ?_
  refine r_aload_n hc 0 (dc_at dL_law_1517 18 rfl) rfl ?_
  refine r_iload_n hc 3 (dc_at dL_law_1517 19 rfl) rfl ?_
  refine r_iconst (2 : Int32) hc (dc_at dL_law_1517 20 rfl) (by decide) ?_
  refine r_iadd hc (dc_at dL_law_1517 21 rfl) ?_
  refine r_sload hL hc (dc_at dL_law_1517 22 rfl) hf fun x6 hf => ?_
  obtain ⟨ho, hf⟩ := cO_some hf
  refine ob2 hf fun x7 h8 ex hf => ?_
  refine r_callVl (As := [.int x5, .int x6]) (ci := 10) hc hr (dc_at dL_law_1517 23 rfl) ml_L_167 mv_X10_fairest vi_X10_fairest rfl ho rfl (mt_X10_fairest ex) (Nat.le_of_ble_eq_true rfl) (Nat.le_of_ble_eq_true rfl) (by first | exact Nat.le_of_ble_eq_true rfl | decide) hm hs ?_
  refine r_lcmp_eq (tgt := 1906) hc (dc_at dL_law_1517 24 rfl) (dc_at dL_law_1517 25 rfl) (by decide) hf (fun hf => ?_) (fun hf => ?_)
  · exact gg_sub [0, 1, 2, 3] rfl (t_law_1906 hc hr hL hm hs ih hf)
  · refine r_iconst (0 : Int32) hc (dc_at dL_law_1517 26 rfl) (by decide) ?_
    cases hf
def lL_law_589L : List (Nat × Instr × Nat × Nat) := [(589, .aload_n 1, 1, 590), (590, .aload_n 0, 1, 591), (591, .iload_n 3, 1, 592), (592, .iconst 1, 1, 593), (593, .iadd, 1, 594), (594, .iaload, 1, 595), (595, .invokevirtual 61, 3, 598), (598, .aload_n 2, 1, 599), (599, .aload_n 0, 1, 600), (600, .iload_n 3, 1, 601), (601, .iconst 1, 1, 602), (602, .iadd, 1, 603), (603, .iaload, 1, 604), (604, .invokevirtual 64, 3, 607), (607, .if_icmp .eq 1299, 3, 610), (610, .iconst 0, 1, 611), (611, .ireturn, 1, 612)]
set_option maxRecDepth 20000 in
theorem dL_law_589 : dcL cL_law lL_law_589L = true := by decide +kernel
def b_law_589 (F : Nat) (xs : Nat → Int32) (Ls : Nat) (self : Nat × Nat → PH → Nat → Nat → Int32 → Option Int32) (cs : Nat × Nat) (h : PH) (v1 : Nat) (v2 : Nat) (v3 : Int32) : Option Int32 := (scr xs Ls ((v3 + (1 : Int32)))).bind fun x1 => (cO 9 h v1 (bind2 (m_X9_perform F h v1 x1) fun x2 h3 => ((scr xs Ls ((v3 + (1 : Int32)))).bind fun x4 => (cO 10 h3 v2 (bind2 (m_X10_perform F h3 v2 x4) fun x5 h6 => (if x2 = x5 then (b_law_1906 F xs Ls self cs h6 v1 v2 v3) else (some (0 : Int32))))))))
set_option maxRecDepth 20000 in
theorem t_law_589 {M : MV} {X : XT} {F : Nat} {xs : Nat → Int32} {Ls b : Nat} {self : Nat × Nat → PH → Nat → Nat → Int32 → Option Int32} {cs : Nat × Nat} {h : PH} {v1 : Nat} {v2 : Nat} {v3 : Int32} (hc : Cx M X R_law code) (hr : Rx M 2048 84000 600000 7302250 4) (hL : Lx M X xs Ls b) (hm : cs.1 ≤ 600000) (hs : cs.2 ≤ 7302250) (ih : ∀ (cs : Nat × Nat) (h : PH) (v1 : Nat) (v2 : Nat) (v3 : Int32), cs.1 ≤ 600000 → cs.2 ≤ 7302250 → self cs h v1 v2 v3 = some 1 → GG M X h cs.1 cs.2 18 [(0, .ref b), (1, .ref (X.1 + v1)), (2, .ref (X.1 + v2)), (3, .int v3)] []) (hf : b_law_589 F xs Ls self cs h v1 v2 v3 = some 1) : GG M X h cs.1 cs.2 589 [(0, .ref b), (1, .ref (X.1 + v1)), (2, .ref (X.1 + v2)), (3, .int v3)] [] := by
  unfold b_law_589 at hf
  refine r_aload_n hc 1 (dc_at dL_law_589 0 rfl) rfl ?_
  refine r_aload_n hc 0 (dc_at dL_law_589 1 rfl) rfl ?_
  refine r_iload_n hc 3 (dc_at dL_law_589 2 rfl) rfl ?_
  refine r_iconst (1 : Int32) hc (dc_at dL_law_589 3 rfl) (by decide) ?_
  refine r_iadd hc (dc_at dL_law_589 4 rfl) ?_
  refine r_sload hL hc (dc_at dL_law_589 5 rfl) hf fun x1 hf => ?_
  obtain ⟨ho, hf⟩ := cO_some hf
  refine ob2 hf fun x2 h3 ex hf => ?_
  refine r_callVi (As := [.int x1]) (ci := 9) hc hr (dc_at dL_law_589 6 rfl) ml_L_61 mv_X9_perform vi_X9_perform rfl ho rfl (mt_X9_perform ex) (Nat.le_of_ble_eq_true rfl) (Nat.le_of_ble_eq_true rfl) (by first | exact Nat.le_of_ble_eq_true rfl | decide) hm hs ?_
  refine r_aload_n hc 2 (dc_at dL_law_589 7 rfl) rfl ?_
  refine r_aload_n hc 0 (dc_at dL_law_589 8 rfl) rfl ?_
  refine r_iload_n hc 3 (dc_at dL_law_589 9 rfl) rfl ?_
  refine r_iconst (1 : Int32) hc (dc_at dL_law_589 10 rfl) (by decide) ?_
  refine r_iadd hc (dc_at dL_law_589 11 rfl) ?_
  refine r_sload hL hc (dc_at dL_law_589 12 rfl) hf fun x4 hf => ?_
  obtain ⟨ho, hf⟩ := cO_some hf
  refine ob2 hf fun x5 h6 ex hf => ?_
  refine r_callVi (As := [.int x4]) (ci := 10) hc hr (dc_at dL_law_589 13 rfl) ml_L_64 mv_X10_perform vi_X10_perform rfl ho rfl (mt_X10_perform ex) (Nat.le_of_ble_eq_true rfl) (Nat.le_of_ble_eq_true rfl) (by first | exact Nat.le_of_ble_eq_true rfl | decide) hm hs ?_
  refine r_icmp_eq (tgt := 1906) hc (dc_at dL_law_589 14 rfl) (by decide) hf (fun hf => ?_) (fun hf => ?_)
  · exact gg_sub [0, 1, 2, 3] rfl (t_law_1906 hc hr hL hm hs ih hf)
  · refine r_iconst (0 : Int32) hc (dc_at dL_law_589 15 rfl) (by decide) ?_
    cases hf
