def lL_law_1906L : List (Nat × Instr × Nat × Nat) := [(1906, .iinc 3 6, 3, 1909), (1909, .goto (-1891), 3, 1912)]
set_option maxRecDepth 20000 in
theorem dL_law_1906 : dcL cL_law lL_law_1906L = true := by decide +kernel
def b_law_1906 (F : Nat) (xs : Nat → Int32) (Ls : Nat) (self : Nat × Nat → PH → Nat → Nat → Int32 → Option Int32) (cs : Nat × Nat) (h : PH) (v1 : Nat) (v2 : Nat) (v3 : Int32) : Option Int32 := bindv (v3 + (6)) fun x1 => (self cs h v1 v2 x1)
set_option maxRecDepth 20000 in
theorem t_law_1906 {M : MV} {X : XT} {F : Nat} {xs : Nat → Int32} {Ls b : Nat} {self : Nat × Nat → PH → Nat → Nat → Int32 → Option Int32} {cs : Nat × Nat} {h : PH} {v1 : Nat} {v2 : Nat} {v3 : Int32} (hc : Cx M X R_law code) (hr : Rx M 2048 84000 600000 7302250 4) (hL : Lx M X xs Ls b) (hm : cs.1 ≤ 600000) (hs : cs.2 ≤ 7302250) (ih : ∀ (cs : Nat × Nat) (h : PH) (v1 : Nat) (v2 : Nat) (v3 : Int32), cs.1 ≤ 600000 → cs.2 ≤ 7302250 → self cs h v1 v2 v3 = some 1 → GG M X h cs.1 cs.2 18 [(0, .ref b), (1, .ref (X.1 + v1)), (2, .ref (X.1 + v2)), (3, .int v3)] []) (hf : b_law_1906 F xs Ls self cs h v1 v2 v3 = some 1) : GG M X h cs.1 cs.2 1906 [(0, .ref b), (1, .ref (X.1 + v1)), (2, .ref (X.1 + v2)), (3, .int v3)] [] := by
  unfold b_law_1906 at hf
  refine obv hf fun x1 e_x1 hf => ?_
  refine r_iinc 3 [(3, .int x1), (0, .ref b), (1, .ref (X.1 + v1)), (2, .ref (X.1 + v2))] hc hr (dc_at dL_law_1906 0 rfl) rfl (by rw [e_x1]; rfl) (by decide) rfl ?_
  refine r_goto (tgt := 18) hc (dc_at dL_law_1906 1 rfl) (by decide) ?_
  exact gg_sub [1, 2, 3, 0] rfl (ih _ _ _ _ _ hm hs hf)
def lL_law_368L : List (Nat × Instr × Nat × Nat) := [(368, .aload_n 1, 1, 369), (369, .aload_n 0, 1, 370), (370, .iload_n 3, 1, 371), (371, .iconst 1, 1, 372), (372, .iadd, 1, 373), (373, .iaload, 1, 374), (374, .aload_n 0, 1, 375), (375, .iload_n 3, 1, 376), (376, .iconst 2, 1, 377), (377, .iadd, 1, 378), (378, .iaload, 1, 379), (379, .invokevirtual 31, 3, 382), (382, .aload_n 2, 1, 383), (383, .aload_n 0, 1, 384), (384, .iload_n 3, 1, 385), (385, .iconst 1, 1, 386), (386, .iadd, 1, 387), (387, .iaload, 1, 388), (388, .aload_n 0, 1, 389), (389, .iload_n 3, 1, 390), (390, .iconst 2, 1, 391), (391, .iadd, 1, 392), (392, .iaload, 1, 393), (393, .invokevirtual 35, 3, 396), (396, .if_icmp .eq 1510, 3, 399), (399, .iconst 0, 1, 400), (400, .ireturn, 1, 401)]
set_option maxRecDepth 20000 in
theorem dL_law_368 : dcL cL_law lL_law_368L = true := by decide +kernel
def b_law_368 (F : Nat) (xs : Nat → Int32) (Ls : Nat) (self : Nat × Nat → PH → Nat → Nat → Int32 → Option Int32) (cs : Nat × Nat) (h : PH) (v1 : Nat) (v2 : Nat) (v3 : Int32) : Option Int32 := (scr xs Ls ((v3 + (1 : Int32)))).bind fun x1 => ((scr xs Ls ((v3 + (2 : Int32)))).bind fun x2 => (cO 9 h v1 ((m_X9_floor F h v1 x1 x2).bind fun x3 => ((scr xs Ls ((v3 + (1 : Int32)))).bind fun x5 => ((scr xs Ls ((v3 + (2 : Int32)))).bind fun x6 => (cO 10 h v2 (bind2 (m_X10_floor F h v2 x5 x6) fun x7 h8 => (if x3 = x7 then (b_law_1906 F xs Ls self cs h8 v1 v2 v3) else (some (0 : Int32))))))))))
set_option maxRecDepth 20000 in
theorem t_law_368 {M : MV} {X : XT} {F : Nat} {xs : Nat → Int32} {Ls b : Nat} {self : Nat × Nat → PH → Nat → Nat → Int32 → Option Int32} {cs : Nat × Nat} {h : PH} {v1 : Nat} {v2 : Nat} {v3 : Int32} (hc : Cx M X R_law code) (hr : Rx M 2048 84000 600000 7302250 4) (hL : Lx M X xs Ls b) (hm : cs.1 ≤ 600000) (hs : cs.2 ≤ 7302250) (ih : ∀ (cs : Nat × Nat) (h : PH) (v1 : Nat) (v2 : Nat) (v3 : Int32), cs.1 ≤ 600000 → cs.2 ≤ 7302250 → self cs h v1 v2 v3 = some 1 → GG M X h cs.1 cs.2 18 [(0, .ref b), (1, .ref (X.1 + v1)), (2, .ref (X.1 + v2)), (3, .int v3)] []) (hf : b_law_368 F xs Ls self cs h v1 v2 v3 = some 1) : GG M X h cs.1 cs.2 368 [(0, .ref b), (1, .ref (X.1 + v1)), (2, .ref (X.1 + v2)), (3, .int v3)] [] := by
  unfold b_law_368 at hf
  refine r_aload_n hc 1 (dc_at dL_law_368 0 rfl) rfl ?_
  refine r_aload_n hc 0 (dc_at dL_law_368 1 rfl) rfl ?_
  refine r_iload_n hc 3 (dc_at dL_law_368 2 rfl) rfl ?_
  refine r_iconst (1 : Int32) hc (dc_at dL_law_368 3 rfl) (by decide) ?_
  refine r_iadd hc (dc_at dL_law_368 4 rfl) ?_
  refine r_sload hL hc (dc_at dL_law_368 5 rfl) hf fun x1 hf => ?_
  refine r_aload_n hc 0 (dc_at dL_law_368 6 rfl) rfl ?_
  refine r_iload_n hc 3 (dc_at dL_law_368 7 rfl) rfl ?_
  refine r_iconst (2 : Int32) hc (dc_at dL_law_368 8 rfl) (by decide) ?_
  refine r_iadd hc (dc_at dL_law_368 9 rfl) ?_
  refine r_sload hL hc (dc_at dL_law_368 10 rfl) hf fun x2 hf => ?_
  obtain ⟨ho, hf⟩ := cO_some hf
  refine ob hf fun x3 ex hf => ?_
  refine r_callVi (As := [.int x1, .int x2]) (ci := 9) hc hr (dc_at dL_law_368 11 rfl) ml_L_31 mv_X9_floor vi_X9_floor rfl ho rfl (mt_X9_floor ex) (Nat.le_of_ble_eq_true rfl) (Nat.le_of_ble_eq_true rfl) (by first | exact Nat.le_of_ble_eq_true rfl | decide) hm hs ?_
  refine r_aload_n hc 2 (dc_at dL_law_368 12 rfl) rfl ?_
  refine r_aload_n hc 0 (dc_at dL_law_368 13 rfl) rfl ?_
  refine r_iload_n hc 3 (dc_at dL_law_368 14 rfl) rfl ?_
  refine r_iconst (1 : Int32) hc (dc_at dL_law_368 15 rfl) (by decide) ?_
  refine r_iadd hc (dc_at dL_law_368 16 rfl) ?_
  refine r_sload hL hc (dc_at dL_law_368 17 rfl) hf fun x5 hf => ?_
  refine r_aload_n hc 0 (dc_at dL_law_368 18 rfl) rfl ?_
  refine r_iload_n hc 3 (dc_at dL_law_368 19 rfl) rfl ?_
  refine r_iconst (2 : Int32) hc (dc_at dL_law_368 20 rfl) (by decide) ?_
  refine r_iadd hc (dc_at dL_law_368 21 rfl) ?_
  refine r_sload hL hc (dc_at dL_law_368 22 rfl) hf fun x6 hf => ?_
  obtain ⟨ho, hf⟩ := cO_some hf
  refine ob2 hf fun x7 h8 ex hf => ?_
  refine r_callVi (As := [.int x5, .int x6]) (ci := 10) hc hr (dc_at dL_law_368 23 rfl) ml_L_35 mv_X10_floor vi_X10_floor rfl ho rfl (mt_X10_floor ex) (Nat.le_of_ble_eq_true rfl) (Nat.le_of_ble_eq_true rfl) (by first | exact Nat.le_of_ble_eq_true rfl | decide) hm hs ?_
  refine r_icmp_eq (tgt := 1906) hc (dc_at dL_law_368 24 rfl) (by decide) hf (fun hf => ?_) (fun hf => ?_)
  · exact gg_sub [0, 1, 2, 3] rfl (t_law_1906 hc hr hL hm hs ih hf)
  · refine r_iconst (0 : Int32) hc (dc_at dL_law_368 25 rfl) (by decide) ?_
    cases hf
def lL_law_1461L : List (Nat × Instr × Nat × Nat) := [(1461, .aload_n 1, 1, 1462), (1462, .invokevirtual 155, 3, 1465), (1465, .aload_n 2, 1, 1466), (1466, .invokevirtual 159, 3, 1469), (1469, .if_icmp .eq 437, 3, 1472), (1472, .iconst 0, 1, 1473), (1473, .ireturn, 1, 1474)]
set_option maxRecDepth 20000 in
theorem dL_law_1461 : dcL cL_law lL_law_1461L = true := by decide +kernel
def b_law_1461 (F : Nat) (xs : Nat → Int32) (Ls : Nat) (self : Nat × Nat → PH → Nat → Nat → Int32 → Option Int32) (cs : Nat × Nat) (h : PH) (v1 : Nat) (v2 : Nat) (v3 : Int32) : Option Int32 := cO 9 h v1 (bind2 (m_X9_rents F h v1) fun x1 h2 => (cO 10 h2 v2 (bind2 (m_X10_rents F h2 v2) fun x3 h4 => (if x1 = x3 then (b_law_1906 F xs Ls self cs h4 v1 v2 v3) else (some (0 : Int32))))))
set_option maxRecDepth 20000 in
theorem t_law_1461 {M : MV} {X : XT} {F : Nat} {xs : Nat → Int32} {Ls b : Nat} {self : Nat × Nat → PH → Nat → Nat → Int32 → Option Int32} {cs : Nat × Nat} {h : PH} {v1 : Nat} {v2 : Nat} {v3 : Int32} (hc : Cx M X R_law code) (hr : Rx M 2048 84000 600000 7302250 4) (hL : Lx M X xs Ls b) (hm : cs.1 ≤ 600000) (hs : cs.2 ≤ 7302250) (ih : ∀ (cs : Nat × Nat) (h : PH) (v1 : Nat) (v2 : Nat) (v3 : Int32), cs.1 ≤ 600000 → cs.2 ≤ 7302250 → self cs h v1 v2 v3 = some 1 → GG M X h cs.1 cs.2 18 [(0, .ref b), (1, .ref (X.1 + v1)), (2, .ref (X.1 + v2)), (3, .int v3)] []) (hf : b_law_1461 F xs Ls self cs h v1 v2 v3 = some 1) : GG M X h cs.1 cs.2 1461 [(0, .ref b), (1, .ref (X.1 + v1)), (2, .ref (X.1 + v2)), (3, .int v3)] [] := by
  unfold b_law_1461 at hf
  refine r_aload_n hc 1 (dc_at dL_law_1461 0 rfl) rfl ?_
  obtain ⟨ho, hf⟩ := cO_some hf
  refine ob2 hf fun x1 h2 ex hf => ?_
  refine r_callVi (As := []) (ci := 9) hc hr (dc_at dL_law_1461 1 rfl) ml_L_155 mv_X9_rents vi_X9_rents rfl ho rfl (mt_X9_rents ex) (Nat.le_of_ble_eq_true rfl) (Nat.le_of_ble_eq_true rfl) (by first | exact Nat.le_of_ble_eq_true rfl | decide) hm hs ?_
  refine r_aload_n hc 2 (dc_at dL_law_1461 2 rfl) rfl ?_
  obtain ⟨ho, hf⟩ := cO_some hf
  refine ob2 hf fun x3 h4 ex hf => ?_
  refine r_callVi (As := []) (ci := 10) hc hr (dc_at dL_law_1461 3 rfl) ml_L_159 mv_X10_rents vi_X10_rents rfl ho rfl (mt_X10_rents ex) (Nat.le_of_ble_eq_true rfl) (Nat.le_of_ble_eq_true rfl) (by first | exact Nat.le_of_ble_eq_true rfl | decide) hm hs ?_
  refine r_icmp_eq (tgt := 1906) hc (dc_at dL_law_1461 4 rfl) (by decide) hf (fun hf => ?_) (fun hf => ?_)
  · exact gg_sub [0, 1, 2, 3] rfl (t_law_1906 hc hr hL hm hs ih hf)
  · refine r_iconst (0 : Int32) hc (dc_at dL_law_1461 5 rfl) (by decide) ?_
    cases hf
