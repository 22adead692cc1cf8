def lL_law_457L : List (Nat × Instr × Nat × Nat) := [(457, .aload_n 1, 1, 458), (458, .aload_n 0, 1, 459), (459, .iload_n 3, 1, 460), (460, .iconst 1, 1, 461), (461, .iadd, 1, 462), (462, .iaload, 1, 463), (463, .aload_n 0, 1, 464), (464, .iload_n 3, 1, 465), (465, .iconst 2, 1, 466), (466, .iadd, 1, 467), (467, .iaload, 1, 468), (468, .aload_n 0, 1, 469), (469, .iload_n 3, 1, 470), (470, .iconst 3, 1, 471), (471, .iadd, 1, 472), (472, .iaload, 1, 473), (473, .aload_n 0, 1, 474), (474, .iload_n 3, 1, 475), (475, .iconst 4, 1, 476), (476, .iadd, 1, 477), (477, .iaload, 1, 478), (478, .invokevirtual 44, 3, 481), (481, .aload_n 2, 1, 482), (482, .aload_n 0, 1, 483), (483, .iload_n 3, 1, 484), (484, .iconst 1, 1, 485), (485, .iadd, 1, 486), (486, .iaload, 1, 487), (487, .aload_n 0, 1, 488), (488, .iload_n 3, 1, 489), (489, .iconst 2, 1, 490), (490, .iadd, 1, 491), (491, .iaload, 1, 492), (492, .aload_n 0, 1, 493), (493, .iload_n 3, 1, 494), (494, .iconst 3, 1, 495), (495, .iadd, 1, 496), (496, .iaload, 1, 497), (497, .aload_n 0, 1, 498), (498, .iload_n 3, 1, 499), (499, .iconst 4, 1, 500), (500, .iadd, 1, 501), (501, .iaload, 1, 502), (502, .invokevirtual 48, 3, 505), (505, .if_icmp .eq 1401, 3, 508), (508, .iconst 0, 1, 509), (509, .ireturn, 1, 510)]
set_option maxRecDepth 20000 in
theorem dL_law_457 : dcL cL_law lL_law_457L = true := by decide +kernel
def b_law_457 (F : Nat) (xs : Nat → Int32) (Ls : Nat) (self : Nat × Nat → PH → Nat → Nat → Int32 → Option Int32) (cs : Nat × Nat) (h : PH) (v1 : Nat) (v2 : Nat) (v3 : Int32) : Option Int32 := (scr xs Ls ((v3 + (1 : Int32)))).bind fun x1 => ((scr xs Ls ((v3 + (2 : Int32)))).bind fun x2 => ((scr xs Ls ((v3 + (3 : Int32)))).bind fun x3 => ((scr xs Ls ((v3 + (4 : Int32)))).bind fun x4 => (cO 9 h v1 (bind2 (m_X9_leads F h v1 x1 x2 x3 x4) fun x5 h6 => ((scr xs Ls ((v3 + (1 : Int32)))).bind fun x7 => ((scr xs Ls ((v3 + (2 : Int32)))).bind fun x8 => ((scr xs Ls ((v3 + (3 : Int32)))).bind fun x9 => ((scr xs Ls ((v3 + (4 : Int32)))).bind fun x10 => (cO 10 h6 v2 (bind2 (m_X10_leads F h6 v2 x7 x8 x9 x10) fun x11 h12 => (if x5 = x11 then (b_law_1906 F xs Ls self cs h12 v1 v2 v3) else (some (0 : Int32))))))))))))))
set_option maxRecDepth 20000 in
theorem t_law_457 {M : MV} {X : XT} {F : Nat} {xs : Nat → Int32} {Ls b : Nat} {self : Nat × Nat → PH → Nat → Nat → Int32 → Option Int32} {cs : Nat × Nat} {h : PH} {v1 : Nat} {v2 : Nat} {v3 : Int32} (hc : Cx M X R_law code) (hr : Rx M 2048 84000 600000 7302250 4) (hL : Lx M X xs Ls b) (hm : cs.1 ≤ 600000) (hs : cs.2 ≤ 7302250) (ih : ∀ (cs : Nat × Nat) (h : PH) (v1 : Nat) (v2 : Nat) (v3 : Int32), cs.1 ≤ 600000 → cs.2 ≤ 7302250 → self cs h v1 v2 v3 = some 1 → GG M X h cs.1 cs.2 18 [(0, .ref b), (1, .ref (X.1 + v1)), (2, .ref (X.1 + v2)), (3, .int v3)] []) (hf : b_law_457 F xs Ls self cs h v1 v2 v3 = some 1) : GG M X h cs.1 cs.2 457 [(0, .ref b), (1, .ref (X.1 + v1)), (2, .ref (X.1 + v2)), (3, .int v3)] [] := by
  unfold b_law_457 at hf
  refine r_aload_n hc 1 (dc_at dL_law_457 0 rfl) rfl ?_
  refine r_aload_n hc 0 (dc_at dL_law_457 1 rfl) rfl ?_
  refine r_iload_n hc 3 (dc_at dL_law_457 2 rfl) rfl ?_
  refine r_iconst (1 : Int32) hc (dc_at dL_law_457 3 rfl) (by decide) ?_
  refine r_iadd hc (dc_at dL_law_457 4 rfl) ?_
  refine r_sload hL hc (dc_at dL_law_457 5 rfl) hf fun x1 hf => ?_
  refine r_aload_n hc 0 (dc_at dL_law_457 6 rfl) rfl ?_
  refine r_iload_n hc 3 (dc_at dL_law_457 7 rfl) rfl ?_
  refine r_iconst (2 : Int32) hc (dc_at dL_law_457 8 rfl) (by decide) ?_
  refine r_iadd hc (dc_at dL_law_457 9 rfl) ?_
  refine r_sload hL hc (dc_at dL_law_457 10 rfl) hf fun x2 hf => ?_
  refine r_aload_n hc 0 (dc_at dL_law_457 11 rfl) rfl ?_
  refine r_iload_n hc 3 (dc_at dL_law_457 12 rfl) rfl ?_
  refine r_iconst (3 : Int32) hc (dc_at dL_law_457 13 rfl) (by decide) ?_
  refine r_iadd hc (dc_at dL_law_457 14 rfl) ?_
  refine r_sload hL hc (dc_at dL_law_457 15 rfl) hf fun x3 hf => ?_
  refine r_aload_n hc 0 (dc_at dL_law_457 16 rfl) rfl ?_
  refine r_iload_n hc 3 (dc_at dL_law_457 17 rfl) rfl ?_
  refine r_iconst (4 : Int32) hc (dc_at dL_law_457 18 rfl) (by decide) ?_
  refine r_iadd hc (dc_at dL_law_457 19 rfl) ?_
  refine r_sload hL hc (dc_at dL_law_457 20 rfl) hf fun x4 hf => ?_
  obtain ⟨ho, hf⟩ := cO_some hf
  refine ob2 hf fun x5 h6 ex hf => ?_
  refine r_callVi (As := [.int x1, .int x2, .int x3, .int x4]) (ci := 9) hc hr (dc_at dL_law_457 21 rfl) ml_L_44 mv_X9_leads vi_X9_leads rfl ho rfl (mt_X9_leads ex) (Nat.le_of_ble_eq_true rfl) (Nat.le_of_ble_eq_true rfl) (by first | exact Nat.le_of_ble_eq_true rfl | decide) hm hs ?_
  refine r_aload_n hc 2 (dc_at dL_law_457 22 rfl) rfl ?_
  refine r_aload_n hc 0 (dc_at dL_law_457 23 rfl) rfl ?_
  refine r_iload_n hc 3 (dc_at dL_law_457 24 rfl) rfl ?_
  refine r_iconst (1 : Int32) hc (dc_at dL_law_457 25 rfl) (by decide) ?_
  refine r_iadd hc (dc_at dL_law_457 26 rfl) ?_
  refine r_sload hL hc (dc_at dL_law_457 27 rfl) hf fun x7 hf => ?_
  refine r_aload_n hc 0 (dc_at dL_law_457 28 rfl) rfl ?_
  refine r_iload_n hc 3 (dc_at dL_law_457 29 rfl) rfl ?_
  refine r_iconst (2 : Int32) hc (dc_at dL_law_457 30 rfl) (by decide) ?_
  refine r_iadd hc (dc_at dL_law_457 31 rfl) ?_
  refine r_sload hL hc (dc_at dL_law_457 32 rfl) hf fun x8 hf => ?_
  refine r_aload_n hc 0 (dc_at dL_law_457 33 rfl) rfl ?_
  refine r_iload_n hc 3 (dc_at dL_law_457 34 rfl) rfl ?_
  refine r_iconst (3 : Int32) hc (dc_at dL_law_457 35 rfl) (by decide) ?_
  refine r_iadd hc (dc_at dL_law_457 36 rfl) ?_
  refine r_sload hL hc (dc_at dL_law_457 37 rfl) hf fun x9 hf => ?_
  refine r_aload_n hc 0 (dc_at dL_law_457 38 rfl) rfl ?_
  refine r_iload_n hc 3 (dc_at dL_law_457 39 rfl) rfl ?_
  refine r_iconst (4 : Int32) hc (dc_at dL_law_457 40 rfl) (by decide) ?_
  refine r_iadd hc (dc_at dL_law_457 41 rfl) ?_
  refine r_sload hL hc (dc_at dL_law_457 42 rfl) hf fun x10 hf => ?_
  obtain ⟨ho, hf⟩ := cO_some hf
  refine ob2 hf fun x11 h12 ex hf => ?_
  refine r_callVi (As := [.int x7, .int x8, .int x9, .int x10]) (ci := 10) hc hr (dc_at dL_law_457 43 rfl) ml_L_48 mv_X10_leads vi_X10_leads rfl ho rfl (mt_X10_leads ex) (Nat.le_of_ble_eq_true rfl) (Nat.le_of_ble_eq_true rfl) (by first | exact Nat.le_of_ble_eq_true rfl | decide) hm hs ?_
  refine r_icmp_eq (tgt := 1906) hc (dc_at dL_law_457 44 rfl) (by decide) hf (fun hf => ?_) (fun hf => ?_)
  · exact gg_sub [0, 1, 2, 3] rfl (t_law_1906 hc hr hL hm hs ih hf)
  · refine r_iconst (0 : Int32) hc (dc_at dL_law_457 45 rfl) (by decide) ?_
    cases hf
