def lL_law_645L : List (Nat × Instr × Nat × Nat) := [(645, .aload_n 1, 1, 646), (646, .aload_n 0, 1, 647), (647, .iload_n 3, 1, 648), (648, .iconst 1, 1, 649), (649, .iadd, 1, 650), (650, .iaload, 1, 651), (651, .aload_n 0, 1, 652), (652, .iload_n 3, 1, 653), (653, .iconst 2, 1, 654), (654, .iadd, 1, 655), (655, .iaload, 1, 656), (656, .aload_n 0, 1, 657), (657, .iload_n 3, 1, 658), (658, .iconst 3, 1, 659), (659, .iadd, 1, 660), (660, .iaload, 1, 661), (661, .aload_n 0, 1, 662), (662, .iload_n 3, 1, 663), (663, .iconst 4, 1, 664), (664, .iadd, 1, 665), (665, .iaload, 1, 666), (666, .invokevirtual 69, 3, 669), (669, .aload_n 2, 1, 670), (670, .aload_n 0, 1, 671), (671, .iload_n 3, 1, 672), (672, .iconst 1, 1, 673), (673, .iadd, 1, 674), (674, .iaload, 1, 675), (675, .aload_n 0, 1, 676), (676, .iload_n 3, 1, 677), (677, .iconst 2, 1, 678), (678, .iadd, 1, 679), (679, .iaload, 1, 680), (680, .aload_n 0, 1, 681), (681, .iload_n 3, 1, 682), (682, .iconst 3, 1, 683), (683, .iadd, 1, 684), (684, .iaload, 1, 685), (685, .aload_n 0, 1, 686), (686, .iload_n 3, 1, 687), (687, .iconst 4, 1, 688), (688, .iadd, 1, 689), (689, .iaload, 1, 690), (690, .invokevirtual 73, 3, 693), (693, .lcmp, 1, 694), (694, .ifCond .eq 1212, 3, 697), (697, .iconst 0, 1, 698), (698, .ireturn, 1, 699)]
set_option maxRecDepth 20000 in
theorem dL_law_645 : dcL cL_law lL_law_645L = true := by decide +kernel
def b_law_645 (F : Nat) (xs : Nat → Int32) (Ls : Nat) (self : Nat × Nat → PH → Nat → Nat → Int32 → Option Int32) (cs : Nat × Nat) (h : PH) (v1 : Nat) (v2 : Nat) (v3 : Int32) : Option Int32 := (scr xs Ls ((v3 + (1 : Int32)))).bind fun x1 => ((scr xs Ls ((v3 + (2 : Int32)))).bind fun x2 => ((scr xs Ls ((v3 + (3 : Int32)))).bind fun x3 => ((scr xs Ls ((v3 + (4 : Int32)))).bind fun x4 => (cO 9 h v1 (bind2 (m_X9_has F h v1 x1 x2 x3 x4) fun x5 h6 => ((scr xs Ls ((v3 + (1 : Int32)))).bind fun x7 => ((scr xs Ls ((v3 + (2 : Int32)))).bind fun x8 => ((scr xs Ls ((v3 + (3 : Int32)))).bind fun x9 => ((scr xs Ls ((v3 + (4 : Int32)))).bind fun x10 => (cO 10 h6 v2 (bind2 (m_X10_has F h6 v2 x7 x8 x9 x10) fun x11 h12 => (if x5 = x11 then (b_law_1906 F xs Ls self cs h12 v1 v2 v3) else (some (0 : Int32))))))))))))))
set_option maxRecDepth 20000 in
theorem t_law_645 {M : MV} {X : XT} {F : Nat} {xs : Nat → Int32} {Ls b : Nat} {self : Nat × Nat → PH → Nat → Nat → Int32 → Option Int32} {cs : Nat × Nat} {h : PH} {v1 : Nat} {v2 : Nat} {v3 : Int32} (hc : Cx M X R_law code) (hr : Rx M 2048 84000 600000 7302250 4) (hL : Lx M X xs Ls b) (hm : cs.1 ≤ 600000) (hs : cs.2 ≤ 7302250) (ih : ∀ (cs : Nat × Nat) (h : PH) (v1 : Nat) (v2 : Nat) (v3 : Int32), cs.1 ≤ 600000 → cs.2 ≤ 7302250 → self cs h v1 v2 v3 = some 1 → GG M X h cs.1 cs.2 18 [(0, .ref b), (1, .ref (X.1 + v1)), (2, .ref (X.1 + v2)), (3, .int v3)] []) (hf : b_law_645 F xs Ls self cs h v1 v2 v3 = some 1) : GG M X h cs.1 cs.2 645 [(0, .ref b), (1, .ref (X.1 + v1)), (2, .ref (X.1 + v2)), (3, .int v3)] [] := by
  unfold b_law_645 at hf
  refine r_aload_n hc 1 (dc_at dL_law_645 0 rfl) rfl ?_
  refine r_aload_n hc 0 (dc_at dL_law_645 1 rfl) rfl ?_
  refine r_iload_n hc 3 (dc_at dL_law_645 2 rfl) rfl ?_
  refine r_iconst (1 : Int32) hc (dc_at dL_law_645 3 rfl) (by decide) ?_
  refine r_iadd hc (dc_at dL_law_645 4 rfl) ?_
  refine r_sload hL hc (dc_at dL_law_645 5 rfl) hf fun x1 hf => ?_
  refine r_aload_n hc 0 (dc_at dL_law_645 6 rfl) rfl ?_
  refine r_iload_n hc 3 (dc_at dL_law_645 7 rfl) rfl ?_
  refine r_iconst (2 : Int32) hc (dc_at dL_law_645 8 rfl) (by decide) ?_
  refine r_iadd hc (dc_at dL_law_645 9 rfl) ?_
  refine r_sload hL hc (dc_at dL_law_645 10 rfl) hf fun x2 hf => ?_
  refine r_aload_n hc 0 (dc_at dL_law_645 11 rfl) rfl ?_
  refine r_iload_n hc 3 (dc_at dL_law_645 12 rfl) rfl ?_
  refine r_iconst (3 : Int32) hc (dc_at dL_law_645 13 rfl) (by decide) ?_
  refine r_iadd hc (dc_at dL_law_645 14 rfl) ?_
  refine r_sload hL hc (dc_at dL_law_645 15 rfl) hf fun x3 hf => ?_
  refine r_aload_n hc 0 (dc_at dL_law_645 16 rfl) rfl ?_
  refine r_iload_n hc 3 (dc_at dL_law_645 17 rfl) rfl ?_
  refine r_iconst (4 : Int32) hc (dc_at dL_law_645 18 rfl) (by decide) ?_
  refine r_iadd hc (dc_at dL_law_645 19 rfl) ?_
  refine r_sload hL hc (dc_at dL_law_645 20 rfl) hf fun x4 hf => ?_
  obtain ⟨ho, hf⟩ := cO_some hf
  refine ob2 hf fun x5 h6 ex hf => ?_
  refine r_callVl (As := [.int x1, .int x2, .int x3, .int x4]) (ci := 9) hc hr (dc_at dL_law_645 21 rfl) ml_L_69 mv_X9_has vi_X9_has rfl ho rfl (mt_X9_has ex) (Nat.le_of_ble_eq_true rfl) (Nat.le_of_ble_eq_true rfl) (by first | exact Nat.le_of_ble_eq_true rfl | decide) hm hs ?_
  refine r_aload_n hc 2 (dc_at dL_law_645 22 rfl) rfl ?_
  refine r_aload_n hc 0 (dc_at dL_law_645 23 rfl) rfl ?_
  refine r_iload_n hc 3 (dc_at dL_law_645 24 rfl) rfl ?_
  refine r_iconst (1 : Int32) hc (dc_at dL_law_645 25 rfl) (by decide) ?_
  refine r_iadd hc (dc_at dL_law_645 26 rfl) ?_
  refine r_sload hL hc (dc_at dL_law_645 27 rfl) hf fun x7 hf => ?_
  refine r_aload_n hc 0 (dc_at dL_law_645 28 rfl) rfl ?_
  refine r_iload_n hc 3 (dc_at dL_law_645 29 rfl) rfl ?_
  refine r_iconst (2 : Int32) hc (dc_at dL_law_645 30 rfl) (by decide) ?_
  refine r_iadd hc (dc_at dL_law_645 31 rfl) ?_
  refine r_sload hL hc (dc_at dL_law_645 32 rfl) hf fun x8 hf => ?_
  refine r_aload_n hc 0 (dc_at dL_law_645 33 rfl) rfl ?_
  refine r_iload_n hc 3 (dc_at dL_law_645 34 rfl) rfl ?_
  refine r_iconst (3 : Int32) hc (dc_at dL_law_645 35 rfl) (by decide) ?_
  refine r_iadd hc (dc_at dL_law_645 36 rfl) ?_
  refine r_sload hL hc (dc_at dL_law_645 37 rfl) hf fun x9 hf => ?_
  refine r_aload_n hc 0 (dc_at dL_law_645 38 rfl) rfl ?_
  refine r_iload_n hc 3 (dc_at dL_law_645 39 rfl) rfl ?_
  refine r_iconst (4 : Int32) hc (dc_at dL_law_645 40 rfl) (by decide) ?_
  refine r_iadd hc (dc_at dL_law_645 41 rfl) ?_
  refine r_sload hL hc (dc_at dL_law_645 42 rfl) hf fun x10 hf => ?_
  obtain ⟨ho, hf⟩ := cO_some hf
  refine ob2 hf fun x11 h12 ex hf => ?_
  refine r_callVl (As := [.int x7, .int x8, .int x9, .int x10]) (ci := 10) hc hr (dc_at dL_law_645 43 rfl) ml_L_73 mv_X10_has vi_X10_has rfl ho rfl (mt_X10_has ex) (Nat.le_of_ble_eq_true rfl) (Nat.le_of_ble_eq_true rfl) (by first | exact Nat.le_of_ble_eq_true rfl | decide) hm hs ?_
  refine r_lcmp_eq (tgt := 1906) hc (dc_at dL_law_645 44 rfl) (dc_at dL_law_645 45 rfl) (by decide) hf (fun hf => ?_) (fun hf => ?_)
  · exact gg_sub [0, 1, 2, 3] rfl (t_law_1906 hc hr hL hm hs ih hf)
  · refine r_iconst (0 : Int32) hc (dc_at dL_law_645 46 rfl) (by decide) ?_
    cases hf
