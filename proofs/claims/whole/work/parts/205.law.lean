def lL_law_699L : List (Nat × Instr × Nat × Nat) := [(699, .aload_n 1, 1, 700), (700, .aload_n 0, 1, 701), (701, .iload_n 3, 1, 702), (702, .iconst 1, 1, 703), (703, .iadd, 1, 704), (704, .iaload, 1, 705), (705, .aload_n 0, 1, 706), (706, .iload_n 3, 1, 707), (707, .iconst 2, 1, 708), (708, .iadd, 1, 709), (709, .iaload, 1, 710), (710, .aload_n 0, 1, 711), (711, .iload_n 3, 1, 712), (712, .iconst 3, 1, 713), (713, .iadd, 1, 714), (714, .iaload, 1, 715), (715, .invokevirtual 74, 3, 718), (718, .aload_n 2, 1, 719), (719, .aload_n 0, 1, 720), (720, .iload_n 3, 1, 721), (721, .iconst 1, 1, 722), (722, .iadd, 1, 723), (723, .iaload, 1, 724), (724, .aload_n 0, 1, 725), (725, .iload_n 3, 1, 726), (726, .iconst 2, 1, 727), (727, .iadd, 1, 728), (728, .iaload, 1, 729), (729, .aload_n 0, 1, 730), (730, .iload_n 3, 1, 731), (731, .iconst 3, 1, 732), (732, .iadd, 1, 733), (733, .iaload, 1, 734), (734, .invokevirtual 78, 3, 737), (737, .lcmp, 1, 738), (738, .ifCond .eq 1168, 3, 741), (741, .iconst 0, 1, 742), (742, .ireturn, 1, 743)]
set_option maxRecDepth 20000 in
theorem dL_law_699 : dcL cL_law lL_law_699L = true := by decide +kernel
def b_law_699 (F : Nat) (xs : Nat → Int32) (Ls : Nat) (self : Nat × Nat → PH → Nat → Nat → Int32 → Option Int32) (cs : Nat × Nat) (h : PH) (v1 : Nat) (v2 : Nat) (v3 : Int32) : Option Int32 := (scr xs Ls ((v3 + (1 : Int32)))).bind fun x1 => ((scr xs Ls ((v3 + (2 : Int32)))).bind fun x2 => ((scr xs Ls ((v3 + (3 : Int32)))).bind fun x3 => (cO 9 h v1 (bind2 (m_X9_where F h v1 x1 x2 x3) fun x4 h5 => ((scr xs Ls ((v3 + (1 : Int32)))).bind fun x6 => ((scr xs Ls ((v3 + (2 : Int32)))).bind fun x7 => ((scr xs Ls ((v3 + (3 : Int32)))).bind fun x8 => (cO 10 h5 v2 (bind2 (m_X10_where F h5 v2 x6 x7 x8) fun x9 h10 => (if x4 = x9 then (b_law_1906 F xs Ls self cs h10 v1 v2 v3) else (some (0 : Int32))))))))))))
set_option maxRecDepth 20000 in
theorem t_law_699 {M : MV} {X : XT} {F : Nat} {xs : Nat → Int32} {Ls b : Nat} {self : Nat × Nat → PH → Nat → Nat → Int32 → Option Int32} {cs : Nat × Nat} {h : PH} {v1 : Nat} {v2 : Nat} {v3 : Int32} (hc : Cx M X R_law code) (hr : Rx M 2048 84000 600000 7302250 4) (hL : Lx M X xs Ls b) (hm : cs.1 ≤ 600000) (hs : cs.2 ≤ 7302250) (ih : ∀ (cs : Nat × Nat) (h : PH) (v1 : Nat) (v2 : Nat) (v3 : Int32), cs.1 ≤ 600000 → cs.2 ≤ 7302250 → self cs h v1 v2 v3 = some 1 → GG M X h cs.1 cs.2 18 [(0, .ref b), (1, .ref (X.1 + v1)), (2, .ref (X.1 + v2)), (3, .int v3)] []) (hf : b_law_699 F xs Ls self cs h v1 v2 v3 = some 1) : GG M X h cs.1 cs.2 699 [(0, .ref b), (1, .ref (X.1 + v1)), (2, .ref (X.1 + v2)), (3, .int v3)] [] := by
  unfold b_law_699 at hf
  refine r_aload_n hc 1 (dc_at dL_law_699 0 rfl) rfl ?_
  refine r_aload_n hc 0 (dc_at dL_law_699 1 rfl) rfl ?_
  refine r_iload_n hc 3 (dc_at dL_law_699 2 rfl) rfl ?_
  refine r_iconst (1 : Int32) hc (dc_at dL_law_699 3 rfl) (by decide) ?_
  refine r_iadd hc (dc_at dL_law_699 4 rfl) ?_
  refine r_sload hL hc (dc_at dL_law_699 5 rfl) hf fun x1 hf => ?_
  refine r_aload_n hc 0 (dc_at dL_law_699 6 rfl) rfl ?_
  refine r_iload_n hc 3 (dc_at dL_law_699 7 rfl) rfl ?_
  refine r_iconst (2 : Int32) hc (dc_at dL_law_699 8 rfl) (by decide) ?_
  refine r_iadd hc (dc_at dL_law_699 9 rfl) ?_
  refine r_sload hL hc (dc_at dL_law_699 10 rfl) hf fun x2 hf => ?_
  refine r_aload_n hc 0 (dc_at dL_law_699 11 rfl) rfl ?_
  refine r_iload_n hc 3 (dc_at dL_law_699 12 rfl) rfl ?_
  refine r_iconst (3 : Int32) hc (dc_at dL_law_699 13 rfl) (by decide) ?_
  refine r_iadd hc (dc_at dL_law_699 14 rfl) ?_
  refine r_sload hL hc (dc_at dL_law_699 15 rfl) hf fun x3 hf => ?_
  obtain ⟨ho, hf⟩ := cO_some hf
  refine ob2 hf fun x4 h5 ex hf => ?_
  refine r_callVl (As := [.int x1, .int x2, .int x3]) (ci := 9) hc hr (dc_at dL_law_699 16 rfl) ml_L_74 mv_X9_where vi_X9_where rfl ho rfl (mt_X9_where ex) (Nat.le_of_ble_eq_true rfl) (Nat.le_of_ble_eq_true rfl) (by first | exact Nat.le_of_ble_eq_true rfl | decide) hm hs ?_
  refine r_aload_n hc 2 (dc_at dL_law_699 17 rfl) rfl ?_
  refine r_aload_n hc 0 (dc_at dL_law_699 18 rfl) rfl ?_
  refine r_iload_n hc 3 (dc_at dL_law_699 19 rfl) rfl ?_
  refine r_iconst (1 : Int32) hc (dc_at dL_law_699 20 rfl) (by decide) ?_
  refine r_iadd hc (dc_at dL_law_699 21 rfl) ?_
  refine r_sload hL hc (dc_at dL_law_699 22 rfl) hf fun x6 hf => ?_
  refine r_aload_n hc 0 (dc_at dL_law_699 23 rfl) rfl ?_
  refine r_iload_n hc 3 (dc_at dL_law_699 24 rfl) rfl ?_
  refine r_iconst (2 : Int32) hc (dc_at dL_law_699 25 rfl) (by decide) ?_
  refine r_iadd hc (dc_at dL_law_699 26 rfl) ?_
  refine r_sload hL hc (dc_at dL_law_699 27 rfl) hf fun x7 hf => ?_
  refine r_aload_n hc 0 (dc_at dL_law_699 28 rfl) rfl ?_
  refine r_iload_n hc 3 (dc_at dL_law_699 29 rfl) rfl ?_
  refine r_iconst (3 : Int32) hc (dc_at dL_law_699 30 rfl) (by decide) ?_
  refine r_iadd hc (dc_at dL_law_699 31 rfl) ?_
  refine r_sload hL hc (dc_at dL_law_699 32 rfl) hf fun x8 hf => ?_
  obtain ⟨ho, hf⟩ := cO_some hf
  refine ob2 hf fun x9 h10 ex hf => ?_
  refine r_callVl (As := [.int x6, .int x7, .int x8]) (ci := 10) hc hr (dc_at dL_law_699 33 rfl) ml_L_78 mv_X10_where vi_X10_where rfl ho rfl (mt_X10_where ex) (Nat.le_of_ble_eq_true rfl) (Nat.le_of_ble_eq_true rfl) (by first | exact Nat.le_of_ble_eq_true rfl | decide) hm hs ?_
  refine r_lcmp_eq (tgt := 1906) hc (dc_at dL_law_699 34 rfl) (dc_at dL_law_699 35 rfl) (by decide) hf (fun hf => ?_) (fun hf => ?_)
  · exact gg_sub [0, 1, 2, 3] rfl (t_law_1906 hc hr hL hm hs ih hf)
  · refine r_iconst (0 : Int32) hc (dc_at dL_law_699 36 rfl) (by decide) ?_
    cases hf
