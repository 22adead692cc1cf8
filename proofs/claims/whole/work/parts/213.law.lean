def lL_law_743L : List (Nat × Instr × Nat × Nat) := [(743, .aload_n 1, 1, 744), (744, .aload_n 0, 1, 745), (745, .iload_n 3, 1, 746), (746, .iconst 1, 1, 747), (747, .iadd, 1, 748), (748, .iaload, 1, 749), (749, .aload_n 0, 1, 750), (750, .iload_n 3, 1, 751), (751, .iconst 2, 1, 752), (752, .iadd, 1, 753), (753, .iaload, 1, 754), (754, .aload_n 0, 1, 755), (755, .iload_n 3, 1, 756), (756, .iconst 3, 1, 757), (757, .iadd, 1, 758), (758, .iaload, 1, 759), (759, .invokevirtual 79, 3, 762), (762, .aload_n 2, 1, 763), (763, .aload_n 0, 1, 764), (764, .iload_n 3, 1, 765), (765, .iconst 1, 1, 766), (766, .iadd, 1, 767), (767, .iaload, 1, 768), (768, .aload_n 0, 1, 769), (769, .iload_n 3, 1, 770), (770, .iconst 2, 1, 771), (771, .iadd, 1, 772), (772, .iaload, 1, 773), (773, .aload_n 0, 1, 774), (774, .iload_n 3, 1, 775), (775, .iconst 3, 1, 776), (776, .iadd, 1, 777), (777, .iaload, 1, 778), (778, .invokevirtual 82, 3, 781), (781, .lcmp, 1, 782), (782, .ifCond .eq 1124, 3, 785), (785, .iconst 0, 1, 786), (786, .ireturn, 1, 787)]
set_option maxRecDepth 20000 in
theorem dL_law_743 : dcL cL_law lL_law_743L = true := by decide +kernel
def b_law_743 (F : Nat) (xs : Nat → Int32) (Ls : Nat) (self : Nat × Nat → PH → Nat → Nat → Int32 → Option Int32) (cs : Nat × Nat) (h : PH) (v1 : Nat) (v2 : Nat) (v3 : Int32) : Option Int32 := (scr xs Ls ((v3 + (1 : Int32)))).bind fun x1 => ((scr xs Ls ((v3 + (2 : Int32)))).bind fun x2 => ((scr xs Ls ((v3 + (3 : Int32)))).bind fun x3 => (cO 9 h v1 (bind2 (m_X9_alike F h v1 x1 x2 x3) fun x4 h5 => ((scr xs Ls ((v3 + (1 : Int32)))).bind fun x6 => ((scr xs Ls ((v3 + (2 : Int32)))).bind fun x7 => ((scr xs Ls ((v3 + (3 : Int32)))).bind fun x8 => (cO 10 h5 v2 (bind2 (m_X10_alike F h5 v2 x6 x7 x8) fun x9 h10 => (if x4 = x9 then (b_law_1906 F xs Ls self cs h10 v1 v2 v3) else (some (0 : Int32))))))))))))
set_option maxRecDepth 20000 in
theorem t_law_743 {M : MV} {X : XT} {F : Nat} {xs : Nat → Int32} {Ls b : Nat} {self : Nat × Nat → PH → Nat → Nat → Int32 → Option Int32} {cs : Nat × Nat} {h : PH} {v1 : Nat} {v2 : Nat} {v3 : Int32} (hc : Cx M X R_law code) (hr : Rx M 2048 84000 600000 7302250 4) (hL : Lx M X xs Ls b) (hm : cs.1 ≤ 600000) (hs : cs.2 ≤ 7302250) (ih : ∀ (cs : Nat × Nat) (h : PH) (v1 : Nat) (v2 : Nat) (v3 : Int32), cs.1 ≤ 600000 → cs.2 ≤ 7302250 → self cs h v1 v2 v3 = some 1 → GG M X h cs.1 cs.2 18 [(0, .ref b), (1, .ref (X.1 + v1)), (2, .ref (X.1 + v2)), (3, .int v3)] []) (hf : b_law_743 F xs Ls self cs h v1 v2 v3 = some 1) : GG M X h cs.1 cs.2 743 [(0, .ref b), (1, .ref (X.1 + v1)), (2, .ref (X.1 + v2)), (3, .int v3)] [] := by
  unfold b_law_743 at hf
  refine r_aload_n hc 1 (dc_at dL_law_743 0 rfl) rfl ?_
  refine r_aload_n hc 0 (dc_at dL_law_743 1 rfl) rfl ?_
  refine r_iload_n hc 3 (dc_at dL_law_743 2 rfl) rfl ?_
  refine r_iconst (1 : Int32) hc (dc_at dL_law_743 3 rfl) (by decide) ?_
  refine r_iadd hc (dc_at dL_law_743 4 rfl) ?_
  refine r_sload hL hc (dc_at dL_law_743 5 rfl) hf fun x1 hf => ?_
  refine r_aload_n hc 0 (dc_at dL_law_743 6 rfl) rfl ?_
  refine r_iload_n hc 3 (dc_at dL_law_743 7 rfl) rfl ?_
  refine r_iconst (2 : Int32) hc (dc_at dL_law_743 8 rfl) (by decide) ?_
  refine r_iadd hc (dc_at dL_law_743 9 rfl) ?_
  refine r_sload hL hc (dc_at dL_law_743 10 rfl) hf fun x2 hf => ?_
  refine r_aload_n hc 0 (dc_at dL_law_743 11 rfl) rfl ?_
  refine r_iload_n hc 3 (dc_at dL_law_743 12 rfl) rfl ?_
  refine r_iconst (3 : Int32) hc (dc_at dL_law_743 13 rfl) (by decide) ?_
  refine r_iadd hc (dc_at dL_law_743 14 rfl) ?_
  refine r_sload hL hc (dc_at dL_law_743 15 rfl) hf fun x3 hf => ?_
  obtain ⟨ho, hf⟩ := cO_some hf
  refine ob2 hf fun x4 h5 ex hf => ?_
  refine r_callVl (As := [.int x1, .int x2, .int x3]) (ci := 9) hc hr (dc_at dL_law_743 16 rfl) ml_L_79 mv_X9_alike vi_X9_alike rfl ho rfl (mt_X9_alike ex) (Nat.le_of_ble_eq_true rfl) (Nat.le_of_ble_eq_true rfl) (by first | exact Nat.le_of_ble_eq_true rfl | decide) hm hs ?_
  refine r_aload_n hc 2 (dc_at dL_law_743 17 rfl) rfl ?_
  refine r_aload_n hc 0 (dc_at dL_law_743 18 rfl) rfl ?_
  refine r_iload_n hc 3 (dc_at dL_law_743 19 rfl) rfl ?_
  refine r_iconst (1 : Int32) hc (dc_at dL_law_743 20 rfl) (by decide) ?_
  refine r_iadd hc (dc_at dL_law_743 21 rfl) ?_
  refine r_sload hL hc (dc_at dL_law_743 22 rfl) hf fun x6 hf => ?_
  refine r_aload_n hc 0 (dc_at dL_law_743 23 rfl) rfl ?_
  refine r_iload_n hc 3 (dc_at dL_law_743 24 rfl) rfl ?_
  refine r_iconst (2 : Int32) hc (dc_at dL_law_743 25 rfl) (by decide) ?_
  refine r_iadd hc (dc_at dL_law_743 26 rfl) ?_
  refine r_sload hL hc (dc_at dL_law_743 27 rfl) hf fun x7 hf => ?_
  refine r_aload_n hc 0 (dc_at dL_law_743 28 rfl) rfl ?_
  refine r_iload_n hc 3 (dc_at dL_law_743 29 rfl) rfl ?_
  refine r_iconst (3 : Int32) hc (dc_at dL_law_743 30 rfl) (by decide) ?_
  refine r_iadd hc (dc_at dL_law_743 31 rfl) ?_
  refine r_sload hL hc (dc_at dL_law_743 32 rfl) hf fun x8 hf => ?_
  obtain ⟨ho, hf⟩ := cO_some hf
  refine ob2 hf fun x9 h10 ex hf => ?_
  refine r_callVl (As := [.int x6, .int x7, .int x8]) (ci := 10) hc hr (dc_at dL_law_743 33 rfl) ml_L_82 mv_X10_alike vi_X10_alike rfl ho rfl (mt_X10_alike ex) (Nat.le_of_ble_eq_true rfl) (Nat.le_of_ble_eq_true rfl) (by first | exact Nat.le_of_ble_eq_true rfl | decide) hm hs ?_
  refine r_lcmp_eq (tgt := 1906) hc (dc_at dL_law_743 34 rfl) (dc_at dL_law_743 35 rfl) (by decide) hf (fun hf => ?_) (fun hf => ?_)
  · exact gg_sub [0, 1, 2, 3] rfl (t_law_1906 hc hr hL hm hs ih hf)
  · refine r_iconst (0 : Int32) hc (dc_at dL_law_743 36 rfl) (by decide) ?_
    cases hf
def lL_law_434L : List (Nat × Instr × Nat × Nat) := [(434, .aload_n 1, 1, 435), (435, .aload_n 0, 1, 436), (436, .iload_n 3, 1, 437), (437, .iconst 1, 1, 438), (438, .iadd, 1, 439), (439, .iaload, 1, 440), (440, .invokevirtual 40, 3, 443), (443, .aload_n 2, 1, 444), (444, .aload_n 0, 1, 445), (445, .iload_n 3, 1, 446), (446, .iconst 1, 1, 447), (447, .iadd, 1, 448), (448, .iaload, 1, 449), (449, .invokevirtual 43, 3, 452), (452, .if_icmp .eq 1454, 3, 455), (455, .iconst 0, 1, 456), (456, .ireturn, 1, 457)]
set_option maxRecDepth 20000 in
theorem dL_law_434 : dcL cL_law lL_law_434L = true := by decide +kernel
def b_law_434 (F : Nat) (xs : Nat → Int32) (Ls : Nat) (self : Nat × Nat → PH → Nat → Nat → Int32 → Option Int32) (cs : Nat × Nat) (h : PH) (v1 : Nat) (v2 : Nat) (v3 : Int32) : Option Int32 := (scr xs Ls ((v3 + (1 : Int32)))).bind fun x1 => (cO 9 h v1 (bind2 (m_X9_why F h v1 x1) fun x2 h3 => ((scr xs Ls ((v3 + (1 : Int32)))).bind fun x4 => (cO 10 h3 v2 (bind2 (m_X10_why F h3 v2 x4) fun x5 h6 => (if x2 = x5 then (b_law_1906 F xs Ls self cs h6 v1 v2 v3) else (some (0 : Int32))))))))
set_option maxRecDepth 20000 in
theorem t_law_434 {M : MV} {X : XT} {F : Nat} {xs : Nat → Int32} {Ls b : Nat} {self : Nat × Nat → PH → Nat → Nat → Int32 → Option Int32} {cs : Nat × Nat} {h : PH} {v1 : Nat} {v2 : Nat} {v3 : Int32} (hc : Cx M X R_law code) (hr : Rx M 2048 84000 600000 7302250 4) (hL : Lx M X xs Ls b) (hm : cs.1 ≤ 600000) (hs : cs.2 ≤ 7302250) (ih : ∀ (cs : Nat × Nat) (h : PH) (v1 : Nat) (v2 : Nat) (v3 : Int32), cs.1 ≤ 600000 → cs.2 ≤ 7302250 → self cs h v1 v2 v3 = some 1 → GG M X h cs.1 cs.2 18 [(0, .ref b), (1, .ref (X.1 + v1)), (2, .ref (X.1 + v2)), (3, .int v3)] []) (hf : b_law_434 F xs Ls self cs h v1 v2 v3 = some 1) : GG M X h cs.1 cs.2 434 [(0, .ref b), (1, .ref (X.1 + v1)), (2, .ref (X.1 + v2)), (3, .int v3)] [] := by
  unfold b_law_434 at hf
  refine r_aload_n hc 1 (dc_at dL_law_434 0 rfl) rfl ?_
  refine r_aload_n hc 0 (dc_at dL_law_434 1 rfl) rfl ?_
  refine r_iload_n hc 3 (dc_at dL_law_434 2 rfl) rfl ?_
  refine r_iconst (1 : Int32) hc (dc_at dL_law_434 3 rfl) (by decide) ?_
  refine r_iadd hc (dc_at dL_law_434 4 rfl) ?_
  refine r_sload hL hc (dc_at dL_law_434 5 rfl) hf fun x1 hf => ?_
  obtain ⟨ho, hf⟩ := cO_some hf
  refine ob2 hf fun x2 h3 ex hf => ?_
  refine r_callVi (As := [.int x1]) (ci := 9) hc hr (dc_at dL_law_434 6 rfl) ml_L_40 mv_X9_why vi_X9_why rfl ho rfl (mt_X9_why ex) (Nat.le_of_ble_eq_true rfl) (Nat.le_of_ble_eq_true rfl) (by first | exact Nat.le_of_ble_eq_true rfl | decide) hm hs ?_
  refine r_aload_n hc 2 (dc_at dL_law_434 7 rfl) rfl ?_
  refine r_aload_n hc 0 (dc_at dL_law_434 8 rfl) rfl ?_
  refine r_iload_n hc 3 (dc_at dL_law_434 9 rfl) rfl ?_
  refine r_iconst (1 : Int32) hc (dc_at dL_law_434 10 rfl) (by decide) ?_
  refine r_iadd hc (dc_at dL_law_434 11 rfl) ?_
  refine r_sload hL hc (dc_at dL_law_434 12 rfl) hf fun x4 hf => ?_
  obtain ⟨ho, hf⟩ := cO_some hf
  refine ob2 hf fun x5 h6 ex hf => ?_
  refine r_callVi (As := [.int x4]) (ci := 10) hc hr (dc_at dL_law_434 13 rfl) ml_L_43 mv_X10_why vi_X10_why rfl ho rfl (mt_X10_why ex) (Nat.le_of_ble_eq_true rfl) (Nat.le_of_ble_eq_true rfl) (by first | exact Nat.le_of_ble_eq_true rfl | decide) hm hs ?_
  refine r_icmp_eq (tgt := 1906) hc (dc_at dL_law_434 14 rfl) (by decide) hf (fun hf => ?_) (fun hf => ?_)
  · exact gg_sub [0, 1, 2, 3] rfl (t_law_1906 hc hr hL hm hs ih hf)
  · refine r_iconst (0 : Int32) hc (dc_at dL_law_434 15 rfl) (by decide) ?_
    cases hf
