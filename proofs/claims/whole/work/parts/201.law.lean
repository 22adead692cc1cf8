def lL_law_843L : List (Nat × Instr × Nat × Nat) := [(843, .aload_n 1, 1, 844), (844, .aload_n 0, 1, 845), (845, .iload_n 3, 1, 846), (846, .iconst 1, 1, 847), (847, .iadd, 1, 848), (848, .iaload, 1, 849), (849, .aload_n 0, 1, 850), (850, .iload_n 3, 1, 851), (851, .iconst 2, 1, 852), (852, .iadd, 1, 853), (853, .iaload, 1, 854), (854, .aload_n 0, 1, 855), (855, .iload_n 3, 1, 856), (856, .iconst 3, 1, 857), (857, .iadd, 1, 858), (858, .iaload, 1, 859), (859, .invokevirtual 91, 3, 862), (862, .aload_n 2, 1, 863), (863, .aload_n 0, 1, 864), (864, .iload_n 3, 1, 865), (865, .iconst 1, 1, 866), (866, .iadd, 1, 867), (867, .iaload, 1, 868), (868, .aload_n 0, 1, 869), (869, .iload_n 3, 1, 870), (870, .iconst 2, 1, 871), (871, .iadd, 1, 872), (872, .iaload, 1, 873), (873, .aload_n 0, 1, 874), (874, .iload_n 3, 1, 875), (875, .iconst 3, 1, 876), (876, .iadd, 1, 877), (877, .iaload, 1, 878), (878, .invokevirtual 95, 3, 881), (881, .if_icmp .eq 1025, 3, 884), (884, .iconst 0, 1, 885), (885, .ireturn, 1, 886)]
set_option maxRecDepth 20000 in
theorem dL_law_843 : dcL cL_law lL_law_843L = true := by decide +kernel
def b_law_843 (F : Nat) (xs : Nat → Int32) (Ls : Nat) (self : Nat × Nat → PH → Nat → Nat → Int32 → Option Int32) (cs : Nat × Nat) (h : PH) (v1 : Nat) (v2 : Nat) (v3 : Int32) : Option Int32 := (scr xs Ls ((v3 + (1 : Int32)))).bind fun x1 => ((scr xs Ls ((v3 + (2 : Int32)))).bind fun x2 => ((scr xs Ls ((v3 + (3 : Int32)))).bind fun x3 => (bud (kost (mq_X9_fewest F h v1 x1 x2 x3).isNone 10 46057) cs fun cs6 => (cO 9 h v1 (bind2 (m_X9_fewest F h v1 x1 x2 x3) fun x4 h5 => ((scr xs Ls ((v3 + (1 : Int32)))).bind fun x7 => ((scr xs Ls ((v3 + (2 : Int32)))).bind fun x8 => ((scr xs Ls ((v3 + (3 : Int32)))).bind fun x9 => (cO 10 h5 v2 (bind2 (m_X10_fewest F h5 v2 x7 x8 x9) fun x10 h11 => (if x4 = x10 then (b_law_1906 F xs Ls self cs6 h11 v1 v2 v3) else (some (0 : Int32)))))))))))))
set_option maxRecDepth 20000 in
theorem t_law_843 {M : MV} {X : XT} {F : Nat} {xs : Nat → Int32} {Ls b : Nat} {self : Nat × Nat → PH → Nat → Nat → Int32 → Option Int32} {cs : Nat × Nat} {h : PH} {v1 : Nat} {v2 : Nat} {v3 : Int32} (hc : Cx M X R_law code) (hr : Rx M 2048 84000 600000 7302250 4) (hL : Lx M X xs Ls b) (hm : cs.1 ≤ 600000) (hs : cs.2 ≤ 7302250) (ih : ∀ (cs : Nat × Nat) (h : PH) (v1 : Nat) (v2 : Nat) (v3 : Int32), cs.1 ≤ 600000 → cs.2 ≤ 7302250 → self cs h v1 v2 v3 = some 1 → GG M X h cs.1 cs.2 18 [(0, .ref b), (1, .ref (X.1 + v1)), (2, .ref (X.1 + v2)), (3, .int v3)] []) (hf : b_law_843 F xs Ls self cs h v1 v2 v3 = some 1) : GG M X h cs.1 cs.2 843 [(0, .ref b), (1, .ref (X.1 + v1)), (2, .ref (X.1 + v2)), (3, .int v3)] [] := by
  unfold b_law_843 at hf
  refine r_aload_n hc 1 (dc_at dL_law_843 0 rfl) rfl ?_
  refine r_aload_n hc 0 (dc_at dL_law_843 1 rfl) rfl ?_
  refine r_iload_n hc 3 (dc_at dL_law_843 2 rfl) rfl ?_
  refine r_iconst (1 : Int32) hc (dc_at dL_law_843 3 rfl) (by decide) ?_
  refine r_iadd hc (dc_at dL_law_843 4 rfl) ?_
  refine r_sload hL hc (dc_at dL_law_843 5 rfl) hf fun x1 hf => ?_
  refine r_aload_n hc 0 (dc_at dL_law_843 6 rfl) rfl ?_
  refine r_iload_n hc 3 (dc_at dL_law_843 7 rfl) rfl ?_
  refine r_iconst (2 : Int32) hc (dc_at dL_law_843 8 rfl) (by decide) ?_
  refine r_iadd hc (dc_at dL_law_843 9 rfl) ?_
  refine r_sload hL hc (dc_at dL_law_843 10 rfl) hf fun x2 hf => ?_
  refine r_aload_n hc 0 (dc_at dL_law_843 11 rfl) rfl ?_
  refine r_iload_n hc 3 (dc_at dL_law_843 12 rfl) rfl ?_
  refine r_iconst (3 : Int32) hc (dc_at dL_law_843 13 rfl) (by decide) ?_
  refine r_iadd hc (dc_at dL_law_843 14 rfl) ?_
  refine r_sload hL hc (dc_at dL_law_843 15 rfl) hf fun x3 hf => ?_
  refine obud hf fun cs6 k1 k2 k3 k4 hm2 hs2 hf => ?_
  obtain ⟨ho, hf⟩ := cO_some hf
  refine ob2 hf fun x4 h5 ex hf => ?_
  refine r_callViC (As := [.int x1, .int x2, .int x3]) (ci := 9) hc hr (dc_at dL_law_843 16 rfl) ml_L_91 mv_X9_fewest vi_X9_fewest rfl ho rfl (mtk_X9_fewest ex) (Nat.le_of_ble_eq_true rfl) (Nat.le_of_ble_eq_true rfl) (by first | exact Nat.le_of_ble_eq_true rfl | decide) k1 k2 ?_
  rw [← k3, ← k4]
  clear hm hs
  have hm := hm2
  have hs := hs2
  refine r_aload_n hc 2 (dc_at dL_law_843 17 rfl) rfl ?_
  refine r_aload_n hc 0 (dc_at dL_law_843 18 rfl) rfl ?_
  refine r_iload_n hc 3 (dc_at dL_law_843 19 rfl) rfl ?_
  refine r_iconst (1 : Int32) hc (dc_at dL_law_843 20 rfl) (by decide) ?_
  refine r_iadd hc (dc_at dL_law_843 21 rfl) ?_
  refine r_sload hL hc (dc_at dL_law_843 22 rfl) hf fun x7 hf => ?_
  refine r_aload_n hc 0 (dc_at dL_law_843 23 rfl) rfl ?_
  refine r_iload_n hc 3 (dc_at dL_law_843 24 rfl) rfl ?_
  refine r_iconst (2 : Int32) hc (dc_at dL_law_843 25 rfl) (by decide) ?_
  refine r_iadd hc (dc_at dL_law_843 26 rfl) ?_
  refine r_sload hL hc (dc_at dL_law_843 27 rfl) hf fun x8 hf => ?_
  refine r_aload_n hc 0 (dc_at dL_law_843 28 rfl) rfl ?_
  refine r_iload_n hc 3 (dc_at dL_law_843 29 rfl) rfl ?_
  refine r_iconst (3 : Int32) hc (dc_at dL_law_843 30 rfl) (by decide) ?_
  refine r_iadd hc (dc_at dL_law_843 31 rfl) ?_
  refine r_sload hL hc (dc_at dL_law_843 32 rfl) hf fun x9 hf => ?_
  obtain ⟨ho, hf⟩ := cO_some hf
  refine ob2 hf fun x10 h11 ex hf => ?_
  refine r_callVi (As := [.int x7, .int x8, .int x9]) (ci := 10) hc hr (dc_at dL_law_843 33 rfl) ml_L_95 mv_X10_fewest vi_X10_fewest rfl ho rfl (mt_X10_fewest ex) (Nat.le_of_ble_eq_true rfl) (Nat.le_of_ble_eq_true rfl) (by first | exact Nat.le_of_ble_eq_true rfl | decide) hm hs ?_
  refine r_icmp_eq (tgt := 1906) hc (dc_at dL_law_843 34 rfl) (by decide) hf (fun hf => ?_) (fun hf => ?_)
  · exact gg_sub [0, 1, 2, 3] rfl (t_law_1906 hc hr hL hm hs ih hf)
  · refine r_iconst (0 : Int32) hc (dc_at dL_law_843 35 rfl) (by decide) ?_
    cases hf
def lL_law_533L : List (Nat × Instr × Nat × Nat) := [(533, .aload_n 1, 1, 534), (534, .aload_n 0, 1, 535), (535, .iload_n 3, 1, 536), (536, .iconst 1, 1, 537), (537, .iadd, 1, 538), (538, .iaload, 1, 539), (539, .invokevirtual 53, 3, 542), (542, .aload_n 2, 1, 543), (543, .aload_n 0, 1, 544), (544, .iload_n 3, 1, 545), (545, .iconst 1, 1, 546), (546, .iadd, 1, 547), (547, .iaload, 1, 548), (548, .invokevirtual 56, 3, 551), (551, .if_icmp .eq 1355, 3, 554), (554, .iconst 0, 1, 555), (555, .ireturn, 1, 556)]
set_option maxRecDepth 20000 in
theorem dL_law_533 : dcL cL_law lL_law_533L = true := by decide +kernel
def b_law_533 (F : Nat) (xs : Nat → Int32) (Ls : Nat) (self : Nat × Nat → PH → Nat → Nat → Int32 → Option Int32) (cs : Nat × Nat) (h : PH) (v1 : Nat) (v2 : Nat) (v3 : Int32) : Option Int32 := (scr xs Ls ((v3 + (1 : Int32)))).bind fun x1 => (cO 9 h v1 (bind2 (m_X9_undo h v1 x1) fun x2 h3 => ((scr xs Ls ((v3 + (1 : Int32)))).bind fun x4 => (cO 10 h3 v2 (bind2 (m_X10_undo h3 v2 x4) fun x5 h6 => (if x2 = x5 then (b_law_1906 F xs Ls self cs h6 v1 v2 v3) else (some (0 : Int32))))))))
set_option maxRecDepth 20000 in
theorem t_law_533 {M : MV} {X : XT} {F : Nat} {xs : Nat → Int32} {Ls b : Nat} {self : Nat × Nat → PH → Nat → Nat → Int32 → Option Int32} {cs : Nat × Nat} {h : PH} {v1 : Nat} {v2 : Nat} {v3 : Int32} (hc : Cx M X R_law code) (hr : Rx M 2048 84000 600000 7302250 4) (hL : Lx M X xs Ls b) (hm : cs.1 ≤ 600000) (hs : cs.2 ≤ 7302250) (ih : ∀ (cs : Nat × Nat) (h : PH) (v1 : Nat) (v2 : Nat) (v3 : Int32), cs.1 ≤ 600000 → cs.2 ≤ 7302250 → self cs h v1 v2 v3 = some 1 → GG M X h cs.1 cs.2 18 [(0, .ref b), (1, .ref (X.1 + v1)), (2, .ref (X.1 + v2)), (3, .int v3)] []) (hf : b_law_533 F xs Ls self cs h v1 v2 v3 = some 1) : GG M X h cs.1 cs.2 533 [(0, .ref b), (1, .ref (X.1 + v1)), (2, .ref (X.1 + v2)), (3, .int v3)] [] := by
  unfold b_law_533 at hf
  refine r_aload_n hc 1 (dc_at dL_law_533 0 rfl) rfl ?_
  refine r_aload_n hc 0 (dc_at dL_law_533 1 rfl) rfl ?_
  refine r_iload_n hc 3 (dc_at dL_law_533 2 rfl) rfl ?_
  refine r_iconst (1 : Int32) hc (dc_at dL_law_533 3 rfl) (by decide) ?_
  refine r_iadd hc (dc_at dL_law_533 4 rfl) ?_
  refine r_sload hL hc (dc_at dL_law_533 5 rfl) hf fun x1 hf => ?_
  obtain ⟨ho, hf⟩ := cO_some hf
  refine ob2 hf fun x2 h3 ex hf => ?_
  refine r_callVi (As := [.int x1]) (ci := 9) hc hr (dc_at dL_law_533 6 rfl) ml_L_53 mv_X9_undo vi_X9_undo rfl ho rfl (mt_X9_undo ex) (Nat.le_of_ble_eq_true rfl) (Nat.le_of_ble_eq_true rfl) (by first | exact Nat.le_of_ble_eq_true rfl | decide) hm hs ?_
  refine r_aload_n hc 2 (dc_at dL_law_533 7 rfl) rfl ?_
  refine r_aload_n hc 0 (dc_at dL_law_533 8 rfl) rfl ?_
  refine r_iload_n hc 3 (dc_at dL_law_533 9 rfl) rfl ?_
  refine r_iconst (1 : Int32) hc (dc_at dL_law_533 10 rfl) (by decide) ?_
  refine r_iadd hc (dc_at dL_law_533 11 rfl) ?_
  refine r_sload hL hc (dc_at dL_law_533 12 rfl) hf fun x4 hf => ?_
  obtain ⟨ho, hf⟩ := cO_some hf
  refine ob2 hf fun x5 h6 ex hf => ?_
  refine r_callVi (As := [.int x4]) (ci := 10) hc hr (dc_at dL_law_533 13 rfl) ml_L_56 mv_X10_undo vi_X10_undo rfl ho rfl (mt_X10_undo ex) (Nat.le_of_ble_eq_true rfl) (Nat.le_of_ble_eq_true rfl) (by first | exact Nat.le_of_ble_eq_true rfl | decide) hm hs ?_
  refine r_icmp_eq (tgt := 1906) hc (dc_at dL_law_533 14 rfl) (by decide) hf (fun hf => ?_) (fun hf => ?_)
  · exact gg_sub [0, 1, 2, 3] rfl (t_law_1906 hc hr hL hm hs ih hf)
  · refine r_iconst (0 : Int32) hc (dc_at dL_law_533 15 rfl) (by decide) ?_
    cases hf
