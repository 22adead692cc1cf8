def lL_law_236L : List (Nat × Instr × Nat × Nat) := [(236, .aload_n 1, 1, 237), (237, .aload_n 0, 1, 238), (238, .iload_n 3, 1, 239), (239, .iconst 1, 1, 240), (240, .iadd, 1, 241), (241, .iaload, 1, 242), (242, .aload_n 0, 1, 243), (243, .iload_n 3, 1, 244), (244, .iconst 2, 1, 245), (245, .iadd, 1, 246), (246, .iaload, 1, 247), (247, .aload_n 0, 1, 248), (248, .iload_n 3, 1, 249), (249, .iconst 3, 1, 250), (250, .iadd, 1, 251), (251, .iaload, 1, 252), (252, .aload_n 0, 1, 253), (253, .iload_n 3, 1, 254), (254, .iconst 4, 1, 255), (255, .iadd, 1, 256), (256, .iaload, 1, 257), (257, .aload_n 0, 1, 258), (258, .iload_n 3, 1, 259), (259, .iconst 5, 1, 260), (260, .iadd, 1, 261), (261, .iaload, 1, 262), (262, .invokevirtual 13, 3, 265), (265, .aload_n 2, 1, 266), (266, .aload_n 0, 1, 267), (267, .iload_n 3, 1, 268), (268, .iconst 1, 1, 269), (269, .iadd, 1, 270), (270, .iaload, 1, 271), (271, .aload_n 0, 1, 272), (272, .iload_n 3, 1, 273), (273, .iconst 2, 1, 274), (274, .iadd, 1, 275), (275, .iaload, 1, 276), (276, .aload_n 0, 1, 277), (277, .iload_n 3, 1, 278), (278, .iconst 3, 1, 279), (279, .iadd, 1, 280), (280, .iaload, 1, 281), (281, .aload_n 0, 1, 282), (282, .iload_n 3, 1, 283), (283, .iconst 4, 1, 284), (284, .iadd, 1, 285), (285, .iaload, 1, 286), (286, .aload_n 0, 1, 287), (287, .iload_n 3, 1, 288), (288, .iconst 5, 1, 289), (289, .iadd, 1, 290), (290, .iaload, 1, 291), (291, .invokevirtual 17, 3, 294), (294, .if_icmp .eq 1612, 3, 297), (297, .iconst 0, 1, 298), (298, .ireturn, 1, 299)]
set_option maxRecDepth 20000 in
theorem dL_law_236 : dcL cL_law lL_law_236L = true := by decide +kernel
def b_law_236 (F : Nat) (xs : Nat → Int32) (Ls : Nat) (self : Nat × Nat → PH → Nat → Nat → Int32 → Option Int32) (cs : Nat × Nat) (h : PH) (v1 : Nat) (v2 : Nat) (v3 : Int32) : Option Int32 := (scr xs Ls ((v3 + (1 : Int32)))).bind fun x1 => ((scr xs Ls ((v3 + (2 : Int32)))).bind fun x2 => ((scr xs Ls ((v3 + (3 : Int32)))).bind fun x3 => ((scr xs Ls ((v3 + (4 : Int32)))).bind fun x4 => ((scr xs Ls ((v3 + (5 : Int32)))).bind fun x5 => (cO 9 h v1 (bind2 (m_X9_feed F h v1 x1 x2 x3 x4 x5) fun x6 h7 => ((scr xs Ls ((v3 + (1 : Int32)))).bind fun x8 => ((scr xs Ls ((v3 + (2 : Int32)))).bind fun x9 => ((scr xs Ls ((v3 + (3 : Int32)))).bind fun x10 => ((scr xs Ls ((v3 + (4 : Int32)))).bind fun x11 => ((scr xs Ls ((v3 + (5 : Int32)))).bind fun x12 => (cO 10 h7 v2 (bind2 (m_X10_feed F h7 v2 x8 x9 x10 x11 x12) fun x13 h14 => (if x6 = x13 then (b_law_1906 F xs Ls self cs h14 v1 v2 v3) else (some (0 : Int32))))))))))))))))
set_option maxRecDepth 20000 in
theorem t_law_236 {M : MV} {X : XT} {F : Nat} {xs : Nat → Int32} {Ls b : Nat} {self : Nat × Nat → PH → Nat → Nat → Int32 → Option Int32} {cs : Nat × Nat} {h : PH} {v1 : Nat} {v2 : Nat} {v3 : Int32} (hc : Cx M X R_law code) (hr : Rx M 2048 84000 600000 7302250 4) (hL : Lx M X xs Ls b) (hm : cs.1 ≤ 600000) (hs : cs.2 ≤ 7302250) (ih : ∀ (cs : Nat × Nat) (h : PH) (v1 : Nat) (v2 : Nat) (v3 : Int32), cs.1 ≤ 600000 → cs.2 ≤ 7302250 → self cs h v1 v2 v3 = some 1 → GG M X h cs.1 cs.2 18 [(0, .ref b), (1, .ref (X.1 + v1)), (2, .ref (X.1 + v2)), (3, .int v3)] []) (hf : b_law_236 F xs Ls self cs h v1 v2 v3 = some 1) : GG M X h cs.1 cs.2 236 [(0, .ref b), (1, .ref (X.1 + v1)), (2, .ref (X.1 + v2)), (3, .int v3)] [] := by
  unfold b_law_236 at hf
  refine r_aload_n hc 1 (dc_at dL_law_236 0 rfl) rfl ?_
  refine r_aload_n hc 0 (dc_at dL_law_236 1 rfl) rfl ?_
  refine r_iload_n hc 3 (dc_at dL_law_236 2 rfl) rfl ?_
  refine r_iconst (1 : Int32) hc (dc_at dL_law_236 3 rfl) (by decide) ?_
  refine r_iadd hc (dc_at dL_law_236 4 rfl) ?_
  refine r_sload hL hc (dc_at dL_law_236 5 rfl) hf fun x1 hf => ?_
  refine r_aload_n hc 0 (dc_at dL_law_236 6 rfl) rfl ?_
  refine r_iload_n hc 3 (dc_at dL_law_236 7 rfl) rfl ?_
  refine r_iconst (2 : Int32) hc (dc_at dL_law_236 8 rfl) (by decide) ?_
  refine r_iadd hc (dc_at dL_law_236 9 rfl) ?_
  refine r_sload hL hc (dc_at dL_law_236 10 rfl) hf fun x2 hf => ?_
  refine r_aload_n hc 0 (dc_at dL_law_236 11 rfl) rfl ?_
  refine r_iload_n hc 3 (dc_at dL_law_236 12 rfl) rfl ?_
  refine r_iconst (3 : Int32) hc (dc_at dL_law_236 13 rfl) (by decide) ?_
  refine r_iadd hc (dc_at dL_law_236 14 rfl) ?_
  refine r_sload hL hc (dc_at dL_law_236 15 rfl) hf fun x3 hf => ?_
  refine r_aload_n hc 0 (dc_at dL_law_236 16 rfl) rfl ?_
  refine r_iload_n hc 3 (dc_at dL_law_236 17 rfl) rfl ?_
  refine r_iconst (4 : Int32) hc (dc_at dL_law_236 18 rfl) (by decide) ?_
  refine r_iadd hc (dc_at dL_law_236 19 rfl) ?_
  refine r_sload hL hc (dc_at dL_law_236 20 rfl) hf fun x4 hf => ?_
  refine r_aload_n hc 0 (dc_at dL_law_236 21 rfl) rfl ?_
  refine r_iload_n hc 3 (dc_at dL_law_236 22 rfl) rfl ?_
  refine r_iconst (5 : Int32) hc (dc_at dL_law_236 23 rfl) (by decide) ?_
  refine r_iadd hc (dc_at dL_law_236 24 rfl) ?_
  refine r_sload hL hc (dc_at dL_law_236 25 rfl) hf fun x5 hf => ?_
  obtain ⟨ho, hf⟩ := cO_some hf
  refine ob2 hf fun x6 h7 ex hf => ?_
  refine r_callVi (As := [.int x1, .int x2, .int x3, .int x4, .int x5]) (ci := 9) hc hr (dc_at dL_law_236 26 rfl) ml_L_13 mv_X9_feed vi_X9_feed rfl ho rfl (mt_X9_feed ex) (Nat.le_of_ble_eq_true rfl) (Nat.le_of_ble_eq_true rfl) (by first | exact Nat.le_of_ble_eq_true rfl | decide) hm hs ?_
  refine r_aload_n hc 2 (dc_at dL_law_236 27 rfl) rfl ?_
  refine r_aload_n hc 0 (dc_at dL_law_236 28 rfl) rfl ?_
  refine r_iload_n hc 3 (dc_at dL_law_236 29 rfl) rfl ?_
  refine r_iconst (1 : Int32) hc (dc_at dL_law_236 30 rfl) (by decide) ?_
  refine r_iadd hc (dc_at dL_law_236 31 rfl) ?_
  refine r_sload hL hc (dc_at dL_law_236 32 rfl) hf fun x8 hf => ?_
  refine r_aload_n hc 0 (dc_at dL_law_236 33 rfl) rfl ?_
  refine r_iload_n hc 3 (dc_at dL_law_236 34 rfl) rfl ?_
  refine r_iconst (2 : Int32) hc (dc_at dL_law_236 35 rfl) (by decide) ?_
  refine r_iadd hc (dc_at dL_law_236 36 rfl) ?_
  refine r_sload hL hc (dc_at dL_law_236 37 rfl) hf fun x9 hf => ?_
  refine r_aload_n hc 0 (dc_at dL_law_236 38 rfl) rfl ?_
  refine r_iload_n hc 3 (dc_at dL_law_236 39 rfl) rfl ?_
  refine r_iconst (3 : Int32) hc (dc_at dL_law_236 40 rfl) (by decide) ?_
  refine r_iadd hc (dc_at dL_law_236 41 rfl) ?_
  refine r_sload hL hc (dc_at dL_law_236 42 rfl) hf fun x10 hf => ?_
  refine r_aload_n hc 0 (dc_at dL_law_236 43 rfl) rfl ?_
  refine r_iload_n hc 3 (dc_at dL_law_236 44 rfl) rfl ?_
  refine r_iconst (4 : Int32) hc (dc_at dL_law_236 45 rfl) (by decide) ?_
  refine r_iadd hc (dc_at dL_law_236 46 rfl) ?_
  refine r_sload hL hc (dc_at dL_law_236 47 rfl) hf fun x11 hf => ?_
  refine r_aload_n hc 0 (dc_at dL_law_236 48 rfl) rfl ?_
  refine r_iload_n hc 3 (dc_at dL_law_236 49 rfl) rfl ?_
  refine r_iconst (5 : Int32) hc (dc_at dL_law_236 50 rfl) (by decide) ?_
  refine r_iadd hc (dc_at dL_law_236 51 rfl) ?_
  refine r_sload hL hc (dc_at dL_law_236 52 rfl) hf fun x12 hf => ?_
  obtain ⟨ho, hf⟩ := cO_some hf
  refine ob2 hf fun x13 h14 ex hf => ?_
  refine r_callVi (As := [.int x8, .int x9, .int x10, .int x11, .int x12]) (ci := 10) hc hr (dc_at dL_law_236 53 rfl) ml_L_17 mv_X10_feed vi_X10_feed rfl ho rfl (mt_X10_feed ex) (Nat.le_of_ble_eq_true rfl) (Nat.le_of_ble_eq_true rfl) (by first | exact Nat.le_of_ble_eq_true rfl | decide) hm hs ?_
  refine r_icmp_eq (tgt := 1906) hc (dc_at dL_law_236 54 rfl) (by decide) hf (fun hf => ?_) (fun hf => ?_)
  · exact gg_sub [0, 1, 2, 3] rfl (t_law_1906 hc hr hL hm hs ih hf)
  · refine r_iconst (0 : Int32) hc (dc_at dL_law_236 55 rfl) (by decide) ?_
    cases hf
