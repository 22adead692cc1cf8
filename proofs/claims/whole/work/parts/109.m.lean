/-! FractionLiftModel.presses(I)I -/
def lX10_pressesL : List (Nat × Instr × Nat × Nat) := [(0, .aload_n 0, 1, 1), (1, .iload_n 1, 1, 2), (2, .invokevirtual 279, 3, 5), (5, .istore_n 2, 1, 6), (6, .iload_n 2, 1, 7), (7, .ifCond .eq 5, 3, 10), (10, .iload_n 2, 1, 11), (11, .ireturn, 1, 12), (12, .aload_n 0, 1, 13), (13, .getfield 13, 3, 16), (16, .bipush 73, 2, 18), (18, .iaload, 1, 19), (19, .bipush 12, 2, 21), (21, .if_icmp .ne 68, 3, 24), (24, .iconst 0, 1, 25), (25, .istore_n 3, 1, 26), (26, .iload_n 3, 1, 27), (27, .bipush 11, 2, 29), (29, .if_icmp .ge 49, 3, 32), (32, .aload_n 0, 1, 33), (33, .getfield 13, 3, 36), (36, .bipush 74, 2, 38), (38, .iload_n 3, 1, 39), (39, .iadd, 1, 40), (40, .aload_n 0, 1, 41), (41, .getfield 13, 3, 44), (44, .bipush 74, 2, 46), (46, .iload_n 3, 1, 47), (47, .iadd, 1, 48), (48, .iconst 1, 1, 49), (49, .iadd, 1, 50), (50, .iaload, 1, 51), (51, .iastore, 1, 52), (52, .aload_n 0, 1, 53), (53, .getfield 13, 3, 56), (56, .bipush 86, 2, 58), (58, .iload_n 3, 1, 59), (59, .iadd, 1, 60), (60, .aload_n 0, 1, 61), (61, .getfield 13, 3, 64), (64, .bipush 86, 2, 66), (66, .iload_n 3, 1, 67), (67, .iadd, 1, 68), (68, .iconst 1, 1, 69), (69, .iadd, 1, 70), (70, .iaload, 1, 71), (71, .iastore, 1, 72), (72, .iinc 3 1, 3, 75), (75, .goto (-49), 3, 78), (78, .aload_n 0, 1, 79), (79, .getfield 13, 3, 82), (82, .bipush 73, 2, 84), (84, .dup2, 1, 85), (85, .iaload, 1, 86), (86, .iconst 1, 1, 87), (87, .isub, 1, 88), (88, .iastore, 1, 89), (89, .aload_n 0, 1, 90), (90, .getfield 13, 3, 93), (93, .bipush 74, 2, 95), (95, .aload_n 0, 1, 96), (96, .getfield 13, 3, 99), (99, .bipush 73, 2, 101), (101, .iaload, 1, 102), (102, .iadd, 1, 103), (103, .aload_n 0, 1, 104), (104, .getfield 13, 3, 107), (107, .bipush 7, 2, 109), (109, .iaload, 1, 110), (110, .iastore, 1, 111), (111, .aload_n 0, 1, 112), (112, .getfield 13, 3, 115), (115, .bipush 86, 2, 117), (117, .aload_n 0, 1, 118), (118, .getfield 13, 3, 121), (121, .bipush 73, 2, 123), (123, .iaload, 1, 124), (124, .iadd, 1, 125), (125, .aload_n 0, 1, 126), (126, .getfield 13, 3, 129), (129, .bipush 8, 2, 131), (131, .iaload, 1, 132), (132, .iastore, 1, 133), (133, .aload_n 0, 1, 134), (134, .getfield 13, 3, 137), (137, .bipush 73, 2, 139), (139, .dup2, 1, 140), (140, .iaload, 1, 141), (141, .iconst 1, 1, 142), (142, .iadd, 1, 143), (143, .iastore, 1, 144), (144, .aload_n 0, 1, 145), (145, .getfield 13, 3, 148), (148, .bipush 7, 2, 150), (150, .aload_n 0, 1, 151), (151, .getfield 180, 3, 154), (154, .l2i, 1, 155), (155, .iastore, 1, 156), (156, .aload_n 0, 1, 157), (157, .getfield 13, 3, 160), (160, .bipush 8, 2, 162), (162, .aload_n 0, 1, 163), (163, .getfield 184, 3, 166), (166, .l2i, 1, 167), (167, .iastore, 1, 168), (168, .aload_n 0, 1, 169), (169, .getfield 13, 3, 172), (172, .bipush 6, 2, 174), (174, .dup2, 1, 175), (175, .iaload, 1, 176), (176, .iconst 1, 1, 177), (177, .iadd, 1, 178), (178, .iastore, 1, 179), (179, .iconst 0, 1, 180), (180, .ireturn, 1, 181)]
set_option maxRecDepth 20000 in
theorem dX10_presses : dcL cX10_presses lX10_pressesL = true := by decide +kernel
def b_X10_presses_89 (F : Nat) (h : PH) (v0 : Nat) : Option (Int32 × PH) := (gR 10 1 h v0).bind fun a1 => ((gR 10 1 h v0).bind fun a2 => ((aI 0 h a2 (73 : Int32)).bind fun x3 => ((gR 10 1 h v0).bind fun a4 => ((aI 0 h a4 (7 : Int32)).bind fun x5 => ((sI 0 h a1 (((74 : Int32) + x3)) x5).bind fun h6 => ((gR 10 1 h6 v0).bind fun a7 => ((gR 10 1 h6 v0).bind fun a8 => ((aI 0 h6 a8 (73 : Int32)).bind fun x9 => ((gR 10 1 h6 v0).bind fun a10 => ((aI 0 h6 a10 (8 : Int32)).bind fun x11 => ((sI 0 h6 a7 (((86 : Int32) + x9)) x11).bind fun h12 => ((gR 10 1 h12 v0).bind fun a13 => ((aI 0 h12 a13 (73 : Int32)).bind fun x14 => ((sI 0 h12 a13 (73 : Int32) ((x14 + (1 : Int32)))).bind fun h15 => ((gR 10 1 h15 v0).bind fun a16 => ((gL 10 15 h15 v0).bind fun x17 => ((sI 0 h15 a16 (7 : Int32) (Int64.toInt32 x17)).bind fun h18 => ((gR 10 1 h18 v0).bind fun a19 => ((gL 10 16 h18 v0).bind fun x20 => ((sI 0 h18 a19 (8 : Int32) (Int64.toInt32 x20)).bind fun h21 => ((gR 10 1 h21 v0).bind fun a22 => ((aI 0 h21 a22 (6 : Int32)).bind fun x23 => ((sI 0 h21 a22 (6 : Int32) ((x23 + (1 : Int32)))).bind fun h24 => (some ((0 : Int32), h24)))))))))))))))))))))))))
set_option maxRecDepth 20000 in
theorem t_X10_presses_89 {M : MV} {X : XT} {F : Nat} {h hz : PH} {r : Int32} {ce sl mc ms : Nat} {v0 : Nat} (hc : Cx M X RX10 cX10_presses) (hr : Rx M 137 7948 mc ms 4) (he : Ex M X (some .int) "presses" (some (.int r)) hz mc ms) (hm : ce ≤ mc) (hs : sl ≤ ms) (hf : b_X10_presses_89 F h v0 = some (r, hz)) : GG M X h ce sl 89 [(0, .ref (X.1 + v0))] [] := by
  unfold b_X10_presses_89 at hf
  refine r_aload_n hc 0 (dc_at dX10_presses 57 rfl) rfl ?_
  refine r_getR hc (dc_at dX10_presses 58 rfl) fl_X10_13 hf fun a1 hf => ?_
  refine r_bipush (74 : Int32) hc (dc_at dX10_presses 59 rfl) (by decide) ?_
  refine r_aload_n hc 0 (dc_at dX10_presses 60 rfl) rfl ?_
  refine r_getR hc (dc_at dX10_presses 61 rfl) fl_X10_13 hf fun a2 hf => ?_
  refine r_bipush (73 : Int32) hc (dc_at dX10_presses 62 rfl) (by decide) ?_
  refine r_iaload hc (dc_at dX10_presses 63 rfl) hf fun x3 hf => ?_
  refine r_iadd hc (dc_at dX10_presses 64 rfl) ?_
  refine r_aload_n hc 0 (dc_at dX10_presses 65 rfl) rfl ?_
  refine r_getR hc (dc_at dX10_presses 66 rfl) fl_X10_13 hf fun a4 hf => ?_
  refine r_bipush (7 : Int32) hc (dc_at dX10_presses 67 rfl) (by decide) ?_
  refine r_iaload hc (dc_at dX10_presses 68 rfl) hf fun x5 hf => ?_
  refine r_iastore hc (dc_at dX10_presses 69 rfl) hf fun h6 hf => ?_
  refine r_aload_n hc 0 (dc_at dX10_presses 70 rfl) rfl ?_
  refine r_getR hc (dc_at dX10_presses 71 rfl) fl_X10_13 hf fun a7 hf => ?_
  refine r_bipush (86 : Int32) hc (dc_at dX10_presses 72 rfl) (by decide) ?_
  refine r_aload_n hc 0 (dc_at dX10_presses 73 rfl) rfl ?_
  refine r_getR hc (dc_at dX10_presses 74 rfl) fl_X10_13 hf fun a8 hf => ?_
  refine r_bipush (73 : Int32) hc (dc_at dX10_presses 75 rfl) (by decide) ?_
  refine r_iaload hc (dc_at dX10_presses 76 rfl) hf fun x9 hf => ?_
  refine r_iadd hc (dc_at dX10_presses 77 rfl) ?_
  refine r_aload_n hc 0 (dc_at dX10_presses 78 rfl) rfl ?_
  refine r_getR hc (dc_at dX10_presses 79 rfl) fl_X10_13 hf fun a10 hf => ?_
  refine r_bipush (8 : Int32) hc (dc_at dX10_presses 80 rfl) (by decide) ?_
  refine r_iaload hc (dc_at dX10_presses 81 rfl) hf fun x11 hf => ?_
  refine r_iastore hc (dc_at dX10_presses 82 rfl) hf fun h12 hf => ?_
  refine r_aload_n hc 0 (dc_at dX10_presses 83 rfl) rfl ?_
  refine r_getR hc (dc_at dX10_presses 84 rfl) fl_X10_13 hf fun a13 hf => ?_
  refine r_bipush (73 : Int32) hc (dc_at dX10_presses 85 rfl) (by decide) ?_
  refine r_dup2 hc (dc_at dX10_presses 86 rfl) rfl rfl ?_
  refine r_iaload hc (dc_at dX10_presses 87 rfl) hf fun x14 hf => ?_
  refine r_iconst (1 : Int32) hc (dc_at dX10_presses 88 rfl) (by decide) ?_
  refine r_iadd hc (dc_at dX10_presses 89 rfl) ?_
  refine r_iastore hc (dc_at dX10_presses 90 rfl) hf fun h15 hf => ?_
  refine r_aload_n hc 0 (dc_at dX10_presses 91 rfl) rfl ?_
  refine r_getR hc (dc_at dX10_presses 92 rfl) fl_X10_13 hf fun a16 hf => ?_
  refine r_bipush (7 : Int32) hc (dc_at dX10_presses 93 rfl) (by decide) ?_
  refine r_aload_n hc 0 (dc_at dX10_presses 94 rfl) rfl ?_
  refine r_getL hc (dc_at dX10_presses 95 rfl) fl_X10_180 hf fun x17 hf => ?_
  refine r_l2i hc (dc_at dX10_presses 96 rfl) ?_
  refine r_iastore hc (dc_at dX10_presses 97 rfl) hf fun h18 hf => ?_
  refine r_aload_n hc 0 (dc_at dX10_presses 98 rfl) rfl ?_
  refine r_getR hc (dc_at dX10_presses 99 rfl) fl_X10_13 hf fun a19 hf => ?_
  refine r_bipush (8 : Int32) hc (dc_at dX10_presses 100 rfl) (by decide) ?_
  refine r_aload_n hc 0 (dc_at dX10_presses 101 rfl) rfl ?_
  refine r_getL hc (dc_at dX10_presses 102 rfl) fl_X10_184 hf fun x20 hf => ?_
  refine r_l2i hc (dc_at dX10_presses 103 rfl) ?_
  refine r_iastore hc (dc_at dX10_presses 104 rfl) hf fun h21 hf => ?_
  refine r_aload_n hc 0 (dc_at dX10_presses 105 rfl) rfl ?_
  refine r_getR hc (dc_at dX10_presses 106 rfl) fl_X10_13 hf fun a22 hf => ?_
  refine r_bipush (6 : Int32) hc (dc_at dX10_presses 107 rfl) (by decide) ?_
  refine r_dup2 hc (dc_at dX10_presses 108 rfl) rfl rfl ?_
  refine r_iaload hc (dc_at dX10_presses 109 rfl) hf fun x23 hf => ?_
  refine r_iconst (1 : Int32) hc (dc_at dX10_presses 110 rfl) (by decide) ?_
  refine r_iadd hc (dc_at dX10_presses 111 rfl) ?_
  refine r_iastore hc (dc_at dX10_presses 112 rfl) hf fun h24 hf => ?_
  refine r_iconst (0 : Int32) hc (dc_at dX10_presses 113 rfl) (by decide) ?_
  exact r_iret hc he (hm) (hs) (dc_at dX10_presses 114 rfl) hf
def b_X10_presses_26 (F : Nat) (self16 : PH → Nat → Int32 → Option (Int32 × PH)) (h : PH) (v0 : Nat) (v3 : Int32) : Option (Int32 × PH) := if (11 : Int32) ≤ v3 then ((gR 10 1 h v0).bind fun a1 => ((aI 0 h a1 (73 : Int32)).bind fun x2 => ((sI 0 h a1 (73 : Int32) ((x2 - (1 : Int32)))).bind fun h3 => (b_X10_presses_89 F h3 v0)))) else ((gR 10 1 h v0).bind fun a4 => ((gR 10 1 h v0).bind fun a5 => ((aI 0 h a5 (((((74 : Int32) + v3)) + (1 : Int32)))).bind fun x6 => ((sI 0 h a4 (((74 : Int32) + v3)) x6).bind fun h7 => ((gR 10 1 h7 v0).bind fun a8 => ((gR 10 1 h7 v0).bind fun a9 => ((aI 0 h7 a9 (((((86 : Int32) + v3)) + (1 : Int32)))).bind fun x10 => ((sI 0 h7 a8 (((86 : Int32) + v3)) x10).bind fun h11 => (bindv (v3 + (1)) fun x12 => (self16 h11 v0 x12))))))))))
set_option maxRecDepth 20000 in
theorem tb_X10_presses_26 {M : MV} {X : XT} {F : Nat} {self16 : PH → Nat → Int32 → Option (Int32 × PH)} {h hz : PH} {r : Int32} {ce sl mc ms : Nat} {v0 : Nat} {v3 : Int32} (hc : Cx M X RX10 cX10_presses) (hr : Rx M 137 7948 mc ms 4) (he : Ex M X (some .int) "presses" (some (.int r)) hz mc ms) (hm : ce ≤ mc) (hs : sl ≤ ms) (ih16 : ∀ (h : PH) (v0 : Nat) (v3 : Int32), self16 h v0 v3 = some (r, hz) → GG M X h ce sl 26 [(0, .ref (X.1 + v0)), (3, .int v3)] []) (hf : b_X10_presses_26 F self16 h v0 v3 = some (r, hz)) : GG M X h ce sl 26 [(0, .ref (X.1 + v0)), (3, .int v3)] [] := by
  unfold b_X10_presses_26 at hf
  refine r_iload_n hc 1 (dc_at dX10_presses 16 rfl) rfl ?_
  refine r_bipush (11 : Int32) hc (dc_at dX10_presses 17 rfl) (by decide) ?_
  refine r_icmp_ge (tgt := 78) hc (dc_at dX10_presses 18 rfl) (by decide) hf (fun hf => ?_) (fun hf => ?_)
  · refine r_aload_n hc 0 (dc_at dX10_presses 49 rfl) rfl ?_
    refine r_getR hc (dc_at dX10_presses 50 rfl) fl_X10_13 hf fun a1 hf => ?_
    refine r_bipush (73 : Int32) hc (dc_at dX10_presses 51 rfl) (by decide) ?_
    refine r_dup2 hc (dc_at dX10_presses 52 rfl) rfl rfl ?_
    refine r_iaload hc (dc_at dX10_presses 53 rfl) hf fun x2 hf => ?_
    refine r_iconst (1 : Int32) hc (dc_at dX10_presses 54 rfl) (by decide) ?_
    refine r_isub hc (dc_at dX10_presses 55 rfl) ?_
    refine r_iastore hc (dc_at dX10_presses 56 rfl) hf fun h3 hf => ?_
    exact gg_sub [0] rfl (t_X10_presses_89 hc hr he hm hs  hf)
  · refine r_aload_n hc 0 (dc_at dX10_presses 19 rfl) rfl ?_
    refine r_getR hc (dc_at dX10_presses 20 rfl) fl_X10_13 hf fun a4 hf => ?_
    refine r_bipush (74 : Int32) hc (dc_at dX10_presses 21 rfl) (by decide) ?_
    refine r_iload_n hc 1 (dc_at dX10_presses 22 rfl) rfl ?_
    refine r_iadd hc (dc_at dX10_presses 23 rfl) ?_
    refine r_aload_n hc 0 (dc_at dX10_presses 24 rfl) rfl ?_
    refine r_getR hc (dc_at dX10_presses 25 rfl) fl_X10_13 hf fun a5 hf => ?_
    refine r_bipush (74 : Int32) hc (dc_at dX10_presses 26 rfl) (by decide) ?_
    refine r_iload_n hc 1 (dc_at dX10_presses 27 rfl) rfl ?_
    refine r_iadd hc (dc_at dX10_presses 28 rfl) ?_
    refine r_iconst (1 : Int32) hc (dc_at dX10_presses 29 rfl) (by decide) ?_
    refine r_iadd hc (dc_at dX10_presses 30 rfl) ?_
    refine r_iaload hc (dc_at dX10_presses 31 rfl) hf fun x6 hf => ?_
    refine r_iastore hc (dc_at dX10_presses 32 rfl) hf fun h7 hf => ?_
    refine r_aload_n hc 0 (dc_at dX10_presses 33 rfl) rfl ?_
    refine r_getR hc (dc_at dX10_presses 34 rfl) fl_X10_13 hf fun a8 hf => ?_
    refine r_bipush (86 : Int32) hc (dc_at dX10_presses 35 rfl) (by decide) ?_
    refine r_iload_n hc 1 (dc_at dX10_presses 36 rfl) rfl ?_
    refine r_iadd hc (dc_at dX10_presses 37 rfl) ?_
    refine r_aload_n hc 0 (dc_at dX10_presses 38 rfl) rfl ?_
    refine r_getR hc (dc_at dX10_presses 39 rfl) fl_X10_13 hf fun a9 hf => ?_
    refine r_bipush (86 : Int32) hc (dc_at dX10_presses 40 rfl) (by decide) ?_
    refine r_iload_n hc 1 (dc_at dX10_presses 41 rfl) rfl ?_
    refine r_iadd hc (dc_at dX10_presses 42 rfl) ?_
    refine r_iconst (1 : Int32) hc (dc_at dX10_presses 43 rfl) (by decide) ?_
    refine r_iadd hc (dc_at dX10_presses 44 rfl) ?_
    refine r_iaload hc (dc_at dX10_presses 45 rfl) hf fun x10 hf => ?_
    refine r_iastore hc (dc_at dX10_presses 46 rfl) hf fun h11 hf => ?_
    refine obv hf fun x12 e_x12 hf => ?_
    refine r_iinc 1 [(3, .int x12), (0, .ref (X.1 + v0))] hc hr (dc_at dX10_presses 47 rfl) rfl (by rw [e_x12]; rfl) (by decide) rfl ?_
    refine r_goto (tgt := 26) hc (dc_at dX10_presses 48 rfl) (by decide) ?_
    exact gg_sub [1, 0] rfl (ih16 _ _ _ hf)
def l_X10_presses_26 (F : Nat) : Nat → PH → Nat → Int32 → Option (Int32 × PH)
  | 0 => fun _ _ _ => none
  | n + 1 => fun h v0 v3 => b_X10_presses_26 F (l_X10_presses_26 F n) h v0 v3
theorem tl_X10_presses_26 {M : MV} {X : XT} {F : Nat} {hz : PH} {r : Int32} {ce sl mc ms : Nat} (hc : Cx M X RX10 cX10_presses) (hr : Rx M 137 7948 mc ms 4) (he : Ex M X (some .int) "presses" (some (.int r)) hz mc ms) (hm : ce ≤ mc) (hs : sl ≤ ms) (n : Nat) : ∀ (h : PH) (v0 : Nat) (v3 : Int32), l_X10_presses_26 F n h v0 v3 = some (r, hz) → GG M X h ce sl 26 [(0, .ref (X.1 + v0)), (3, .int v3)] [] := by
  induction n with
  | zero => intro h v0 v3 hf; cases hf
  | succ n ih => intro h v0 v3 hf; exact tb_X10_presses_26 (F := F) hc hr he hm hs  ih hf
def b_X10_presses_0 (F : Nat) (h : PH) (v0 : Nat) (v1 : Int32) : Option (Int32 × PH) := cO 10 h v0 (bind2 (m_X10_leadsNow F h v0 v1) fun x1 h2 => (if x1 = 0 then ((gR 10 1 h2 v0).bind fun a3 => ((aI 0 h2 a3 (73 : Int32)).bind fun x4 => (if x4 = (12 : Int32) then (l_X10_presses_26 F F h2 v0 (0 : Int32)) else (b_X10_presses_89 F h2 v0)))) else (some (x1, h2))))
set_option maxRecDepth 20000 in
theorem t_X10_presses_0 {M : MV} {X : XT} {F : Nat} {h hz : PH} {r : Int32} {ce sl mc ms : Nat} {v0 : Nat} {v1 : Int32} (hc : Cx M X RX10 cX10_presses) (hr : Rx M 137 7948 mc ms 4) (he : Ex M X (some .int) "presses" (some (.int r)) hz mc ms) (hm : ce ≤ mc) (hs : sl ≤ ms) (hf : b_X10_presses_0 F h v0 v1 = some (r, hz)) : GG M X h ce sl 0 [(0, .ref (X.1 + v0)), (1, .int v1)] [] := by
  unfold b_X10_presses_0 at hf
  refine r_aload_n hc 0 (dc_at dX10_presses 0 rfl) rfl ?_
  refine r_iload_n hc 1 (dc_at dX10_presses 1 rfl) rfl ?_
  obtain ⟨ho, hf⟩ := cO_some hf
  refine ob2 hf fun x1 h2 ex hf => ?_
  refine r_callVi (As := [.int v1]) (ci := 10) hc hr (dc_at dX10_presses 2 rfl) ml_X10_279 mv_X10_leadsNow vi_X10_leadsNow rfl ho rfl (mt_X10_leadsNow ex) (by first | exact Nat.le_of_ble_eq_true rfl | omega) (by first | exact Nat.le_of_ble_eq_true rfl | omega) (by first | exact Nat.le_of_ble_eq_true rfl | omega) hm hs ?_
  refine r_istore_n [(2, .int x1), (0, .ref (X.1 + v0)), (1, .int v1)] hc hr (dc_at dX10_presses 3 rfl) (by decide) rfl ?_
  refine r_iload_n hc 0 (dc_at dX10_presses 4 rfl) rfl ?_
  refine r_if_eq (tgt := 12) hc (dc_at dX10_presses 5 rfl) (by decide) hf (fun hf => ?_) (fun hf => ?_)
  · refine r_aload_n hc 1 (dc_at dX10_presses 8 rfl) rfl ?_
    refine r_getR hc (dc_at dX10_presses 9 rfl) fl_X10_13 hf fun a3 hf => ?_
    refine r_bipush (73 : Int32) hc (dc_at dX10_presses 10 rfl) (by decide) ?_
    refine r_iaload hc (dc_at dX10_presses 11 rfl) hf fun x4 hf => ?_
    refine r_bipush (12 : Int32) hc (dc_at dX10_presses 12 rfl) (by decide) ?_
    refine r_icmp_ne (tgt := 89) hc (dc_at dX10_presses 13 rfl) (by decide) hf (fun hf => ?_) (fun hf => ?_)
    · exact gg_sub [1] rfl (t_X10_presses_89 hc hr he hm hs  hf)
    · refine r_iconst (0 : Int32) hc (dc_at dX10_presses 14 rfl) (by decide) ?_
      refine r_istore_n [(3, .int ((0 : Int32))), (2, .int x1), (0, .ref (X.1 + v0)), (1, .int v1)] hc hr (dc_at dX10_presses 15 rfl) (by decide) rfl ?_
      exact gg_sub [2, 0] rfl (tl_X10_presses_26 hc hr he hm hs  F _ _ _ hf)
  · refine r_iload_n hc 0 (dc_at dX10_presses 6 rfl) rfl ?_
    exact r_iret hc he (hm) (hs) (dc_at dX10_presses 7 rfl) hf
def m_X10_presses (F : Nat) (h : PH) (p0 : Nat) (p1 : Int32) : Option (Int32 × PH) := b_X10_presses_0 F h p0 p1
theorem mt_X10_presses {l : Launch} {X : XT} {F : Nat} {h hz : PH} {p0 : Nat} {p1 : Int32} {r : Int32} (ex : m_X10_presses F h p0 p1 = some (r, hz)) : MT l X yX10_presses cX10_presses 4 (some .int) 137 7948 0 0 [.ref (X.1 + p0), .int p1] h (some (.int r)) hz := MT.of (by decide) (Nat.le_of_ble_eq_true rfl) fun M hl hc hr he => by
  subst hl
  exact gg_sub [0, 1] rfl (t_X10_presses_0  hc hr he (Nat.zero_le _) (Nat.zero_le _) ex)
/-! FractionLiftModel.press(I)I -/
def lX10_pressL : List (Nat × Instr × Nat × Nat) := [(0, .aload_n 0, 1, 1), (1, .iconst 0, 1, 2), (2, .putfield 1, 3, 5), (5, .aload_n 0, 1, 6), (6, .iload_n 1, 1, 7), (7, .invokevirtual 285, 3, 10), (10, .istore_n 2, 1, 11), (11, .iload_n 2, 1, 12), (12, .ifCond .eq 10, 3, 15), (15, .bipush (-10), 2, 17), (17, .iload_n 2, 1, 18), (18, .isub, 1, 19), (19, .goto 10, 3, 22), (22, .aload_n 0, 1, 23), (23, .getfield 13, 3, 26), (26, .bipush 73, 2, 28), (28, .iaload, 1, 29), (29, .ireturn, 1, 30)]
set_option maxRecDepth 20000 in
theorem dX10_press : dcL cX10_press lX10_pressL = true := by decide +kernel
def b_X10_press_0 (F : Nat) (h : PH) (v0 : Nat) (v1 : Int32) : Option (Int32 × PH) := (pV 10 0 (.int (0 : Int32)) h v0).bind fun h1 => (cO 10 h1 v0 (bind2 (m_X10_presses F h1 v0 v1) fun x2 h3 => (if x2 = 0 then ((gR 10 1 h3 v0).bind fun a4 => ((aI 0 h3 a4 (73 : Int32)).bind fun x5 => (some (x5, h3)))) else (some ((((-10 : Int32) - x2)), h3)))))
set_option maxRecDepth 20000 in
theorem t_X10_press_0 {M : MV} {X : XT} {F : Nat} {h hz : PH} {r : Int32} {ce sl mc ms : Nat} {v0 : Nat} {v1 : Int32} (hc : Cx M X RX10 cX10_press) (hr : Rx M 138 8006 mc ms 3) (he : Ex M X (some .int) "press" (some (.int r)) hz mc ms) (hm : ce ≤ mc) (hs : sl ≤ ms) (hf : b_X10_press_0 F h v0 v1 = some (r, hz)) : GG M X h ce sl 0 [(0, .ref (X.1 + v0)), (1, .int v1)] [] := by
  unfold b_X10_press_0 at hf
  refine r_aload_n hc 0 (dc_at dX10_press 0 rfl) rfl ?_
  refine r_iconst (0 : Int32) hc (dc_at dX10_press 1 rfl) (by decide) ?_
  refine r_putI hc he (dc_at dX10_press 2 rfl) fp_X10_1 (fun q => by cases q) hf fun h1 hf => ?_
  refine r_aload_n hc 0 (dc_at dX10_press 3 rfl) rfl ?_
  refine r_iload_n hc 1 (dc_at dX10_press 4 rfl) rfl ?_
  obtain ⟨ho, hf⟩ := cO_some hf
  refine ob2 hf fun x2 h3 ex hf => ?_
  refine r_callVi (As := [.int v1]) (ci := 10) hc hr (dc_at dX10_press 5 rfl) ml_X10_285 mv_X10_presses vi_X10_presses rfl ho rfl (mt_X10_presses ex) (by first | exact Nat.le_of_ble_eq_true rfl | omega) (by first | exact Nat.le_of_ble_eq_true rfl | omega) (by first | exact Nat.le_of_ble_eq_true rfl | omega) hm hs ?_
  refine r_istore_n [(2, .int x2), (0, .ref (X.1 + v0)), (1, .int v1)] hc hr (dc_at dX10_press 6 rfl) (by decide) rfl ?_
  refine r_iload_n hc 0 (dc_at dX10_press 7 rfl) rfl ?_
  refine r_if_eq (tgt := 22) hc (dc_at dX10_press 8 rfl) (by decide) hf (fun hf => ?_) (fun hf => ?_)
  · refine r_aload_n hc 1 (dc_at dX10_press 13 rfl) rfl ?_
    refine r_getR hc (dc_at dX10_press 14 rfl) fl_X10_13 hf fun a4 hf => ?_
    refine r_bipush (73 : Int32) hc (dc_at dX10_press 15 rfl) (by decide) ?_
    refine r_iaload hc (dc_at dX10_press 16 rfl) hf fun x5 hf => ?_
    exact r_iret hc he (hm) (hs) (dc_at dX10_press 17 rfl) hf
  · refine r_bipush (-10 : Int32) hc (dc_at dX10_press 9 rfl) (by decide) ?_
    refine r_iload_n hc 0 (dc_at dX10_press 10 rfl) rfl ?_
    refine r_isub hc (dc_at dX10_press 11 rfl) ?_
    refine r_goto (tgt := 29) hc (dc_at dX10_press 12 rfl) (by decide) ?_
    exact r_iret hc he (hm) (hs) (dc_at dX10_press 17 rfl) hf
def m_X10_press (F : Nat) (h : PH) (p0 : Nat) (p1 : Int32) : Option (Int32 × PH) := b_X10_press_0 F h p0 p1
theorem mt_X10_press {l : Launch} {X : XT} {F : Nat} {h hz : PH} {p0 : Nat} {p1 : Int32} {r : Int32} (ex : m_X10_press F h p0 p1 = some (r, hz)) : MT l X yX10_press cX10_press 3 (some .int) 138 8006 0 0 [.ref (X.1 + p0), .int p1] h (some (.int r)) hz := MT.of (by decide) (Nat.le_of_ble_eq_true rfl) fun M hl hc hr he => by
  subst hl
  exact gg_sub [0, 1] rfl (t_X10_press_0  hc hr he (Nat.zero_le _) (Nat.zero_le _) ex)
/-! FractionLiftModel.undo(I)I -/
def lX10_undoL : List (Nat × Instr × Nat × Nat) := [(0, .aload_n 0, 1, 1), (1, .iconst 0, 1, 2), (2, .putfield 1, 3, 5), (5, .iload_n 1, 1, 6), (6, .i2l, 1, 7), (7, .lconst 1, 1, 8), (8, .ldc2_w 288, 3, 11), (11, .invokestatic 172, 3, 14), (14, .ifCond .eq 14, 3, 17), (17, .iload_n 1, 1, 18), (18, .aload_n 0, 1, 19), (19, .getfield 13, 3, 22), (22, .bipush 73, 2, 24), (24, .iaload, 1, 25), (25, .if_icmp .le 6, 3, 28), (28, .bipush (-3), 2, 30), (30, .ireturn, 1, 31), (31, .aload_n 0, 1, 32), (32, .getfield 13, 3, 35), (35, .bipush 73, 2, 37), (37, .dup2, 1, 38), (38, .iaload, 1, 39), (39, .iload_n 1, 1, 40), (40, .isub, 1, 41), (41, .iastore, 1, 42), (42, .aload_n 0, 1, 43), (43, .getfield 13, 3, 46), (46, .bipush 7, 2, 48), (48, .aload_n 0, 1, 49), (49, .getfield 13, 3, 52), (52, .bipush 74, 2, 54), (54, .aload_n 0, 1, 55), (55, .getfield 13, 3, 58), (58, .bipush 73, 2, 60), (60, .iaload, 1, 61), (61, .iadd, 1, 62), (62, .iaload, 1, 63), (63, .iastore, 1, 64), (64, .aload_n 0, 1, 65), (65, .getfield 13, 3, 68), (68, .bipush 8, 2, 70), (70, .aload_n 0, 1, 71), (71, .getfield 13, 3, 74), (74, .bipush 86, 2, 76), (76, .aload_n 0, 1, 77), (77, .getfield 13, 3, 80), (80, .bipush 73, 2, 82), (82, .iaload, 1, 83), (83, .iadd, 1, 84), (84, .iaload, 1, 85), (85, .iastore, 1, 86), (86, .aload_n 0, 1, 87), (87, .getfield 13, 3, 90), (90, .bipush 73, 2, 92), (92, .iaload, 1, 93), (93, .ireturn, 1, 94)]
set_option maxRecDepth 20000 in
theorem dX10_undo : dcL cX10_undo lX10_undoL = true := by decide +kernel
def b_X10_undo_0 (h : PH) (v0 : Nat) (v1 : Int32) : Option (Int32 × PH) := (pV 10 0 (.int (0 : Int32)) h v0).bind fun h1 => ((m_X10_within (Int32.toInt64 v1) (1 : Int64) (12 : Int64)).bind fun x2 => (if x2 = 0 then (some ((-3 : Int32), h1)) else ((gR 10 1 h1 v0).bind fun a3 => ((aI 0 h1 a3 (73 : Int32)).bind fun x4 => (if v1 ≤ x4 then ((gR 10 1 h1 v0).bind fun a5 => ((aI 0 h1 a5 (73 : Int32)).bind fun x6 => ((sI 0 h1 a5 (73 : Int32) (x6 - v1)).bind fun h7 => ((gR 10 1 h7 v0).bind fun a8 => ((gR 10 1 h7 v0).bind fun a9 => ((gR 10 1 h7 v0).bind fun a10 => ((aI 0 h7 a10 (73 : Int32)).bind fun x11 => ((aI 0 h7 a9 (((74 : Int32) + x11))).bind fun x12 => ((sI 0 h7 a8 (7 : Int32) x12).bind fun h13 => ((gR 10 1 h13 v0).bind fun a14 => ((gR 10 1 h13 v0).bind fun a15 => ((gR 10 1 h13 v0).bind fun a16 => ((aI 0 h13 a16 (73 : Int32)).bind fun x17 => ((aI 0 h13 a15 (((86 : Int32) + x17))).bind fun x18 => ((sI 0 h13 a14 (8 : Int32) x18).bind fun h19 => ((gR 10 1 h19 v0).bind fun a20 => ((aI 0 h19 a20 (73 : Int32)).bind fun x21 => (some (x21, h19))))))))))))))))))) else (some ((-3 : Int32), h1)))))))
set_option maxRecDepth 20000 in
theorem t_X10_undo_0 {M : MV} {X : XT} {h hz : PH} {r : Int32} {ce sl mc ms : Nat} {v0 : Nat} {v1 : Int32} (hc : Cx M X RX10 cX10_undo) (hr : Rx M 2 118 mc ms 2) (he : Ex M X (some .int) "undo" (some (.int r)) hz mc ms) (hm : ce ≤ mc) (hs : sl ≤ ms) (hf : b_X10_undo_0 h v0 v1 = some (r, hz)) : GG M X h ce sl 0 [(0, .ref (X.1 + v0)), (1, .int v1)] [] := by
  unfold b_X10_undo_0 at hf
  refine r_aload_n hc 0 (dc_at dX10_undo 0 rfl) rfl ?_
  refine r_iconst (0 : Int32) hc (dc_at dX10_undo 1 rfl) (by decide) ?_
  refine r_putI hc he (dc_at dX10_undo 2 rfl) fp_X10_1 (fun q => by cases q) hf fun h1 hf => ?_
  refine r_iload_n hc 1 (dc_at dX10_undo 3 rfl) rfl ?_
  refine r_i2l hc (dc_at dX10_undo 4 rfl) ?_
  refine r_lconst (1 : Int64) hc (dc_at dX10_undo 5 rfl) (by decide) ?_
  refine r_ldc2 hc (dc_at dX10_undo 6 rfl) cl2_X10_288 ?_
  refine ob hf fun x2 ex hf => ?_
  refine r_callSi (As := [.long ((Int32.toInt64 v1)), .long ((1 : Int64)), .long ((12 : Int64))]) hc hr (dc_at dX10_undo 7 rfl) ml_X10_172 mv_X10_within st_X10_within rfl (mt_X10_within ex) (by first | exact Nat.le_of_ble_eq_true rfl | omega) (by first | exact Nat.le_of_ble_eq_true rfl | omega) (by first | exact Nat.le_of_ble_eq_true rfl | omega) hm hs ?_
  refine r_if_eq (tgt := 28) hc (dc_at dX10_undo 8 rfl) (by decide) hf (fun hf => ?_) (fun hf => ?_)
  · refine r_bipush (-3 : Int32) hc (dc_at dX10_undo 15 rfl) (by decide) ?_
    exact r_iret hc he (hm) (hs) (dc_at dX10_undo 16 rfl) hf
  · refine r_iload_n hc 1 (dc_at dX10_undo 9 rfl) rfl ?_
    refine r_aload_n hc 0 (dc_at dX10_undo 10 rfl) rfl ?_
    refine r_getR hc (dc_at dX10_undo 11 rfl) fl_X10_13 hf fun a3 hf => ?_
    refine r_bipush (73 : Int32) hc (dc_at dX10_undo 12 rfl) (by decide) ?_
    refine r_iaload hc (dc_at dX10_undo 13 rfl) hf fun x4 hf => ?_
    refine r_icmp_le (tgt := 31) hc (dc_at dX10_undo 14 rfl) (by decide) hf (fun hf => ?_) (fun hf => ?_)
    · refine r_aload_n hc 0 (dc_at dX10_undo 17 rfl) rfl ?_
      refine r_getR hc (dc_at dX10_undo 18 rfl) fl_X10_13 hf fun a5 hf => ?_
      refine r_bipush (73 : Int32) hc (dc_at dX10_undo 19 rfl) (by decide) ?_
      refine r_dup2 hc (dc_at dX10_undo 20 rfl) rfl rfl ?_
      refine r_iaload hc (dc_at dX10_undo 21 rfl) hf fun x6 hf => ?_
      refine r_iload_n hc 1 (dc_at dX10_undo 22 rfl) rfl ?_
      refine r_isub hc (dc_at dX10_undo 23 rfl) ?_
      refine r_iastore hc (dc_at dX10_undo 24 rfl) hf fun h7 hf => ?_
      refine r_aload_n hc 0 (dc_at dX10_undo 25 rfl) rfl ?_
      refine r_getR hc (dc_at dX10_undo 26 rfl) fl_X10_13 hf fun a8 hf => ?_
      refine r_bipush (7 : Int32) hc (dc_at dX10_undo 27 rfl) (by decide) ?_
      refine r_aload_n hc 0 (dc_at dX10_undo 28 rfl) rfl ?_
      refine r_getR hc (dc_at dX10_undo 29 rfl) fl_X10_13 hf fun a9 hf => ?_
      refine r_bipush (74 : Int32) hc (dc_at dX10_undo 30 rfl) (by decide) ?_
      refine r_aload_n hc 0 (dc_at dX10_undo 31 rfl) rfl ?_
      refine r_getR hc (dc_at dX10_undo 32 rfl) fl_X10_13 hf fun a10 hf => ?_
      refine r_bipush (73 : Int32) hc (dc_at dX10_undo 33 rfl) (by decide) ?_
      refine r_iaload hc (dc_at dX10_undo 34 rfl) hf fun x11 hf => ?_
      refine r_iadd hc (dc_at dX10_undo 35 rfl) ?_
      refine r_iaload hc (dc_at dX10_undo 36 rfl) hf fun x12 hf => ?_
      refine r_iastore hc (dc_at dX10_undo 37 rfl) hf fun h13 hf => ?_
      refine r_aload_n hc 0 (dc_at dX10_undo 38 rfl) rfl ?_
      refine r_getR hc (dc_at dX10_undo 39 rfl) fl_X10_13 hf fun a14 hf => ?_
      refine r_bipush (8 : Int32) hc (dc_at dX10_undo 40 rfl) (by decide) ?_
      refine r_aload_n hc 0 (dc_at dX10_undo 41 rfl) rfl ?_
      refine r_getR hc (dc_at dX10_undo 42 rfl) fl_X10_13 hf fun a15 hf => ?_
      refine r_bipush (86 : Int32) hc (dc_at dX10_undo 43 rfl) (by decide) ?_
      refine r_aload_n hc 0 (dc_at dX10_undo 44 rfl) rfl ?_
      refine r_getR hc (dc_at dX10_undo 45 rfl) fl_X10_13 hf fun a16 hf => ?_
      refine r_bipush (73 : Int32) hc (dc_at dX10_undo 46 rfl) (by decide) ?_
      refine r_iaload hc (dc_at dX10_undo 47 rfl) hf fun x17 hf => ?_
      refine r_iadd hc (dc_at dX10_undo 48 rfl) ?_
      refine r_iaload hc (dc_at dX10_undo 49 rfl) hf fun x18 hf => ?_
      refine r_iastore hc (dc_at dX10_undo 50 rfl) hf fun h19 hf => ?_
      refine r_aload_n hc 0 (dc_at dX10_undo 51 rfl) rfl ?_
      refine r_getR hc (dc_at dX10_undo 52 rfl) fl_X10_13 hf fun a20 hf => ?_
      refine r_bipush (73 : Int32) hc (dc_at dX10_undo 53 rfl) (by decide) ?_
      refine r_iaload hc (dc_at dX10_undo 54 rfl) hf fun x21 hf => ?_
      exact r_iret hc he (hm) (hs) (dc_at dX10_undo 55 rfl) hf
    · refine r_bipush (-3 : Int32) hc (dc_at dX10_undo 15 rfl) (by decide) ?_
      exact r_iret hc he (hm) (hs) (dc_at dX10_undo 16 rfl) hf
def m_X10_undo (h : PH) (p0 : Nat) (p1 : Int32) : Option (Int32 × PH) := b_X10_undo_0 h p0 p1
theorem mt_X10_undo {l : Launch} {X : XT} {h hz : PH} {p0 : Nat} {p1 : Int32} {r : Int32} (ex : m_X10_undo h p0 p1 = some (r, hz)) : MT l X yX10_undo cX10_undo 2 (some .int) 2 118 0 0 [.ref (X.1 + p0), .int p1] h (some (.int r)) hz := MT.of (by decide) (Nat.le_of_ble_eq_true rfl) fun M hl hc hr he => by
  subst hl
  exact gg_sub [0, 1] rfl (t_X10_undo_0  hc hr he (Nat.zero_le _) (Nat.zero_le _) ex)
/-! FractionLiftModel.noRow(II)I -/
def lX10_noRowL : List (Nat × Instr × Nat × Nat) := [(0, .iload_n 1, 1, 1), (1, .i2l, 1, 2), (2, .lconst 0, 1, 3), (3, .ldc2_w 290, 3, 6), (6, .invokestatic 172, 3, 9), (9, .ifCond .ne 6, 3, 12), (12, .bipush (-2), 2, 14), (14, .ireturn, 1, 15), (15, .aload_n 0, 1, 16), (16, .getfield 97, 3, 19), (19, .iload_n 1, 1, 20), (20, .iaload, 1, 21), (21, .iconst (-1), 1, 22), (22, .if_icmp .ne 6, 3, 25), (25, .bipush (-6), 2, 27), (27, .ireturn, 1, 28), (28, .aload_n 0, 1, 29), (29, .getfield 100, 3, 32), (32, .iload_n 1, 1, 33), (33, .iaload, 1, 34), (34, .i2l, 1, 35), (35, .iload_n 2, 1, 36), (36, .bipush 8, 2, 38), (38, .if_icmp .ne 7, 3, 41), (41, .lconst 1, 1, 42), (42, .goto 6, 3, 45), (45, .ldc2_w 292, 3, 48), (48, .ldc2_w 294, 3, 51), (51, .invokestatic 172, 3, 54), (54, .ifCond .eq 7, 3, 57), (57, .iconst 0, 1, 58), (58, .goto 5, 3, 61), (61, .bipush (-4), 2, 63), (63, .ireturn, 1, 64)]
set_option maxRecDepth 20000 in
theorem dX10_noRow : dcL cX10_noRow lX10_noRowL = true := by decide +kernel
def b_X10_noRow_48 (h : PH) (s0 : Int64) (s1 : Int64) : Option Int32 := (m_X10_within s0 s1 (8 : Int64)).bind fun x1 => (if x1 = 0 then (some (-4 : Int32)) else (some (0 : Int32)))
set_option maxRecDepth 20000 in
theorem t_X10_noRow_48 {M : MV} {X : XT} {h : PH} {r : Int32} {ce sl mc ms : Nat} {s0 : Int64} {s1 : Int64} (hc : Cx M X RX10 cX10_noRow) (hr : Rx M 2 118 mc ms 3) (he : Ex M X (some .int) "noRow" (some (.int r)) h mc ms) (hm : ce ≤ mc) (hs : sl ≤ ms) (hf : b_X10_noRow_48 h s0 s1 = some r) : GG M X h ce sl 48 [] [.long s1, .long s0] := by
  unfold b_X10_noRow_48 at hf
  refine r_ldc2 hc (dc_at dX10_noRow 27 rfl) cl2_X10_294 ?_
  refine ob hf fun x1 ex hf => ?_
  refine r_callSi (As := [.long s0, .long s1, .long ((8 : Int64))]) hc hr (dc_at dX10_noRow 28 rfl) ml_X10_172 mv_X10_within st_X10_within rfl (mt_X10_within ex) (by first | exact Nat.le_of_ble_eq_true rfl | omega) (by first | exact Nat.le_of_ble_eq_true rfl | omega) (by first | exact Nat.le_of_ble_eq_true rfl | omega) hm hs ?_
  refine r_if_eq (tgt := 61) hc (dc_at dX10_noRow 29 rfl) (by decide) hf (fun hf => ?_) (fun hf => ?_)
  · refine r_bipush (-4 : Int32) hc (dc_at dX10_noRow 32 rfl) (by decide) ?_
    exact r_iretP hc he (hm) (hs) (dc_at dX10_noRow 33 rfl) hf
  · refine r_iconst (0 : Int32) hc (dc_at dX10_noRow 30 rfl) (by decide) ?_
    refine r_goto (tgt := 63) hc (dc_at dX10_noRow 31 rfl) (by decide) ?_
    exact r_iretP hc he (hm) (hs) (dc_at dX10_noRow 33 rfl) hf
def b_X10_noRow_0 (h : PH) (v0 : Nat) (v1 : Int32) (v2 : Int32) : Option Int32 := (m_X10_within (Int32.toInt64 v1) (0 : Int64) (3 : Int64)).bind fun x1 => (if x1 = 0 then (some (-2 : Int32)) else ((gR 10 52 h v0).bind fun a2 => ((aI 0 h a2 v1).bind fun x3 => (if x3 = (-1 : Int32) then (some (-6 : Int32)) else ((gR 10 53 h v0).bind fun a4 => ((aI 0 h a4 v1).bind fun x5 => (if v2 = (8 : Int32) then (b_X10_noRow_48 h (Int32.toInt64 x5) (1 : Int64)) else (b_X10_noRow_48 h (Int32.toInt64 x5) (2 : Int64)))))))))
set_option maxRecDepth 20000 in
theorem t_X10_noRow_0 {M : MV} {X : XT} {h : PH} {r : Int32} {ce sl mc ms : Nat} {v0 : Nat} {v1 : Int32} {v2 : Int32} (hc : Cx M X RX10 cX10_noRow) (hr : Rx M 2 118 mc ms 3) (he : Ex M X (some .int) "noRow" (some (.int r)) h mc ms) (hm : ce ≤ mc) (hs : sl ≤ ms) (hf : b_X10_noRow_0 h v0 v1 v2 = some r) : GG M X h ce sl 0 [(0, .ref (X.1 + v0)), (1, .int v1), (2, .int v2)] [] := by
  unfold b_X10_noRow_0 at hf
  refine r_iload_n hc 1 (dc_at dX10_noRow 0 rfl) rfl ?_
  refine r_i2l hc (dc_at dX10_noRow 1 rfl) ?_
  refine r_lconst (0 : Int64) hc (dc_at dX10_noRow 2 rfl) (by decide) ?_
  refine r_ldc2 hc (dc_at dX10_noRow 3 rfl) cl2_X10_290 ?_
  refine ob hf fun x1 ex hf => ?_
  refine r_callSi (As := [.long ((Int32.toInt64 v1)), .long ((0 : Int64)), .long ((3 : Int64))]) hc hr (dc_at dX10_noRow 4 rfl) ml_X10_172 mv_X10_within st_X10_within rfl (mt_X10_within ex) (by first | exact Nat.le_of_ble_eq_true rfl | omega) (by first | exact Nat.le_of_ble_eq_true rfl | omega) (by first | exact Nat.le_of_ble_eq_true rfl | omega) hm hs ?_
  refine r_if_ne (tgt := 15) hc (dc_at dX10_noRow 5 rfl) (by decide) hf (fun hf => ?_) (fun hf => ?_)
  · refine r_aload_n hc 0 (dc_at dX10_noRow 8 rfl) rfl ?_
    refine r_getR hc (dc_at dX10_noRow 9 rfl) fl_X10_97 hf fun a2 hf => ?_
    refine r_iload_n hc 1 (dc_at dX10_noRow 10 rfl) rfl ?_
    refine r_iaload hc (dc_at dX10_noRow 11 rfl) hf fun x3 hf => ?_
    refine r_iconst (-1 : Int32) hc (dc_at dX10_noRow 12 rfl) (by decide) ?_
    refine r_icmp_ne (tgt := 28) hc (dc_at dX10_noRow 13 rfl) (by decide) hf (fun hf => ?_) (fun hf => ?_)
    · refine r_aload_n hc 0 (dc_at dX10_noRow 16 rfl) rfl ?_
      refine r_getR hc (dc_at dX10_noRow 17 rfl) fl_X10_100 hf fun a4 hf => ?_
      refine r_iload_n hc 1 (dc_at dX10_noRow 18 rfl) rfl ?_
      refine r_iaload hc (dc_at dX10_noRow 19 rfl) hf fun x5 hf => ?_
      refine r_i2l hc (dc_at dX10_noRow 20 rfl) ?_
      refine r_iload_n hc 2 (dc_at dX10_noRow 21 rfl) rfl ?_
      refine r_bipush (8 : Int32) hc (dc_at dX10_noRow 22 rfl) (by decide) ?_
      refine r_icmp_ne (tgt := 45) hc (dc_at dX10_noRow 23 rfl) (by decide) hf (fun hf => ?_) (fun hf => ?_)
      · refine r_ldc2 hc (dc_at dX10_noRow 26 rfl) cl2_X10_292 ?_
        exact gg_sub [] rfl (t_X10_noRow_48 hc hr he hm hs  hf)
      · refine r_lconst (1 : Int64) hc (dc_at dX10_noRow 24 rfl) (by decide) ?_
        refine r_goto (tgt := 48) hc (dc_at dX10_noRow 25 rfl) (by decide) ?_
        exact gg_sub [] rfl (t_X10_noRow_48 hc hr he hm hs  hf)
    · refine r_bipush (-6 : Int32) hc (dc_at dX10_noRow 14 rfl) (by decide) ?_
      exact r_iretP hc he (hm) (hs) (dc_at dX10_noRow 15 rfl) hf
  · refine r_bipush (-2 : Int32) hc (dc_at dX10_noRow 6 rfl) (by decide) ?_
    exact r_iretP hc he (hm) (hs) (dc_at dX10_noRow 7 rfl) hf
def m_X10_noRow (h : PH) (p0 : Nat) (p1 : Int32) (p2 : Int32) : Option Int32 := b_X10_noRow_0 h p0 p1 p2
theorem mt_X10_noRow {l : Launch} {X : XT} {h : PH} {p0 : Nat} {p1 : Int32} {p2 : Int32} {r : Int32} (ex : m_X10_noRow h p0 p1 p2 = some r) : MT l X yX10_noRow cX10_noRow 3 (some .int) 2 118 0 0 [.ref (X.1 + p0), .int p1, .int p2] h (some (.int r)) h := MT.of (by decide) (Nat.le_of_ble_eq_true rfl) fun M hl hc hr he => by
  subst hl
  exact gg_sub [0, 1, 2] rfl (t_X10_noRow_0  hc hr he (Nat.zero_le _) (Nat.zero_le _) ex)
/-! FractionLiftModel.told(II)I -/
def lX10_toldL : List (Nat × Instr × Nat × Nat) := [(0, .aload_n 0, 1, 1), (1, .getfield 103, 3, 4), (4, .bipush 40, 2, 6), (6, .iload_n 1, 1, 7), (7, .imul, 1, 8), (8, .iload_n 2, 1, 9), (9, .iadd, 1, 10), (10, .laload, 1, 11), (11, .lstore_n 3, 1, 12), (12, .lload_n 3, 1, 13), (13, .lconst 0, 1, 14), (14, .aload_n 0, 1, 15), (15, .getfield 13, 3, 18), (18, .iconst 2, 1, 19), (19, .iaload, 1, 20), (20, .iconst 1, 1, 21), (21, .isub, 1, 22), (22, .i2l, 1, 23), (23, .invokestatic 172, 3, 26), (26, .ifCond .eq 8, 3, 29), (29, .lload_n 3, 1, 30), (30, .l2i, 1, 31), (31, .goto 4, 3, 34), (34, .iconst (-1), 1, 35), (35, .ireturn, 1, 36)]
set_option maxRecDepth 20000 in
theorem dX10_told : dcL cX10_told lX10_toldL = true := by decide +kernel
def b_X10_told_0 (h : PH) (v0 : Nat) (v1 : Int32) (v2 : Int32) : Option Int32 := (gR 10 54 h v0).bind fun a1 => ((aL h a1 (((((40 : Int32) * v1)) + v2))).bind fun x2 => ((gR 10 1 h v0).bind fun a3 => ((aI 0 h a3 (2 : Int32)).bind fun x4 => ((m_X10_within x2 (0 : Int64) ((Int32.toInt64 ((x4 - (1 : Int32)))))).bind fun x5 => (if x5 = 0 then (some (-1 : Int32)) else (some (Int64.toInt32 x2)))))))
set_option maxRecDepth 20000 in
theorem t_X10_told_0 {M : MV} {X : XT} {h : PH} {r : Int32} {ce sl mc ms : Nat} {v0 : Nat} {v1 : Int32} {v2 : Int32} (hc : Cx M X RX10 cX10_told) (hr : Rx M 2 118 mc ms 5) (he : Ex M X (some .int) "told" (some (.int r)) h mc ms) (hm : ce ≤ mc) (hs : sl ≤ ms) (hf : b_X10_told_0 h v0 v1 v2 = some r) : GG M X h ce sl 0 [(0, .ref (X.1 + v0)), (1, .int v1), (2, .int v2)] [] := by
  unfold b_X10_told_0 at hf
  refine r_aload_n hc 0 (dc_at dX10_told 0 rfl) rfl ?_
  refine r_getR hc (dc_at dX10_told 1 rfl) fl_X10_103 hf fun a1 hf => ?_
  refine r_bipush (40 : Int32) hc (dc_at dX10_told 2 rfl) (by decide) ?_
  refine r_iload_n hc 1 (dc_at dX10_told 3 rfl) rfl ?_
  refine r_imul hc (dc_at dX10_told 4 rfl) ?_
  refine r_iload_n hc 2 (dc_at dX10_told 5 rfl) rfl ?_
  refine r_iadd hc (dc_at dX10_told 6 rfl) ?_
  refine r_laload hc (dc_at dX10_told 7 rfl) hf fun x2 hf => ?_
  refine r_lstore_n [(3, .long x2), (0, .ref (X.1 + v0)), (1, .int v1), (2, .int v2)] hc hr (dc_at dX10_told 8 rfl) (by decide) rfl ?_
  refine r_lload_n hc 0 (dc_at dX10_told 9 rfl) rfl ?_
  refine r_lconst (0 : Int64) hc (dc_at dX10_told 10 rfl) (by decide) ?_
  refine r_aload_n hc 1 (dc_at dX10_told 11 rfl) rfl ?_
  refine r_getR hc (dc_at dX10_told 12 rfl) fl_X10_13 hf fun a3 hf => ?_
  refine r_iconst (2 : Int32) hc (dc_at dX10_told 13 rfl) (by decide) ?_
  refine r_iaload hc (dc_at dX10_told 14 rfl) hf fun x4 hf => ?_
  refine r_iconst (1 : Int32) hc (dc_at dX10_told 15 rfl) (by decide) ?_
  refine r_isub hc (dc_at dX10_told 16 rfl) ?_
  refine r_i2l hc (dc_at dX10_told 17 rfl) ?_
  refine ob hf fun x5 ex hf => ?_
  refine r_callSi (As := [.long x2, .long ((0 : Int64)), .long ((Int32.toInt64 ((x4 - (1 : Int32)))))]) hc hr (dc_at dX10_told 18 rfl) ml_X10_172 mv_X10_within st_X10_within rfl (mt_X10_within ex) (by first | exact Nat.le_of_ble_eq_true rfl | omega) (by first | exact Nat.le_of_ble_eq_true rfl | omega) (by first | exact Nat.le_of_ble_eq_true rfl | omega) hm hs ?_
  refine r_if_eq (tgt := 34) hc (dc_at dX10_told 19 rfl) (by decide) hf (fun hf => ?_) (fun hf => ?_)
  · refine r_iconst (-1 : Int32) hc (dc_at dX10_told 23 rfl) (by decide) ?_
    exact r_iretP hc he (hm) (hs) (dc_at dX10_told 24 rfl) hf
  · refine r_lload_n hc 0 (dc_at dX10_told 20 rfl) rfl ?_
    refine r_l2i hc (dc_at dX10_told 21 rfl) ?_
    refine r_goto (tgt := 35) hc (dc_at dX10_told 22 rfl) (by decide) ?_
    exact r_iretP hc he (hm) (hs) (dc_at dX10_told 24 rfl) hf
def m_X10_told (h : PH) (p0 : Nat) (p1 : Int32) (p2 : Int32) : Option Int32 := b_X10_told_0 h p0 p1 p2
theorem mt_X10_told {l : Launch} {X : XT} {h : PH} {p0 : Nat} {p1 : Int32} {p2 : Int32} {r : Int32} (ex : m_X10_told h p0 p1 p2 = some r) : MT l X yX10_told cX10_told 5 (some .int) 2 118 0 0 [.ref (X.1 + p0), .int p1, .int p2] h (some (.int r)) h := MT.of (by decide) (Nat.le_of_ble_eq_true rfl) fun M hl hc hr he => by
  subst hl
  exact gg_sub [0, 1, 2] rfl (t_X10_told_0  hc hr he (Nat.zero_le _) (Nat.zero_le _) ex)
/-! FractionLiftModel.judge(II)I -/
def lX10_judgeL : List (Nat × Instr × Nat × Nat) := [(0, .aload_n 0, 1, 1), (1, .iconst 0, 1, 2), (2, .putfield 1, 3, 5), (5, .iload_n 2, 1, 6), (6, .i2l, 1, 7), (7, .lconst 0, 1, 8), (8, .ldc2_w 290, 3, 11), (11, .invokestatic 172, 3, 14), (14, .ifCond .ne 6, 3, 17), (17, .bipush (-2), 2, 19), (19, .ireturn, 1, 20), (20, .aload_n 0, 1, 21), (21, .iload_n 1, 1, 22), (22, .bipush 8, 2, 24), (24, .invokevirtual 296, 3, 27), (27, .istore_n 3, 1, 28), (28, .iload_n 3, 1, 29), (29, .ifCond .eq 5, 3, 32), (32, .iload_n 3, 1, 33), (33, .ireturn, 1, 34), (34, .aload_n 0, 1, 35), (35, .getfield 13, 3, 38), (38, .bipush 7, 2, 40), (40, .iaload, 1, 41), (41, .i2l, 1, 42), (42, .lstore 4, 2, 44), (44, .aload_n 0, 1, 45), (45, .getfield 13, 3, 48), (48, .bipush 8, 2, 50), (50, .iaload, 1, 51), (51, .i2l, 1, 52), (52, .lstore 6, 2, 54), (54, .iconst 0, 1, 55), (55, .istore 8, 2, 57), (57, .iconst 0, 1, 58), (58, .istore 9, 2, 60), (60, .iload 8, 2, 62), (62, .aload_n 0, 1, 63), (63, .getfield 100, 3, 66), (66, .iload_n 1, 1, 67), (67, .iaload, 1, 68), (68, .if_icmp .ge 46, 3, 71), (71, .aload_n 0, 1, 72), (72, .aload_n 0, 1, 73), (73, .iload_n 1, 1, 74), (74, .iload 8, 2, 76), (76, .invokevirtual 299, 3, 79), (79, .lload 4, 2, 81), (81, .lload 6, 2, 83), (83, .invokevirtual 275, 3, 86), (86, .istore 9, 2, 88), (88, .iload 9, 2, 90), (90, .ifCond .eq 6, 3, 93), (93, .goto 21, 3, 96), (96, .aload_n 0, 1, 97), (97, .getfield 180, 3, 100), (100, .lstore 4, 2, 102), (102, .aload_n 0, 1, 103), (103, .getfield 184, 3, 106), (106, .lstore 6, 2, 108), (108, .iinc 8 1, 3, 111), (111, .goto (-51), 3, 114), (114, .iload_n 2, 1, 115), (115, .ifCond .ne 17, 3, 118), (118, .iload 9, 2, 120), (120, .ifCond .ne 7, 3, 123), (123, .iconst (-1), 1, 124), (124, .goto 31, 3, 127), (127, .iload 8, 2, 129), (129, .goto 26, 3, 132), (132, .iload_n 2, 1, 133), (133, .iconst 1, 1, 134), (134, .if_icmp .ne 8, 3, 137), (137, .iload 9, 2, 139), (139, .goto 16, 3, 142), (142, .iload_n 2, 1, 143), (143, .iconst 2, 1, 144), (144, .if_icmp .ne 8, 3, 147), (147, .lload 4, 2, 149), (149, .goto 5, 3, 152), (152, .lload 6, 2, 154), (154, .l2i, 1, 155), (155, .ireturn, 1, 156)]
set_option maxRecDepth 20000 in
theorem dX10_judge : dcL cX10_judge lX10_judgeL = true := by decide +kernel
def b_X10_judge_114 (F : Nat) (h : PH) (v2 : Int32) (v4 : Int64) (v6 : Int64) (v8 : Int32) (v9 : Int32) : Option (Int32 × PH) := if v2 = 0 then (if v9 = 0 then (some ((-1 : Int32), h)) else (some (v8, h))) else (if v2 = (1 : Int32) then (some (v9, h)) else (if v2 = (2 : Int32) then (some ((Int64.toInt32 v4), h)) else (some ((Int64.toInt32 v6), h))))
set_option maxRecDepth 20000 in
theorem t_X10_judge_114 {M : MV} {X : XT} {F : Nat} {h hz : PH} {r : Int32} {ce sl mc ms : Nat} {v2 : Int32} {v4 : Int64} {v6 : Int64} {v8 : Int32} {v9 : Int32} (hc : Cx M X RX10 cX10_judge) (hr : Rx M 136 7890 mc ms 10) (he : Ex M X (some .int) "judge" (some (.int r)) hz mc ms) (hm : ce ≤ mc) (hs : sl ≤ ms) (hf : b_X10_judge_114 F h v2 v4 v6 v8 v9 = some (r, hz)) : GG M X h ce sl 114 [(2, .int v2), (4, .long v4), (6, .long v6), (8, .int v8), (9, .int v9)] [] := by
  unfold b_X10_judge_114 at hf
  refine r_iload_n hc 0 (dc_at dX10_judge 62 rfl) rfl ?_
  refine r_if_ne (tgt := 132) hc (dc_at dX10_judge 63 rfl) (by decide) hf (fun hf => ?_) (fun hf => ?_)
  · refine r_iload_n hc 0 (dc_at dX10_judge 70 rfl) rfl ?_
    refine r_iconst (1 : Int32) hc (dc_at dX10_judge 71 rfl) (by decide) ?_
    refine r_icmp_ne (tgt := 142) hc (dc_at dX10_judge 72 rfl) (by decide) hf (fun hf => ?_) (fun hf => ?_)
    · refine r_iload_n hc 0 (dc_at dX10_judge 75 rfl) rfl ?_
      refine r_iconst (2 : Int32) hc (dc_at dX10_judge 76 rfl) (by decide) ?_
      refine r_icmp_ne (tgt := 152) hc (dc_at dX10_judge 77 rfl) (by decide) hf (fun hf => ?_) (fun hf => ?_)
      · refine r_lload hc 2 (dc_at dX10_judge 80 rfl) rfl ?_
        refine r_l2i hc (dc_at dX10_judge 81 rfl) ?_
        exact r_iret hc he (hm) (hs) (dc_at dX10_judge 82 rfl) hf
      · refine r_lload hc 1 (dc_at dX10_judge 78 rfl) rfl ?_
        refine r_goto (tgt := 154) hc (dc_at dX10_judge 79 rfl) (by decide) ?_
        refine r_l2i hc (dc_at dX10_judge 81 rfl) ?_
        exact r_iret hc he (hm) (hs) (dc_at dX10_judge 82 rfl) hf
    · refine r_iload hc 4 (dc_at dX10_judge 73 rfl) rfl ?_
      refine r_goto (tgt := 155) hc (dc_at dX10_judge 74 rfl) (by decide) ?_
      exact r_iret hc he (hm) (hs) (dc_at dX10_judge 82 rfl) hf
  · refine r_iload hc 4 (dc_at dX10_judge 64 rfl) rfl ?_
    refine r_if_ne (tgt := 127) hc (dc_at dX10_judge 65 rfl) (by decide) hf (fun hf => ?_) (fun hf => ?_)
    · refine r_iload hc 3 (dc_at dX10_judge 68 rfl) rfl ?_
      refine r_goto (tgt := 155) hc (dc_at dX10_judge 69 rfl) (by decide) ?_
      exact r_iret hc he (hm) (hs) (dc_at dX10_judge 82 rfl) hf
    · refine r_iconst (-1 : Int32) hc (dc_at dX10_judge 66 rfl) (by decide) ?_
      refine r_goto (tgt := 155) hc (dc_at dX10_judge 67 rfl) (by decide) ?_
      exact r_iret hc he (hm) (hs) (dc_at dX10_judge 82 rfl) hf
def b_X10_judge_60 (F : Nat) (self36 : PH → Nat → Int32 → Int32 → Int64 → Int64 → Int32 → Int32 → Option (Int32 × PH)) (h : PH) (v0 : Nat) (v1 : Int32) (v2 : Int32) (v4 : Int64) (v6 : Int64) (v8 : Int32) (v9 : Int32) : Option (Int32 × PH) := (gR 10 53 h v0).bind fun a1 => ((aI 0 h a1 v1).bind fun x2 => (if x2 ≤ v8 then (b_X10_judge_114 F h v2 v4 v6 v8 v9) else (cO 10 h v0 ((m_X10_told h v0 v1 v8).bind fun x3 => (cO 10 h v0 (bind2 (m_X10_leadsFrom F h v0 x3 v4 v6) fun x4 h5 => (if x4 = 0 then ((gL 10 15 h5 v0).bind fun x6 => ((gL 10 16 h5 v0).bind fun x7 => (bindv (v8 + (1)) fun x8 => (self36 h5 v0 v1 v2 x6 x7 x8 x4)))) else (b_X10_judge_114 F h5 v2 v4 v6 v8 x4))))))))
set_option maxRecDepth 20000 in
theorem tb_X10_judge_60 {M : MV} {X : XT} {F : Nat} {self36 : PH → Nat → Int32 → Int32 → Int64 → Int64 → Int32 → Int32 → Option (Int32 × PH)} {h hz : PH} {r : Int32} {ce sl mc ms : Nat} {v0 : Nat} {v1 : Int32} {v2 : Int32} {v4 : Int64} {v6 : Int64} {v8 : Int32} {v9 : Int32} (hc : Cx M X RX10 cX10_judge) (hr : Rx M 136 7890 mc ms 10) (he : Ex M X (some .int) "judge" (some (.int r)) hz mc ms) (hm : ce ≤ mc) (hs : sl ≤ ms) (ih36 : ∀ (h : PH) (v0 : Nat) (v1 : Int32) (v2 : Int32) (v4 : Int64) (v6 : Int64) (v8 : Int32) (v9 : Int32), self36 h v0 v1 v2 v4 v6 v8 v9 = some (r, hz) → GG M X h ce sl 60 [(0, .ref (X.1 + v0)), (1, .int v1), (2, .int v2), (4, .long v4), (6, .long v6), (8, .int v8), (9, .int v9)] []) (hf : b_X10_judge_60 F self36 h v0 v1 v2 v4 v6 v8 v9 = some (r, hz)) : GG M X h ce sl 60 [(0, .ref (X.1 + v0)), (1, .int v1), (2, .int v2), (4, .long v4), (6, .long v6), (8, .int v8), (9, .int v9)] [] := by
  unfold b_X10_judge_60 at hf
  refine r_iload hc 5 (dc_at dX10_judge 36 rfl) rfl ?_
  refine r_aload_n hc 0 (dc_at dX10_judge 37 rfl) rfl ?_
  refine r_getR hc (dc_at dX10_judge 38 rfl) fl_X10_100 hf fun a1 hf => ?_
  refine r_iload_n hc 1 (dc_at dX10_judge 39 rfl) rfl ?_
  refine r_iaload hc (dc_at dX10_judge 40 rfl) hf fun x2 hf => ?_
  refine r_icmp_ge (tgt := 114) hc (dc_at dX10_judge 41 rfl) (by decide) hf (fun hf => ?_) (fun hf => ?_)
  · exact gg_sub [2, 3, 4, 5, 6] rfl (t_X10_judge_114 hc hr he hm hs  hf)
  · refine r_aload_n hc 0 (dc_at dX10_judge 42 rfl) rfl ?_
    refine r_aload_n hc 0 (dc_at dX10_judge 43 rfl) rfl ?_
    refine r_iload_n hc 1 (dc_at dX10_judge 44 rfl) rfl ?_
    refine r_iload hc 5 (dc_at dX10_judge 45 rfl) rfl ?_
    obtain ⟨ho, hf⟩ := cO_some hf
    refine ob hf fun x3 ex hf => ?_
    refine r_callVi (As := [.int v1, .int v8]) (ci := 10) hc hr (dc_at dX10_judge 46 rfl) ml_X10_299 mv_X10_told vi_X10_told rfl ho rfl (mt_X10_told ex) (by first | exact Nat.le_of_ble_eq_true rfl | omega) (by first | exact Nat.le_of_ble_eq_true rfl | omega) (by first | exact Nat.le_of_ble_eq_true rfl | omega) hm hs ?_
    refine r_lload hc 3 (dc_at dX10_judge 47 rfl) rfl ?_
    refine r_lload hc 4 (dc_at dX10_judge 48 rfl) rfl ?_
    obtain ⟨ho, hf⟩ := cO_some hf
    refine ob2 hf fun x4 h5 ex hf => ?_
    refine r_callVi (As := [.int x3, .long v4, .long v6]) (ci := 10) hc hr (dc_at dX10_judge 49 rfl) ml_X10_275 mv_X10_leadsFrom vi_X10_leadsFrom rfl ho rfl (mt_X10_leadsFrom ex) (by first | exact Nat.le_of_ble_eq_true rfl | omega) (by first | exact Nat.le_of_ble_eq_true rfl | omega) (by first | exact Nat.le_of_ble_eq_true rfl | omega) hm hs ?_
    refine r_istore [(9, .int x4), (0, .ref (X.1 + v0)), (1, .int v1), (2, .int v2), (4, .long v4), (6, .long v6), (8, .int v8)] hc hr (dc_at dX10_judge 50 rfl) (by decide) rfl ?_
    refine r_iload hc 0 (dc_at dX10_judge 51 rfl) rfl ?_
    refine r_if_eq (tgt := 96) hc (dc_at dX10_judge 52 rfl) (by decide) hf (fun hf => ?_) (fun hf => ?_)
    · refine r_aload_n hc 1 (dc_at dX10_judge 54 rfl) rfl ?_
      refine r_getL hc (dc_at dX10_judge 55 rfl) fl_X10_180 hf fun x6 hf => ?_
      refine r_lstore [(4, .long x6), (9, .int x4), (0, .ref (X.1 + v0)), (1, .int v1), (2, .int v2), (6, .long v6), (8, .int v8)] hc hr (dc_at dX10_judge 56 rfl) (by decide) rfl ?_
      refine r_aload_n hc 2 (dc_at dX10_judge 57 rfl) rfl ?_
      refine r_getL hc (dc_at dX10_judge 58 rfl) fl_X10_184 hf fun x7 hf => ?_
      refine r_lstore [(6, .long x7), (4, .long x6), (9, .int x4), (0, .ref (X.1 + v0)), (1, .int v1), (2, .int v2), (8, .int v8)] hc hr (dc_at dX10_judge 59 rfl) (by decide) rfl ?_
      refine obv hf fun x8 e_x8 hf => ?_
      refine r_iinc 6 [(8, .int x8), (6, .long x7), (4, .long x6), (9, .int x4), (0, .ref (X.1 + v0)), (1, .int v1), (2, .int v2)] hc hr (dc_at dX10_judge 60 rfl) rfl (by rw [e_x8]; rfl) (by decide) rfl ?_
      refine r_goto (tgt := 60) hc (dc_at dX10_judge 61 rfl) (by decide) ?_
      exact gg_sub [4, 5, 6, 2, 1, 0, 3] rfl (ih36 _ _ _ _ _ _ _ _ hf)
    · refine r_goto (tgt := 114) hc (dc_at dX10_judge 53 rfl) (by decide) ?_
      exact gg_sub [3, 4, 5, 6, 0] rfl (t_X10_judge_114 hc hr he hm hs  hf)
def l_X10_judge_60 (F : Nat) : Nat → PH → Nat → Int32 → Int32 → Int64 → Int64 → Int32 → Int32 → Option (Int32 × PH)
  | 0 => fun _ _ _ _ _ _ _ _ => none
  | n + 1 => fun h v0 v1 v2 v4 v6 v8 v9 => b_X10_judge_60 F (l_X10_judge_60 F n) h v0 v1 v2 v4 v6 v8 v9
theorem tl_X10_judge_60 {M : MV} {X : XT} {F : Nat} {hz : PH} {r : Int32} {ce sl mc ms : Nat} (hc : Cx M X RX10 cX10_judge) (hr : Rx M 136 7890 mc ms 10) (he : Ex M X (some .int) "judge" (some (.int r)) hz mc ms) (hm : ce ≤ mc) (hs : sl ≤ ms) (n : Nat) : ∀ (h : PH) (v0 : Nat) (v1 : Int32) (v2 : Int32) (v4 : Int64) (v6 : Int64) (v8 : Int32) (v9 : Int32), l_X10_judge_60 F n h v0 v1 v2 v4 v6 v8 v9 = some (r, hz) → GG M X h ce sl 60 [(0, .ref (X.1 + v0)), (1, .int v1), (2, .int v2), (4, .long v4), (6, .long v6), (8, .int v8), (9, .int v9)] [] := by
  induction n with
  | zero => intro h v0 v1 v2 v4 v6 v8 v9 hf; cases hf
  | succ n ih => intro h v0 v1 v2 v4 v6 v8 v9 hf; exact tb_X10_judge_60 (F := F) hc hr he hm hs  ih hf
def b_X10_judge_0 (F : Nat) (h : PH) (v0 : Nat) (v1 : Int32) (v2 : Int32) : Option (Int32 × PH) := (pV 10 0 (.int (0 : Int32)) h v0).bind fun h1 => ((m_X10_within (Int32.toInt64 v2) (0 : Int64) (3 : Int64)).bind fun x2 => (if x2 = 0 then (some ((-2 : Int32), h1)) else (cO 10 h1 v0 ((m_X10_noRow h1 v0 v1 (8 : Int32)).bind fun x3 => (if x3 = 0 then ((gR 10 1 h1 v0).bind fun a4 => ((aI 0 h1 a4 (7 : Int32)).bind fun x5 => (bindv (Int32.toInt64 x5) fun x6 => ((gR 10 1 h1 v0).bind fun a7 => ((aI 0 h1 a7 (8 : Int32)).bind fun x8 => (bindv (Int32.toInt64 x8) fun x9 => (l_X10_judge_60 F F h1 v0 v1 v2 x6 x9 (0 : Int32) (0 : Int32)))))))) else (some (x3, h1)))))))
set_option maxRecDepth 20000 in
theorem t_X10_judge_0 {M : MV} {X : XT} {F : Nat} {h hz : PH} {r : Int32} {ce sl mc ms : Nat} {v0 : Nat} {v1 : Int32} {v2 : Int32} (hc : Cx M X RX10 cX10_judge) (hr : Rx M 136 7890 mc ms 10) (he : Ex M X (some .int) "judge" (some (.int r)) hz mc ms) (hm : ce ≤ mc) (hs : sl ≤ ms) (hf : b_X10_judge_0 F h v0 v1 v2 = some (r, hz)) : GG M X h ce sl 0 [(0, .ref (X.1 + v0)), (1, .int v1), (2, .int v2)] [] := by
  unfold b_X10_judge_0 at hf
  refine r_aload_n hc 0 (dc_at dX10_judge 0 rfl) rfl ?_
  refine r_iconst (0 : Int32) hc (dc_at dX10_judge 1 rfl) (by decide) ?_
  refine r_putI hc he (dc_at dX10_judge 2 rfl) fp_X10_1 (fun q => by cases q) hf fun h1 hf => ?_
  refine r_iload_n hc 2 (dc_at dX10_judge 3 rfl) rfl ?_
  refine r_i2l hc (dc_at dX10_judge 4 rfl) ?_
  refine r_lconst (0 : Int64) hc (dc_at dX10_judge 5 rfl) (by decide) ?_
  refine r_ldc2 hc (dc_at dX10_judge 6 rfl) cl2_X10_290 ?_
  refine ob hf fun x2 ex hf => ?_
  refine r_callSi (As := [.long ((Int32.toInt64 v2)), .long ((0 : Int64)), .long ((3 : Int64))]) hc hr (dc_at dX10_judge 7 rfl) ml_X10_172 mv_X10_within st_X10_within rfl (mt_X10_within ex) (by first | exact Nat.le_of_ble_eq_true rfl | omega) (by first | exact Nat.le_of_ble_eq_true rfl | omega) (by first | exact Nat.le_of_ble_eq_true rfl | omega) hm hs ?_
  refine r_if_ne (tgt := 20) hc (dc_at dX10_judge 8 rfl) (by decide) hf (fun hf => ?_) (fun hf => ?_)
  · refine r_aload_n hc 0 (dc_at dX10_judge 11 rfl) rfl ?_
    refine r_iload_n hc 1 (dc_at dX10_judge 12 rfl) rfl ?_
    refine r_bipush (8 : Int32) hc (dc_at dX10_judge 13 rfl) (by decide) ?_
    obtain ⟨ho, hf⟩ := cO_some hf
    refine ob hf fun x3 ex hf => ?_
    refine r_callVi (As := [.int v1, .int ((8 : Int32))]) (ci := 10) hc hr (dc_at dX10_judge 14 rfl) ml_X10_296 mv_X10_noRow vi_X10_noRow rfl ho rfl (mt_X10_noRow ex) (by first | exact Nat.le_of_ble_eq_true rfl | omega) (by first | exact Nat.le_of_ble_eq_true rfl | omega) (by first | exact Nat.le_of_ble_eq_true rfl | omega) hm hs ?_
    refine r_istore_n [(3, .int x3), (0, .ref (X.1 + v0)), (1, .int v1), (2, .int v2)] hc hr (dc_at dX10_judge 15 rfl) (by decide) rfl ?_
    refine r_iload_n hc 0 (dc_at dX10_judge 16 rfl) rfl ?_
    refine r_if_eq (tgt := 34) hc (dc_at dX10_judge 17 rfl) (by decide) hf (fun hf => ?_) (fun hf => ?_)
    · refine r_aload_n hc 1 (dc_at dX10_judge 20 rfl) rfl ?_
      refine r_getR hc (dc_at dX10_judge 21 rfl) fl_X10_13 hf fun a4 hf => ?_
      refine r_bipush (7 : Int32) hc (dc_at dX10_judge 22 rfl) (by decide) ?_
      refine r_iaload hc (dc_at dX10_judge 23 rfl) hf fun x5 hf => ?_
      refine r_i2l hc (dc_at dX10_judge 24 rfl) ?_
      refine r_nm (mk := Value.long) hf fun x6 hf => ?_
      refine r_lstore [(4, .long x6), (3, .int x3), (0, .ref (X.1 + v0)), (1, .int v1), (2, .int v2)] hc hr (dc_at dX10_judge 25 rfl) (by decide) rfl ?_
      refine r_aload_n hc 2 (dc_at dX10_judge 26 rfl) rfl ?_
      refine r_getR hc (dc_at dX10_judge 27 rfl) fl_X10_13 hf fun a7 hf => ?_
      refine r_bipush (8 : Int32) hc (dc_at dX10_judge 28 rfl) (by decide) ?_
      refine r_iaload hc (dc_at dX10_judge 29 rfl) hf fun x8 hf => ?_
      refine r_i2l hc (dc_at dX10_judge 30 rfl) ?_
      refine r_nm (mk := Value.long) hf fun x9 hf => ?_
      refine r_lstore [(6, .long x9), (4, .long x6), (3, .int x3), (0, .ref (X.1 + v0)), (1, .int v1), (2, .int v2)] hc hr (dc_at dX10_judge 31 rfl) (by decide) rfl ?_
      refine r_iconst (0 : Int32) hc (dc_at dX10_judge 32 rfl) (by decide) ?_
      refine r_istore [(8, .int ((0 : Int32))), (6, .long x9), (4, .long x6), (3, .int x3), (0, .ref (X.1 + v0)), (1, .int v1), (2, .int v2)] hc hr (dc_at dX10_judge 33 rfl) (by decide) rfl ?_
      refine r_iconst (0 : Int32) hc (dc_at dX10_judge 34 rfl) (by decide) ?_
      refine r_istore [(9, .int ((0 : Int32))), (8, .int ((0 : Int32))), (6, .long x9), (4, .long x6), (3, .int x3), (0, .ref (X.1 + v0)), (1, .int v1), (2, .int v2)] hc hr (dc_at dX10_judge 35 rfl) (by decide) rfl ?_
      exact gg_sub [5, 6, 7, 3, 2, 1, 0] rfl (tl_X10_judge_60 hc hr he hm hs  F _ _ _ _ _ _ _ _ hf)
    · refine r_iload_n hc 0 (dc_at dX10_judge 18 rfl) rfl ?_
      exact r_iret hc he (hm) (hs) (dc_at dX10_judge 19 rfl) hf
  · refine r_bipush (-2 : Int32) hc (dc_at dX10_judge 9 rfl) (by decide) ?_
    exact r_iret hc he (hm) (hs) (dc_at dX10_judge 10 rfl) hf
def m_X10_judge (F : Nat) (h : PH) (p0 : Nat) (p1 : Int32) (p2 : Int32) : Option (Int32 × PH) := b_X10_judge_0 F h p0 p1 p2
theorem mt_X10_judge {l : Launch} {X : XT} {F : Nat} {h hz : PH} {p0 : Nat} {p1 : Int32} {p2 : Int32} {r : Int32} (ex : m_X10_judge F h p0 p1 p2 = some (r, hz)) : MT l X yX10_judge cX10_judge 10 (some .int) 136 7890 0 0 [.ref (X.1 + p0), .int p1, .int p2] h (some (.int r)) hz := MT.of (by decide) (Nat.le_of_ble_eq_true rfl) fun M hl hc hr he => by
  subst hl
  exact gg_sub [0, 1, 2] rfl (t_X10_judge_0  hc hr he (Nat.zero_le _) (Nat.zero_le _) ex)
/-! FractionLiftModel.perform(I)I -/
def lX10_performL : List (Nat × Instr × Nat × Nat) := [(0, .aload_n 0, 1, 1), (1, .iconst 0, 1, 2), (2, .putfield 1, 3, 5), (5, .aload_n 0, 1, 6), (6, .iload_n 1, 1, 7), (7, .bipush 8, 2, 9), (9, .invokevirtual 296, 3, 12), (12, .istore_n 2, 1, 13), (13, .iload_n 2, 1, 14), (14, .ifCond .eq 5, 3, 17), (17, .iload_n 2, 1, 18), (18, .ireturn, 1, 19), (19, .iconst 0, 1, 20), (20, .istore_n 3, 1, 21), (21, .iload_n 3, 1, 22), (22, .aload_n 0, 1, 23), (23, .getfield 100, 3, 26), (26, .iload_n 1, 1, 27), (27, .iaload, 1, 28), (28, .if_icmp .ge 22, 3, 31), (31, .aload_n 0, 1, 32), (32, .aload_n 0, 1, 33), (33, .iload_n 1, 1, 34), (34, .iload_n 3, 1, 35), (35, .invokevirtual 299, 3, 38), (38, .invokevirtual 285, 3, 41), (41, .ifCond .ne 9, 3, 44), (44, .iinc 3 1, 3, 47), (47, .goto (-26), 3, 50), (50, .iload_n 3, 1, 51), (51, .ireturn, 1, 52)]
set_option maxRecDepth 20000 in
theorem dX10_perform : dcL cX10_perform lX10_performL = true := by decide +kernel
def b_X10_perform_21 (F : Nat) (self14 : PH → Nat → Int32 → Int32 → Option (Int32 × PH)) (h : PH) (v0 : Nat) (v1 : Int32) (v3 : Int32) : Option (Int32 × PH) := (gR 10 53 h v0).bind fun a1 => ((aI 0 h a1 v1).bind fun x2 => (if x2 ≤ v3 then (some (v3, h)) else (cO 10 h v0 ((m_X10_told h v0 v1 v3).bind fun x3 => (cO 10 h v0 (bind2 (m_X10_presses F h v0 x3) fun x4 h5 => (if x4 = 0 then (bindv (v3 + (1)) fun x6 => (self14 h5 v0 v1 x6)) else (some (v3, h5)))))))))
set_option maxRecDepth 20000 in
theorem tb_X10_perform_21 {M : MV} {X : XT} {F : Nat} {self14 : PH → Nat → Int32 → Int32 → Option (Int32 × PH)} {h hz : PH} {r : Int32} {ce sl mc ms : Nat} {v0 : Nat} {v1 : Int32} {v3 : Int32} (hc : Cx M X RX10 cX10_perform) (hr : Rx M 138 8006 mc ms 4) (he : Ex M X (some .int) "perform" (some (.int r)) hz mc ms) (hm : ce ≤ mc) (hs : sl ≤ ms) (ih14 : ∀ (h : PH) (v0 : Nat) (v1 : Int32) (v3 : Int32), self14 h v0 v1 v3 = some (r, hz) → GG M X h ce sl 21 [(0, .ref (X.1 + v0)), (1, .int v1), (3, .int v3)] []) (hf : b_X10_perform_21 F self14 h v0 v1 v3 = some (r, hz)) : GG M X h ce sl 21 [(0, .ref (X.1 + v0)), (1, .int v1), (3, .int v3)] [] := by
  unfold b_X10_perform_21 at hf
  refine r_iload_n hc 2 (dc_at dX10_perform 14 rfl) rfl ?_
  refine r_aload_n hc 0 (dc_at dX10_perform 15 rfl) rfl ?_
  refine r_getR hc (dc_at dX10_perform 16 rfl) fl_X10_100 hf fun a1 hf => ?_
  refine r_iload_n hc 1 (dc_at dX10_perform 17 rfl) rfl ?_
  refine r_iaload hc (dc_at dX10_perform 18 rfl) hf fun x2 hf => ?_
  refine r_icmp_ge (tgt := 50) hc (dc_at dX10_perform 19 rfl) (by decide) hf (fun hf => ?_) (fun hf => ?_)
  · refine r_iload_n hc 2 (dc_at dX10_perform 29 rfl) rfl ?_
    exact r_iret hc he (hm) (hs) (dc_at dX10_perform 30 rfl) hf
  · refine r_aload_n hc 0 (dc_at dX10_perform 20 rfl) rfl ?_
    refine r_aload_n hc 0 (dc_at dX10_perform 21 rfl) rfl ?_
    refine r_iload_n hc 1 (dc_at dX10_perform 22 rfl) rfl ?_
    refine r_iload_n hc 2 (dc_at dX10_perform 23 rfl) rfl ?_
    obtain ⟨ho, hf⟩ := cO_some hf
    refine ob hf fun x3 ex hf => ?_
    refine r_callVi (As := [.int v1, .int v3]) (ci := 10) hc hr (dc_at dX10_perform 24 rfl) ml_X10_299 mv_X10_told vi_X10_told rfl ho rfl (mt_X10_told ex) (by first | exact Nat.le_of_ble_eq_true rfl | omega) (by first | exact Nat.le_of_ble_eq_true rfl | omega) (by first | exact Nat.le_of_ble_eq_true rfl | omega) hm hs ?_
    obtain ⟨ho, hf⟩ := cO_some hf
    refine ob2 hf fun x4 h5 ex hf => ?_
    refine r_callVi (As := [.int x3]) (ci := 10) hc hr (dc_at dX10_perform 25 rfl) ml_X10_285 mv_X10_presses vi_X10_presses rfl ho rfl (mt_X10_presses ex) (by first | exact Nat.le_of_ble_eq_true rfl | omega) (by first | exact Nat.le_of_ble_eq_true rfl | omega) (by first | exact Nat.le_of_ble_eq_true rfl | omega) hm hs ?_
    refine r_if_ne (tgt := 50) hc (dc_at dX10_perform 26 rfl) (by decide) hf (fun hf => ?_) (fun hf => ?_)
    · refine r_iload_n hc 2 (dc_at dX10_perform 29 rfl) rfl ?_
      exact r_iret hc he (hm) (hs) (dc_at dX10_perform 30 rfl) hf
    · refine obv hf fun x6 e_x6 hf => ?_
      refine r_iinc 2 [(3, .int x6), (0, .ref (X.1 + v0)), (1, .int v1)] hc hr (dc_at dX10_perform 27 rfl) rfl (by rw [e_x6]; rfl) (by decide) rfl ?_
      refine r_goto (tgt := 21) hc (dc_at dX10_perform 28 rfl) (by decide) ?_
      exact gg_sub [1, 2, 0] rfl (ih14 _ _ _ _ hf)
def l_X10_perform_21 (F : Nat) : Nat → PH → Nat → Int32 → Int32 → Option (Int32 × PH)
  | 0 => fun _ _ _ _ => none
  | n + 1 => fun h v0 v1 v3 => b_X10_perform_21 F (l_X10_perform_21 F n) h v0 v1 v3
theorem tl_X10_perform_21 {M : MV} {X : XT} {F : Nat} {hz : PH} {r : Int32} {ce sl mc ms : Nat} (hc : Cx M X RX10 cX10_perform) (hr : Rx M 138 8006 mc ms 4) (he : Ex M X (some .int) "perform" (some (.int r)) hz mc ms) (hm : ce ≤ mc) (hs : sl ≤ ms) (n : Nat) : ∀ (h : PH) (v0 : Nat) (v1 : Int32) (v3 : Int32), l_X10_perform_21 F n h v0 v1 v3 = some (r, hz) → GG M X h ce sl 21 [(0, .ref (X.1 + v0)), (1, .int v1), (3, .int v3)] [] := by
  induction n with
  | zero => intro h v0 v1 v3 hf; cases hf
  | succ n ih => intro h v0 v1 v3 hf; exact tb_X10_perform_21 (F := F) hc hr he hm hs  ih hf
def b_X10_perform_0 (F : Nat) (h : PH) (v0 : Nat) (v1 : Int32) : Option (Int32 × PH) := (pV 10 0 (.int (0 : Int32)) h v0).bind fun h1 => (cO 10 h1 v0 ((m_X10_noRow h1 v0 v1 (8 : Int32)).bind fun x2 => (if x2 = 0 then (l_X10_perform_21 F F h1 v0 v1 (0 : Int32)) else (some (x2, h1)))))
set_option maxRecDepth 20000 in
theorem t_X10_perform_0 {M : MV} {X : XT} {F : Nat} {h hz : PH} {r : Int32} {ce sl mc ms : Nat} {v0 : Nat} {v1 : Int32} (hc : Cx M X RX10 cX10_perform) (hr : Rx M 138 8006 mc ms 4) (he : Ex M X (some .int) "perform" (some (.int r)) hz mc ms) (hm : ce ≤ mc) (hs : sl ≤ ms) (hf : b_X10_perform_0 F h v0 v1 = some (r, hz)) : GG M X h ce sl 0 [(0, .ref (X.1 + v0)), (1, .int v1)] [] := by
  unfold b_X10_perform_0 at hf
  refine r_aload_n hc 0 (dc_at dX10_perform 0 rfl) rfl ?_
  refine r_iconst (0 : Int32) hc (dc_at dX10_perform 1 rfl) (by decide) ?_
  refine r_putI hc he (dc_at dX10_perform 2 rfl) fp_X10_1 (fun q => by cases q) hf fun h1 hf => ?_
  refine r_aload_n hc 0 (dc_at dX10_perform 3 rfl) rfl ?_
  refine r_iload_n hc 1 (dc_at dX10_perform 4 rfl) rfl ?_
  refine r_bipush (8 : Int32) hc (dc_at dX10_perform 5 rfl) (by decide) ?_
  obtain ⟨ho, hf⟩ := cO_some hf
  refine ob hf fun x2 ex hf => ?_
  refine r_callVi (As := [.int v1, .int ((8 : Int32))]) (ci := 10) hc hr (dc_at dX10_perform 6 rfl) ml_X10_296 mv_X10_noRow vi_X10_noRow rfl ho rfl (mt_X10_noRow ex) (by first | exact Nat.le_of_ble_eq_true rfl | omega) (by first | exact Nat.le_of_ble_eq_true rfl | omega) (by first | exact Nat.le_of_ble_eq_true rfl | omega) hm hs ?_
  refine r_istore_n [(2, .int x2), (0, .ref (X.1 + v0)), (1, .int v1)] hc hr (dc_at dX10_perform 7 rfl) (by decide) rfl ?_
  refine r_iload_n hc 0 (dc_at dX10_perform 8 rfl) rfl ?_
  refine r_if_eq (tgt := 19) hc (dc_at dX10_perform 9 rfl) (by decide) hf (fun hf => ?_) (fun hf => ?_)
  · refine r_iconst (0 : Int32) hc (dc_at dX10_perform 12 rfl) (by decide) ?_
    refine r_istore_n [(3, .int ((0 : Int32))), (2, .int x2), (0, .ref (X.1 + v0)), (1, .int v1)] hc hr (dc_at dX10_perform 13 rfl) (by decide) rfl ?_
    exact gg_sub [2, 3, 0] rfl (tl_X10_perform_21 hc hr he hm hs  F _ _ _ _ hf)
  · refine r_iload_n hc 0 (dc_at dX10_perform 10 rfl) rfl ?_
    exact r_iret hc he (hm) (hs) (dc_at dX10_perform 11 rfl) hf
def m_X10_perform (F : Nat) (h : PH) (p0 : Nat) (p1 : Int32) : Option (Int32 × PH) := b_X10_perform_0 F h p0 p1
theorem mt_X10_perform {l : Launch} {X : XT} {F : Nat} {h hz : PH} {p0 : Nat} {p1 : Int32} {r : Int32} (ex : m_X10_perform F h p0 p1 = some (r, hz)) : MT l X yX10_perform cX10_perform 4 (some .int) 138 8006 0 0 [.ref (X.1 + p0), .int p1] h (some (.int r)) hz := MT.of (by decide) (Nat.le_of_ble_eq_true rfl) fun M hl hc hr he => by
  subst hl
  exact gg_sub [0, 1] rfl (t_X10_perform_0  hc hr he (Nat.zero_le _) (Nat.zero_le _) ex)
/-! FractionLiftModel.draw(I)I -/
def lX10_drawL : List (Nat × Instr × Nat × Nat) := [(0, .aload_n 0, 1, 1), (1, .ldc_w 302, 3, 4), (4, .aload_n 0, 1, 5), (5, .getfield 303, 3, 8), (8, .imul, 1, 9), (9, .sipush 12345, 3, 12), (12, .iadd, 1, 13), (13, .putfield 303, 3, 16), (16, .aload_n 0, 1, 17), (17, .getfield 303, 3, 20), (20, .bipush 16, 2, 22), (22, .iushr, 1, 23), (23, .iload_n 1, 1, 24), (24, .irem, 1, 25), (25, .ireturn, 1, 26)]
set_option maxRecDepth 20000 in
theorem dX10_draw : dcL cX10_draw lX10_drawL = true := by decide +kernel
def b_X10_draw_0 (h : PH) (v0 : Nat) (v1 : Int32) : Option (Int32 × PH) := (gI 10 22 h v0).bind fun x1 => ((pV 10 22 (.int (((((1103515245 : Int32) * x1)) + (12345 : Int32)))) h v0).bind fun h2 => ((gI 10 22 h2 v0).bind fun x3 => (if v1 = 0 then none else (some (((remI ((ushr x3 (16 : Int32))) v1)), h2)))))
set_option maxRecDepth 20000 in
theorem t_X10_draw_0 {M : MV} {X : XT} {h hz : PH} {r : Int32} {ce sl mc ms : Nat} {v0 : Nat} {v1 : Int32} (hc : Cx M X RX10 cX10_draw) (hr : Rx M 1 60 mc ms 2) (he : Ex M X (some .int) "draw" (some (.int r)) hz mc ms) (hm : ce ≤ mc) (hs : sl ≤ ms) (hf : b_X10_draw_0 h v0 v1 = some (r, hz)) : GG M X h ce sl 0 [(0, .ref (X.1 + v0)), (1, .int v1)] [] := by
  unfold b_X10_draw_0 at hf
  refine r_aload_n hc 0 (dc_at dX10_draw 0 rfl) rfl ?_
  refine r_ldcw hc (dc_at dX10_draw 1 rfl) cc_X10_302 ?_
  refine r_aload_n hc 0 (dc_at dX10_draw 2 rfl) rfl ?_
  refine r_getI hc (dc_at dX10_draw 3 rfl) fl_X10_303 hf fun x1 hf => ?_
  refine r_imul hc (dc_at dX10_draw 4 rfl) ?_
  refine r_sipush (12345 : Int32) hc (dc_at dX10_draw 5 rfl) (by decide) ?_
  refine r_iadd hc (dc_at dX10_draw 6 rfl) ?_
  refine r_putI hc he (dc_at dX10_draw 7 rfl) fp_X10_303 (fun q => by cases q) hf fun h2 hf => ?_
  refine r_aload_n hc 0 (dc_at dX10_draw 8 rfl) rfl ?_
  refine r_getI hc (dc_at dX10_draw 9 rfl) fl_X10_303 hf fun x3 hf => ?_
  refine r_bipush (16 : Int32) hc (dc_at dX10_draw 10 rfl) (by decide) ?_
  refine r_iushr hc (dc_at dX10_draw 11 rfl) ?_
  refine r_iload_n hc 1 (dc_at dX10_draw 12 rfl) rfl ?_
  refine r_irem hc (dc_at dX10_draw 13 rfl) hf (fun hf => ?_)
  exact r_iret hc he (hm) (hs) (dc_at dX10_draw 14 rfl) hf
def m_X10_draw (h : PH) (p0 : Nat) (p1 : Int32) : Option (Int32 × PH) := b_X10_draw_0 h p0 p1
theorem mt_X10_draw {l : Launch} {X : XT} {h hz : PH} {p0 : Nat} {p1 : Int32} {r : Int32} (ex : m_X10_draw h p0 p1 = some (r, hz)) : MT l X yX10_draw cX10_draw 2 (some .int) 1 60 0 0 [.ref (X.1 + p0), .int p1] h (some (.int r)) hz := MT.of (by decide) (Nat.le_of_ble_eq_true rfl) fun M hl hc hr he => by
  subst hl
  exact gg_sub [0, 1] rfl (t_X10_draw_0  hc hr he (Nat.zero_le _) (Nat.zero_le _) ex)
/-! FractionLiftModel.day(II)I -/
def lX10_dayL : List (Nat × Instr × Nat × Nat) := [(0, .aload_n 0, 1, 1), (1, .iconst 0, 1, 2), (2, .putfield 1, 3, 5), (5, .iload_n 2, 1, 6), (6, .i2l, 1, 7), (7, .lconst 1, 1, 8), (8, .ldc2_w 306, 3, 11), (11, .invokestatic 172, 3, 14), (14, .ifCond .ne 6, 3, 17), (17, .bipush (-3), 2, 19), (19, .ireturn, 1, 20), (20, .aload_n 0, 1, 21), (21, .getfield 13, 3, 24), (24, .iconst 2, 1, 25), (25, .iaload, 1, 26), (26, .ifCond .ne 6, 3, 29), (29, .bipush (-5), 2, 31), (31, .ireturn, 1, 32), (32, .aload_n 0, 1, 33), (33, .iload_n 1, 1, 34), (34, .putfield 303, 3, 37), (37, .iconst 0, 1, 38), (38, .istore_n 3, 1, 39), (39, .iconst 0, 1, 40), (40, .istore 4, 2, 42), (42, .iload 4, 2, 44), (44, .iload_n 2, 1, 45), (45, .if_icmp .ge 48, 3, 48), (48, .aload_n 0, 1, 49), (49, .aload_n 0, 1, 50), (50, .getfield 13, 3, 53), (53, .iconst 2, 1, 54), (54, .iaload, 1, 55), (55, .invokevirtual 308, 3, 58), (58, .istore 5, 2, 60), (60, .aload_n 0, 1, 61), (61, .bipush 10, 2, 63), (63, .invokevirtual 308, 3, 66), (66, .aload_n 0, 1, 67), (67, .getfield 13, 3, 70), (70, .iconst 5, 1, 71), (71, .iaload, 1, 72), (72, .if_icmp .lt 15, 3, 75), (75, .aload_n 0, 1, 76), (76, .iload 5, 2, 78), (78, .invokevirtual 285, 3, 81), (81, .ifCond .ne 6, 3, 84), (84, .iinc 3 1, 3, 87), (87, .iinc 4 1, 3, 90), (90, .goto (-48), 3, 93), (93, .iload_n 3, 1, 94), (94, .ireturn, 1, 95)]
set_option maxRecDepth 20000 in
theorem dX10_day : dcL cX10_day lX10_dayL = true := by decide +kernel
def b_X10_day_87 (F : Nat) (self25 : PH → Nat → Int32 → Int32 → Int32 → Option (Int32 × PH)) (h : PH) (v0 : Nat) (v2 : Int32) (v3 : Int32) (v4 : Int32) : Option (Int32 × PH) := bindv (v4 + (1)) fun x1 => (self25 h v0 v2 v3 x1)
set_option maxRecDepth 20000 in
theorem t_X10_day_87 {M : MV} {X : XT} {F : Nat} {self25 : PH → Nat → Int32 → Int32 → Int32 → Option (Int32 × PH)} {h hz : PH} {r : Int32} {ce sl mc ms : Nat} {v0 : Nat} {v2 : Int32} {v3 : Int32} {v4 : Int32} (hc : Cx M X RX10 cX10_day) (hr : Rx M 138 8006 mc ms 6) (he : Ex M X (some .int) "day" (some (.int r)) hz mc ms) (hm : ce ≤ mc) (hs : sl ≤ ms) (ih25 : ∀ (h : PH) (v0 : Nat) (v2 : Int32) (v3 : Int32) (v4 : Int32), self25 h v0 v2 v3 v4 = some (r, hz) → GG M X h ce sl 42 [(0, .ref (X.1 + v0)), (2, .int v2), (3, .int v3), (4, .int v4)] []) (hf : b_X10_day_87 F self25 h v0 v2 v3 v4 = some (r, hz)) : GG M X h ce sl 87 [(0, .ref (X.1 + v0)), (2, .int v2), (3, .int v3), (4, .int v4)] [] := by
  unfold b_X10_day_87 at hf
  refine obv hf fun x1 e_x1 hf => ?_
  refine r_iinc 3 [(4, .int x1), (0, .ref (X.1 + v0)), (2, .int v2), (3, .int v3)] hc hr (dc_at dX10_day 48 rfl) rfl (by rw [e_x1]; rfl) (by decide) rfl ?_
  refine r_goto (tgt := 42) hc (dc_at dX10_day 49 rfl) (by decide) ?_
  exact gg_sub [1, 2, 3, 0] rfl (ih25 _ _ _ _ _ hf)
def b_X10_day_42 (F : Nat) (self25 : PH → Nat → Int32 → Int32 → Int32 → Option (Int32 × PH)) (h : PH) (v0 : Nat) (v2 : Int32) (v3 : Int32) (v4 : Int32) : Option (Int32 × PH) := if v2 ≤ v4 then (some (v3, h)) else ((gR 10 1 h v0).bind fun a1 => ((aI 0 h a1 (2 : Int32)).bind fun x2 => (cO 10 h v0 (bind2 (m_X10_draw h v0 x2) fun x3 h4 => (cO 10 h4 v0 (bind2 (m_X10_draw h4 v0 (10 : Int32)) fun x5 h6 => ((gR 10 1 h6 v0).bind fun a7 => ((aI 0 h6 a7 (5 : Int32)).bind fun x8 => (if x5 < x8 then (b_X10_day_87 F self25 h6 v0 v2 v3 v4) else (cO 10 h6 v0 (bind2 (m_X10_presses F h6 v0 x3) fun x9 h10 => (if x9 = 0 then (bindv (v3 + (1)) fun x11 => (b_X10_day_87 F self25 h10 v0 v2 x11 v4)) else (b_X10_day_87 F self25 h10 v0 v2 v3 v4)))))))))))))
set_option maxRecDepth 20000 in
theorem tb_X10_day_42 {M : MV} {X : XT} {F : Nat} {self25 : PH → Nat → Int32 → Int32 → Int32 → Option (Int32 × PH)} {h hz : PH} {r : Int32} {ce sl mc ms : Nat} {v0 : Nat} {v2 : Int32} {v3 : Int32} {v4 : Int32} (hc : Cx M X RX10 cX10_day) (hr : Rx M 138 8006 mc ms 6) (he : Ex M X (some .int) "day" (some (.int r)) hz mc ms) (hm : ce ≤ mc) (hs : sl ≤ ms) (ih25 : ∀ (h : PH) (v0 : Nat) (v2 : Int32) (v3 : Int32) (v4 : Int32), self25 h v0 v2 v3 v4 = some (r, hz) → GG M X h ce sl 42 [(0, .ref (X.1 + v0)), (2, .int v2), (3, .int v3), (4, .int v4)] []) (hf : b_X10_day_42 F self25 h v0 v2 v3 v4 = some (r, hz)) : GG M X h ce sl 42 [(0, .ref (X.1 + v0)), (2, .int v2), (3, .int v3), (4, .int v4)] [] := by
  unfold b_X10_day_42 at hf
  refine r_iload hc 3 (dc_at dX10_day 25 rfl) rfl ?_
  refine r_iload_n hc 1 (dc_at dX10_day 26 rfl) rfl ?_
  refine r_icmp_ge (tgt := 93) hc (dc_at dX10_day 27 rfl) (by decide) hf (fun hf => ?_) (fun hf => ?_)
  · refine r_iload_n hc 2 (dc_at dX10_day 50 rfl) rfl ?_
    exact r_iret hc he (hm) (hs) (dc_at dX10_day 51 rfl) hf
  · refine r_aload_n hc 0 (dc_at dX10_day 28 rfl) rfl ?_
    refine r_aload_n hc 0 (dc_at dX10_day 29 rfl) rfl ?_
    refine r_getR hc (dc_at dX10_day 30 rfl) fl_X10_13 hf fun a1 hf => ?_
    refine r_iconst (2 : Int32) hc (dc_at dX10_day 31 rfl) (by decide) ?_
    refine r_iaload hc (dc_at dX10_day 32 rfl) hf fun x2 hf => ?_
    obtain ⟨ho, hf⟩ := cO_some hf
    refine ob2 hf fun x3 h4 ex hf => ?_
    refine r_callVi (As := [.int x2]) (ci := 10) hc hr (dc_at dX10_day 33 rfl) ml_X10_308 mv_X10_draw vi_X10_draw rfl ho rfl (mt_X10_draw ex) (by first | exact Nat.le_of_ble_eq_true rfl | omega) (by first | exact Nat.le_of_ble_eq_true rfl | omega) (by first | exact Nat.le_of_ble_eq_true rfl | omega) hm hs ?_
    refine r_istore [(5, .int x3), (0, .ref (X.1 + v0)), (2, .int v2), (3, .int v3), (4, .int v4)] hc hr (dc_at dX10_day 34 rfl) (by decide) rfl ?_
    refine r_aload_n hc 1 (dc_at dX10_day 35 rfl) rfl ?_
    refine r_bipush (10 : Int32) hc (dc_at dX10_day 36 rfl) (by decide) ?_
    obtain ⟨ho, hf⟩ := cO_some hf
    refine ob2 hf fun x5 h6 ex hf => ?_
    refine r_callVi (As := [.int ((10 : Int32))]) (ci := 10) hc hr (dc_at dX10_day 37 rfl) ml_X10_308 mv_X10_draw vi_X10_draw rfl ho rfl (mt_X10_draw ex) (by first | exact Nat.le_of_ble_eq_true rfl | omega) (by first | exact Nat.le_of_ble_eq_true rfl | omega) (by first | exact Nat.le_of_ble_eq_true rfl | omega) hm hs ?_
    refine r_aload_n hc 1 (dc_at dX10_day 38 rfl) rfl ?_
    refine r_getR hc (dc_at dX10_day 39 rfl) fl_X10_13 hf fun a7 hf => ?_
    refine r_iconst (5 : Int32) hc (dc_at dX10_day 40 rfl) (by decide) ?_
    refine r_iaload hc (dc_at dX10_day 41 rfl) hf fun x8 hf => ?_
    refine r_icmp_lt (tgt := 87) hc (dc_at dX10_day 42 rfl) (by decide) hf (fun hf => ?_) (fun hf => ?_)
    · exact gg_sub [1, 2, 3, 4] rfl (t_X10_day_87 hc hr he hm hs ih25 hf)
    · refine r_aload_n hc 1 (dc_at dX10_day 43 rfl) rfl ?_
      refine r_iload hc 0 (dc_at dX10_day 44 rfl) rfl ?_
      obtain ⟨ho, hf⟩ := cO_some hf
      refine ob2 hf fun x9 h10 ex hf => ?_
      refine r_callVi (As := [.int x3]) (ci := 10) hc hr (dc_at dX10_day 45 rfl) ml_X10_285 mv_X10_presses vi_X10_presses rfl ho rfl (mt_X10_presses ex) (by first | exact Nat.le_of_ble_eq_true rfl | omega) (by first | exact Nat.le_of_ble_eq_true rfl | omega) (by first | exact Nat.le_of_ble_eq_true rfl | omega) hm hs ?_
      refine r_if_ne (tgt := 87) hc (dc_at dX10_day 46 rfl) (by decide) hf (fun hf => ?_) (fun hf => ?_)
      · exact gg_sub [1, 2, 3, 4] rfl (t_X10_day_87 hc hr he hm hs ih25 hf)
      · refine obv hf fun x11 e_x11 hf => ?_
        refine r_iinc 3 [(3, .int x11), (5, .int x3), (0, .ref (X.1 + v0)), (2, .int v2), (4, .int v4)] hc hr (dc_at dX10_day 47 rfl) rfl (by rw [e_x11]; rfl) (by decide) rfl ?_
        exact gg_sub [2, 3, 0, 4] rfl (t_X10_day_87 hc hr he hm hs ih25 hf)
def l_X10_day_42 (F : Nat) : Nat → PH → Nat → Int32 → Int32 → Int32 → Option (Int32 × PH)
  | 0 => fun _ _ _ _ _ => none
  | n + 1 => fun h v0 v2 v3 v4 => b_X10_day_42 F (l_X10_day_42 F n) h v0 v2 v3 v4
theorem tl_X10_day_42 {M : MV} {X : XT} {F : Nat} {hz : PH} {r : Int32} {ce sl mc ms : Nat} (hc : Cx M X RX10 cX10_day) (hr : Rx M 138 8006 mc ms 6) (he : Ex M X (some .int) "day" (some (.int r)) hz mc ms) (hm : ce ≤ mc) (hs : sl ≤ ms) (n : Nat) : ∀ (h : PH) (v0 : Nat) (v2 : Int32) (v3 : Int32) (v4 : Int32), l_X10_day_42 F n h v0 v2 v3 v4 = some (r, hz) → GG M X h ce sl 42 [(0, .ref (X.1 + v0)), (2, .int v2), (3, .int v3), (4, .int v4)] [] := by
  induction n with
  | zero => intro h v0 v2 v3 v4 hf; cases hf
  | succ n ih => intro h v0 v2 v3 v4 hf; exact tb_X10_day_42 (F := F) hc hr he hm hs  ih hf
def b_X10_day_0 (F : Nat) (h : PH) (v0 : Nat) (v1 : Int32) (v2 : Int32) : Option (Int32 × PH) := (pV 10 0 (.int (0 : Int32)) h v0).bind fun h1 => ((m_X10_within (Int32.toInt64 v2) (1 : Int64) (60 : Int64)).bind fun x2 => (if x2 = 0 then (some ((-3 : Int32), h1)) else ((gR 10 1 h1 v0).bind fun a3 => ((aI 0 h1 a3 (2 : Int32)).bind fun x4 => (if x4 = 0 then (some ((-5 : Int32), h1)) else ((pV 10 22 (.int v1) h1 v0).bind fun h5 => (l_X10_day_42 F F h5 v0 v2 (0 : Int32) (0 : Int32))))))))
set_option maxRecDepth 20000 in
theorem t_X10_day_0 {M : MV} {X : XT} {F : Nat} {h hz : PH} {r : Int32} {ce sl mc ms : Nat} {v0 : Nat} {v1 : Int32} {v2 : Int32} (hc : Cx M X RX10 cX10_day) (hr : Rx M 138 8006 mc ms 6) (he : Ex M X (some .int) "day" (some (.int r)) hz mc ms) (hm : ce ≤ mc) (hs : sl ≤ ms) (hf : b_X10_day_0 F h v0 v1 v2 = some (r, hz)) : GG M X h ce sl 0 [(0, .ref (X.1 + v0)), (1, .int v1), (2, .int v2)] [] := by
  unfold b_X10_day_0 at hf
  refine r_aload_n hc 0 (dc_at dX10_day 0 rfl) rfl ?_
  refine r_iconst (0 : Int32) hc (dc_at dX10_day 1 rfl) (by decide) ?_
  refine r_putI hc he (dc_at dX10_day 2 rfl) fp_X10_1 (fun q => by cases q) hf fun h1 hf => ?_
  refine r_iload_n hc 2 (dc_at dX10_day 3 rfl) rfl ?_
  refine r_i2l hc (dc_at dX10_day 4 rfl) ?_
  refine r_lconst (1 : Int64) hc (dc_at dX10_day 5 rfl) (by decide) ?_
  refine r_ldc2 hc (dc_at dX10_day 6 rfl) cl2_X10_306 ?_
  refine ob hf fun x2 ex hf => ?_
  refine r_callSi (As := [.long ((Int32.toInt64 v2)), .long ((1 : Int64)), .long ((60 : Int64))]) hc hr (dc_at dX10_day 7 rfl) ml_X10_172 mv_X10_within st_X10_within rfl (mt_X10_within ex) (by first | exact Nat.le_of_ble_eq_true rfl | omega) (by first | exact Nat.le_of_ble_eq_true rfl | omega) (by first | exact Nat.le_of_ble_eq_true rfl | omega) hm hs ?_
  refine r_if_ne (tgt := 20) hc (dc_at dX10_day 8 rfl) (by decide) hf (fun hf => ?_) (fun hf => ?_)
  · refine r_aload_n hc 0 (dc_at dX10_day 11 rfl) rfl ?_
    refine r_getR hc (dc_at dX10_day 12 rfl) fl_X10_13 hf fun a3 hf => ?_
    refine r_iconst (2 : Int32) hc (dc_at dX10_day 13 rfl) (by decide) ?_
    refine r_iaload hc (dc_at dX10_day 14 rfl) hf fun x4 hf => ?_
    refine r_if_ne (tgt := 32) hc (dc_at dX10_day 15 rfl) (by decide) hf (fun hf => ?_) (fun hf => ?_)
    · refine r_aload_n hc 0 (dc_at dX10_day 18 rfl) rfl ?_
      refine r_iload_n hc 1 (dc_at dX10_day 19 rfl) rfl ?_
      refine r_putI hc he (dc_at dX10_day 20 rfl) fp_X10_303 (fun q => by cases q) hf fun h5 hf => ?_
      refine r_iconst (0 : Int32) hc (dc_at dX10_day 21 rfl) (by decide) ?_
      refine r_istore_n [(3, .int ((0 : Int32))), (0, .ref (X.1 + v0)), (1, .int v1), (2, .int v2)] hc hr (dc_at dX10_day 22 rfl) (by decide) rfl ?_
      refine r_iconst (0 : Int32) hc (dc_at dX10_day 23 rfl) (by decide) ?_
      refine r_istore [(4, .int ((0 : Int32))), (3, .int ((0 : Int32))), (0, .ref (X.1 + v0)), (1, .int v1), (2, .int v2)] hc hr (dc_at dX10_day 24 rfl) (by decide) rfl ?_
      exact gg_sub [2, 4, 1, 0] rfl (tl_X10_day_42 hc hr he hm hs  F _ _ _ _ _ hf)
    · refine r_bipush (-5 : Int32) hc (dc_at dX10_day 16 rfl) (by decide) ?_
      exact r_iret hc he (hm) (hs) (dc_at dX10_day 17 rfl) hf
  · refine r_bipush (-3 : Int32) hc (dc_at dX10_day 9 rfl) (by decide) ?_
    exact r_iret hc he (hm) (hs) (dc_at dX10_day 10 rfl) hf
def m_X10_day (F : Nat) (h : PH) (p0 : Nat) (p1 : Int32) (p2 : Int32) : Option (Int32 × PH) := b_X10_day_0 F h p0 p1 p2
theorem mt_X10_day {l : Launch} {X : XT} {F : Nat} {h hz : PH} {p0 : Nat} {p1 : Int32} {p2 : Int32} {r : Int32} (ex : m_X10_day F h p0 p1 p2 = some (r, hz)) : MT l X yX10_day cX10_day 6 (some .int) 138 8006 0 0 [.ref (X.1 + p0), .int p1, .int p2] h (some (.int r)) hz := MT.of (by decide) (Nat.le_of_ble_eq_true rfl) fun M hl hc hr he => by
  subst hl
  exact gg_sub [0, 1, 2] rfl (t_X10_day_0  hc hr he (Nat.zero_le _) (Nat.zero_le _) ex)
/-! FractionLiftModel.laysOrder()V -/
def lX10_laysOrderL : List (Nat × Instr × Nat × Nat) := [(0, .iconst 0, 1, 1), (1, .istore_n 1, 1, 2), (2, .iload_n 1, 1, 3), (3, .aload_n 0, 1, 4), (4, .getfield 13, 3, 7), (7, .iconst 3, 1, 8), (8, .iaload, 1, 9), (9, .if_icmp .ge 20, 3, 12), (12, .aload_n 0, 1, 13), (13, .getfield 37, 3, 16), (16, .aload_n 0, 1, 17), (17, .iload_n 1, 1, 18), (18, .invokevirtual 251, 3, 21), (21, .iload_n 1, 1, 22), (22, .iastore, 1, 23), (23, .iinc 1 1, 3, 26), (26, .goto (-24), 3, 29), (29, .return_, 1, 30)]
set_option maxRecDepth 20000 in
theorem dX10_laysOrder : dcL cX10_laysOrder lX10_laysOrderL = true := by decide +kernel
def b_X10_laysOrder_2 (F : Nat) (self2 : PH → Nat → Int32 → Option (Unit × PH)) (h : PH) (v0 : Nat) (v1 : Int32) : Option (Unit × PH) := (gR 10 1 h v0).bind fun a1 => ((aI 0 h a1 (3 : Int32)).bind fun x2 => (if x2 ≤ v1 then (some ((), h)) else ((gR 10 23 h v0).bind fun a3 => (cO 10 h v0 ((m_X10_placeOf F h v0 v1).bind fun x4 => ((sI 0 h a3 x4 v1).bind fun h5 => (bindv (v1 + (1)) fun x6 => (self2 h5 v0 x6))))))))
set_option maxRecDepth 20000 in
theorem tb_X10_laysOrder_2 {M : MV} {X : XT} {F : Nat} {self2 : PH → Nat → Int32 → Option (Unit × PH)} {h hz : PH} {r : Unit} {ce sl mc ms : Nat} {v0 : Nat} {v1 : Int32} (hc : Cx M X RX10 cX10_laysOrder) (hr : Rx M 3 176 mc ms 2) (he : Ex M X none "laysOrder" none hz mc ms) (hm : ce ≤ mc) (hs : sl ≤ ms) (ih2 : ∀ (h : PH) (v0 : Nat) (v1 : Int32), self2 h v0 v1 = some (r, hz) → GG M X h ce sl 2 [(0, .ref (X.1 + v0)), (1, .int v1)] []) (hf : b_X10_laysOrder_2 F self2 h v0 v1 = some (r, hz)) : GG M X h ce sl 2 [(0, .ref (X.1 + v0)), (1, .int v1)] [] := by
  unfold b_X10_laysOrder_2 at hf
  refine r_iload_n hc 1 (dc_at dX10_laysOrder 2 rfl) rfl ?_
  refine r_aload_n hc 0 (dc_at dX10_laysOrder 3 rfl) rfl ?_
  refine r_getR hc (dc_at dX10_laysOrder 4 rfl) fl_X10_13 hf fun a1 hf => ?_
  refine r_iconst (3 : Int32) hc (dc_at dX10_laysOrder 5 rfl) (by decide) ?_
  refine r_iaload hc (dc_at dX10_laysOrder 6 rfl) hf fun x2 hf => ?_
  refine r_icmp_ge (tgt := 29) hc (dc_at dX10_laysOrder 7 rfl) (by decide) hf (fun hf => ?_) (fun hf => ?_)
  · exact r_vret hc he (hm) (hs) (dc_at dX10_laysOrder 17 rfl) hf
  · refine r_aload_n hc 0 (dc_at dX10_laysOrder 8 rfl) rfl ?_
    refine r_getR hc (dc_at dX10_laysOrder 9 rfl) fl_X10_37 hf fun a3 hf => ?_
    refine r_aload_n hc 0 (dc_at dX10_laysOrder 10 rfl) rfl ?_
    refine r_iload_n hc 1 (dc_at dX10_laysOrder 11 rfl) rfl ?_
    obtain ⟨ho, hf⟩ := cO_some hf
    refine ob hf fun x4 ex hf => ?_
    refine r_callVi (As := [.int v1]) (ci := 10) hc hr (dc_at dX10_laysOrder 12 rfl) ml_X10_251 mv_X10_placeOf vi_X10_placeOf rfl ho rfl (mt_X10_placeOf ex) (by first | exact Nat.le_of_ble_eq_true rfl | omega) (by first | exact Nat.le_of_ble_eq_true rfl | omega) (by first | exact Nat.le_of_ble_eq_true rfl | omega) hm hs ?_
    refine r_iload_n hc 1 (dc_at dX10_laysOrder 13 rfl) rfl ?_
    refine r_iastore hc (dc_at dX10_laysOrder 14 rfl) hf fun h5 hf => ?_
    refine obv hf fun x6 e_x6 hf => ?_
    refine r_iinc 1 [(1, .int x6), (0, .ref (X.1 + v0))] hc hr (dc_at dX10_laysOrder 15 rfl) rfl (by rw [e_x6]; rfl) (by decide) rfl ?_
    refine r_goto (tgt := 2) hc (dc_at dX10_laysOrder 16 rfl) (by decide) ?_
    exact gg_sub [1, 0] rfl (ih2 _ _ _ hf)
def l_X10_laysOrder_2 (F : Nat) : Nat → PH → Nat → Int32 → Option (Unit × PH)
  | 0 => fun _ _ _ => none
  | n + 1 => fun h v0 v1 => b_X10_laysOrder_2 F (l_X10_laysOrder_2 F n) h v0 v1
theorem tl_X10_laysOrder_2 {M : MV} {X : XT} {F : Nat} {hz : PH} {r : Unit} {ce sl mc ms : Nat} (hc : Cx M X RX10 cX10_laysOrder) (hr : Rx M 3 176 mc ms 2) (he : Ex M X none "laysOrder" none hz mc ms) (hm : ce ≤ mc) (hs : sl ≤ ms) (n : Nat) : ∀ (h : PH) (v0 : Nat) (v1 : Int32), l_X10_laysOrder_2 F n h v0 v1 = some (r, hz) → GG M X h ce sl 2 [(0, .ref (X.1 + v0)), (1, .int v1)] [] := by
  induction n with
  | zero => intro h v0 v1 hf; cases hf
  | succ n ih => intro h v0 v1 hf; exact tb_X10_laysOrder_2 (F := F) hc hr he hm hs  ih hf
def b_X10_laysOrder_0 (F : Nat) (h : PH) (v0 : Nat) : Option (Unit × PH) := l_X10_laysOrder_2 F F h v0 (0 : Int32)
set_option maxRecDepth 20000 in
theorem t_X10_laysOrder_0 {M : MV} {X : XT} {F : Nat} {h hz : PH} {r : Unit} {ce sl mc ms : Nat} {v0 : Nat} (hc : Cx M X RX10 cX10_laysOrder) (hr : Rx M 3 176 mc ms 2) (he : Ex M X none "laysOrder" none hz mc ms) (hm : ce ≤ mc) (hs : sl ≤ ms) (hf : b_X10_laysOrder_0 F h v0 = some (r, hz)) : GG M X h ce sl 0 [(0, .ref (X.1 + v0))] [] := by
  unfold b_X10_laysOrder_0 at hf
  refine r_iconst (0 : Int32) hc (dc_at dX10_laysOrder 0 rfl) (by decide) ?_
  refine r_istore_n [(1, .int ((0 : Int32))), (0, .ref (X.1 + v0))] hc hr (dc_at dX10_laysOrder 1 rfl) (by decide) rfl ?_
  exact gg_sub [1, 0] rfl (tl_X10_laysOrder_2 hc hr he hm hs  F _ _ _ hf)
def m_X10_laysOrder (F : Nat) (h : PH) (p0 : Nat) : Option (Unit × PH) := b_X10_laysOrder_0 F h p0
theorem mt_X10_laysOrder {l : Launch} {X : XT} {F : Nat} {h hz : PH} {p0 : Nat} {r : Unit} (ex : m_X10_laysOrder F h p0 = some (r, hz)) : MT l X yX10_laysOrder cX10_laysOrder 2 none 3 176 0 0 [.ref (X.1 + p0)] h none hz := MT.of (by decide) (Nat.le_of_ble_eq_true rfl) fun M hl hc hr he => by
  subst hl
  exact gg_sub [0] rfl (t_X10_laysOrder_0  hc hr he (Nat.zero_le _) (Nat.zero_le _) ex)
/-! FractionLiftModel.stuffOf(II)I -/
def lX10_stuffOfL : List (Nat × Instr × Nat × Nat) := [(0, .iload_n 1, 1, 1), (1, .iconst 3, 1, 2), (2, .if_icmp .ge 20, 3, 5), (5, .aload_n 0, 1, 6), (6, .getfield 13, 3, 9), (9, .bipush 25, 2, 11), (11, .bipush 8, 2, 13), (13, .iload_n 1, 1, 14), (14, .imul, 1, 15), (15, .iadd, 1, 16), (16, .iload_n 2, 1, 17), (17, .iadd, 1, 18), (18, .iaload, 1, 19), (19, .goto 4, 3, 22), (22, .iconst 0, 1, 23), (23, .ireturn, 1, 24)]
set_option maxRecDepth 20000 in
theorem dX10_stuffOf : dcL cX10_stuffOf lX10_stuffOfL = true := by decide +kernel
def b_X10_stuffOf_0 (h : PH) (v0 : Nat) (v1 : Int32) (v2 : Int32) : Option Int32 := if (3 : Int32) ≤ v1 then (some (0 : Int32)) else ((gR 10 1 h v0).bind fun a1 => ((aI 0 h a1 (((((25 : Int32) + (((8 : Int32) * v1)))) + v2))).bind fun x2 => (some x2)))
set_option maxRecDepth 20000 in
theorem t_X10_stuffOf_0 {M : MV} {X : XT} {h : PH} {r : Int32} {ce sl mc ms : Nat} {v0 : Nat} {v1 : Int32} {v2 : Int32} (hc : Cx M X RX10 cX10_stuffOf) (hr : Rx M 1 60 mc ms 3) (he : Ex M X (some .int) "stuffOf" (some (.int r)) h mc ms) (hm : ce ≤ mc) (hs : sl ≤ ms) (hf : b_X10_stuffOf_0 h v0 v1 v2 = some r) : GG M X h ce sl 0 [(0, .ref (X.1 + v0)), (1, .int v1), (2, .int v2)] [] := by
  unfold b_X10_stuffOf_0 at hf
  refine r_iload_n hc 1 (dc_at dX10_stuffOf 0 rfl) rfl ?_
  refine r_iconst (3 : Int32) hc (dc_at dX10_stuffOf 1 rfl) (by decide) ?_
  refine r_icmp_ge (tgt := 22) hc (dc_at dX10_stuffOf 2 rfl) (by decide) hf (fun hf => ?_) (fun hf => ?_)
  · refine r_iconst (0 : Int32) hc (dc_at dX10_stuffOf 14 rfl) (by decide) ?_
    exact r_iretP hc he (hm) (hs) (dc_at dX10_stuffOf 15 rfl) hf
  · refine r_aload_n hc 0 (dc_at dX10_stuffOf 3 rfl) rfl ?_
    refine r_getR hc (dc_at dX10_stuffOf 4 rfl) fl_X10_13 hf fun a1 hf => ?_
    refine r_bipush (25 : Int32) hc (dc_at dX10_stuffOf 5 rfl) (by decide) ?_
    refine r_bipush (8 : Int32) hc (dc_at dX10_stuffOf 6 rfl) (by decide) ?_
    refine r_iload_n hc 1 (dc_at dX10_stuffOf 7 rfl) rfl ?_
    refine r_imul hc (dc_at dX10_stuffOf 8 rfl) ?_
    refine r_iadd hc (dc_at dX10_stuffOf 9 rfl) ?_
    refine r_iload_n hc 2 (dc_at dX10_stuffOf 10 rfl) rfl ?_
    refine r_iadd hc (dc_at dX10_stuffOf 11 rfl) ?_
    refine r_iaload hc (dc_at dX10_stuffOf 12 rfl) hf fun x2 hf => ?_
    refine r_goto (tgt := 23) hc (dc_at dX10_stuffOf 13 rfl) (by decide) ?_
    exact r_iretP hc he (hm) (hs) (dc_at dX10_stuffOf 15 rfl) hf
def m_X10_stuffOf (h : PH) (p0 : Nat) (p1 : Int32) (p2 : Int32) : Option Int32 := b_X10_stuffOf_0 h p0 p1 p2
theorem mt_X10_stuffOf {l : Launch} {X : XT} {h : PH} {p0 : Nat} {p1 : Int32} {p2 : Int32} {r : Int32} (ex : m_X10_stuffOf h p0 p1 p2 = some r) : MT l X yX10_stuffOf cX10_stuffOf 3 (some .int) 1 60 0 0 [.ref (X.1 + p0), .int p1, .int p2] h (some (.int r)) h := MT.of (by decide) (Nat.le_of_ble_eq_true rfl) fun M hl hc hr he => by
  subst hl
  exact gg_sub [0, 1, 2] rfl (t_X10_stuffOf_0  hc hr he (Nat.zero_le _) (Nat.zero_le _) ex)
/-! FractionLiftModel.laysStuff(IIJJ)V -/
def lX10_laysStuffL : List (Nat × Instr × Nat × Nat) := [(0, .aload_n 0, 1, 1), (1, .invokevirtual 311, 3, 4), (4, .iconst 0, 1, 5), (5, .istore 7, 2, 7), (7, .iload 7, 2, 9), (9, .aload_n 0, 1, 10), (10, .getfield 13, 3, 13), (13, .iconst 3, 1, 14), (14, .iaload, 1, 15), (15, .if_icmp .ge 50, 3, 18), (18, .aload_n 0, 1, 19), (19, .getfield 13, 3, 22), (22, .bipush 9, 2, 24), (24, .aload_n 0, 1, 25), (25, .getfield 37, 3, 28), (28, .iload 7, 2, 30), (30, .iaload, 1, 31), (31, .iadd, 1, 32), (32, .iaload, 1, 33), (33, .i2l, 1, 34), (34, .aload_n 0, 1, 35), (35, .getfield 13, 3, 38), (38, .bipush 17, 2, 40), (40, .aload_n 0, 1, 41), (41, .getfield 37, 3, 44), (44, .iload 7, 2, 46), (46, .iaload, 1, 47), (47, .iadd, 1, 48), (48, .iaload, 1, 49), (49, .i2l, 1, 50), (50, .lload_n 3, 1, 51), (51, .lload 5, 2, 53), (53, .invokestatic 243, 3, 56), (56, .ifCond .ge 9, 3, 59), (59, .iinc 7 1, 3, 62), (62, .goto (-55), 3, 65), (65, .aload_n 0, 1, 66), (66, .getfield 13, 3, 69), (69, .iconst 3, 1, 70), (70, .iaload, 1, 71), (71, .ifCond .ne 10, 3, 74), (74, .aload_n 0, 1, 75), (75, .lconst 0, 1, 76), (76, .lconst 1, 1, 77), (77, .invokevirtual 194, 3, 80), (80, .return_, 1, 81), (81, .aload_n 0, 1, 82), (82, .getfield 37, 3, 85), (85, .iload 7, 2, 87), (87, .ifCond .ne 7, 3, 90), (90, .iconst 0, 1, 91), (91, .goto 7, 3, 94), (94, .iload 7, 2, 96), (96, .iconst 1, 1, 97), (97, .isub, 1, 98), (98, .iaload, 1, 99), (99, .istore 8, 2, 101), (101, .aload_n 0, 1, 102), (102, .getfield 37, 3, 105), (105, .iload 7, 2, 107), (107, .aload_n 0, 1, 108), (108, .getfield 13, 3, 111), (111, .iconst 3, 1, 112), (112, .iaload, 1, 113), (113, .if_icmp .ne 10, 3, 116), (116, .iload 7, 2, 118), (118, .iconst 1, 1, 119), (119, .isub, 1, 120), (120, .goto 5, 3, 123), (123, .iload 7, 2, 125), (125, .iaload, 1, 126), (126, .istore 9, 2, 128), (128, .aload_n 0, 1, 129), (129, .iload_n 1, 1, 130), (130, .iload 8, 2, 132), (132, .invokevirtual 314, 3, 135), (135, .aload_n 0, 1, 136), (136, .iload_n 2, 1, 137), (137, .iload 8, 2, 139), (139, .invokevirtual 314, 3, 142), (142, .isub, 1, 143), (143, .i2l, 1, 144), (144, .lstore 10, 2, 146), (146, .aload_n 0, 1, 147), (147, .iload_n 1, 1, 148), (148, .iload 9, 2, 150), (150, .invokevirtual 314, 3, 153), (153, .aload_n 0, 1, 154), (154, .iload_n 2, 1, 155), (155, .iload 9, 2, 157), (157, .invokevirtual 314, 3, 160), (160, .isub, 1, 161), (161, .i2l, 1, 162), (162, .lload 10, 2, 164), (164, .lsub, 1, 165), (165, .lstore 12, 2, 167), (167, .iload 8, 2, 169), (169, .iload 9, 2, 171), (171, .if_icmp .eq 10, 3, 174), (174, .lload 12, 2, 176), (176, .lconst 0, 1, 177), (177, .lcmp, 1, 178), (178, .ifCond .ne 11, 3, 181), (181, .aload_n 0, 1, 182), (182, .lload 10, 2, 184), (184, .lconst 1, 1, 185), (185, .invokevirtual 194, 3, 188), (188, .return_, 1, 189), (189, .aload_n 0, 1, 190), (190, .getfield 13, 3, 193), (193, .bipush 9, 2, 195), (195, .iload 8, 2, 197), (197, .iadd, 1, 198), (198, .iaload, 1, 199), (199, .i2l, 1, 200), (200, .lstore 14, 2, 202), (202, .aload_n 0, 1, 203), (203, .getfield 13, 3, 206), (206, .bipush 17, 2, 208), (208, .iload 8, 2, 210), (210, .iadd, 1, 211), (211, .iaload, 1, 212), (212, .i2l, 1, 213), (213, .lstore 16, 2, 215), (215, .aload_n 0, 1, 216), (216, .getfield 13, 3, 219), (219, .bipush 9, 2, 221), (221, .iload 9, 2, 223), (223, .iadd, 1, 224), (224, .iaload, 1, 225), (225, .i2l, 1, 226), (226, .lstore 18, 2, 228), (228, .aload_n 0, 1, 229), (229, .getfield 13, 3, 232), (232, .bipush 17, 2, 234), (234, .iload 9, 2, 236), (236, .iadd, 1, 237), (237, .iaload, 1, 238), (238, .i2l, 1, 239), (239, .lstore 20, 2, 241), (241, .aload_n 0, 1, 242), (242, .lload_n 3, 1, 243), (243, .lload 16, 2, 245), (245, .lmul, 1, 246), (246, .lload 14, 2, 248), (248, .lload 5, 2, 250), (250, .lmul, 1, 251), (251, .lsub, 1, 252), (252, .lload 20, 2, 254), (254, .lmul, 1, 255), (255, .lload 5, 2, 257), (257, .lload 18, 2, 259), (259, .lload 16, 2, 261), (261, .lmul, 1, 262), (262, .lload 14, 2, 264), (264, .lload 20, 2, 266), (266, .lmul, 1, 267), (267, .lsub, 1, 268), (268, .lmul, 1, 269), (269, .invokevirtual 194, 3, 272), (272, .aload_n 0, 1, 273), (273, .lload 10, 2, 275), (275, .aload_n 0, 1, 276), (276, .getfield 184, 3, 279), (279, .lmul, 1, 280), (280, .lload 12, 2, 282), (282, .aload_n 0, 1, 283), (283, .getfield 180, 3, 286), (286, .lmul, 1, 287), (287, .ladd, 1, 288), (288, .aload_n 0, 1, 289), (289, .getfield 184, 3, 292), (292, .invokevirtual 194, 3, 295), (295, .return_, 1, 296)]
set_option maxRecDepth 20000 in
theorem dX10_laysStuff : dcL cX10_laysStuff lX10_laysStuffL = true := by decide +kernel
def b_X10_laysStuff_181 (F : Nat) (h : PH) (v0 : Nat) (v10 : Int64) : Option (Unit × PH) := cO 10 h v0 (bind2 (m_X10_lays h v0 v10 (1 : Int64)) fun _ h2 => (some ((), h2)))
set_option maxRecDepth 20000 in
theorem t_X10_laysStuff_181 {M : MV} {X : XT} {F : Nat} {h hz : PH} {r : Unit} {ce sl mc ms : Nat} {v0 : Nat} {v10 : Int64} (hc : Cx M X RX10 cX10_laysStuff) (hr : Rx M 133 7716 mc ms 22) (he : Ex M X none "laysStuff" none hz mc ms) (hm : ce ≤ mc) (hs : sl ≤ ms) (hf : b_X10_laysStuff_181 F h v0 v10 = some (r, hz)) : GG M X h ce sl 181 [(0, .ref (X.1 + v0)), (10, .long v10)] [] := by
  unfold b_X10_laysStuff_181 at hf
  refine r_aload_n hc 0 (dc_at dX10_laysStuff 103 rfl) rfl ?_
  refine r_lload hc 1 (dc_at dX10_laysStuff 104 rfl) rfl ?_
  refine r_lconst (1 : Int64) hc (dc_at dX10_laysStuff 105 rfl) (by decide) ?_
  obtain ⟨ho, hf⟩ := cO_some hf
  refine ob2 hf fun u h2 ex hf => ?_
  refine r_callVv (As := [.long v10, .long ((1 : Int64))]) (ci := 10) hc hr (dc_at dX10_laysStuff 106 rfl) ml_X10_194 mv_X10_lays vi_X10_lays rfl ho rfl (mt_X10_lays ex) (by first | exact Nat.le_of_ble_eq_true rfl | omega) (by first | exact Nat.le_of_ble_eq_true rfl | omega) (by first | exact Nat.le_of_ble_eq_true rfl | omega) hm hs ?_
  exact r_vret hc he (hm) (hs) (dc_at dX10_laysStuff 107 rfl) hf
def b_X10_laysStuff_125 (F : Nat) (h : PH) (v0 : Nat) (v1 : Int32) (v2 : Int32) (v3 : Int64) (v5 : Int64) (v8 : Int32) (s0 : Nat) (s1 : Int32) : Option (Unit × PH) := (aI 0 h s0 s1).bind fun x1 => (cO 10 h v0 ((m_X10_stuffOf h v0 v1 v8).bind fun x2 => (cO 10 h v0 ((m_X10_stuffOf h v0 v2 v8).bind fun x3 => (bindv ((Int32.toInt64 (x2 - x3))) fun x4 => (cO 10 h v0 ((m_X10_stuffOf h v0 v1 x1).bind fun x5 => (cO 10 h v0 ((m_X10_stuffOf h v0 v2 x1).bind fun x6 => (bindv ((((Int32.toInt64 (x5 - x6))) - x4)) fun x7 => (if v8 = x1 then (b_X10_laysStuff_181 F h v0 x4) else (if x7 = (0 : Int64) then (b_X10_laysStuff_181 F h v0 x4) else ((gR 10 1 h v0).bind fun a8 => ((aI 0 h a8 (((9 : Int32) + v8))).bind fun x9 => (bindv (Int32.toInt64 x9) fun x10 => ((gR 10 1 h v0).bind fun a11 => ((aI 0 h a11 (((17 : Int32) + v8))).bind fun x12 => (bindv (Int32.toInt64 x12) fun x13 => ((gR 10 1 h v0).bind fun a14 => ((aI 0 h a14 (((9 : Int32) + x1))).bind fun x15 => (bindv (Int32.toInt64 x15) fun x16 => ((gR 10 1 h v0).bind fun a17 => ((aI 0 h a17 (((17 : Int32) + x1))).bind fun x18 => (bindv (Int32.toInt64 x18) fun x19 => (cO 10 h v0 (bind2 (m_X10_lays h v0 (((((v3 * x13) - (x10 * v5))) * x19)) ((v5 * (((x16 * x13) - (x10 * x19)))))) fun _ h21 => ((gL 10 16 h21 v0).bind fun x22 => ((gL 10 15 h21 v0).bind fun x23 => ((gL 10 16 h21 v0).bind fun x24 => (cO 10 h21 v0 (bind2 (m_X10_lays h21 v0 (((x4 * x22) + (x7 * x23))) x24) fun _ h26 => (some ((), h26)))))))))))))))))))))))))))))))))
set_option maxRecDepth 20000 in
theorem t_X10_laysStuff_125 {M : MV} {X : XT} {F : Nat} {h hz : PH} {r : Unit} {ce sl mc ms : Nat} {v0 : Nat} {v1 : Int32} {v2 : Int32} {v3 : Int64} {v5 : Int64} {v8 : Int32} {s0 : Nat} {s1 : Int32} (hc : Cx M X RX10 cX10_laysStuff) (hr : Rx M 133 7716 mc ms 22) (he : Ex M X none "laysStuff" none hz mc ms) (hm : ce ≤ mc) (hs : sl ≤ ms) (hf : b_X10_laysStuff_125 F h v0 v1 v2 v3 v5 v8 s0 s1 = some (r, hz)) : GG M X h ce sl 125 [(0, .ref (X.1 + v0)), (1, .int v1), (2, .int v2), (3, .long v3), (5, .long v5), (8, .int v8)] [.int s1, .ref (X.1 + s0)] := by
  unfold b_X10_laysStuff_125 at hf
  refine r_iaload hc (dc_at dX10_laysStuff 70 rfl) hf fun x1 hf => ?_
  refine r_istore [(9, .int x1), (0, .ref (X.1 + v0)), (1, .int v1), (2, .int v2), (3, .long v3), (5, .long v5), (8, .int v8)] hc hr (dc_at dX10_laysStuff 71 rfl) (by decide) rfl ?_
  refine r_aload_n hc 1 (dc_at dX10_laysStuff 72 rfl) rfl ?_
  refine r_iload_n hc 2 (dc_at dX10_laysStuff 73 rfl) rfl ?_
  refine r_iload hc 6 (dc_at dX10_laysStuff 74 rfl) rfl ?_
  obtain ⟨ho, hf⟩ := cO_some hf
  refine ob hf fun x2 ex hf => ?_
  refine r_callVi (As := [.int v1, .int v8]) (ci := 10) hc hr (dc_at dX10_laysStuff 75 rfl) ml_X10_314 mv_X10_stuffOf vi_X10_stuffOf rfl ho rfl (mt_X10_stuffOf ex) (by first | exact Nat.le_of_ble_eq_true rfl | omega) (by first | exact Nat.le_of_ble_eq_true rfl | omega) (by first | exact Nat.le_of_ble_eq_true rfl | omega) hm hs ?_
  refine r_aload_n hc 1 (dc_at dX10_laysStuff 76 rfl) rfl ?_
  refine r_iload_n hc 3 (dc_at dX10_laysStuff 77 rfl) rfl ?_
  refine r_iload hc 6 (dc_at dX10_laysStuff 78 rfl) rfl ?_
  obtain ⟨ho, hf⟩ := cO_some hf
  refine ob hf fun x3 ex hf => ?_
  refine r_callVi (As := [.int v2, .int v8]) (ci := 10) hc hr (dc_at dX10_laysStuff 79 rfl) ml_X10_314 mv_X10_stuffOf vi_X10_stuffOf rfl ho rfl (mt_X10_stuffOf ex) (by first | exact Nat.le_of_ble_eq_true rfl | omega) (by first | exact Nat.le_of_ble_eq_true rfl | omega) (by first | exact Nat.le_of_ble_eq_true rfl | omega) hm hs ?_
  refine r_isub hc (dc_at dX10_laysStuff 80 rfl) ?_
  refine r_i2l hc (dc_at dX10_laysStuff 81 rfl) ?_
  refine r_nm (mk := Value.long) hf fun x4 hf => ?_
  refine r_lstore [(10, .long x4), (9, .int x1), (0, .ref (X.1 + v0)), (1, .int v1), (2, .int v2), (3, .long v3), (5, .long v5), (8, .int v8)] hc hr (dc_at dX10_laysStuff 82 rfl) (by decide) rfl ?_
  refine r_aload_n hc 2 (dc_at dX10_laysStuff 83 rfl) rfl ?_
  refine r_iload_n hc 3 (dc_at dX10_laysStuff 84 rfl) rfl ?_
  refine r_iload hc 1 (dc_at dX10_laysStuff 85 rfl) rfl ?_
  obtain ⟨ho, hf⟩ := cO_some hf
  refine ob hf fun x5 ex hf => ?_
  refine r_callVi (As := [.int v1, .int x1]) (ci := 10) hc hr (dc_at dX10_laysStuff 86 rfl) ml_X10_314 mv_X10_stuffOf vi_X10_stuffOf rfl ho rfl (mt_X10_stuffOf ex) (by first | exact Nat.le_of_ble_eq_true rfl | omega) (by first | exact Nat.le_of_ble_eq_true rfl | omega) (by first | exact Nat.le_of_ble_eq_true rfl | omega) hm hs ?_
  refine r_aload_n hc 2 (dc_at dX10_laysStuff 87 rfl) rfl ?_
  refine r_iload_n hc 4 (dc_at dX10_laysStuff 88 rfl) rfl ?_
  refine r_iload hc 1 (dc_at dX10_laysStuff 89 rfl) rfl ?_
  obtain ⟨ho, hf⟩ := cO_some hf
  refine ob hf fun x6 ex hf => ?_
  refine r_callVi (As := [.int v2, .int x1]) (ci := 10) hc hr (dc_at dX10_laysStuff 90 rfl) ml_X10_314 mv_X10_stuffOf vi_X10_stuffOf rfl ho rfl (mt_X10_stuffOf ex) (by first | exact Nat.le_of_ble_eq_true rfl | omega) (by first | exact Nat.le_of_ble_eq_true rfl | omega) (by first | exact Nat.le_of_ble_eq_true rfl | omega) hm hs ?_
  refine r_isub hc (dc_at dX10_laysStuff 91 rfl) ?_
  refine r_i2l hc (dc_at dX10_laysStuff 92 rfl) ?_
  refine r_lload hc 0 (dc_at dX10_laysStuff 93 rfl) rfl ?_
  refine r_lsub hc (dc_at dX10_laysStuff 94 rfl) ?_
  refine r_nm (mk := Value.long) hf fun x7 hf => ?_
  refine r_lstore [(12, .long x7), (10, .long x4), (9, .int x1), (0, .ref (X.1 + v0)), (1, .int v1), (2, .int v2), (3, .long v3), (5, .long v5), (8, .int v8)] hc hr (dc_at dX10_laysStuff 95 rfl) (by decide) rfl ?_
  refine r_iload hc 8 (dc_at dX10_laysStuff 96 rfl) rfl ?_
  refine r_iload hc 2 (dc_at dX10_laysStuff 97 rfl) rfl ?_
  refine r_icmp_eq (tgt := 181) hc (dc_at dX10_laysStuff 98 rfl) (by decide) hf (fun hf => ?_) (fun hf => ?_)
  · exact gg_sub [3, 1] rfl (t_X10_laysStuff_181 hc hr he hm hs  hf)
  · refine r_lload hc 0 (dc_at dX10_laysStuff 99 rfl) rfl ?_
    refine r_lconst (0 : Int64) hc (dc_at dX10_laysStuff 100 rfl) (by decide) ?_
    refine r_lcmp_ne (tgt := 189) hc (dc_at dX10_laysStuff 101 rfl) (dc_at dX10_laysStuff 102 rfl) (by decide) hf (fun hf => ?_) (fun hf => ?_)
    · refine r_aload_n hc 3 (dc_at dX10_laysStuff 108 rfl) rfl ?_
      refine r_getR hc (dc_at dX10_laysStuff 109 rfl) fl_X10_13 hf fun a8 hf => ?_
      refine r_bipush (9 : Int32) hc (dc_at dX10_laysStuff 110 rfl) (by decide) ?_
      refine r_iload hc 8 (dc_at dX10_laysStuff 111 rfl) rfl ?_
      refine r_iadd hc (dc_at dX10_laysStuff 112 rfl) ?_
      refine r_iaload hc (dc_at dX10_laysStuff 113 rfl) hf fun x9 hf => ?_
      refine r_i2l hc (dc_at dX10_laysStuff 114 rfl) ?_
      refine r_nm (mk := Value.long) hf fun x10 hf => ?_
      refine r_lstore [(14, .long x10), (12, .long x7), (10, .long x4), (9, .int x1), (0, .ref (X.1 + v0)), (1, .int v1), (2, .int v2), (3, .long v3), (5, .long v5), (8, .int v8)] hc hr (dc_at dX10_laysStuff 115 rfl) (by decide) rfl ?_
      refine r_aload_n hc 4 (dc_at dX10_laysStuff 116 rfl) rfl ?_
      refine r_getR hc (dc_at dX10_laysStuff 117 rfl) fl_X10_13 hf fun a11 hf => ?_
      refine r_bipush (17 : Int32) hc (dc_at dX10_laysStuff 118 rfl) (by decide) ?_
      refine r_iload hc 9 (dc_at dX10_laysStuff 119 rfl) rfl ?_
      refine r_iadd hc (dc_at dX10_laysStuff 120 rfl) ?_
      refine r_iaload hc (dc_at dX10_laysStuff 121 rfl) hf fun x12 hf => ?_
      refine r_i2l hc (dc_at dX10_laysStuff 122 rfl) ?_
      refine r_nm (mk := Value.long) hf fun x13 hf => ?_
      refine r_lstore [(16, .long x13), (14, .long x10), (12, .long x7), (10, .long x4), (9, .int x1), (0, .ref (X.1 + v0)), (1, .int v1), (2, .int v2), (3, .long v3), (5, .long v5), (8, .int v8)] hc hr (dc_at dX10_laysStuff 123 rfl) (by decide) rfl ?_
      refine r_aload_n hc 5 (dc_at dX10_laysStuff 124 rfl) rfl ?_
      refine r_getR hc (dc_at dX10_laysStuff 125 rfl) fl_X10_13 hf fun a14 hf => ?_
      refine r_bipush (9 : Int32) hc (dc_at dX10_laysStuff 126 rfl) (by decide) ?_
      refine r_iload hc 4 (dc_at dX10_laysStuff 127 rfl) rfl ?_
      refine r_iadd hc (dc_at dX10_laysStuff 128 rfl) ?_
      refine r_iaload hc (dc_at dX10_laysStuff 129 rfl) hf fun x15 hf => ?_
      refine r_i2l hc (dc_at dX10_laysStuff 130 rfl) ?_
      refine r_nm (mk := Value.long) hf fun x16 hf => ?_
      refine r_lstore [(18, .long x16), (16, .long x13), (14, .long x10), (12, .long x7), (10, .long x4), (9, .int x1), (0, .ref (X.1 + v0)), (1, .int v1), (2, .int v2), (3, .long v3), (5, .long v5), (8, .int v8)] hc hr (dc_at dX10_laysStuff 131 rfl) (by decide) rfl ?_
      refine r_aload_n hc 6 (dc_at dX10_laysStuff 132 rfl) rfl ?_
      refine r_getR hc (dc_at dX10_laysStuff 133 rfl) fl_X10_13 hf fun a17 hf => ?_
      refine r_bipush (17 : Int32) hc (dc_at dX10_laysStuff 134 rfl) (by decide) ?_
      refine r_iload hc 5 (dc_at dX10_laysStuff 135 rfl) rfl ?_
      refine r_iadd hc (dc_at dX10_laysStuff 136 rfl) ?_
      refine r_iaload hc (dc_at dX10_laysStuff 137 rfl) hf fun x18 hf => ?_
      refine r_i2l hc (dc_at dX10_laysStuff 138 rfl) ?_
      refine r_nm (mk := Value.long) hf fun x19 hf => ?_
      refine r_lstore [(20, .long x19), (18, .long x16), (16, .long x13), (14, .long x10), (12, .long x7), (10, .long x4), (9, .int x1), (0, .ref (X.1 + v0)), (1, .int v1), (2, .int v2), (3, .long v3), (5, .long v5), (8, .int v8)] hc hr (dc_at dX10_laysStuff 139 rfl) (by decide) rfl ?_
      refine r_aload_n hc 7 (dc_at dX10_laysStuff 140 rfl) rfl ?_
      refine r_lload_n hc 10 (dc_at dX10_laysStuff 141 rfl) rfl ?_
      refine r_lload hc 2 (dc_at dX10_laysStuff 142 rfl) rfl ?_
      refine r_lmul hc (dc_at dX10_laysStuff 143 rfl) ?_
      refine r_lload hc 3 (dc_at dX10_laysStuff 144 rfl) rfl ?_
      refine r_lload hc 11 (dc_at dX10_laysStuff 145 rfl) rfl ?_
      refine r_lmul hc (dc_at dX10_laysStuff 146 rfl) ?_
      refine r_lsub hc (dc_at dX10_laysStuff 147 rfl) ?_
      refine r_lload hc 0 (dc_at dX10_laysStuff 148 rfl) rfl ?_
      refine r_lmul hc (dc_at dX10_laysStuff 149 rfl) ?_
      refine r_lload hc 11 (dc_at dX10_laysStuff 150 rfl) rfl ?_
      refine r_lload hc 1 (dc_at dX10_laysStuff 151 rfl) rfl ?_
      refine r_lload hc 2 (dc_at dX10_laysStuff 152 rfl) rfl ?_
      refine r_lmul hc (dc_at dX10_laysStuff 153 rfl) ?_
      refine r_lload hc 3 (dc_at dX10_laysStuff 154 rfl) rfl ?_
      refine r_lload hc 0 (dc_at dX10_laysStuff 155 rfl) rfl ?_
      refine r_lmul hc (dc_at dX10_laysStuff 156 rfl) ?_
      refine r_lsub hc (dc_at dX10_laysStuff 157 rfl) ?_
      refine r_lmul hc (dc_at dX10_laysStuff 158 rfl) ?_
      obtain ⟨ho, hf⟩ := cO_some hf
      refine ob2 hf fun u h21 ex hf => ?_
      refine r_callVv (As := [.long (((((v3 * x13) - (x10 * v5))) * x19)), .long ((v5 * (((x16 * x13) - (x10 * x19)))))]) (ci := 10) hc hr (dc_at dX10_laysStuff 159 rfl) ml_X10_194 mv_X10_lays vi_X10_lays rfl ho rfl (mt_X10_lays ex) (by first | exact Nat.le_of_ble_eq_true rfl | omega) (by first | exact Nat.le_of_ble_eq_true rfl | omega) (by first | exact Nat.le_of_ble_eq_true rfl | omega) hm hs ?_
      refine r_aload_n hc 7 (dc_at dX10_laysStuff 160 rfl) rfl ?_
      refine r_lload hc 5 (dc_at dX10_laysStuff 161 rfl) rfl ?_
      refine r_aload_n hc 7 (dc_at dX10_laysStuff 162 rfl) rfl ?_
      refine r_getL hc (dc_at dX10_laysStuff 163 rfl) fl_X10_184 hf fun x22 hf => ?_
      refine r_lmul hc (dc_at dX10_laysStuff 164 rfl) ?_
      refine r_lload hc 4 (dc_at dX10_laysStuff 165 rfl) rfl ?_
      refine r_aload_n hc 7 (dc_at dX10_laysStuff 166 rfl) rfl ?_
      refine r_getL hc (dc_at dX10_laysStuff 167 rfl) fl_X10_180 hf fun x23 hf => ?_
      refine r_lmul hc (dc_at dX10_laysStuff 168 rfl) ?_
      refine r_ladd hc (dc_at dX10_laysStuff 169 rfl) ?_
      refine r_aload_n hc 7 (dc_at dX10_laysStuff 170 rfl) rfl ?_
      refine r_getL hc (dc_at dX10_laysStuff 171 rfl) fl_X10_184 hf fun x24 hf => ?_
      obtain ⟨ho, hf⟩ := cO_some hf
      refine ob2 hf fun u h26 ex hf => ?_
      refine r_callVv (As := [.long (((x4 * x22) + (x7 * x23))), .long x24]) (ci := 10) hc hr (dc_at dX10_laysStuff 172 rfl) ml_X10_194 mv_X10_lays vi_X10_lays rfl ho rfl (mt_X10_lays ex) (by first | exact Nat.le_of_ble_eq_true rfl | omega) (by first | exact Nat.le_of_ble_eq_true rfl | omega) (by first | exact Nat.le_of_ble_eq_true rfl | omega) hm hs ?_
      exact r_vret hc he (hm) (hs) (dc_at dX10_laysStuff 173 rfl) hf
    · exact gg_sub [3, 1] rfl (t_X10_laysStuff_181 hc hr he hm hs  hf)
def b_X10_laysStuff_98 (F : Nat) (h : PH) (v0 : Nat) (v1 : Int32) (v2 : Int32) (v3 : Int64) (v5 : Int64) (v7 : Int32) (s0 : Nat) (s1 : Int32) : Option (Unit × PH) := (aI 0 h s0 s1).bind fun x1 => ((gR 10 23 h v0).bind fun a2 => ((gR 10 1 h v0).bind fun a3 => ((aI 0 h a3 (3 : Int32)).bind fun x4 => (if v7 = x4 then (b_X10_laysStuff_125 F h v0 v1 v2 v3 v5 x1 a2 ((v7 - (1 : Int32)))) else (b_X10_laysStuff_125 F h v0 v1 v2 v3 v5 x1 a2 v7)))))
set_option maxRecDepth 20000 in
theorem t_X10_laysStuff_98 {M : MV} {X : XT} {F : Nat} {h hz : PH} {r : Unit} {ce sl mc ms : Nat} {v0 : Nat} {v1 : Int32} {v2 : Int32} {v3 : Int64} {v5 : Int64} {v7 : Int32} {s0 : Nat} {s1 : Int32} (hc : Cx M X RX10 cX10_laysStuff) (hr : Rx M 133 7716 mc ms 22) (he : Ex M X none "laysStuff" none hz mc ms) (hm : ce ≤ mc) (hs : sl ≤ ms) (hf : b_X10_laysStuff_98 F h v0 v1 v2 v3 v5 v7 s0 s1 = some (r, hz)) : GG M X h ce sl 98 [(0, .ref (X.1 + v0)), (1, .int v1), (2, .int v2), (3, .long v3), (5, .long v5), (7, .int v7)] [.int s1, .ref (X.1 + s0)] := by
  unfold b_X10_laysStuff_98 at hf
  refine r_iaload hc (dc_at dX10_laysStuff 55 rfl) hf fun x1 hf => ?_
  refine r_istore [(8, .int x1), (0, .ref (X.1 + v0)), (1, .int v1), (2, .int v2), (3, .long v3), (5, .long v5), (7, .int v7)] hc hr (dc_at dX10_laysStuff 56 rfl) (by decide) rfl ?_
  refine r_aload_n hc 1 (dc_at dX10_laysStuff 57 rfl) rfl ?_
  refine r_getR hc (dc_at dX10_laysStuff 58 rfl) fl_X10_37 hf fun a2 hf => ?_
  refine r_iload hc 6 (dc_at dX10_laysStuff 59 rfl) rfl ?_
  refine r_aload_n hc 1 (dc_at dX10_laysStuff 60 rfl) rfl ?_
  refine r_getR hc (dc_at dX10_laysStuff 61 rfl) fl_X10_13 hf fun a3 hf => ?_
  refine r_iconst (3 : Int32) hc (dc_at dX10_laysStuff 62 rfl) (by decide) ?_
  refine r_iaload hc (dc_at dX10_laysStuff 63 rfl) hf fun x4 hf => ?_
  refine r_icmp_ne (tgt := 123) hc (dc_at dX10_laysStuff 64 rfl) (by decide) hf (fun hf => ?_) (fun hf => ?_)
  · refine r_iload hc 6 (dc_at dX10_laysStuff 69 rfl) rfl ?_
    exact gg_sub [1, 2, 3, 4, 5, 0] rfl (t_X10_laysStuff_125 hc hr he hm hs  hf)
  · refine r_iload hc 6 (dc_at dX10_laysStuff 65 rfl) rfl ?_
    refine r_iconst (1 : Int32) hc (dc_at dX10_laysStuff 66 rfl) (by decide) ?_
    refine r_isub hc (dc_at dX10_laysStuff 67 rfl) ?_
    refine r_goto (tgt := 125) hc (dc_at dX10_laysStuff 68 rfl) (by decide) ?_
    exact gg_sub [1, 2, 3, 4, 5, 0] rfl (t_X10_laysStuff_125 hc hr he hm hs  hf)
def b_X10_laysStuff_65 (F : Nat) (h : PH) (v0 : Nat) (v1 : Int32) (v2 : Int32) (v3 : Int64) (v5 : Int64) (v7 : Int32) : Option (Unit × PH) := (gR 10 1 h v0).bind fun a1 => ((aI 0 h a1 (3 : Int32)).bind fun x2 => (if x2 = 0 then (cO 10 h v0 (bind2 (m_X10_lays h v0 (0 : Int64) (1 : Int64)) fun _ h5 => (some ((), h5)))) else ((gR 10 23 h v0).bind fun a3 => (if v7 = 0 then (b_X10_laysStuff_98 F h v0 v1 v2 v3 v5 v7 a3 (0 : Int32)) else (b_X10_laysStuff_98 F h v0 v1 v2 v3 v5 v7 a3 ((v7 - (1 : Int32))))))))
set_option maxRecDepth 20000 in
theorem t_X10_laysStuff_65 {M : MV} {X : XT} {F : Nat} {h hz : PH} {r : Unit} {ce sl mc ms : Nat} {v0 : Nat} {v1 : Int32} {v2 : Int32} {v3 : Int64} {v5 : Int64} {v7 : Int32} (hc : Cx M X RX10 cX10_laysStuff) (hr : Rx M 133 7716 mc ms 22) (he : Ex M X none "laysStuff" none hz mc ms) (hm : ce ≤ mc) (hs : sl ≤ ms) (hf : b_X10_laysStuff_65 F h v0 v1 v2 v3 v5 v7 = some (r, hz)) : GG M X h ce sl 65 [(0, .ref (X.1 + v0)), (1, .int v1), (2, .int v2), (3, .long v3), (5, .long v5), (7, .int v7)] [] := by
  unfold b_X10_laysStuff_65 at hf
  refine r_aload_n hc 0 (dc_at dX10_laysStuff 36 rfl) rfl ?_
  refine r_getR hc (dc_at dX10_laysStuff 37 rfl) fl_X10_13 hf fun a1 hf => ?_
  refine r_iconst (3 : Int32) hc (dc_at dX10_laysStuff 38 rfl) (by decide) ?_
  refine r_iaload hc (dc_at dX10_laysStuff 39 rfl) hf fun x2 hf => ?_
  refine r_if_ne (tgt := 81) hc (dc_at dX10_laysStuff 40 rfl) (by decide) hf (fun hf => ?_) (fun hf => ?_)
  · refine r_aload_n hc 0 (dc_at dX10_laysStuff 46 rfl) rfl ?_
    refine r_getR hc (dc_at dX10_laysStuff 47 rfl) fl_X10_37 hf fun a3 hf => ?_
    refine r_iload hc 5 (dc_at dX10_laysStuff 48 rfl) rfl ?_
    refine r_if_ne (tgt := 94) hc (dc_at dX10_laysStuff 49 rfl) (by decide) hf (fun hf => ?_) (fun hf => ?_)
    · refine r_iload hc 5 (dc_at dX10_laysStuff 52 rfl) rfl ?_
      refine r_iconst (1 : Int32) hc (dc_at dX10_laysStuff 53 rfl) (by decide) ?_
      refine r_isub hc (dc_at dX10_laysStuff 54 rfl) ?_
      exact gg_sub [0, 1, 2, 3, 4, 5] rfl (t_X10_laysStuff_98 hc hr he hm hs  hf)
    · refine r_iconst (0 : Int32) hc (dc_at dX10_laysStuff 50 rfl) (by decide) ?_
      refine r_goto (tgt := 98) hc (dc_at dX10_laysStuff 51 rfl) (by decide) ?_
      exact gg_sub [0, 1, 2, 3, 4, 5] rfl (t_X10_laysStuff_98 hc hr he hm hs  hf)
  · refine r_aload_n hc 0 (dc_at dX10_laysStuff 41 rfl) rfl ?_
    refine r_lconst (0 : Int64) hc (dc_at dX10_laysStuff 42 rfl) (by decide) ?_
    refine r_lconst (1 : Int64) hc (dc_at dX10_laysStuff 43 rfl) (by decide) ?_
    obtain ⟨ho, hf⟩ := cO_some hf
    refine ob2 hf fun u h5 ex hf => ?_
    refine r_callVv (As := [.long ((0 : Int64)), .long ((1 : Int64))]) (ci := 10) hc hr (dc_at dX10_laysStuff 44 rfl) ml_X10_194 mv_X10_lays vi_X10_lays rfl ho rfl (mt_X10_lays ex) (by first | exact Nat.le_of_ble_eq_true rfl | omega) (by first | exact Nat.le_of_ble_eq_true rfl | omega) (by first | exact Nat.le_of_ble_eq_true rfl | omega) hm hs ?_
    exact r_vret hc he (hm) (hs) (dc_at dX10_laysStuff 45 rfl) hf
def b_X10_laysStuff_7 (F : Nat) (self4 : PH → Nat → Int32 → Int32 → Int64 → Int64 → Int32 → Option (Unit × PH)) (h : PH) (v0 : Nat) (v1 : Int32) (v2 : Int32) (v3 : Int64) (v5 : Int64) (v7 : Int32) : Option (Unit × PH) := (gR 10 1 h v0).bind fun a1 => ((aI 0 h a1 (3 : Int32)).bind fun x2 => (if x2 ≤ v7 then (b_X10_laysStuff_65 F h v0 v1 v2 v3 v5 v7) else ((gR 10 1 h v0).bind fun a3 => ((gR 10 23 h v0).bind fun a4 => ((aI 0 h a4 v7).bind fun x5 => ((aI 0 h a3 (((9 : Int32) + x5))).bind fun x6 => ((gR 10 1 h v0).bind fun a7 => ((gR 10 23 h v0).bind fun a8 => ((aI 0 h a8 v7).bind fun x9 => ((aI 0 h a7 (((17 : Int32) + x9))).bind fun x10 => ((m_X10_against (Int32.toInt64 x6) (Int32.toInt64 x10) v3 v5).bind fun x11 => (if 0 ≤ x11 then (b_X10_laysStuff_65 F h v0 v1 v2 v3 v5 v7) else (bindv (v7 + (1)) fun x12 => (self4 h v0 v1 v2 v3 v5 x12))))))))))))))
set_option maxRecDepth 20000 in
theorem tb_X10_laysStuff_7 {M : MV} {X : XT} {F : Nat} {self4 : PH → Nat → Int32 → Int32 → Int64 → Int64 → Int32 → Option (Unit × PH)} {h hz : PH} {r : Unit} {ce sl mc ms : Nat} {v0 : Nat} {v1 : Int32} {v2 : Int32} {v3 : Int64} {v5 : Int64} {v7 : Int32} (hc : Cx M X RX10 cX10_laysStuff) (hr : Rx M 133 7716 mc ms 22) (he : Ex M X none "laysStuff" none hz mc ms) (hm : ce ≤ mc) (hs : sl ≤ ms) (ih4 : ∀ (h : PH) (v0 : Nat) (v1 : Int32) (v2 : Int32) (v3 : Int64) (v5 : Int64) (v7 : Int32), self4 h v0 v1 v2 v3 v5 v7 = some (r, hz) → GG M X h ce sl 7 [(0, .ref (X.1 + v0)), (1, .int v1), (2, .int v2), (3, .long v3), (5, .long v5), (7, .int v7)] []) (hf : b_X10_laysStuff_7 F self4 h v0 v1 v2 v3 v5 v7 = some (r, hz)) : GG M X h ce sl 7 [(0, .ref (X.1 + v0)), (1, .int v1), (2, .int v2), (3, .long v3), (5, .long v5), (7, .int v7)] [] := by
  unfold b_X10_laysStuff_7 at hf
  refine r_iload hc 5 (dc_at dX10_laysStuff 4 rfl) rfl ?_
  refine r_aload_n hc 0 (dc_at dX10_laysStuff 5 rfl) rfl ?_
  refine r_getR hc (dc_at dX10_laysStuff 6 rfl) fl_X10_13 hf fun a1 hf => ?_
  refine r_iconst (3 : Int32) hc (dc_at dX10_laysStuff 7 rfl) (by decide) ?_
  refine r_iaload hc (dc_at dX10_laysStuff 8 rfl) hf fun x2 hf => ?_
  refine r_icmp_ge (tgt := 65) hc (dc_at dX10_laysStuff 9 rfl) (by decide) hf (fun hf => ?_) (fun hf => ?_)
  · exact gg_sub [0, 1, 2, 3, 4, 5] rfl (t_X10_laysStuff_65 hc hr he hm hs  hf)
  · refine r_aload_n hc 0 (dc_at dX10_laysStuff 10 rfl) rfl ?_
    refine r_getR hc (dc_at dX10_laysStuff 11 rfl) fl_X10_13 hf fun a3 hf => ?_
    refine r_bipush (9 : Int32) hc (dc_at dX10_laysStuff 12 rfl) (by decide) ?_
    refine r_aload_n hc 0 (dc_at dX10_laysStuff 13 rfl) rfl ?_
    refine r_getR hc (dc_at dX10_laysStuff 14 rfl) fl_X10_37 hf fun a4 hf => ?_
    refine r_iload hc 5 (dc_at dX10_laysStuff 15 rfl) rfl ?_
    refine r_iaload hc (dc_at dX10_laysStuff 16 rfl) hf fun x5 hf => ?_
    refine r_iadd hc (dc_at dX10_laysStuff 17 rfl) ?_
    refine r_iaload hc (dc_at dX10_laysStuff 18 rfl) hf fun x6 hf => ?_
    refine r_i2l hc (dc_at dX10_laysStuff 19 rfl) ?_
    refine r_aload_n hc 0 (dc_at dX10_laysStuff 20 rfl) rfl ?_
    refine r_getR hc (dc_at dX10_laysStuff 21 rfl) fl_X10_13 hf fun a7 hf => ?_
    refine r_bipush (17 : Int32) hc (dc_at dX10_laysStuff 22 rfl) (by decide) ?_
    refine r_aload_n hc 0 (dc_at dX10_laysStuff 23 rfl) rfl ?_
    refine r_getR hc (dc_at dX10_laysStuff 24 rfl) fl_X10_37 hf fun a8 hf => ?_
    refine r_iload hc 5 (dc_at dX10_laysStuff 25 rfl) rfl ?_
    refine r_iaload hc (dc_at dX10_laysStuff 26 rfl) hf fun x9 hf => ?_
    refine r_iadd hc (dc_at dX10_laysStuff 27 rfl) ?_
    refine r_iaload hc (dc_at dX10_laysStuff 28 rfl) hf fun x10 hf => ?_
    refine r_i2l hc (dc_at dX10_laysStuff 29 rfl) ?_
    refine r_lload_n hc 3 (dc_at dX10_laysStuff 30 rfl) rfl ?_
    refine r_lload hc 4 (dc_at dX10_laysStuff 31 rfl) rfl ?_
    refine ob hf fun x11 ex hf => ?_
    refine r_callSi (As := [.long ((Int32.toInt64 x6)), .long ((Int32.toInt64 x10)), .long v3, .long v5]) hc hr (dc_at dX10_laysStuff 32 rfl) ml_X10_243 mv_X10_against st_X10_against rfl (mt_X10_against ex) (by first | exact Nat.le_of_ble_eq_true rfl | omega) (by first | exact Nat.le_of_ble_eq_true rfl | omega) (by first | exact Nat.le_of_ble_eq_true rfl | omega) hm hs ?_
    refine r_if_ge (tgt := 65) hc (dc_at dX10_laysStuff 33 rfl) (by decide) hf (fun hf => ?_) (fun hf => ?_)
    · exact gg_sub [0, 1, 2, 3, 4, 5] rfl (t_X10_laysStuff_65 hc hr he hm hs  hf)
    · refine obv hf fun x12 e_x12 hf => ?_
      refine r_iinc 5 [(7, .int x12), (0, .ref (X.1 + v0)), (1, .int v1), (2, .int v2), (3, .long v3), (5, .long v5)] hc hr (dc_at dX10_laysStuff 34 rfl) rfl (by rw [e_x12]; rfl) (by decide) rfl ?_
      refine r_goto (tgt := 7) hc (dc_at dX10_laysStuff 35 rfl) (by decide) ?_
      exact gg_sub [1, 2, 3, 4, 5, 0] rfl (ih4 _ _ _ _ _ _ _ hf)
def l_X10_laysStuff_7 (F : Nat) : Nat → PH → Nat → Int32 → Int32 → Int64 → Int64 → Int32 → Option (Unit × PH)
  | 0 => fun _ _ _ _ _ _ _ => none
  | n + 1 => fun h v0 v1 v2 v3 v5 v7 => b_X10_laysStuff_7 F (l_X10_laysStuff_7 F n) h v0 v1 v2 v3 v5 v7
theorem tl_X10_laysStuff_7 {M : MV} {X : XT} {F : Nat} {hz : PH} {r : Unit} {ce sl mc ms : Nat} (hc : Cx M X RX10 cX10_laysStuff) (hr : Rx M 133 7716 mc ms 22) (he : Ex M X none "laysStuff" none hz mc ms) (hm : ce ≤ mc) (hs : sl ≤ ms) (n : Nat) : ∀ (h : PH) (v0 : Nat) (v1 : Int32) (v2 : Int32) (v3 : Int64) (v5 : Int64) (v7 : Int32), l_X10_laysStuff_7 F n h v0 v1 v2 v3 v5 v7 = some (r, hz) → GG M X h ce sl 7 [(0, .ref (X.1 + v0)), (1, .int v1), (2, .int v2), (3, .long v3), (5, .long v5), (7, .int v7)] [] := by
  induction n with
  | zero => intro h v0 v1 v2 v3 v5 v7 hf; cases hf
  | succ n ih => intro h v0 v1 v2 v3 v5 v7 hf; exact tb_X10_laysStuff_7 (F := F) hc hr he hm hs  ih hf
def b_X10_laysStuff_0 (F : Nat) (h : PH) (v0 : Nat) (v1 : Int32) (v2 : Int32) (v3 : Int64) (v5 : Int64) : Option (Unit × PH) := cO 10 h v0 (bind2 (m_X10_laysOrder F h v0) fun _ h2 => (l_X10_laysStuff_7 F F h2 v0 v1 v2 v3 v5 (0 : Int32)))
set_option maxRecDepth 20000 in
theorem t_X10_laysStuff_0 {M : MV} {X : XT} {F : Nat} {h hz : PH} {r : Unit} {ce sl mc ms : Nat} {v0 : Nat} {v1 : Int32} {v2 : Int32} {v3 : Int64} {v5 : Int64} (hc : Cx M X RX10 cX10_laysStuff) (hr : Rx M 133 7716 mc ms 22) (he : Ex M X none "laysStuff" none hz mc ms) (hm : ce ≤ mc) (hs : sl ≤ ms) (hf : b_X10_laysStuff_0 F h v0 v1 v2 v3 v5 = some (r, hz)) : GG M X h ce sl 0 [(0, .ref (X.1 + v0)), (1, .int v1), (2, .int v2), (3, .long v3), (5, .long v5)] [] := by
  unfold b_X10_laysStuff_0 at hf
  refine r_aload_n hc 0 (dc_at dX10_laysStuff 0 rfl) rfl ?_
  obtain ⟨ho, hf⟩ := cO_some hf
  refine ob2 hf fun u h2 ex hf => ?_
  refine r_callVv (As := []) (ci := 10) hc hr (dc_at dX10_laysStuff 1 rfl) ml_X10_311 mv_X10_laysOrder vi_X10_laysOrder rfl ho rfl (mt_X10_laysOrder ex) (by first | exact Nat.le_of_ble_eq_true rfl | omega) (by first | exact Nat.le_of_ble_eq_true rfl | omega) (by first | exact Nat.le_of_ble_eq_true rfl | omega) hm hs ?_
  refine r_iconst (0 : Int32) hc (dc_at dX10_laysStuff 2 rfl) (by decide) ?_
  refine r_istore [(7, .int ((0 : Int32))), (0, .ref (X.1 + v0)), (1, .int v1), (2, .int v2), (3, .long v3), (5, .long v5)] hc hr (dc_at dX10_laysStuff 3 rfl) (by decide) rfl ?_
  exact gg_sub [1, 2, 3, 4, 5, 0] rfl (tl_X10_laysStuff_7 hc hr he hm hs  F _ _ _ _ _ _ _ hf)
def m_X10_laysStuff (F : Nat) (h : PH) (p0 : Nat) (p1 : Int32) (p2 : Int32) (p3 : Int64) (p5 : Int64) : Option (Unit × PH) := b_X10_laysStuff_0 F h p0 p1 p2 p3 p5
theorem mt_X10_laysStuff {l : Launch} {X : XT} {F : Nat} {h hz : PH} {p0 : Nat} {p1 : Int32} {p2 : Int32} {p3 : Int64} {p5 : Int64} {r : Unit} (ex : m_X10_laysStuff F h p0 p1 p2 p3 p5 = some (r, hz)) : MT l X yX10_laysStuff cX10_laysStuff 22 none 133 7716 0 0 [.ref (X.1 + p0), .int p1, .int p2, .long p3, .long p5] h none hz := MT.of (by decide) (Nat.le_of_ble_eq_true rfl) fun M hl hc hr he => by
  subst hl
  exact gg_sub [0, 1, 2, 3, 4] rfl (t_X10_laysStuff_0  hc hr he (Nat.zero_le _) (Nat.zero_le _) ex)
/-! FractionLiftModel.laysWhere(III)Z -/
def lX10_laysWhereL : List (Nat × Instr × Nat × Nat) := [(0, .aload_n 0, 1, 1), (1, .invokevirtual 311, 3, 4), (4, .iconst 0, 1, 5), (5, .istore 4, 2, 7), (7, .iload 4, 2, 9), (9, .aload_n 0, 1, 10), (10, .getfield 13, 3, 13), (13, .iconst 3, 1, 14), (14, .iaload, 1, 15), (15, .if_icmp .ge 244, 3, 18), (18, .aload_n 0, 1, 19), (19, .getfield 37, 3, 22), (22, .iload 4, 2, 24), (24, .iaload, 1, 25), (25, .istore 5, 2, 27), (27, .aload_n 0, 1, 28), (28, .iload_n 1, 1, 29), (29, .iload 5, 2, 31), (31, .invokevirtual 314, 3, 34), (34, .aload_n 0, 1, 35), (35, .iload_n 2, 1, 36), (36, .iload 5, 2, 38), (38, .invokevirtual 314, 3, 41), (41, .isub, 1, 42), (42, .i2l, 1, 43), (43, .lstore 6, 2, 45), (45, .iload 4, 2, 47), (47, .ifCond .ne 8, 3, 50), (50, .lload 6, 2, 52), (52, .goto 33, 3, 55), (55, .aload_n 0, 1, 56), (56, .iload_n 1, 1, 57), (57, .aload_n 0, 1, 58), (58, .getfield 37, 3, 61), (61, .iload 4, 2, 63), (63, .iconst 1, 1, 64), (64, .isub, 1, 65), (65, .iaload, 1, 66), (66, .invokevirtual 314, 3, 69), (69, .aload_n 0, 1, 70), (70, .iload_n 2, 1, 71), (71, .aload_n 0, 1, 72), (72, .getfield 37, 3, 75), (75, .iload 4, 2, 77), (77, .iconst 1, 1, 78), (78, .isub, 1, 79), (79, .iaload, 1, 80), (80, .invokevirtual 314, 3, 83), (83, .isub, 1, 84), (84, .i2l, 1, 85), (85, .lstore 8, 2, 87), (87, .iload 4, 2, 89), (89, .ifCond .ne 19, 3, 92), (92, .lload 6, 2, 94), (94, .iload_n 3, 1, 95), (95, .i2l, 1, 96), (96, .lcmp, 1, 97), (97, .ifCond .ne 11, 3, 100), (100, .aload_n 0, 1, 101), (101, .lconst 0, 1, 102), (102, .lconst 1, 1, 103), (103, .invokevirtual 194, 3, 106), (106, .iconst 1, 1, 107), (107, .ireturn, 1, 108), (108, .iload 4, 2, 110), (110, .ifCond .eq 143, 3, 113), (113, .lload 8, 2, 115), (115, .lload 6, 2, 117), (117, .lcmp, 1, 118), (118, .ifCond .eq 135, 3, 121), (121, .lload 8, 2, 123), (123, .iload_n 3, 1, 124), (124, .i2l, 1, 125), (125, .lsub, 1, 126), (126, .lload 6, 2, 128), (128, .iload_n 3, 1, 129), (129, .i2l, 1, 130), (130, .lsub, 1, 131), (131, .lmul, 1, 132), (132, .lconst 0, 1, 133), (133, .lcmp, 1, 134), (134, .ifCond .le 6, 3, 137), (137, .goto 116, 3, 140), (140, .aload_n 0, 1, 141), (141, .getfield 13, 3, 144), (144, .bipush 9, 2, 146), (146, .aload_n 0, 1, 147), (147, .getfield 37, 3, 150), (150, .iload 4, 2, 152), (152, .iconst 1, 1, 153), (153, .isub, 1, 154), (154, .iaload, 1, 155), (155, .iadd, 1, 156), (156, .iaload, 1, 157), (157, .i2l, 1, 158), (158, .lstore 10, 2, 160), (160, .aload_n 0, 1, 161), (161, .getfield 13, 3, 164), (164, .bipush 17, 2, 166), (166, .aload_n 0, 1, 167), (167, .getfield 37, 3, 170), (170, .iload 4, 2, 172), (172, .iconst 1, 1, 173), (173, .isub, 1, 174), (174, .iaload, 1, 175), (175, .iadd, 1, 176), (176, .iaload, 1, 177), (177, .i2l, 1, 178), (178, .lstore 12, 2, 180), (180, .aload_n 0, 1, 181), (181, .getfield 13, 3, 184), (184, .bipush 9, 2, 186), (186, .iload 5, 2, 188), (188, .iadd, 1, 189), (189, .iaload, 1, 190), (190, .i2l, 1, 191), (191, .lstore 14, 2, 193), (193, .aload_n 0, 1, 194), (194, .getfield 13, 3, 197), (197, .bipush 17, 2, 199), (199, .iload 5, 2, 201), (201, .iadd, 1, 202), (202, .iaload, 1, 203), (203, .i2l, 1, 204), (204, .lstore 16, 2, 206), (206, .lload 6, 2, 208), (208, .lload 8, 2, 210), (210, .lsub, 1, 211), (211, .lstore 18, 2, 213), (213, .aload_n 0, 1, 214), (214, .lload 10, 2, 216), (216, .lload 16, 2, 218), (218, .lmul, 1, 219), (219, .lload 18, 2, 221), (221, .lmul, 1, 222), (222, .lload 14, 2, 224), (224, .lload 12, 2, 226), (226, .lmul, 1, 227), (227, .lload 10, 2, 229), (229, .lload 16, 2, 231), (231, .lmul, 1, 232), (232, .lsub, 1, 233), (233, .iload_n 3, 1, 234), (234, .i2l, 1, 235), (235, .lload 8, 2, 237), (237, .lsub, 1, 238), (238, .lmul, 1, 239), (239, .ladd, 1, 240), (240, .lload 12, 2, 242), (242, .lload 16, 2, 244), (244, .lmul, 1, 245), (245, .lload 18, 2, 247), (247, .lmul, 1, 248), (248, .invokevirtual 194, 3, 251), (251, .iconst 1, 1, 252), (252, .ireturn, 1, 253), (253, .iinc 4 1, 3, 256), (256, .goto (-249), 3, 259), (259, .aload_n 0, 1, 260), (260, .lconst 0, 1, 261), (261, .lconst 1, 1, 262), (262, .invokevirtual 194, 3, 265), (265, .aload_n 0, 1, 266), (266, .getfield 13, 3, 269), (269, .iconst 3, 1, 270), (270, .iaload, 1, 271), (271, .ifCond .ne 11, 3, 274), (274, .iload_n 3, 1, 275), (275, .ifCond .ne 7, 3, 278), (278, .iconst 1, 1, 279), (279, .goto 4, 3, 282), (282, .iconst 0, 1, 283), (283, .ireturn, 1, 284)]
set_option maxRecDepth 20000 in
theorem dX10_laysWhere : dcL cX10_laysWhere lX10_laysWhereL = true := by decide +kernel
def b_X10_laysWhere_253 (F : Nat) (self4 : PH → Nat → Int32 → Int32 → Int32 → Int32 → Option (Int32 × PH)) (h : PH) (v0 : Nat) (v1 : Int32) (v2 : Int32) (v3 : Int32) (v4 : Int32) : Option (Int32 × PH) := bindv (v4 + (1)) fun x1 => (self4 h v0 v1 v2 v3 x1)
set_option maxRecDepth 20000 in
theorem t_X10_laysWhere_253 {M : MV} {X : XT} {F : Nat} {self4 : PH → Nat → Int32 → Int32 → Int32 → Int32 → Option (Int32 × PH)} {h hz : PH} {r : Int32} {ce sl mc ms : Nat} {v0 : Nat} {v1 : Int32} {v2 : Int32} {v3 : Int32} {v4 : Int32} (hc : Cx M X RX10 cX10_laysWhere) (hr : Rx M 133 7716 mc ms 20) (he : Ex M X (some .boolean) "laysWhere" (some (.int r)) hz mc ms) (hm : ce ≤ mc) (hs : sl ≤ ms) (ih4 : ∀ (h : PH) (v0 : Nat) (v1 : Int32) (v2 : Int32) (v3 : Int32) (v4 : Int32), self4 h v0 v1 v2 v3 v4 = some (r, hz) → GG M X h ce sl 7 [(0, .ref (X.1 + v0)), (1, .int v1), (2, .int v2), (3, .int v3), (4, .int v4)] []) (hf : b_X10_laysWhere_253 F self4 h v0 v1 v2 v3 v4 = some (r, hz)) : GG M X h ce sl 253 [(0, .ref (X.1 + v0)), (1, .int v1), (2, .int v2), (3, .int v3), (4, .int v4)] [] := by
  unfold b_X10_laysWhere_253 at hf
  refine obv hf fun x1 e_x1 hf => ?_
  refine r_iinc 4 [(4, .int x1), (0, .ref (X.1 + v0)), (1, .int v1), (2, .int v2), (3, .int v3)] hc hr (dc_at dX10_laysWhere 156 rfl) rfl (by rw [e_x1]; rfl) (by decide) rfl ?_
  refine r_goto (tgt := 7) hc (dc_at dX10_laysWhere 157 rfl) (by decide) ?_
  exact gg_sub [1, 2, 3, 4, 0] rfl (ih4 _ _ _ _ _ _ hf)
def b_X10_laysWhere_108 (F : Nat) (self4 : PH → Nat → Int32 → Int32 → Int32 → Int32 → Option (Int32 × PH)) (h : PH) (v0 : Nat) (v1 : Int32) (v2 : Int32) (v3 : Int32) (v4 : Int32) (v5 : Int32) (v6 : Int64) (v8 : Int64) : Option (Int32 × PH) := if v4 = 0 then (b_X10_laysWhere_253 F self4 h v0 v1 v2 v3 v4) else (if v8 = v6 then (b_X10_laysWhere_253 F self4 h v0 v1 v2 v3 v4) else (if ((((v8 - (Int32.toInt64 v3))) * ((v6 - (Int32.toInt64 v3))))) ≤ (0 : Int64) then ((gR 10 1 h v0).bind fun a1 => ((gR 10 23 h v0).bind fun a2 => ((aI 0 h a2 ((v4 - (1 : Int32)))).bind fun x3 => ((aI 0 h a1 (((9 : Int32) + x3))).bind fun x4 => (bindv (Int32.toInt64 x4) fun x5 => ((gR 10 1 h v0).bind fun a6 => ((gR 10 23 h v0).bind fun a7 => ((aI 0 h a7 ((v4 - (1 : Int32)))).bind fun x8 => ((aI 0 h a6 (((17 : Int32) + x8))).bind fun x9 => (bindv (Int32.toInt64 x9) fun x10 => ((gR 10 1 h v0).bind fun a11 => ((aI 0 h a11 (((9 : Int32) + v5))).bind fun x12 => (bindv (Int32.toInt64 x12) fun x13 => ((gR 10 1 h v0).bind fun a14 => ((aI 0 h a14 (((17 : Int32) + v5))).bind fun x15 => (bindv (Int32.toInt64 x15) fun x16 => (bindv (v6 - v8) fun x17 => (cO 10 h v0 (bind2 (m_X10_lays h v0 (((((x5 * x16) * x17)) + (((((x13 * x10) - (x5 * x16))) * (((Int32.toInt64 v3) - v8)))))) (((x10 * x16) * x17))) fun _ h19 => (rZ (1 : Int32) h19)))))))))))))))))))) else (b_X10_laysWhere_253 F self4 h v0 v1 v2 v3 v4)))
set_option maxRecDepth 20000 in
theorem t_X10_laysWhere_108 {M : MV} {X : XT} {F : Nat} {self4 : PH → Nat → Int32 → Int32 → Int32 → Int32 → Option (Int32 × PH)} {h hz : PH} {r : Int32} {ce sl mc ms : Nat} {v0 : Nat} {v1 : Int32} {v2 : Int32} {v3 : Int32} {v4 : Int32} {v5 : Int32} {v6 : Int64} {v8 : Int64} (hc : Cx M X RX10 cX10_laysWhere) (hr : Rx M 133 7716 mc ms 20) (he : Ex M X (some .boolean) "laysWhere" (some (.int r)) hz mc ms) (hm : ce ≤ mc) (hs : sl ≤ ms) (ih4 : ∀ (h : PH) (v0 : Nat) (v1 : Int32) (v2 : Int32) (v3 : Int32) (v4 : Int32), self4 h v0 v1 v2 v3 v4 = some (r, hz) → GG M X h ce sl 7 [(0, .ref (X.1 + v0)), (1, .int v1), (2, .int v2), (3, .int v3), (4, .int v4)] []) (hf : b_X10_laysWhere_108 F self4 h v0 v1 v2 v3 v4 v5 v6 v8 = some (r, hz)) : GG M X h ce sl 108 [(0, .ref (X.1 + v0)), (1, .int v1), (2, .int v2), (3, .int v3), (4, .int v4), (5, .int v5), (6, .long v6), (8, .long v8)] [] := by
  unfold b_X10_laysWhere_108 at hf
  refine r_iload hc 4 (dc_at dX10_laysWhere 64 rfl) rfl ?_
  refine r_if_eq (tgt := 253) hc (dc_at dX10_laysWhere 65 rfl) (by decide) hf (fun hf => ?_) (fun hf => ?_)
  · exact gg_sub [0, 1, 2, 3, 4] rfl (t_X10_laysWhere_253 hc hr he hm hs ih4 hf)
  · refine r_lload hc 7 (dc_at dX10_laysWhere 66 rfl) rfl ?_
    refine r_lload hc 6 (dc_at dX10_laysWhere 67 rfl) rfl ?_
    refine r_lcmp_eq (tgt := 253) hc (dc_at dX10_laysWhere 68 rfl) (dc_at dX10_laysWhere 69 rfl) (by decide) hf (fun hf => ?_) (fun hf => ?_)
    · exact gg_sub [0, 1, 2, 3, 4] rfl (t_X10_laysWhere_253 hc hr he hm hs ih4 hf)
    · refine r_lload hc 7 (dc_at dX10_laysWhere 70 rfl) rfl ?_
      refine r_iload_n hc 3 (dc_at dX10_laysWhere 71 rfl) rfl ?_
      refine r_i2l hc (dc_at dX10_laysWhere 72 rfl) ?_
      refine r_lsub hc (dc_at dX10_laysWhere 73 rfl) ?_
      refine r_lload hc 6 (dc_at dX10_laysWhere 74 rfl) rfl ?_
      refine r_iload_n hc 3 (dc_at dX10_laysWhere 75 rfl) rfl ?_
      refine r_i2l hc (dc_at dX10_laysWhere 76 rfl) ?_
      refine r_lsub hc (dc_at dX10_laysWhere 77 rfl) ?_
      refine r_lmul hc (dc_at dX10_laysWhere 78 rfl) ?_
      refine r_lconst (0 : Int64) hc (dc_at dX10_laysWhere 79 rfl) (by decide) ?_
      refine r_lcmp_le (tgt := 140) hc (dc_at dX10_laysWhere 80 rfl) (dc_at dX10_laysWhere 81 rfl) (by decide) hf (fun hf => ?_) (fun hf => ?_)
      · refine r_aload_n hc 0 (dc_at dX10_laysWhere 83 rfl) rfl ?_
        refine r_getR hc (dc_at dX10_laysWhere 84 rfl) fl_X10_13 hf fun a1 hf => ?_
        refine r_bipush (9 : Int32) hc (dc_at dX10_laysWhere 85 rfl) (by decide) ?_
        refine r_aload_n hc 0 (dc_at dX10_laysWhere 86 rfl) rfl ?_
        refine r_getR hc (dc_at dX10_laysWhere 87 rfl) fl_X10_37 hf fun a2 hf => ?_
        refine r_iload hc 4 (dc_at dX10_laysWhere 88 rfl) rfl ?_
        refine r_iconst (1 : Int32) hc (dc_at dX10_laysWhere 89 rfl) (by decide) ?_
        refine r_isub hc (dc_at dX10_laysWhere 90 rfl) ?_
        refine r_iaload hc (dc_at dX10_laysWhere 91 rfl) hf fun x3 hf => ?_
        refine r_iadd hc (dc_at dX10_laysWhere 92 rfl) ?_
        refine r_iaload hc (dc_at dX10_laysWhere 93 rfl) hf fun x4 hf => ?_
        refine r_i2l hc (dc_at dX10_laysWhere 94 rfl) ?_
        refine r_nm (mk := Value.long) hf fun x5 hf => ?_
        refine r_lstore [(10, .long x5), (0, .ref (X.1 + v0)), (1, .int v1), (2, .int v2), (3, .int v3), (4, .int v4), (5, .int v5), (6, .long v6), (8, .long v8)] hc hr (dc_at dX10_laysWhere 95 rfl) (by decide) rfl ?_
        refine r_aload_n hc 1 (dc_at dX10_laysWhere 96 rfl) rfl ?_
        refine r_getR hc (dc_at dX10_laysWhere 97 rfl) fl_X10_13 hf fun a6 hf => ?_
        refine r_bipush (17 : Int32) hc (dc_at dX10_laysWhere 98 rfl) (by decide) ?_
        refine r_aload_n hc 1 (dc_at dX10_laysWhere 99 rfl) rfl ?_
        refine r_getR hc (dc_at dX10_laysWhere 100 rfl) fl_X10_37 hf fun a7 hf => ?_
        refine r_iload hc 5 (dc_at dX10_laysWhere 101 rfl) rfl ?_
        refine r_iconst (1 : Int32) hc (dc_at dX10_laysWhere 102 rfl) (by decide) ?_
        refine r_isub hc (dc_at dX10_laysWhere 103 rfl) ?_
        refine r_iaload hc (dc_at dX10_laysWhere 104 rfl) hf fun x8 hf => ?_
        refine r_iadd hc (dc_at dX10_laysWhere 105 rfl) ?_
        refine r_iaload hc (dc_at dX10_laysWhere 106 rfl) hf fun x9 hf => ?_
        refine r_i2l hc (dc_at dX10_laysWhere 107 rfl) ?_
        refine r_nm (mk := Value.long) hf fun x10 hf => ?_
        refine r_lstore [(12, .long x10), (10, .long x5), (0, .ref (X.1 + v0)), (1, .int v1), (2, .int v2), (3, .int v3), (4, .int v4), (5, .int v5), (6, .long v6), (8, .long v8)] hc hr (dc_at dX10_laysWhere 108 rfl) (by decide) rfl ?_
        refine r_aload_n hc 2 (dc_at dX10_laysWhere 109 rfl) rfl ?_
        refine r_getR hc (dc_at dX10_laysWhere 110 rfl) fl_X10_13 hf fun a11 hf => ?_
        refine r_bipush (9 : Int32) hc (dc_at dX10_laysWhere 111 rfl) (by decide) ?_
        refine r_iload hc 7 (dc_at dX10_laysWhere 112 rfl) rfl ?_
        refine r_iadd hc (dc_at dX10_laysWhere 113 rfl) ?_
        refine r_iaload hc (dc_at dX10_laysWhere 114 rfl) hf fun x12 hf => ?_
        refine r_i2l hc (dc_at dX10_laysWhere 115 rfl) ?_
        refine r_nm (mk := Value.long) hf fun x13 hf => ?_
        refine r_lstore [(14, .long x13), (12, .long x10), (10, .long x5), (0, .ref (X.1 + v0)), (1, .int v1), (2, .int v2), (3, .int v3), (4, .int v4), (5, .int v5), (6, .long v6), (8, .long v8)] hc hr (dc_at dX10_laysWhere 116 rfl) (by decide) rfl ?_
        refine r_aload_n hc 3 (dc_at dX10_laysWhere 117 rfl) rfl ?_
        refine r_getR hc (dc_at dX10_laysWhere 118 rfl) fl_X10_13 hf fun a14 hf => ?_
        refine r_bipush (17 : Int32) hc (dc_at dX10_laysWhere 119 rfl) (by decide) ?_
        refine r_iload hc 8 (dc_at dX10_laysWhere 120 rfl) rfl ?_
        refine r_iadd hc (dc_at dX10_laysWhere 121 rfl) ?_
        refine r_iaload hc (dc_at dX10_laysWhere 122 rfl) hf fun x15 hf => ?_
        refine r_i2l hc (dc_at dX10_laysWhere 123 rfl) ?_
        refine r_nm (mk := Value.long) hf fun x16 hf => ?_
        refine r_lstore [(16, .long x16), (14, .long x13), (12, .long x10), (10, .long x5), (0, .ref (X.1 + v0)), (1, .int v1), (2, .int v2), (3, .int v3), (4, .int v4), (5, .int v5), (6, .long v6), (8, .long v8)] hc hr (dc_at dX10_laysWhere 124 rfl) (by decide) rfl ?_
        refine r_lload hc 10 (dc_at dX10_laysWhere 125 rfl) rfl ?_
        refine r_lload hc 11 (dc_at dX10_laysWhere 126 rfl) rfl ?_
        refine r_lsub hc (dc_at dX10_laysWhere 127 rfl) ?_
        refine r_nm (mk := Value.long) hf fun x17 hf => ?_
        refine r_lstore [(18, .long x17), (16, .long x16), (14, .long x13), (12, .long x10), (10, .long x5), (0, .ref (X.1 + v0)), (1, .int v1), (2, .int v2), (3, .int v3), (4, .int v4), (5, .int v5), (6, .long v6), (8, .long v8)] hc hr (dc_at dX10_laysWhere 128 rfl) (by decide) rfl ?_
        refine r_aload_n hc 5 (dc_at dX10_laysWhere 129 rfl) rfl ?_
        refine r_lload hc 4 (dc_at dX10_laysWhere 130 rfl) rfl ?_
        refine r_lload hc 1 (dc_at dX10_laysWhere 131 rfl) rfl ?_
        refine r_lmul hc (dc_at dX10_laysWhere 132 rfl) ?_
        refine r_lload hc 0 (dc_at dX10_laysWhere 133 rfl) rfl ?_
        refine r_lmul hc (dc_at dX10_laysWhere 134 rfl) ?_
        refine r_lload hc 2 (dc_at dX10_laysWhere 135 rfl) rfl ?_
        refine r_lload hc 3 (dc_at dX10_laysWhere 136 rfl) rfl ?_
        refine r_lmul hc (dc_at dX10_laysWhere 137 rfl) ?_
        refine r_lload hc 4 (dc_at dX10_laysWhere 138 rfl) rfl ?_
        refine r_lload hc 1 (dc_at dX10_laysWhere 139 rfl) rfl ?_
        refine r_lmul hc (dc_at dX10_laysWhere 140 rfl) ?_
        refine r_lsub hc (dc_at dX10_laysWhere 141 rfl) ?_
        refine r_iload_n hc 8 (dc_at dX10_laysWhere 142 rfl) rfl ?_
        refine r_i2l hc (dc_at dX10_laysWhere 143 rfl) ?_
        refine r_lload hc 12 (dc_at dX10_laysWhere 144 rfl) rfl ?_
        refine r_lsub hc (dc_at dX10_laysWhere 145 rfl) ?_
        refine r_lmul hc (dc_at dX10_laysWhere 146 rfl) ?_
        refine r_ladd hc (dc_at dX10_laysWhere 147 rfl) ?_
        refine r_lload hc 3 (dc_at dX10_laysWhere 148 rfl) rfl ?_
        refine r_lload hc 1 (dc_at dX10_laysWhere 149 rfl) rfl ?_
        refine r_lmul hc (dc_at dX10_laysWhere 150 rfl) ?_
        refine r_lload hc 0 (dc_at dX10_laysWhere 151 rfl) rfl ?_
        refine r_lmul hc (dc_at dX10_laysWhere 152 rfl) ?_
        obtain ⟨ho, hf⟩ := cO_some hf
        refine ob2 hf fun u h19 ex hf => ?_
        refine r_callVv (As := [.long (((((x5 * x16) * x17)) + (((((x13 * x10) - (x5 * x16))) * (((Int32.toInt64 v3) - v8)))))), .long (((x10 * x16) * x17))]) (ci := 10) hc hr (dc_at dX10_laysWhere 153 rfl) ml_X10_194 mv_X10_lays vi_X10_lays rfl ho rfl (mt_X10_lays ex) (by first | exact Nat.le_of_ble_eq_true rfl | omega) (by first | exact Nat.le_of_ble_eq_true rfl | omega) (by first | exact Nat.le_of_ble_eq_true rfl | omega) hm hs ?_
        refine r_iconst (1 : Int32) hc (dc_at dX10_laysWhere 154 rfl) (by decide) ?_
        exact r_zret hc he (hm) (hs) (dc_at dX10_laysWhere 155 rfl) hf
      · refine r_goto (tgt := 253) hc (dc_at dX10_laysWhere 82 rfl) (by decide) ?_
        exact gg_sub [0, 1, 2, 3, 4] rfl (t_X10_laysWhere_253 hc hr he hm hs ih4 hf)
def b_X10_laysWhere_85 (F : Nat) (self4 : PH → Nat → Int32 → Int32 → Int32 → Int32 → Option (Int32 × PH)) (h : PH) (v0 : Nat) (v1 : Int32) (v2 : Int32) (v3 : Int32) (v4 : Int32) (v5 : Int32) (v6 : Int64) (s0 : Int64) : Option (Int32 × PH) := if v4 = 0 then (if v6 = (Int32.toInt64 v3) then (cO 10 h v0 (bind2 (m_X10_lays h v0 (0 : Int64) (1 : Int64)) fun _ h2 => (rZ (1 : Int32) h2))) else (b_X10_laysWhere_108 F self4 h v0 v1 v2 v3 v4 v5 v6 s0)) else (b_X10_laysWhere_108 F self4 h v0 v1 v2 v3 v4 v5 v6 s0)
set_option maxRecDepth 20000 in
theorem t_X10_laysWhere_85 {M : MV} {X : XT} {F : Nat} {self4 : PH → Nat → Int32 → Int32 → Int32 → Int32 → Option (Int32 × PH)} {h hz : PH} {r : Int32} {ce sl mc ms : Nat} {v0 : Nat} {v1 : Int32} {v2 : Int32} {v3 : Int32} {v4 : Int32} {v5 : Int32} {v6 : Int64} {s0 : Int64} (hc : Cx M X RX10 cX10_laysWhere) (hr : Rx M 133 7716 mc ms 20) (he : Ex M X (some .boolean) "laysWhere" (some (.int r)) hz mc ms) (hm : ce ≤ mc) (hs : sl ≤ ms) (ih4 : ∀ (h : PH) (v0 : Nat) (v1 : Int32) (v2 : Int32) (v3 : Int32) (v4 : Int32), self4 h v0 v1 v2 v3 v4 = some (r, hz) → GG M X h ce sl 7 [(0, .ref (X.1 + v0)), (1, .int v1), (2, .int v2), (3, .int v3), (4, .int v4)] []) (hf : b_X10_laysWhere_85 F self4 h v0 v1 v2 v3 v4 v5 v6 s0 = some (r, hz)) : GG M X h ce sl 85 [(0, .ref (X.1 + v0)), (1, .int v1), (2, .int v2), (3, .int v3), (4, .int v4), (5, .int v5), (6, .long v6)] [.long s0] := by
  unfold b_X10_laysWhere_85 at hf
  refine r_lstore [(8, .long s0), (0, .ref (X.1 + v0)), (1, .int v1), (2, .int v2), (3, .int v3), (4, .int v4), (5, .int v5), (6, .long v6)] hc hr (dc_at dX10_laysWhere 50 rfl) (by decide) rfl ?_
  refine r_iload hc 5 (dc_at dX10_laysWhere 51 rfl) rfl ?_
  refine r_if_ne (tgt := 108) hc (dc_at dX10_laysWhere 52 rfl) (by decide) hf (fun hf => ?_) (fun hf => ?_)
  · exact gg_sub [1, 2, 3, 4, 5, 6, 7, 0] rfl (t_X10_laysWhere_108 hc hr he hm hs ih4 hf)
  · refine r_lload hc 7 (dc_at dX10_laysWhere 53 rfl) rfl ?_
    refine r_iload_n hc 4 (dc_at dX10_laysWhere 54 rfl) rfl ?_
    refine r_i2l hc (dc_at dX10_laysWhere 55 rfl) ?_
    refine r_lcmp_ne (tgt := 108) hc (dc_at dX10_laysWhere 56 rfl) (dc_at dX10_laysWhere 57 rfl) (by decide) hf (fun hf => ?_) (fun hf => ?_)
    · exact gg_sub [1, 2, 3, 4, 5, 6, 7, 0] rfl (t_X10_laysWhere_108 hc hr he hm hs ih4 hf)
    · refine r_aload_n hc 1 (dc_at dX10_laysWhere 58 rfl) rfl ?_
      refine r_lconst (0 : Int64) hc (dc_at dX10_laysWhere 59 rfl) (by decide) ?_
      refine r_lconst (1 : Int64) hc (dc_at dX10_laysWhere 60 rfl) (by decide) ?_
      obtain ⟨ho, hf⟩ := cO_some hf
      refine ob2 hf fun u h2 ex hf => ?_
      refine r_callVv (As := [.long ((0 : Int64)), .long ((1 : Int64))]) (ci := 10) hc hr (dc_at dX10_laysWhere 61 rfl) ml_X10_194 mv_X10_lays vi_X10_lays rfl ho rfl (mt_X10_lays ex) (by first | exact Nat.le_of_ble_eq_true rfl | omega) (by first | exact Nat.le_of_ble_eq_true rfl | omega) (by first | exact Nat.le_of_ble_eq_true rfl | omega) hm hs ?_
      refine r_iconst (1 : Int32) hc (dc_at dX10_laysWhere 62 rfl) (by decide) ?_
      exact r_zret hc he (hm) (hs) (dc_at dX10_laysWhere 63 rfl) hf
def b_X10_laysWhere_7 (F : Nat) (self4 : PH → Nat → Int32 → Int32 → Int32 → Int32 → Option (Int32 × PH)) (h : PH) (v0 : Nat) (v1 : Int32) (v2 : Int32) (v3 : Int32) (v4 : Int32) : Option (Int32 × PH) := (gR 10 1 h v0).bind fun a1 => ((aI 0 h a1 (3 : Int32)).bind fun x2 => (if x2 ≤ v4 then (cO 10 h v0 (bind2 (m_X10_lays h v0 (0 : Int64) (1 : Int64)) fun _ h4 => ((gR 10 1 h4 v0).bind fun a5 => ((aI 0 h4 a5 (3 : Int32)).bind fun x6 => (if x6 = 0 then (if v3 = 0 then (rZ (1 : Int32) h4) else (rZ (0 : Int32) h4)) else (rZ (0 : Int32) h4)))))) else ((gR 10 23 h v0).bind fun a7 => ((aI 0 h a7 v4).bind fun x8 => (cO 10 h v0 ((m_X10_stuffOf h v0 v1 x8).bind fun x9 => (cO 10 h v0 ((m_X10_stuffOf h v0 v2 x8).bind fun x10 => (bindv ((Int32.toInt64 (x9 - x10))) fun x11 => (if v4 = 0 then (b_X10_laysWhere_85 F self4 h v0 v1 v2 v3 v4 x8 x11 x11) else ((gR 10 23 h v0).bind fun a12 => ((aI 0 h a12 ((v4 - (1 : Int32)))).bind fun x13 => (cO 10 h v0 ((m_X10_stuffOf h v0 v1 x13).bind fun x14 => ((gR 10 23 h v0).bind fun a15 => ((aI 0 h a15 ((v4 - (1 : Int32)))).bind fun x16 => (cO 10 h v0 ((m_X10_stuffOf h v0 v2 x16).bind fun x17 => (b_X10_laysWhere_85 F self4 h v0 v1 v2 v3 v4 x8 x11 ((Int32.toInt64 (x14 - x17))))))))))))))))))))))
set_option maxRecDepth 20000 in
theorem tb_X10_laysWhere_7 {M : MV} {X : XT} {F : Nat} {self4 : PH → Nat → Int32 → Int32 → Int32 → Int32 → Option (Int32 × PH)} {h hz : PH} {r : Int32} {ce sl mc ms : Nat} {v0 : Nat} {v1 : Int32} {v2 : Int32} {v3 : Int32} {v4 : Int32} (hc : Cx M X RX10 cX10_laysWhere) (hr : Rx M 133 7716 mc ms 20) (he : Ex M X (some .boolean) "laysWhere" (some (.int r)) hz mc ms) (hm : ce ≤ mc) (hs : sl ≤ ms) (ih4 : ∀ (h : PH) (v0 : Nat) (v1 : Int32) (v2 : Int32) (v3 : Int32) (v4 : Int32), self4 h v0 v1 v2 v3 v4 = some (r, hz) → GG M X h ce sl 7 [(0, .ref (X.1 + v0)), (1, .int v1), (2, .int v2), (3, .int v3), (4, .int v4)] []) (hf : b_X10_laysWhere_7 F self4 h v0 v1 v2 v3 v4 = some (r, hz)) : GG M X h ce sl 7 [(0, .ref (X.1 + v0)), (1, .int v1), (2, .int v2), (3, .int v3), (4, .int v4)] [] := by
  unfold b_X10_laysWhere_7 at hf
  refine r_iload hc 4 (dc_at dX10_laysWhere 4 rfl) rfl ?_
  refine r_aload_n hc 0 (dc_at dX10_laysWhere 5 rfl) rfl ?_
  refine r_getR hc (dc_at dX10_laysWhere 6 rfl) fl_X10_13 hf fun a1 hf => ?_
  refine r_iconst (3 : Int32) hc (dc_at dX10_laysWhere 7 rfl) (by decide) ?_
  refine r_iaload hc (dc_at dX10_laysWhere 8 rfl) hf fun x2 hf => ?_
  refine r_icmp_ge (tgt := 259) hc (dc_at dX10_laysWhere 9 rfl) (by decide) hf (fun hf => ?_) (fun hf => ?_)
  · refine r_aload_n hc 0 (dc_at dX10_laysWhere 158 rfl) rfl ?_
    refine r_lconst (0 : Int64) hc (dc_at dX10_laysWhere 159 rfl) (by decide) ?_
    refine r_lconst (1 : Int64) hc (dc_at dX10_laysWhere 160 rfl) (by decide) ?_
    obtain ⟨ho, hf⟩ := cO_some hf
    refine ob2 hf fun u h4 ex hf => ?_
    refine r_callVv (As := [.long ((0 : Int64)), .long ((1 : Int64))]) (ci := 10) hc hr (dc_at dX10_laysWhere 161 rfl) ml_X10_194 mv_X10_lays vi_X10_lays rfl ho rfl (mt_X10_lays ex) (by first | exact Nat.le_of_ble_eq_true rfl | omega) (by first | exact Nat.le_of_ble_eq_true rfl | omega) (by first | exact Nat.le_of_ble_eq_true rfl | omega) hm hs ?_
    refine r_aload_n hc 0 (dc_at dX10_laysWhere 162 rfl) rfl ?_
    refine r_getR hc (dc_at dX10_laysWhere 163 rfl) fl_X10_13 hf fun a5 hf => ?_
    refine r_iconst (3 : Int32) hc (dc_at dX10_laysWhere 164 rfl) (by decide) ?_
    refine r_iaload hc (dc_at dX10_laysWhere 165 rfl) hf fun x6 hf => ?_
    refine r_if_ne (tgt := 282) hc (dc_at dX10_laysWhere 166 rfl) (by decide) hf (fun hf => ?_) (fun hf => ?_)
    · refine r_iconst (0 : Int32) hc (dc_at dX10_laysWhere 171 rfl) (by decide) ?_
      exact r_zret hc he (hm) (hs) (dc_at dX10_laysWhere 172 rfl) hf
    · refine r_iload_n hc 3 (dc_at dX10_laysWhere 167 rfl) rfl ?_
      refine r_if_ne (tgt := 282) hc (dc_at dX10_laysWhere 168 rfl) (by decide) hf (fun hf => ?_) (fun hf => ?_)
      · refine r_iconst (0 : Int32) hc (dc_at dX10_laysWhere 171 rfl) (by decide) ?_
        exact r_zret hc he (hm) (hs) (dc_at dX10_laysWhere 172 rfl) hf
      · refine r_iconst (1 : Int32) hc (dc_at dX10_laysWhere 169 rfl) (by decide) ?_
        refine r_goto (tgt := 283) hc (dc_at dX10_laysWhere 170 rfl) (by decide) ?_
        exact r_zret hc he (hm) (hs) (dc_at dX10_laysWhere 172 rfl) hf
  · refine r_aload_n hc 0 (dc_at dX10_laysWhere 10 rfl) rfl ?_
    refine r_getR hc (dc_at dX10_laysWhere 11 rfl) fl_X10_37 hf fun a7 hf => ?_
    refine r_iload hc 4 (dc_at dX10_laysWhere 12 rfl) rfl ?_
    refine r_iaload hc (dc_at dX10_laysWhere 13 rfl) hf fun x8 hf => ?_
    refine r_istore [(5, .int x8), (0, .ref (X.1 + v0)), (1, .int v1), (2, .int v2), (3, .int v3), (4, .int v4)] hc hr (dc_at dX10_laysWhere 14 rfl) (by decide) rfl ?_
    refine r_aload_n hc 1 (dc_at dX10_laysWhere 15 rfl) rfl ?_
    refine r_iload_n hc 2 (dc_at dX10_laysWhere 16 rfl) rfl ?_
    refine r_iload hc 0 (dc_at dX10_laysWhere 17 rfl) rfl ?_
    obtain ⟨ho, hf⟩ := cO_some hf
    refine ob hf fun x9 ex hf => ?_
    refine r_callVi (As := [.int v1, .int x8]) (ci := 10) hc hr (dc_at dX10_laysWhere 18 rfl) ml_X10_314 mv_X10_stuffOf vi_X10_stuffOf rfl ho rfl (mt_X10_stuffOf ex) (by first | exact Nat.le_of_ble_eq_true rfl | omega) (by first | exact Nat.le_of_ble_eq_true rfl | omega) (by first | exact Nat.le_of_ble_eq_true rfl | omega) hm hs ?_
    refine r_aload_n hc 1 (dc_at dX10_laysWhere 19 rfl) rfl ?_
    refine r_iload_n hc 3 (dc_at dX10_laysWhere 20 rfl) rfl ?_
    refine r_iload hc 0 (dc_at dX10_laysWhere 21 rfl) rfl ?_
    obtain ⟨ho, hf⟩ := cO_some hf
    refine ob hf fun x10 ex hf => ?_
    refine r_callVi (As := [.int v2, .int x8]) (ci := 10) hc hr (dc_at dX10_laysWhere 22 rfl) ml_X10_314 mv_X10_stuffOf vi_X10_stuffOf rfl ho rfl (mt_X10_stuffOf ex) (by first | exact Nat.le_of_ble_eq_true rfl | omega) (by first | exact Nat.le_of_ble_eq_true rfl | omega) (by first | exact Nat.le_of_ble_eq_true rfl | omega) hm hs ?_
    refine r_isub hc (dc_at dX10_laysWhere 23 rfl) ?_
    refine r_i2l hc (dc_at dX10_laysWhere 24 rfl) ?_
    refine r_nm (mk := Value.long) hf fun x11 hf => ?_
    refine r_lstore [(6, .long x11), (5, .int x8), (0, .ref (X.1 + v0)), (1, .int v1), (2, .int v2), (3, .int v3), (4, .int v4)] hc hr (dc_at dX10_laysWhere 25 rfl) (by decide) rfl ?_
    refine r_iload hc 6 (dc_at dX10_laysWhere 26 rfl) rfl ?_
    refine r_if_ne (tgt := 55) hc (dc_at dX10_laysWhere 27 rfl) (by decide) hf (fun hf => ?_) (fun hf => ?_)
    · refine r_aload_n hc 2 (dc_at dX10_laysWhere 30 rfl) rfl ?_
      refine r_iload_n hc 3 (dc_at dX10_laysWhere 31 rfl) rfl ?_
      refine r_aload_n hc 2 (dc_at dX10_laysWhere 32 rfl) rfl ?_
      refine r_getR hc (dc_at dX10_laysWhere 33 rfl) fl_X10_37 hf fun a12 hf => ?_
      refine r_iload hc 6 (dc_at dX10_laysWhere 34 rfl) rfl ?_
      refine r_iconst (1 : Int32) hc (dc_at dX10_laysWhere 35 rfl) (by decide) ?_
      refine r_isub hc (dc_at dX10_laysWhere 36 rfl) ?_
      refine r_iaload hc (dc_at dX10_laysWhere 37 rfl) hf fun x13 hf => ?_
      obtain ⟨ho, hf⟩ := cO_some hf
      refine ob hf fun x14 ex hf => ?_
      refine r_callVi (As := [.int v1, .int x13]) (ci := 10) hc hr (dc_at dX10_laysWhere 38 rfl) ml_X10_314 mv_X10_stuffOf vi_X10_stuffOf rfl ho rfl (mt_X10_stuffOf ex) (by first | exact Nat.le_of_ble_eq_true rfl | omega) (by first | exact Nat.le_of_ble_eq_true rfl | omega) (by first | exact Nat.le_of_ble_eq_true rfl | omega) hm hs ?_
      refine r_aload_n hc 2 (dc_at dX10_laysWhere 39 rfl) rfl ?_
      refine r_iload_n hc 4 (dc_at dX10_laysWhere 40 rfl) rfl ?_
      refine r_aload_n hc 2 (dc_at dX10_laysWhere 41 rfl) rfl ?_
      refine r_getR hc (dc_at dX10_laysWhere 42 rfl) fl_X10_37 hf fun a15 hf => ?_
      refine r_iload hc 6 (dc_at dX10_laysWhere 43 rfl) rfl ?_
      refine r_iconst (1 : Int32) hc (dc_at dX10_laysWhere 44 rfl) (by decide) ?_
      refine r_isub hc (dc_at dX10_laysWhere 45 rfl) ?_
      refine r_iaload hc (dc_at dX10_laysWhere 46 rfl) hf fun x16 hf => ?_
      obtain ⟨ho, hf⟩ := cO_some hf
      refine ob hf fun x17 ex hf => ?_
      refine r_callVi (As := [.int v2, .int x16]) (ci := 10) hc hr (dc_at dX10_laysWhere 47 rfl) ml_X10_314 mv_X10_stuffOf vi_X10_stuffOf rfl ho rfl (mt_X10_stuffOf ex) (by first | exact Nat.le_of_ble_eq_true rfl | omega) (by first | exact Nat.le_of_ble_eq_true rfl | omega) (by first | exact Nat.le_of_ble_eq_true rfl | omega) hm hs ?_
      refine r_isub hc (dc_at dX10_laysWhere 48 rfl) ?_
      refine r_i2l hc (dc_at dX10_laysWhere 49 rfl) ?_
      exact gg_sub [2, 3, 4, 5, 6, 1, 0] rfl (t_X10_laysWhere_85 hc hr he hm hs ih4 hf)
    · refine r_lload hc 0 (dc_at dX10_laysWhere 28 rfl) rfl ?_
      refine r_goto (tgt := 85) hc (dc_at dX10_laysWhere 29 rfl) (by decide) ?_
      exact gg_sub [2, 3, 4, 5, 6, 1, 0] rfl (t_X10_laysWhere_85 hc hr he hm hs ih4 hf)
def l_X10_laysWhere_7 (F : Nat) : Nat → PH → Nat → Int32 → Int32 → Int32 → Int32 → Option (Int32 × PH)
  | 0 => fun _ _ _ _ _ _ => none
  | n + 1 => fun h v0 v1 v2 v3 v4 => b_X10_laysWhere_7 F (l_X10_laysWhere_7 F n) h v0 v1 v2 v3 v4
theorem tl_X10_laysWhere_7 {M : MV} {X : XT} {F : Nat} {hz : PH} {r : Int32} {ce sl mc ms : Nat} (hc : Cx M X RX10 cX10_laysWhere) (hr : Rx M 133 7716 mc ms 20) (he : Ex M X (some .boolean) "laysWhere" (some (.int r)) hz mc ms) (hm : ce ≤ mc) (hs : sl ≤ ms) (n : Nat) : ∀ (h : PH) (v0 : Nat) (v1 : Int32) (v2 : Int32) (v3 : Int32) (v4 : Int32), l_X10_laysWhere_7 F n h v0 v1 v2 v3 v4 = some (r, hz) → GG M X h ce sl 7 [(0, .ref (X.1 + v0)), (1, .int v1), (2, .int v2), (3, .int v3), (4, .int v4)] [] := by
  induction n with
  | zero => intro h v0 v1 v2 v3 v4 hf; cases hf
  | succ n ih => intro h v0 v1 v2 v3 v4 hf; exact tb_X10_laysWhere_7 (F := F) hc hr he hm hs  ih hf
def b_X10_laysWhere_0 (F : Nat) (h : PH) (v0 : Nat) (v1 : Int32) (v2 : Int32) (v3 : Int32) : Option (Int32 × PH) := cO 10 h v0 (bind2 (m_X10_laysOrder F h v0) fun _ h2 => (l_X10_laysWhere_7 F F h2 v0 v1 v2 v3 (0 : Int32)))
set_option maxRecDepth 20000 in
theorem t_X10_laysWhere_0 {M : MV} {X : XT} {F : Nat} {h hz : PH} {r : Int32} {ce sl mc ms : Nat} {v0 : Nat} {v1 : Int32} {v2 : Int32} {v3 : Int32} (hc : Cx M X RX10 cX10_laysWhere) (hr : Rx M 133 7716 mc ms 20) (he : Ex M X (some .boolean) "laysWhere" (some (.int r)) hz mc ms) (hm : ce ≤ mc) (hs : sl ≤ ms) (hf : b_X10_laysWhere_0 F h v0 v1 v2 v3 = some (r, hz)) : GG M X h ce sl 0 [(0, .ref (X.1 + v0)), (1, .int v1), (2, .int v2), (3, .int v3)] [] := by
  unfold b_X10_laysWhere_0 at hf
  refine r_aload_n hc 0 (dc_at dX10_laysWhere 0 rfl) rfl ?_
  obtain ⟨ho, hf⟩ := cO_some hf
  refine ob2 hf fun u h2 ex hf => ?_
  refine r_callVv (As := []) (ci := 10) hc hr (dc_at dX10_laysWhere 1 rfl) ml_X10_311 mv_X10_laysOrder vi_X10_laysOrder rfl ho rfl (mt_X10_laysOrder ex) (by first | exact Nat.le_of_ble_eq_true rfl | omega) (by first | exact Nat.le_of_ble_eq_true rfl | omega) (by first | exact Nat.le_of_ble_eq_true rfl | omega) hm hs ?_
  refine r_iconst (0 : Int32) hc (dc_at dX10_laysWhere 2 rfl) (by decide) ?_
  refine r_istore [(4, .int ((0 : Int32))), (0, .ref (X.1 + v0)), (1, .int v1), (2, .int v2), (3, .int v3)] hc hr (dc_at dX10_laysWhere 3 rfl) (by decide) rfl ?_
  exact gg_sub [1, 2, 3, 4, 0] rfl (tl_X10_laysWhere_7 hc hr he hm hs  F _ _ _ _ _ _ hf)
def m_X10_laysWhere (F : Nat) (h : PH) (p0 : Nat) (p1 : Int32) (p2 : Int32) (p3 : Int32) : Option (Int32 × PH) := b_X10_laysWhere_0 F h p0 p1 p2 p3
theorem mt_X10_laysWhere {l : Launch} {X : XT} {F : Nat} {h hz : PH} {p0 : Nat} {p1 : Int32} {p2 : Int32} {p3 : Int32} {r : Int32} (ex : m_X10_laysWhere F h p0 p1 p2 p3 = some (r, hz)) : MT l X yX10_laysWhere cX10_laysWhere 20 (some .boolean) 133 7716 0 0 [.ref (X.1 + p0), .int p1, .int p2, .int p3] h (some (.int r)) hz := MT.of (by decide) (Nat.le_of_ble_eq_true rfl) fun M hl hc hr he => by
  subst hl
  exact gg_sub [0, 1, 2, 3] rfl (t_X10_laysWhere_0  hc hr he (Nat.zero_le _) (Nat.zero_le _) ex)
/-! FractionLiftModel.isStuff(I)Z -/
def lX10_isStuffL : List (Nat × Instr × Nat × Nat) := [(0, .iload_n 0, 1, 1), (1, .i2l, 1, 2), (2, .lconst 0, 1, 3), (3, .ldc2_w 292, 3, 6), (6, .invokestatic 172, 3, 9), (9, .ireturn, 1, 10)]
set_option maxRecDepth 20000 in
theorem dX10_isStuff : dcL cX10_isStuff lX10_isStuffL = true := by decide +kernel
def b_X10_isStuff_0 (v0 : Int32) : Option Int32 := (m_X10_within (Int32.toInt64 v0) (0 : Int64) (2 : Int64)).bind fun x1 => (rZP x1)
set_option maxRecDepth 20000 in
theorem t_X10_isStuff_0 {M : MV} {X : XT} {h : PH} {r : Int32} {ce sl mc ms : Nat} {v0 : Int32} (hc : Cx M X RX10 cX10_isStuff) (hr : Rx M 2 118 mc ms 1) (he : Ex M X (some .boolean) "isStuff" (some (.int r)) h mc ms) (hm : ce ≤ mc) (hs : sl ≤ ms) (hf : b_X10_isStuff_0 v0 = some r) : GG M X h ce sl 0 [(0, .int v0)] [] := by
  unfold b_X10_isStuff_0 at hf
  refine r_iload_n hc 0 (dc_at dX10_isStuff 0 rfl) rfl ?_
  refine r_i2l hc (dc_at dX10_isStuff 1 rfl) ?_
  refine r_lconst (0 : Int64) hc (dc_at dX10_isStuff 2 rfl) (by decide) ?_
  refine r_ldc2 hc (dc_at dX10_isStuff 3 rfl) cl2_X10_292 ?_
  refine ob hf fun x1 ex hf => ?_
  refine r_callSi (As := [.long ((Int32.toInt64 v0)), .long ((0 : Int64)), .long ((2 : Int64))]) hc hr (dc_at dX10_isStuff 4 rfl) ml_X10_172 mv_X10_within st_X10_within rfl (mt_X10_within ex) (by first | exact Nat.le_of_ble_eq_true rfl | omega) (by first | exact Nat.le_of_ble_eq_true rfl | omega) (by first | exact Nat.le_of_ble_eq_true rfl | omega) hm hs ?_
  exact r_zretP hc he (hm) (hs) (dc_at dX10_isStuff 5 rfl) hf
def m_X10_isStuff (p0 : Int32) : Option Int32 := b_X10_isStuff_0 p0
theorem mt_X10_isStuff {l : Launch} {X : XT} {h : PH} {p0 : Int32} {r : Int32} (ex : m_X10_isStuff p0 = some r) : MT l X yX10_isStuff cX10_isStuff 1 (some .boolean) 2 118 0 0 [.int p0] h (some (.int r)) h := MT.of (by decide) (Nat.le_of_ble_eq_true rfl) fun M hl hc hr he => by
  subst hl
  exact gg_sub [0] rfl (t_X10_isStuff_0  hc hr he (Nat.zero_le _) (Nat.zero_le _) ex)
/-! FractionLiftModel.has(IIII)J -/
def lX10_hasL : List (Nat × Instr × Nat × Nat) := [(0, .aload_n 0, 1, 1), (1, .iconst 0, 1, 2), (2, .putfield 1, 3, 5), (5, .iload_n 1, 1, 6), (6, .invokestatic 317, 3, 9), (9, .ifCond .eq 14, 3, 12), (12, .iload 4, 2, 14), (14, .i2l, 1, 15), (15, .lconst 0, 1, 16), (16, .lconst 1, 1, 17), (17, .invokestatic 172, 3, 20), (20, .ifCond .ne 7, 3, 23), (23, .ldc2_w 320, 3, 26), (26, .lreturn, 1, 27), (27, .aload_n 0, 1, 28), (28, .iload_n 2, 1, 29), (29, .i2l, 1, 30), (30, .iload_n 3, 1, 31), (31, .i2l, 1, 32), (32, .invokevirtual 282, 3, 35), (35, .ifCond .ne 7, 3, 38), (38, .ldc2_w 322, 3, 41), (41, .lreturn, 1, 42), (42, .aload_n 0, 1, 43), (43, .iload_n 1, 1, 44), (44, .iconst 3, 1, 45), (45, .aload_n 0, 1, 46), (46, .getfield 180, 3, 49), (49, .aload_n 0, 1, 50), (50, .getfield 184, 3, 53), (53, .invokevirtual 324, 3, 56), (56, .iload 4, 2, 58), (58, .ifCond .ne 10, 3, 61), (61, .aload_n 0, 1, 62), (62, .getfield 180, 3, 65), (65, .goto 7, 3, 68), (68, .aload_n 0, 1, 69), (69, .getfield 184, 3, 72), (72, .lreturn, 1, 73)]
set_option maxRecDepth 20000 in
theorem dX10_has : dcL cX10_has lX10_hasL = true := by decide +kernel
def b_X10_has_0 (F : Nat) (h : PH) (v0 : Nat) (v1 : Int32) (v2 : Int32) (v3 : Int32) (v4 : Int32) : Option (Int64 × PH) := (pV 10 0 (.int (0 : Int32)) h v0).bind fun h1 => ((m_X10_isStuff v1).bind fun x2 => (if x2 = 0 then (some ((-2 : Int64), h1)) else ((m_X10_within (Int32.toInt64 v4) (0 : Int64) (1 : Int64)).bind fun x3 => (if x3 = 0 then (some ((-2 : Int64), h1)) else (cO 10 h1 v0 (bind2 (m_X10_asks h1 v0 (Int32.toInt64 v2) (Int32.toInt64 v3)) fun x4 h5 => (if x4 = 0 then (some ((-3 : Int64), h5)) else ((gL 10 15 h5 v0).bind fun x6 => ((gL 10 16 h5 v0).bind fun x7 => (cO 10 h5 v0 (bind2 (m_X10_laysStuff F h5 v0 v1 (3 : Int32) x6 x7) fun _ h9 => (if v4 = 0 then ((gL 10 15 h9 v0).bind fun x11 => (some (x11, h9))) else ((gL 10 16 h9 v0).bind fun x10 => (some (x10, h9)))))))))))))))
set_option maxRecDepth 20000 in
theorem t_X10_has_0 {M : MV} {X : XT} {F : Nat} {h hz : PH} {r : Int64} {ce sl mc ms : Nat} {v0 : Nat} {v1 : Int32} {v2 : Int32} {v3 : Int32} {v4 : Int32} (hc : Cx M X RX10 cX10_has) (hr : Rx M 134 7774 mc ms 5) (he : Ex M X (some .long) "has" (some (.long r)) hz mc ms) (hm : ce ≤ mc) (hs : sl ≤ ms) (hf : b_X10_has_0 F h v0 v1 v2 v3 v4 = some (r, hz)) : GG M X h ce sl 0 [(0, .ref (X.1 + v0)), (1, .int v1), (2, .int v2), (3, .int v3), (4, .int v4)] [] := by
  unfold b_X10_has_0 at hf
  refine r_aload_n hc 0 (dc_at dX10_has 0 rfl) rfl ?_
  refine r_iconst (0 : Int32) hc (dc_at dX10_has 1 rfl) (by decide) ?_
  refine r_putI hc he (dc_at dX10_has 2 rfl) fp_X10_1 (fun q => by cases q) hf fun h1 hf => ?_
  refine r_iload_n hc 1 (dc_at dX10_has 3 rfl) rfl ?_
  refine ob hf fun x2 ex hf => ?_
  refine r_callSi (As := [.int v1]) hc hr (dc_at dX10_has 4 rfl) ml_X10_317 mv_X10_isStuff st_X10_isStuff rfl (mt_X10_isStuff ex) (by first | exact Nat.le_of_ble_eq_true rfl | omega) (by first | exact Nat.le_of_ble_eq_true rfl | omega) (by first | exact Nat.le_of_ble_eq_true rfl | omega) hm hs ?_
  refine r_if_eq (tgt := 23) hc (dc_at dX10_has 5 rfl) (by decide) hf (fun hf => ?_) (fun hf => ?_)
  · refine r_ldc2 hc (dc_at dX10_has 12 rfl) cl2_X10_320 ?_
    exact r_lret hc he (hm) (hs) (dc_at dX10_has 13 rfl) hf
  · refine r_iload hc 4 (dc_at dX10_has 6 rfl) rfl ?_
    refine r_i2l hc (dc_at dX10_has 7 rfl) ?_
    refine r_lconst (0 : Int64) hc (dc_at dX10_has 8 rfl) (by decide) ?_
    refine r_lconst (1 : Int64) hc (dc_at dX10_has 9 rfl) (by decide) ?_
    refine ob hf fun x3 ex hf => ?_
    refine r_callSi (As := [.long ((Int32.toInt64 v4)), .long ((0 : Int64)), .long ((1 : Int64))]) hc hr (dc_at dX10_has 10 rfl) ml_X10_172 mv_X10_within st_X10_within rfl (mt_X10_within ex) (by first | exact Nat.le_of_ble_eq_true rfl | omega) (by first | exact Nat.le_of_ble_eq_true rfl | omega) (by first | exact Nat.le_of_ble_eq_true rfl | omega) hm hs ?_
    refine r_if_ne (tgt := 27) hc (dc_at dX10_has 11 rfl) (by decide) hf (fun hf => ?_) (fun hf => ?_)
    · refine r_aload_n hc 0 (dc_at dX10_has 14 rfl) rfl ?_
      refine r_iload_n hc 2 (dc_at dX10_has 15 rfl) rfl ?_
      refine r_i2l hc (dc_at dX10_has 16 rfl) ?_
      refine r_iload_n hc 3 (dc_at dX10_has 17 rfl) rfl ?_
      refine r_i2l hc (dc_at dX10_has 18 rfl) ?_
      obtain ⟨ho, hf⟩ := cO_some hf
      refine ob2 hf fun x4 h5 ex hf => ?_
      refine r_callVi (As := [.long ((Int32.toInt64 v2)), .long ((Int32.toInt64 v3))]) (ci := 10) hc hr (dc_at dX10_has 19 rfl) ml_X10_282 mv_X10_asks vi_X10_asks rfl ho rfl (mt_X10_asks ex) (by first | exact Nat.le_of_ble_eq_true rfl | omega) (by first | exact Nat.le_of_ble_eq_true rfl | omega) (by first | exact Nat.le_of_ble_eq_true rfl | omega) hm hs ?_
      refine r_if_ne (tgt := 42) hc (dc_at dX10_has 20 rfl) (by decide) hf (fun hf => ?_) (fun hf => ?_)
      · refine r_aload_n hc 0 (dc_at dX10_has 23 rfl) rfl ?_
        refine r_iload_n hc 1 (dc_at dX10_has 24 rfl) rfl ?_
        refine r_iconst (3 : Int32) hc (dc_at dX10_has 25 rfl) (by decide) ?_
        refine r_aload_n hc 0 (dc_at dX10_has 26 rfl) rfl ?_
        refine r_getL hc (dc_at dX10_has 27 rfl) fl_X10_180 hf fun x6 hf => ?_
        refine r_aload_n hc 0 (dc_at dX10_has 28 rfl) rfl ?_
        refine r_getL hc (dc_at dX10_has 29 rfl) fl_X10_184 hf fun x7 hf => ?_
        obtain ⟨ho, hf⟩ := cO_some hf
        refine ob2 hf fun u h9 ex hf => ?_
        refine r_callVv (As := [.int v1, .int ((3 : Int32)), .long x6, .long x7]) (ci := 10) hc hr (dc_at dX10_has 30 rfl) ml_X10_324 mv_X10_laysStuff vi_X10_laysStuff rfl ho rfl (mt_X10_laysStuff ex) (by first | exact Nat.le_of_ble_eq_true rfl | omega) (by first | exact Nat.le_of_ble_eq_true rfl | omega) (by first | exact Nat.le_of_ble_eq_true rfl | omega) hm hs ?_
        refine r_iload hc 4 (dc_at dX10_has 31 rfl) rfl ?_
        refine r_if_ne (tgt := 68) hc (dc_at dX10_has 32 rfl) (by decide) hf (fun hf => ?_) (fun hf => ?_)
        · refine r_aload_n hc 0 (dc_at dX10_has 36 rfl) rfl ?_
          refine r_getL hc (dc_at dX10_has 37 rfl) fl_X10_184 hf fun x10 hf => ?_
          exact r_lret hc he (hm) (hs) (dc_at dX10_has 38 rfl) hf
        · refine r_aload_n hc 0 (dc_at dX10_has 33 rfl) rfl ?_
          refine r_getL hc (dc_at dX10_has 34 rfl) fl_X10_180 hf fun x11 hf => ?_
          refine r_goto (tgt := 72) hc (dc_at dX10_has 35 rfl) (by decide) ?_
          exact r_lret hc he (hm) (hs) (dc_at dX10_has 38 rfl) hf
      · refine r_ldc2 hc (dc_at dX10_has 21 rfl) cl2_X10_322 ?_
        exact r_lret hc he (hm) (hs) (dc_at dX10_has 22 rfl) hf
    · refine r_ldc2 hc (dc_at dX10_has 12 rfl) cl2_X10_320 ?_
      exact r_lret hc he (hm) (hs) (dc_at dX10_has 13 rfl) hf
def m_X10_has (F : Nat) (h : PH) (p0 : Nat) (p1 : Int32) (p2 : Int32) (p3 : Int32) (p4 : Int32) : Option (Int64 × PH) := b_X10_has_0 F h p0 p1 p2 p3 p4
theorem mt_X10_has {l : Launch} {X : XT} {F : Nat} {h hz : PH} {p0 : Nat} {p1 : Int32} {p2 : Int32} {p3 : Int32} {p4 : Int32} {r : Int64} (ex : m_X10_has F h p0 p1 p2 p3 p4 = some (r, hz)) : MT l X yX10_has cX10_has 5 (some .long) 134 7774 0 0 [.ref (X.1 + p0), .int p1, .int p2, .int p3, .int p4] h (some (.long r)) hz := MT.of (by decide) (Nat.le_of_ble_eq_true rfl) fun M hl hc hr he => by
  subst hl
  exact gg_sub [0, 1, 2, 3, 4] rfl (t_X10_has_0  hc hr he (Nat.zero_le _) (Nat.zero_le _) ex)
/-! FractionLiftModel.where(III)J -/
def lX10_whereL : List (Nat × Instr × Nat × Nat) := [(0, .aload_n 0, 1, 1), (1, .iconst 0, 1, 2), (2, .putfield 1, 3, 5), (5, .iload_n 1, 1, 6), (6, .invokestatic 317, 3, 9), (9, .ifCond .eq 13, 3, 12), (12, .iload_n 3, 1, 13), (13, .i2l, 1, 14), (14, .lconst 0, 1, 15), (15, .lconst 1, 1, 16), (16, .invokestatic 172, 3, 19), (19, .ifCond .ne 7, 3, 22), (22, .ldc2_w 320, 3, 25), (25, .lreturn, 1, 26), (26, .iload_n 2, 1, 27), (27, .i2l, 1, 28), (28, .lconst 0, 1, 29), (29, .ldc2_w 328, 3, 32), (32, .invokestatic 172, 3, 35), (35, .ifCond .ne 7, 3, 38), (38, .ldc2_w 322, 3, 41), (41, .lreturn, 1, 42), (42, .aload_n 0, 1, 43), (43, .iload_n 1, 1, 44), (44, .iconst 3, 1, 45), (45, .iload_n 2, 1, 46), (46, .invokevirtual 330, 3, 49), (49, .ifCond .ne 7, 3, 52), (52, .ldc2_w 334, 3, 55), (55, .lreturn, 1, 56), (56, .iload_n 3, 1, 57), (57, .ifCond .ne 10, 3, 60), (60, .aload_n 0, 1, 61), (61, .getfield 180, 3, 64), (64, .goto 7, 3, 67), (67, .aload_n 0, 1, 68), (68, .getfield 184, 3, 71), (71, .lreturn, 1, 72)]
set_option maxRecDepth 20000 in
theorem dX10_where : dcL cX10_where lX10_whereL = true := by decide +kernel
def b_X10_where_0 (F : Nat) (h : PH) (v0 : Nat) (v1 : Int32) (v2 : Int32) (v3 : Int32) : Option (Int64 × PH) := (pV 10 0 (.int (0 : Int32)) h v0).bind fun h1 => ((m_X10_isStuff v1).bind fun x2 => (if x2 = 0 then (some ((-2 : Int64), h1)) else ((m_X10_within (Int32.toInt64 v3) (0 : Int64) (1 : Int64)).bind fun x3 => (if x3 = 0 then (some ((-2 : Int64), h1)) else ((m_X10_within (Int32.toInt64 v2) (0 : Int64) (99 : Int64)).bind fun x4 => (if x4 = 0 then (some ((-3 : Int64), h1)) else (cO 10 h1 v0 (bind2 (m_X10_laysWhere F h1 v0 v1 (3 : Int32) v2) fun x5 h6 => (if x5 = 0 then (some ((-1 : Int64), h6)) else (if v3 = 0 then ((gL 10 15 h6 v0).bind fun x8 => (some (x8, h6))) else ((gL 10 16 h6 v0).bind fun x7 => (some (x7, h6)))))))))))))
set_option maxRecDepth 20000 in
theorem t_X10_where_0 {M : MV} {X : XT} {F : Nat} {h hz : PH} {r : Int64} {ce sl mc ms : Nat} {v0 : Nat} {v1 : Int32} {v2 : Int32} {v3 : Int32} (hc : Cx M X RX10 cX10_where) (hr : Rx M 134 7774 mc ms 4) (he : Ex M X (some .long) "where" (some (.long r)) hz mc ms) (hm : ce ≤ mc) (hs : sl ≤ ms) (hf : b_X10_where_0 F h v0 v1 v2 v3 = some (r, hz)) : GG M X h ce sl 0 [(0, .ref (X.1 + v0)), (1, .int v1), (2, .int v2), (3, .int v3)] [] := by
  unfold b_X10_where_0 at hf
  refine r_aload_n hc 0 (dc_at dX10_where 0 rfl) rfl ?_
  refine r_iconst (0 : Int32) hc (dc_at dX10_where 1 rfl) (by decide) ?_
  refine r_putI hc he (dc_at dX10_where 2 rfl) fp_X10_1 (fun q => by cases q) hf fun h1 hf => ?_
  refine r_iload_n hc 1 (dc_at dX10_where 3 rfl) rfl ?_
  refine ob hf fun x2 ex hf => ?_
  refine r_callSi (As := [.int v1]) hc hr (dc_at dX10_where 4 rfl) ml_X10_317 mv_X10_isStuff st_X10_isStuff rfl (mt_X10_isStuff ex) (by first | exact Nat.le_of_ble_eq_true rfl | omega) (by first | exact Nat.le_of_ble_eq_true rfl | omega) (by first | exact Nat.le_of_ble_eq_true rfl | omega) hm hs ?_
  refine r_if_eq (tgt := 22) hc (dc_at dX10_where 5 rfl) (by decide) hf (fun hf => ?_) (fun hf => ?_)
  · refine r_ldc2 hc (dc_at dX10_where 12 rfl) cl2_X10_320 ?_
    exact r_lret hc he (hm) (hs) (dc_at dX10_where 13 rfl) hf
  · refine r_iload_n hc 3 (dc_at dX10_where 6 rfl) rfl ?_
    refine r_i2l hc (dc_at dX10_where 7 rfl) ?_
    refine r_lconst (0 : Int64) hc (dc_at dX10_where 8 rfl) (by decide) ?_
    refine r_lconst (1 : Int64) hc (dc_at dX10_where 9 rfl) (by decide) ?_
    refine ob hf fun x3 ex hf => ?_
    refine r_callSi (As := [.long ((Int32.toInt64 v3)), .long ((0 : Int64)), .long ((1 : Int64))]) hc hr (dc_at dX10_where 10 rfl) ml_X10_172 mv_X10_within st_X10_within rfl (mt_X10_within ex) (by first | exact Nat.le_of_ble_eq_true rfl | omega) (by first | exact Nat.le_of_ble_eq_true rfl | omega) (by first | exact Nat.le_of_ble_eq_true rfl | omega) hm hs ?_
    refine r_if_ne (tgt := 26) hc (dc_at dX10_where 11 rfl) (by decide) hf (fun hf => ?_) (fun hf => ?_)
    · refine r_iload_n hc 2 (dc_at dX10_where 14 rfl) rfl ?_
      refine r_i2l hc (dc_at dX10_where 15 rfl) ?_
      refine r_lconst (0 : Int64) hc (dc_at dX10_where 16 rfl) (by decide) ?_
      refine r_ldc2 hc (dc_at dX10_where 17 rfl) cl2_X10_328 ?_
      refine ob hf fun x4 ex hf => ?_
      refine r_callSi (As := [.long ((Int32.toInt64 v2)), .long ((0 : Int64)), .long ((99 : Int64))]) hc hr (dc_at dX10_where 18 rfl) ml_X10_172 mv_X10_within st_X10_within rfl (mt_X10_within ex) (by first | exact Nat.le_of_ble_eq_true rfl | omega) (by first | exact Nat.le_of_ble_eq_true rfl | omega) (by first | exact Nat.le_of_ble_eq_true rfl | omega) hm hs ?_
      refine r_if_ne (tgt := 42) hc (dc_at dX10_where 19 rfl) (by decide) hf (fun hf => ?_) (fun hf => ?_)
      · refine r_aload_n hc 0 (dc_at dX10_where 22 rfl) rfl ?_
        refine r_iload_n hc 1 (dc_at dX10_where 23 rfl) rfl ?_
        refine r_iconst (3 : Int32) hc (dc_at dX10_where 24 rfl) (by decide) ?_
        refine r_iload_n hc 2 (dc_at dX10_where 25 rfl) rfl ?_
        obtain ⟨ho, hf⟩ := cO_some hf
        refine ob2 hf fun x5 h6 ex hf => ?_
        refine r_callVi (As := [.int v1, .int ((3 : Int32)), .int v2]) (ci := 10) hc hr (dc_at dX10_where 26 rfl) ml_X10_330 mv_X10_laysWhere vi_X10_laysWhere rfl ho rfl (mt_X10_laysWhere ex) (by first | exact Nat.le_of_ble_eq_true rfl | omega) (by first | exact Nat.le_of_ble_eq_true rfl | omega) (by first | exact Nat.le_of_ble_eq_true rfl | omega) hm hs ?_
        refine r_if_ne (tgt := 56) hc (dc_at dX10_where 27 rfl) (by decide) hf (fun hf => ?_) (fun hf => ?_)
        · refine r_iload_n hc 3 (dc_at dX10_where 30 rfl) rfl ?_
          refine r_if_ne (tgt := 67) hc (dc_at dX10_where 31 rfl) (by decide) hf (fun hf => ?_) (fun hf => ?_)
          · refine r_aload_n hc 0 (dc_at dX10_where 35 rfl) rfl ?_
            refine r_getL hc (dc_at dX10_where 36 rfl) fl_X10_184 hf fun x7 hf => ?_
            exact r_lret hc he (hm) (hs) (dc_at dX10_where 37 rfl) hf
          · refine r_aload_n hc 0 (dc_at dX10_where 32 rfl) rfl ?_
            refine r_getL hc (dc_at dX10_where 33 rfl) fl_X10_180 hf fun x8 hf => ?_
            refine r_goto (tgt := 71) hc (dc_at dX10_where 34 rfl) (by decide) ?_
            exact r_lret hc he (hm) (hs) (dc_at dX10_where 37 rfl) hf
        · refine r_ldc2 hc (dc_at dX10_where 28 rfl) cl2_X10_334 ?_
          exact r_lret hc he (hm) (hs) (dc_at dX10_where 29 rfl) hf
      · refine r_ldc2 hc (dc_at dX10_where 20 rfl) cl2_X10_322 ?_
        exact r_lret hc he (hm) (hs) (dc_at dX10_where 21 rfl) hf
    · refine r_ldc2 hc (dc_at dX10_where 12 rfl) cl2_X10_320 ?_
      exact r_lret hc he (hm) (hs) (dc_at dX10_where 13 rfl) hf
def m_X10_where (F : Nat) (h : PH) (p0 : Nat) (p1 : Int32) (p2 : Int32) (p3 : Int32) : Option (Int64 × PH) := b_X10_where_0 F h p0 p1 p2 p3
theorem mt_X10_where {l : Launch} {X : XT} {F : Nat} {h hz : PH} {p0 : Nat} {p1 : Int32} {p2 : Int32} {p3 : Int32} {r : Int64} (ex : m_X10_where F h p0 p1 p2 p3 = some (r, hz)) : MT l X yX10_where cX10_where 4 (some .long) 134 7774 0 0 [.ref (X.1 + p0), .int p1, .int p2, .int p3] h (some (.long r)) hz := MT.of (by decide) (Nat.le_of_ble_eq_true rfl) fun M hl hc hr he => by
  subst hl
  exact gg_sub [0, 1, 2, 3] rfl (t_X10_where_0  hc hr he (Nat.zero_le _) (Nat.zero_le _) ex)
/-! FractionLiftModel.alike(III)J -/
def lX10_alikeL : List (Nat × Instr × Nat × Nat) := [(0, .aload_n 0, 1, 1), (1, .iconst 0, 1, 2), (2, .putfield 1, 3, 5), (5, .iload_n 1, 1, 6), (6, .invokestatic 317, 3, 9), (9, .ifCond .eq 25, 3, 12), (12, .iload_n 2, 1, 13), (13, .invokestatic 317, 3, 16), (16, .ifCond .eq 18, 3, 19), (19, .iload_n 1, 1, 20), (20, .iload_n 2, 1, 21), (21, .if_icmp .eq 13, 3, 24), (24, .iload_n 3, 1, 25), (25, .i2l, 1, 26), (26, .lconst 0, 1, 27), (27, .lconst 1, 1, 28), (28, .invokestatic 172, 3, 31), (31, .ifCond .ne 7, 3, 34), (34, .ldc2_w 320, 3, 37), (37, .lreturn, 1, 38), (38, .aload_n 0, 1, 39), (39, .iload_n 1, 1, 40), (40, .iload_n 2, 1, 41), (41, .iconst 0, 1, 42), (42, .invokevirtual 330, 3, 45), (45, .ifCond .ne 7, 3, 48), (48, .ldc2_w 334, 3, 51), (51, .lreturn, 1, 52), (52, .iload_n 3, 1, 53), (53, .ifCond .ne 10, 3, 56), (56, .aload_n 0, 1, 57), (57, .getfield 180, 3, 60), (60, .goto 7, 3, 63), (63, .aload_n 0, 1, 64), (64, .getfield 184, 3, 67), (67, .lreturn, 1, 68)]
set_option maxRecDepth 20000 in
theorem dX10_alike : dcL cX10_alike lX10_alikeL = true := by decide +kernel
def b_X10_alike_0 (F : Nat) (h : PH) (v0 : Nat) (v1 : Int32) (v2 : Int32) (v3 : Int32) : Option (Int64 × PH) := (pV 10 0 (.int (0 : Int32)) h v0).bind fun h1 => ((m_X10_isStuff v1).bind fun x2 => (if x2 = 0 then (some ((-2 : Int64), h1)) else ((m_X10_isStuff v2).bind fun x3 => (if x3 = 0 then (some ((-2 : Int64), h1)) else (if v1 = v2 then (some ((-2 : Int64), h1)) else ((m_X10_within (Int32.toInt64 v3) (0 : Int64) (1 : Int64)).bind fun x4 => (if x4 = 0 then (some ((-2 : Int64), h1)) else (cO 10 h1 v0 (bind2 (m_X10_laysWhere F h1 v0 v1 v2 (0 : Int32)) fun x5 h6 => (if x5 = 0 then (some ((-1 : Int64), h6)) else (if v3 = 0 then ((gL 10 15 h6 v0).bind fun x8 => (some (x8, h6))) else ((gL 10 16 h6 v0).bind fun x7 => (some (x7, h6))))))))))))))
set_option maxRecDepth 20000 in
theorem t_X10_alike_0 {M : MV} {X : XT} {F : Nat} {h hz : PH} {r : Int64} {ce sl mc ms : Nat} {v0 : Nat} {v1 : Int32} {v2 : Int32} {v3 : Int32} (hc : Cx M X RX10 cX10_alike) (hr : Rx M 134 7774 mc ms 4) (he : Ex M X (some .long) "alike" (some (.long r)) hz mc ms) (hm : ce ≤ mc) (hs : sl ≤ ms) (hf : b_X10_alike_0 F h v0 v1 v2 v3 = some (r, hz)) : GG M X h ce sl 0 [(0, .ref (X.1 + v0)), (1, .int v1), (2, .int v2), (3, .int v3)] [] := by
  unfold b_X10_alike_0 at hf
  refine r_aload_n hc 0 (dc_at dX10_alike 0 rfl) rfl ?_
  refine r_iconst (0 : Int32) hc (dc_at dX10_alike 1 rfl) (by decide) ?_
  refine r_putI hc he (dc_at dX10_alike 2 rfl) fp_X10_1 (fun q => by cases q) hf fun h1 hf => ?_
  refine r_iload_n hc 1 (dc_at dX10_alike 3 rfl) rfl ?_
  refine ob hf fun x2 ex hf => ?_
  refine r_callSi (As := [.int v1]) hc hr (dc_at dX10_alike 4 rfl) ml_X10_317 mv_X10_isStuff st_X10_isStuff rfl (mt_X10_isStuff ex) (by first | exact Nat.le_of_ble_eq_true rfl | omega) (by first | exact Nat.le_of_ble_eq_true rfl | omega) (by first | exact Nat.le_of_ble_eq_true rfl | omega) hm hs ?_
  refine r_if_eq (tgt := 34) hc (dc_at dX10_alike 5 rfl) (by decide) hf (fun hf => ?_) (fun hf => ?_)
  · refine r_ldc2 hc (dc_at dX10_alike 18 rfl) cl2_X10_320 ?_
    exact r_lret hc he (hm) (hs) (dc_at dX10_alike 19 rfl) hf
  · refine r_iload_n hc 2 (dc_at dX10_alike 6 rfl) rfl ?_
    refine ob hf fun x3 ex hf => ?_
    refine r_callSi (As := [.int v2]) hc hr (dc_at dX10_alike 7 rfl) ml_X10_317 mv_X10_isStuff st_X10_isStuff rfl (mt_X10_isStuff ex) (by first | exact Nat.le_of_ble_eq_true rfl | omega) (by first | exact Nat.le_of_ble_eq_true rfl | omega) (by first | exact Nat.le_of_ble_eq_true rfl | omega) hm hs ?_
    refine r_if_eq (tgt := 34) hc (dc_at dX10_alike 8 rfl) (by decide) hf (fun hf => ?_) (fun hf => ?_)
    · refine r_ldc2 hc (dc_at dX10_alike 18 rfl) cl2_X10_320 ?_
      exact r_lret hc he (hm) (hs) (dc_at dX10_alike 19 rfl) hf
    · refine r_iload_n hc 1 (dc_at dX10_alike 9 rfl) rfl ?_
      refine r_iload_n hc 2 (dc_at dX10_alike 10 rfl) rfl ?_
      refine r_icmp_eq (tgt := 34) hc (dc_at dX10_alike 11 rfl) (by decide) hf (fun hf => ?_) (fun hf => ?_)
      · refine r_ldc2 hc (dc_at dX10_alike 18 rfl) cl2_X10_320 ?_
        exact r_lret hc he (hm) (hs) (dc_at dX10_alike 19 rfl) hf
      · refine r_iload_n hc 3 (dc_at dX10_alike 12 rfl) rfl ?_
        refine r_i2l hc (dc_at dX10_alike 13 rfl) ?_
        refine r_lconst (0 : Int64) hc (dc_at dX10_alike 14 rfl) (by decide) ?_
        refine r_lconst (1 : Int64) hc (dc_at dX10_alike 15 rfl) (by decide) ?_
        refine ob hf fun x4 ex hf => ?_
        refine r_callSi (As := [.long ((Int32.toInt64 v3)), .long ((0 : Int64)), .long ((1 : Int64))]) hc hr (dc_at dX10_alike 16 rfl) ml_X10_172 mv_X10_within st_X10_within rfl (mt_X10_within ex) (by first | exact Nat.le_of_ble_eq_true rfl | omega) (by first | exact Nat.le_of_ble_eq_true rfl | omega) (by first | exact Nat.le_of_ble_eq_true rfl | omega) hm hs ?_
        refine r_if_ne (tgt := 38) hc (dc_at dX10_alike 17 rfl) (by decide) hf (fun hf => ?_) (fun hf => ?_)
        · refine r_aload_n hc 0 (dc_at dX10_alike 20 rfl) rfl ?_
          refine r_iload_n hc 1 (dc_at dX10_alike 21 rfl) rfl ?_
          refine r_iload_n hc 2 (dc_at dX10_alike 22 rfl) rfl ?_
          refine r_iconst (0 : Int32) hc (dc_at dX10_alike 23 rfl) (by decide) ?_
          obtain ⟨ho, hf⟩ := cO_some hf
          refine ob2 hf fun x5 h6 ex hf => ?_
          refine r_callVi (As := [.int v1, .int v2, .int ((0 : Int32))]) (ci := 10) hc hr (dc_at dX10_alike 24 rfl) ml_X10_330 mv_X10_laysWhere vi_X10_laysWhere rfl ho rfl (mt_X10_laysWhere ex) (by first | exact Nat.le_of_ble_eq_true rfl | omega) (by first | exact Nat.le_of_ble_eq_true rfl | omega) (by first | exact Nat.le_of_ble_eq_true rfl | omega) hm hs ?_
          refine r_if_ne (tgt := 52) hc (dc_at dX10_alike 25 rfl) (by decide) hf (fun hf => ?_) (fun hf => ?_)
          · refine r_iload_n hc 3 (dc_at dX10_alike 28 rfl) rfl ?_
            refine r_if_ne (tgt := 63) hc (dc_at dX10_alike 29 rfl) (by decide) hf (fun hf => ?_) (fun hf => ?_)
            · refine r_aload_n hc 0 (dc_at dX10_alike 33 rfl) rfl ?_
              refine r_getL hc (dc_at dX10_alike 34 rfl) fl_X10_184 hf fun x7 hf => ?_
              exact r_lret hc he (hm) (hs) (dc_at dX10_alike 35 rfl) hf
            · refine r_aload_n hc 0 (dc_at dX10_alike 30 rfl) rfl ?_
              refine r_getL hc (dc_at dX10_alike 31 rfl) fl_X10_180 hf fun x8 hf => ?_
              refine r_goto (tgt := 67) hc (dc_at dX10_alike 32 rfl) (by decide) ?_
              exact r_lret hc he (hm) (hs) (dc_at dX10_alike 35 rfl) hf
          · refine r_ldc2 hc (dc_at dX10_alike 26 rfl) cl2_X10_334 ?_
            exact r_lret hc he (hm) (hs) (dc_at dX10_alike 27 rfl) hf
        · refine r_ldc2 hc (dc_at dX10_alike 18 rfl) cl2_X10_320 ?_
          exact r_lret hc he (hm) (hs) (dc_at dX10_alike 19 rfl) hf
def m_X10_alike (F : Nat) (h : PH) (p0 : Nat) (p1 : Int32) (p2 : Int32) (p3 : Int32) : Option (Int64 × PH) := b_X10_alike_0 F h p0 p1 p2 p3
theorem mt_X10_alike {l : Launch} {X : XT} {F : Nat} {h hz : PH} {p0 : Nat} {p1 : Int32} {p2 : Int32} {p3 : Int32} {r : Int64} (ex : m_X10_alike F h p0 p1 p2 p3 = some (r, hz)) : MT l X yX10_alike cX10_alike 4 (some .long) 134 7774 0 0 [.ref (X.1 + p0), .int p1, .int p2, .int p3] h (some (.long r)) hz := MT.of (by decide) (Nat.le_of_ble_eq_true rfl) fun M hl hc hr he => by
  subst hl
  exact gg_sub [0, 1, 2, 3] rfl (t_X10_alike_0  hc hr he (Nat.zero_le _) (Nat.zero_le _) ex)
