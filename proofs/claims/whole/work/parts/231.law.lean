def lL_law_18L : List (Nat × Instr × Nat × Nat) := [(18, .iload_n 3, 1, 19), (19, .aload_n 0, 1, 20), (20, .arraylength, 1, 21), (21, .bipush 6, 2, 23), (23, .isub, 1, 24), (24, .if_icmp .gt 1888, 3, 27), (1912, .iconst 1, 1, 1913), (1913, .ireturn, 1, 1914), (27, .aload_n 0, 1, 28), (28, .iload_n 3, 1, 29), (29, .iaload, 1, 30), (30, .bipush 63, 2, 32), (32, .iand, 1, 33), (33, .tableswitch 1873 0 46 #[203, 266, 289, 312, 335, 368, 401, 424, 477, 500, 523, 556, 579, 612, 666, 710, 754, 777, 810, 853, 876, 909, 932, 975, 1008, 1031, 1100, 1143, 1222, 1285, 1308, 1351, 1394, 1428, 1441, 1484, 1518, 1531, 1564, 1597, 1641, 1664, 1707, 1781, 1804, 1827, 1850], 203, 236)]
set_option maxRecDepth 20000 in
theorem dL_law_18 : dcL cL_law lL_law_18L = true := by decide +kernel
def b_law_18 (F : Nat) (xs : Nat → Int32) (Ls : Nat) (self : Nat × Nat → PH → Nat → Nat → Int32 → Option Int32) (cs : Nat × Nat) (h : PH) (v1 : Nat) (v2 : Nat) (v3 : Int32) : Option Int32 := if (((Int32.ofNat Ls) - (6 : Int32))) < v3 then (some (1 : Int32)) else ((scr xs Ls v3).bind fun x1 => (swN ((x1 &&& (63 : Int32))) (0) [b_law_236 F xs Ls self cs h v1 v2 v3, b_law_299 F xs Ls self cs h v1 v2 v3, b_law_322 F xs Ls self cs h v1 v2 v3, b_law_345 F xs Ls self cs h v1 v2 v3, b_law_368 F xs Ls self cs h v1 v2 v3, b_law_401 F xs Ls self cs h v1 v2 v3, b_law_434 F xs Ls self cs h v1 v2 v3, b_law_457 F xs Ls self cs h v1 v2 v3, b_law_510 F xs Ls self cs h v1 v2 v3, b_law_533 F xs Ls self cs h v1 v2 v3, b_law_556 F xs Ls self cs h v1 v2 v3, b_law_589 F xs Ls self cs h v1 v2 v3, b_law_612 F xs Ls self cs h v1 v2 v3, b_law_645 F xs Ls self cs h v1 v2 v3, b_law_699 F xs Ls self cs h v1 v2 v3, b_law_743 F xs Ls self cs h v1 v2 v3, b_law_787 F xs Ls self cs h v1 v2 v3, b_law_810 F xs Ls self cs h v1 v2 v3, b_law_843 F xs Ls self cs h v1 v2 v3, b_law_886 F xs Ls self cs h v1 v2 v3, b_law_909 F xs Ls self cs h v1 v2 v3, b_law_942 F xs Ls self cs h v1 v2 v3, b_law_965 F xs Ls self cs h v1 v2 v3, b_law_1008 F xs Ls self cs h v1 v2 v3, b_law_1041 F xs Ls self cs h v1 v2 v3, b_law_1064 F xs Ls self cs h v1 v2 v3, b_law_1133 F xs Ls self cs h v1 v2 v3, b_law_1176 F xs Ls self cs h v1 v2 v3, b_law_1255 F xs Ls self cs h v1 v2 v3, b_law_1318 F xs Ls self cs h v1 v2 v3, b_law_1341 F xs Ls self cs h v1 v2 v3, b_law_1384 F xs Ls self cs h v1 v2 v3, b_law_1427 F xs Ls self cs h v1 v2 v3, b_law_1461 F xs Ls self cs h v1 v2 v3, b_law_1474 F xs Ls self cs h v1 v2 v3, b_law_1517 F xs Ls self cs h v1 v2 v3, b_law_1551 F xs Ls self cs h v1 v2 v3, b_law_1564 F xs Ls self cs h v1 v2 v3, b_law_1597 F xs Ls self cs h v1 v2 v3, b_law_1630 F xs Ls self cs h v1 v2 v3, b_law_1674 F xs Ls self cs h v1 v2 v3, b_law_1697 F xs Ls self cs h v1 v2 v3, b_law_1740 F xs Ls self cs h v1 v2 v3, b_law_1814 F xs Ls self cs h v1 v2 v3, b_law_1837 F xs Ls self cs h v1 v2 v3, b_law_1860 F xs Ls self cs h v1 v2 v3, b_law_1883 F xs Ls self cs h v1 v2 v3] (b_law_1906 F xs Ls self cs h v1 v2 v3)))
set_option maxRecDepth 20000 in
theorem t_law_18 {M : MV} {X : XT} {F : Nat} {xs : Nat → Int32} {Ls b : Nat} {self : Nat × Nat → PH → Nat → Nat → Int32 → Option Int32} {cs : Nat × Nat} {h : PH} {v1 : Nat} {v2 : Nat} {v3 : Int32} (hc : Cx M X R_law code) (hr : Rx M 2048 84000 600000 7302250 4) (hL : Lx M X xs Ls b) (hm : cs.1 ≤ 600000) (hs : cs.2 ≤ 7302250) (ih : ∀ (cs : Nat × Nat) (h : PH) (v1 : Nat) (v2 : Nat) (v3 : Int32), cs.1 ≤ 600000 → cs.2 ≤ 7302250 → self cs h v1 v2 v3 = some 1 → GG M X h cs.1 cs.2 18 [(0, .ref b), (1, .ref (X.1 + v1)), (2, .ref (X.1 + v2)), (3, .int v3)] []) (hf : b_law_18 F xs Ls self cs h v1 v2 v3 = some 1) : GG M X h cs.1 cs.2 18 [(0, .ref b), (1, .ref (X.1 + v1)), (2, .ref (X.1 + v2)), (3, .int v3)] [] := by
  unfold b_law_18 at hf
  refine r_iload_n hc 3 (dc_at dL_law_18 0 rfl) rfl ?_
  refine r_aload_n hc 0 (dc_at dL_law_18 1 rfl) rfl ?_
  refine r_slen hL hc (dc_at dL_law_18 2 rfl) ?_
  refine r_bipush (6 : Int32) hc (dc_at dL_law_18 3 rfl) (by decide) ?_
  refine r_isub hc (dc_at dL_law_18 4 rfl) ?_
  refine r_icmp_gt (tgt := 1912) hc (dc_at dL_law_18 5 rfl) (by decide) hf (fun hf => ?_) (fun hf => ?_)
  · refine r_iconst (1 : Int32) hc (dc_at dL_law_18 6 rfl) (by decide) ?_
    exact r_lawret hL hc hm hs (dc_at dL_law_18 7 rfl)
  · refine r_aload_n hc 0 (dc_at dL_law_18 8 rfl) rfl ?_
    refine r_iload_n hc 3 (dc_at dL_law_18 9 rfl) rfl ?_
    refine r_sload hL hc (dc_at dL_law_18 10 rfl) hf fun x1 hf => ?_
    refine r_bipush (63 : Int32) hc (dc_at dL_law_18 11 rfl) (by decide) ?_
    refine r_iand hc (dc_at dL_law_18 12 rfl) ?_
    rcases sw_cases hf with ⟨i, hi, hx, hf⟩ | ⟨hx, hf⟩
    · rcases (show i = 0 ∨ i = 1 ∨ i = 2 ∨ i = 3 ∨ i = 4 ∨ i = 5 ∨ i = 6 ∨ i = 7 ∨ i = 8 ∨ i = 9 ∨ i = 10 ∨ i = 11 ∨ i = 12 ∨ i = 13 ∨ i = 14 ∨ i = 15 ∨ i = 16 ∨ i = 17 ∨ i = 18 ∨ i = 19 ∨ i = 20 ∨ i = 21 ∨ i = 22 ∨ i = 23 ∨ i = 24 ∨ i = 25 ∨ i = 26 ∨ i = 27 ∨ i = 28 ∨ i = 29 ∨ i = 30 ∨ i = 31 ∨ i = 32 ∨ i = 33 ∨ i = 34 ∨ i = 35 ∨ i = 36 ∨ i = 37 ∨ i = 38 ∨ i = 39 ∨ i = 40 ∨ i = 41 ∨ i = 42 ∨ i = 43 ∨ i = 44 ∨ i = 45 ∨ i = 46 by simp only [List.length_cons, List.length_nil] at hi; omega) with rfl | rfl | rfl | rfl | rfl | rfl | rfl | rfl | rfl | rfl | rfl | rfl | rfl | rfl | rfl | rfl | rfl | rfl | rfl | rfl | rfl | rfl | rfl | rfl | rfl | rfl | rfl | rfl | rfl | rfl | rfl | rfl | rfl | rfl | rfl | rfl | rfl | rfl | rfl | rfl | rfl | rfl | rfl | rfl | rfl | rfl | rfl
      · have hf := gd_at hf rfl
        refine r_tableIn (tgt := 236) 0 hc (dc_at dL_law_18 13 rfl) hx rfl (by decide) (by decide) ?_
        exact gg_sub [0, 1, 2, 3] rfl (t_law_236 hc hr hL hm hs ih hf)
      · have hf := gd_at hf rfl
        refine r_tableIn (tgt := 299) 1 hc (dc_at dL_law_18 13 rfl) hx rfl (by decide) (by decide) ?_
        exact gg_sub [0, 1, 2, 3] rfl (t_law_299 hc hr hL hm hs ih hf)
      · have hf := gd_at hf rfl
        refine r_tableIn (tgt := 322) 2 hc (dc_at dL_law_18 13 rfl) hx rfl (by decide) (by decide) ?_
        exact gg_sub [0, 1, 2, 3] rfl (t_law_322 hc hr hL hm hs ih hf)
      · have hf := gd_at hf rfl
        refine r_tableIn (tgt := 345) 3 hc (dc_at dL_law_18 13 rfl) hx rfl (by decide) (by decide) ?_
        exact gg_sub [0, 1, 2, 3] rfl (t_law_345 hc hr hL hm hs ih hf)
      · have hf := gd_at hf rfl
        refine r_tableIn (tgt := 368) 4 hc (dc_at dL_law_18 13 rfl) hx rfl (by decide) (by decide) ?_
        exact gg_sub [0, 1, 2, 3] rfl (t_law_368 hc hr hL hm hs ih hf)
      · have hf := gd_at hf rfl
        refine r_tableIn (tgt := 401) 5 hc (dc_at dL_law_18 13 rfl) hx rfl (by decide) (by decide) ?_
        exact gg_sub [0, 1, 2, 3] rfl (t_law_401 hc hr hL hm hs ih hf)
      · have hf := gd_at hf rfl
        refine r_tableIn (tgt := 434) 6 hc (dc_at dL_law_18 13 rfl) hx rfl (by decide) (by decide) ?_
        exact gg_sub [0, 1, 2, 3] rfl (t_law_434 hc hr hL hm hs ih hf)
      · have hf := gd_at hf rfl
        refine r_tableIn (tgt := 457) 7 hc (dc_at dL_law_18 13 rfl) hx rfl (by decide) (by decide) ?_
        exact gg_sub [0, 1, 2, 3] rfl (t_law_457 hc hr hL hm hs ih hf)
      · have hf := gd_at hf rfl
        refine r_tableIn (tgt := 510) 8 hc (dc_at dL_law_18 13 rfl) hx rfl (by decide) (by decide) ?_
        exact gg_sub [0, 1, 2, 3] rfl (t_law_510 hc hr hL hm hs ih hf)
      · have hf := gd_at hf rfl
        refine r_tableIn (tgt := 533) 9 hc (dc_at dL_law_18 13 rfl) hx rfl (by decide) (by decide) ?_
        exact gg_sub [0, 1, 2, 3] rfl (t_law_533 hc hr hL hm hs ih hf)
      · have hf := gd_at hf rfl
        refine r_tableIn (tgt := 556) 10 hc (dc_at dL_law_18 13 rfl) hx rfl (by decide) (by decide) ?_
        exact gg_sub [0, 1, 2, 3] rfl (t_law_556 hc hr hL hm hs ih hf)
      · have hf := gd_at hf rfl
        refine r_tableIn (tgt := 589) 11 hc (dc_at dL_law_18 13 rfl) hx rfl (by decide) (by decide) ?_
        exact gg_sub [0, 1, 2, 3] rfl (t_law_589 hc hr hL hm hs ih hf)
      · have hf := gd_at hf rfl
        refine r_tableIn (tgt := 612) 12 hc (dc_at dL_law_18 13 rfl) hx rfl (by decide) (by decide) ?_
        exact gg_sub [0, 1, 2, 3] rfl (t_law_612 hc hr hL hm hs ih hf)
      · have hf := gd_at hf rfl
        refine r_tableIn (tgt := 645) 13 hc (dc_at dL_law_18 13 rfl) hx rfl (by decide) (by decide) ?_
        exact gg_sub [0, 1, 2, 3] rfl (t_law_645 hc hr hL hm hs ih hf)
      · have hf := gd_at hf rfl
        refine r_tableIn (tgt := 699) 14 hc (dc_at dL_law_18 13 rfl) hx rfl (by decide) (by decide) ?_
        exact gg_sub [0, 1, 2, 3] rfl (t_law_699 hc hr hL hm hs ih hf)
      · have hf := gd_at hf rfl
        refine r_tableIn (tgt := 743) 15 hc (dc_at dL_law_18 13 rfl) hx rfl (by decide) (by decide) ?_
        exact gg_sub [0, 1, 2, 3] rfl (t_law_743 hc hr hL hm hs ih hf)
      · have hf := gd_at hf rfl
        refine r_tableIn (tgt := 787) 16 hc (dc_at dL_law_18 13 rfl) hx rfl (by decide) (by decide) ?_
        exact gg_sub [0, 1, 2, 3] rfl (t_law_787 hc hr hL hm hs ih hf)
      · have hf := gd_at hf rfl
        refine r_tableIn (tgt := 810) 17 hc (dc_at dL_law_18 13 rfl) hx rfl (by decide) (by decide) ?_
        exact gg_sub [0, 1, 2, 3] rfl (t_law_810 hc hr hL hm hs ih hf)
      · have hf := gd_at hf rfl
        refine r_tableIn (tgt := 843) 18 hc (dc_at dL_law_18 13 rfl) hx rfl (by decide) (by decide) ?_
        exact gg_sub [0, 1, 2, 3] rfl (t_law_843 hc hr hL hm hs ih hf)
      · have hf := gd_at hf rfl
        refine r_tableIn (tgt := 886) 19 hc (dc_at dL_law_18 13 rfl) hx rfl (by decide) (by decide) ?_
        exact gg_sub [0, 1, 2, 3] rfl (t_law_886 hc hr hL hm hs ih hf)
      · have hf := gd_at hf rfl
        refine r_tableIn (tgt := 909) 20 hc (dc_at dL_law_18 13 rfl) hx rfl (by decide) (by decide) ?_
        exact gg_sub [0, 1, 2, 3] rfl (t_law_909 hc hr hL hm hs ih hf)
      · have hf := gd_at hf rfl
        refine r_tableIn (tgt := 942) 21 hc (dc_at dL_law_18 13 rfl) hx rfl (by decide) (by decide) ?_
        exact gg_sub [0, 1, 2, 3] rfl (t_law_942 hc hr hL hm hs ih hf)
      · have hf := gd_at hf rfl
        refine r_tableIn (tgt := 965) 22 hc (dc_at dL_law_18 13 rfl) hx rfl (by decide) (by decide) ?_
        exact gg_sub [0, 1, 2, 3] rfl (t_law_965 hc hr hL hm hs ih hf)
      · have hf := gd_at hf rfl
        refine r_tableIn (tgt := 1008) 23 hc (dc_at dL_law_18 13 rfl) hx rfl (by decide) (by decide) ?_
        exact gg_sub [0, 1, 2, 3] rfl (t_law_1008 hc hr hL hm hs ih hf)
      · have hf := gd_at hf rfl
        refine r_tableIn (tgt := 1041) 24 hc (dc_at dL_law_18 13 rfl) hx rfl (by decide) (by decide) ?_
        exact gg_sub [0, 1, 2, 3] rfl (t_law_1041 hc hr hL hm hs ih hf)
      · have hf := gd_at hf rfl
        refine r_tableIn (tgt := 1064) 25 hc (dc_at dL_law_18 13 rfl) hx rfl (by decide) (by decide) ?_
        exact gg_sub [0, 1, 2, 3] rfl (t_law_1064 hc hr hL hm hs ih hf)
      · have hf := gd_at hf rfl
        refine r_tableIn (tgt := 1133) 26 hc (dc_at dL_law_18 13 rfl) hx rfl (by decide) (by decide) ?_
        exact gg_sub [0, 1, 2, 3] rfl (t_law_1133 hc hr hL hm hs ih hf)
      · have hf := gd_at hf rfl
        refine r_tableIn (tgt := 1176) 27 hc (dc_at dL_law_18 13 rfl) hx rfl (by decide) (by decide) ?_
        exact gg_sub [0, 1, 2, 3] rfl (t_law_1176 hc hr hL hm hs ih hf)
      · have hf := gd_at hf rfl
        refine r_tableIn (tgt := 1255) 28 hc (dc_at dL_law_18 13 rfl) hx rfl (by decide) (by decide) ?_
        exact gg_sub [0, 1, 2, 3] rfl (t_law_1255 hc hr hL hm hs ih hf)
      · have hf := gd_at hf rfl
        refine r_tableIn (tgt := 1318) 29 hc (dc_at dL_law_18 13 rfl) hx rfl (by decide) (by decide) ?_
        exact gg_sub [0, 1, 2, 3] rfl (t_law_1318 hc hr hL hm hs ih hf)
      · have hf := gd_at hf rfl
        refine r_tableIn (tgt := 1341) 30 hc (dc_at dL_law_18 13 rfl) hx rfl (by decide) (by decide) ?_
        exact gg_sub [0, 1, 2, 3] rfl (t_law_1341 hc hr hL hm hs ih hf)
      · have hf := gd_at hf rfl
        refine r_tableIn (tgt := 1384) 31 hc (dc_at dL_law_18 13 rfl) hx rfl (by decide) (by decide) ?_
        exact gg_sub [0, 1, 2, 3] rfl (t_law_1384 hc hr hL hm hs ih hf)
      · have hf := gd_at hf rfl
        refine r_tableIn (tgt := 1427) 32 hc (dc_at dL_law_18 13 rfl) hx rfl (by decide) (by decide) ?_
        exact gg_sub [0, 1, 2, 3] rfl (t_law_1427 hc hr hL hm hs ih hf)
      · have hf := gd_at hf rfl
        refine r_tableIn (tgt := 1461) 33 hc (dc_at dL_law_18 13 rfl) hx rfl (by decide) (by decide) ?_
        exact gg_sub [0, 1, 2, 3] rfl (t_law_1461 hc hr hL hm hs ih hf)
      · have hf := gd_at hf rfl
        refine r_tableIn (tgt := 1474) 34 hc (dc_at dL_law_18 13 rfl) hx rfl (by decide) (by decide) ?_
        exact gg_sub [0, 1, 2, 3] rfl (t_law_1474 hc hr hL hm hs ih hf)
      · have hf := gd_at hf rfl
        refine r_tableIn (tgt := 1517) 35 hc (dc_at dL_law_18 13 rfl) hx rfl (by decide) (by decide) ?_
        exact gg_sub [0, 1, 2, 3] rfl (t_law_1517 hc hr hL hm hs ih hf)
      · have hf := gd_at hf rfl
        refine r_tableIn (tgt := 1551) 36 hc (dc_at dL_law_18 13 rfl) hx rfl (by decide) (by decide) ?_
        exact gg_sub [0, 1, 2, 3] rfl (t_law_1551 hc hr hL hm hs ih hf)
      · have hf := gd_at hf rfl
        refine r_tableIn (tgt := 1564) 37 hc (dc_at dL_law_18 13 rfl) hx rfl (by decide) (by decide) ?_
        exact gg_sub [0, 1, 2, 3] rfl (t_law_1564 hc hr hL hm hs ih hf)
      · have hf := gd_at hf rfl
        refine r_tableIn (tgt := 1597) 38 hc (dc_at dL_law_18 13 rfl) hx rfl (by decide) (by decide) ?_
        exact gg_sub [0, 1, 2, 3] rfl (t_law_1597 hc hr hL hm hs ih hf)
      · have hf := gd_at hf rfl
        refine r_tableIn (tgt := 1630) 39 hc (dc_at dL_law_18 13 rfl) hx rfl (by decide) (by decide) ?_
        exact gg_sub [0, 1, 2, 3] rfl (t_law_1630 hc hr hL hm hs ih hf)
      · have hf := gd_at hf rfl
        refine r_tableIn (tgt := 1674) 40 hc (dc_at dL_law_18 13 rfl) hx rfl (by decide) (by decide) ?_
        exact gg_sub [0, 1, 2, 3] rfl (t_law_1674 hc hr hL hm hs ih hf)
      · have hf := gd_at hf rfl
        refine r_tableIn (tgt := 1697) 41 hc (dc_at dL_law_18 13 rfl) hx rfl (by decide) (by decide) ?_
        exact gg_sub [0, 1, 2, 3] rfl (t_law_1697 hc hr hL hm hs ih hf)
      · have hf := gd_at hf rfl
        refine r_tableIn (tgt := 1740) 42 hc (dc_at dL_law_18 13 rfl) hx rfl (by decide) (by decide) ?_
        exact gg_sub [0, 1, 2, 3] rfl (t_law_1740 hc hr hL hm hs ih hf)
      · have hf := gd_at hf rfl
        refine r_tableIn (tgt := 1814) 43 hc (dc_at dL_law_18 13 rfl) hx rfl (by decide) (by decide) ?_
        exact gg_sub [0, 1, 2, 3] rfl (t_law_1814 hc hr hL hm hs ih hf)
      · have hf := gd_at hf rfl
        refine r_tableIn (tgt := 1837) 44 hc (dc_at dL_law_18 13 rfl) hx rfl (by decide) (by decide) ?_
        exact gg_sub [0, 1, 2, 3] rfl (t_law_1837 hc hr hL hm hs ih hf)
      · have hf := gd_at hf rfl
        refine r_tableIn (tgt := 1860) 45 hc (dc_at dL_law_18 13 rfl) hx rfl (by decide) (by decide) ?_
        exact gg_sub [0, 1, 2, 3] rfl (t_law_1860 hc hr hL hm hs ih hf)
      · have hf := gd_at hf rfl
        refine r_tableIn (tgt := 1883) 46 hc (dc_at dL_law_18 13 rfl) hx rfl (by decide) (by decide) ?_
        exact gg_sub [0, 1, 2, 3] rfl (t_law_1883 hc hr hL hm hs ih hf)
    · refine r_tableOut (tgt := 1906) 47 hc (dc_at dL_law_18 13 rfl) hx (by decide) (by decide) ?_
      exact gg_sub [0, 1, 2, 3] rfl (t_law_1906 hc hr hL hm hs ih hf)
