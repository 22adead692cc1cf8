def lL_law_1740L : List (Nat × Instr × Nat × Nat) := [(1740, .aload_n 1, 1, 1741), (1741, .aload_n 0, 1, 1742), (1742, .iload_n 3, 1, 1743), (1743, .iconst 1, 1, 1744), (1744, .iadd, 1, 1745), (1745, .iaload, 1, 1746), (1746, .aload_n 0, 1, 1747), (1747, .iload_n 3, 1, 1748), (1748, .iconst 2, 1, 1749), (1749, .iadd, 1, 1750), (1750, .iaload, 1, 1751), (1751, .aload_n 0, 1, 1752), (1752, .iload_n 3, 1, 1753), (1753, .iconst 3, 1, 1754), (1754, .iadd, 1, 1755), (1755, .iaload, 1, 1756), (1756, .i2l, 1, 1757), (1757, .bipush 32, 2, 1759), (1759, .lshl, 1, 1760), (1760, .aload_n 0, 1, 1761), (1761, .iload_n 3, 1, 1762), (1762, .iconst 4, 1, 1763), (1763, .iadd, 1, 1764), (1764, .iaload, 1, 1765), (1765, .i2l, 1, 1766), (1766, .ldc2_w 192, 3, 1769), (1769, .land, 1, 1770), (1770, .lor, 1, 1771), (1771, .invokevirtual 194, 3, 1774), (1774, .aload_n 2, 1, 1775), (1775, .aload_n 0, 1, 1776), (1776, .iload_n 3, 1, 1777), (1777, .iconst 1, 1, 1778), (1778, .iadd, 1, 1779), (1779, .iaload, 1, 1780), (1780, .aload_n 0, 1, 1781), (1781, .iload_n 3, 1, 1782), (1782, .iconst 2, 1, 1783), (1783, .iadd, 1, 1784), (1784, .iaload, 1, 1785), (1785, .aload_n 0, 1, 1786), (1786, .iload_n 3, 1, 1787), (1787, .iconst 3, 1, 1788), (1788, .iadd, 1, 1789), (1789, .iaload, 1, 1790), (1790, .i2l, 1, 1791), (1791, .bipush 32, 2, 1793), (1793, .lshl, 1, 1794), (1794, .aload_n 0, 1, 1795), (1795, .iload_n 3, 1, 1796), (1796, .iconst 4, 1, 1797), (1797, .iadd, 1, 1798), (1798, .iaload, 1, 1799), (1799, .i2l, 1, 1800), (1800, .ldc2_w 192, 3, 1803), (1803, .land, 1, 1804), (1804, .lor, 1, 1805), (1805, .invokevirtual 198, 3, 1808), (1808, .lcmp, 1, 1809), (1809, .ifCond .eq 97, 3, 1812), (1812, .iconst 0, 1, 1813), (1813, .ireturn, 1, 1814)]
set_option maxRecDepth 20000 in
theorem dL_law_1740 : dcL cL_law lL_law_1740L = true := by decide +kernel
def b_law_1740 (F : Nat) (xs : Nat → Int32) (Ls : Nat) (self : Nat × Nat → PH → Nat → Nat → Int32 → Option Int32) (cs : Nat × Nat) (h : PH) (v1 : Nat) (v2 : Nat) (v3 : Int32) : Option Int32 := (scr xs Ls ((v3 + (1 : Int32)))).bind fun x1 => ((scr xs Ls ((v3 + (2 : Int32)))).bind fun x2 => ((scr xs Ls ((v3 + (3 : Int32)))).bind fun x3 => ((scr xs Ls ((v3 + (4 : Int32)))).bind fun x4 => (cO 9 h v1 (bind2 (m_X9_write h v1 x1 x2 (((((Int32.toInt64 x3) <<< (Int32.toInt64 (32 : Int32) &&& 63))) ||| (((Int32.toInt64 x4) &&& (4294967295 : Int64)))))) fun x5 h6 => ((scr xs Ls ((v3 + (1 : Int32)))).bind fun x7 => ((scr xs Ls ((v3 + (2 : Int32)))).bind fun x8 => ((scr xs Ls ((v3 + (3 : Int32)))).bind fun x9 => ((scr xs Ls ((v3 + (4 : Int32)))).bind fun x10 => (cO 10 h6 v2 (bind2 (m_X10_write h6 v2 x7 x8 (((((Int32.toInt64 x9) <<< (Int32.toInt64 (32 : Int32) &&& 63))) ||| (((Int32.toInt64 x10) &&& (4294967295 : Int64)))))) fun x11 h12 => (if x5 = x11 then (b_law_1906 F xs Ls self cs h12 v1 v2 v3) else (some (0 : Int32))))))))))))))
set_option maxRecDepth 20000 in
theorem t_law_1740 {M : MV} {X : XT} {F : Nat} {xs : Nat → Int32} {Ls b : Nat} {self : Nat × Nat → PH → Nat → Nat → Int32 → Option Int32} {cs : Nat × Nat} {h : PH} {v1 : Nat} {v2 : Nat} {v3 : Int32} (hc : Cx M X R_law code) (hr : Rx M 2048 84000 600000 7302250 4) (hL : Lx M X xs Ls b) (hm : cs.1 ≤ 600000) (hs : cs.2 ≤ 7302250) (ih : ∀ (cs : Nat × Nat) (h : PH) (v1 : Nat) (v2 : Nat) (v3 : Int32), cs.1 ≤ 600000 → cs.2 ≤ 7302250 → self cs h v1 v2 v3 = some 1 → GG M X h cs.1 cs.2 18 [(0, .ref b), (1, .ref (X.1 + v1)), (2, .ref (X.1 + v2)), (3, .int v3)] []) (hf : b_law_1740 F xs Ls self cs h v1 v2 v3 = some 1) : GG M X h cs.1 cs.2 1740 [(0, .ref b), (1, .ref (X.1 + v1)), (2, .ref (X.1 + v2)), (3, .int v3)] [] := by
  unfold b_law_1740 at hf
  refine r_aload_n hc 1 (dc_at dL_law_1740 0 rfl) rfl ?_
  refine r_aload_n hc 0 (dc_at dL_law_1740 1 rfl) rfl ?_
  refine r_iload_n hc 3 (dc_at dL_law_1740 2 rfl) rfl ?_
  refine r_iconst (1 : Int32) hc (dc_at dL_law_1740 3 rfl) (by decide) ?_
  refine r_iadd hc (dc_at dL_law_1740 4 rfl) ?_
  refine r_sload hL hc (dc_at dL_law_1740 5 rfl) hf fun x1 hf => ?_
  refine r_aload_n hc 0 (dc_at dL_law_1740 6 rfl) rfl ?_
  refine r_iload_n hc 3 (dc_at dL_law_1740 7 rfl) rfl ?_
  refine r_iconst (2 : Int32) hc (dc_at dL_law_1740 8 rfl) (by decide) ?_
  refine r_iadd hc (dc_at dL_law_1740 9 rfl) ?_
  refine r_sload hL hc (dc_at dL_law_1740 10 rfl) hf fun x2 hf => ?_
  refine r_aload_n hc 0 (dc_at dL_law_1740 11 rfl) rfl ?_
  refine r_iload_n hc 3 (dc_at dL_law_1740 12 rfl) rfl ?_
  refine r_iconst (3 : Int32) hc (dc_at dL_law_1740 13 rfl) (by decide) ?_
  refine r_iadd hc (dc_at dL_law_1740 14 rfl) ?_
  refine r_sload hL hc (dc_at dL_law_1740 15 rfl) hf fun x3 hf => ?_
  refine r_i2l hc (dc_at dL_law_1740 16 rfl) ?_
  refine r_bipush (32 : Int32) hc (dc_at dL_law_1740 17 rfl) (by decide) ?_
  refine r_lshl hc (dc_at dL_law_1740 18 rfl) ?_
  refine r_aload_n hc 0 (dc_at dL_law_1740 19 rfl) rfl ?_
  refine r_iload_n hc 3 (dc_at dL_law_1740 20 rfl) rfl ?_
  refine r_iconst (4 : Int32) hc (dc_at dL_law_1740 21 rfl) (by decide) ?_
  refine r_iadd hc (dc_at dL_law_1740 22 rfl) ?_
  refine r_sload hL hc (dc_at dL_law_1740 23 rfl) hf fun x4 hf => ?_
  refine r_i2l hc (dc_at dL_law_1740 24 rfl) ?_
  refine r_ldc2 hc (dc_at dL_law_1740 25 rfl) cl2_L_192 ?_
  refine r_land hc (dc_at dL_law_1740 26 rfl) ?_
  refine r_lor hc (dc_at dL_law_1740 27 rfl) ?_
  obtain ⟨ho, hf⟩ := cO_some hf
  refine ob2 hf fun x5 h6 ex hf => ?_
  refine r_callVl (As := [.int x1, .int x2, .long (((((Int32.toInt64 x3) <<< (Int32.toInt64 (32 : Int32) &&& 63))) ||| (((Int32.toInt64 x4) &&& (4294967295 : Int64)))))]) (ci := 9) hc hr (dc_at dL_law_1740 28 rfl) ml_L_194 mv_X9_write vi_X9_write rfl ho rfl (mt_X9_write ex) (Nat.le_of_ble_eq_true rfl) (Nat.le_of_ble_eq_true rfl) (by first | exact Nat.le_of_ble_eq_true rfl | decide) hm hs ?_
  refine r_aload_n hc 2 (dc_at dL_law_1740 29 rfl) rfl ?_
  refine r_aload_n hc 0 (dc_at dL_law_1740 30 rfl) rfl ?_
  refine r_iload_n hc 3 (dc_at dL_law_1740 31 rfl) rfl ?_
  refine r_iconst (1 : Int32) hc (dc_at dL_law_1740 32 rfl) (by decide) ?_
  refine r_iadd hc (dc_at dL_law_1740 33 rfl) ?_
  refine r_sload hL hc (dc_at dL_law_1740 34 rfl) hf fun x7 hf => ?_
  refine r_aload_n hc 0 (dc_at dL_law_1740 35 rfl) rfl ?_
  refine r_iload_n hc 3 (dc_at dL_law_1740 36 rfl) rfl ?_
  refine r_iconst (2 : Int32) hc (dc_at dL_law_1740 37 rfl) (by decide) ?_
  refine r_iadd hc (dc_at dL_law_1740 38 rfl) ?_
  refine r_sload hL hc (dc_at dL_law_1740 39 rfl) hf fun x8 hf => ?_
  refine r_aload_n hc 0 (dc_at dL_law_1740 40 rfl) rfl ?_
  refine r_iload_n hc 3 (dc_at dL_law_1740 41 rfl) rfl ?_
  refine r_iconst (3 : Int32) hc (dc_at dL_law_1740 42 rfl) (by decide) ?_
  refine r_iadd hc (dc_at dL_law_1740 43 rfl) ?_
  refine r_sload hL hc (dc_at dL_law_1740 44 rfl) hf fun x9 hf => ?_
  refine r_i2l hc (dc_at dL_law_1740 45 rfl) ?_
  refine r_bipush (32 : Int32) hc (dc_at dL_law_1740 46 rfl) (by decide) ?_
  refine r_lshl hc (dc_at dL_law_1740 47 rfl) ?_
  refine r_aload_n hc 0 (dc_at dL_law_1740 48 rfl) rfl ?_
  refine r_iload_n hc 3 (dc_at dL_law_1740 49 rfl) rfl ?_
  refine r_iconst (4 : Int32) hc (dc_at dL_law_1740 50 rfl) (by decide) ?_
  refine r_iadd hc (dc_at dL_law_1740 51 rfl) ?_
  refine r_sload hL hc (dc_at dL_law_1740 52 rfl) hf fun x10 hf => ?_
  refine r_i2l hc (dc_at dL_law_1740 53 rfl) ?_
  refine r_ldc2 hc (dc_at dL_law_1740 54 rfl) cl2_L_192 ?_
  refine r_land hc (dc_at dL_law_1740 55 rfl) ?_
  refine r_lor hc (dc_at dL_law_1740 56 rfl) ?_
  obtain ⟨ho, hf⟩ := cO_some hf
  refine ob2 hf fun x11 h12 ex hf => ?_
  refine r_callVl (As := [.int x7, .int x8, .long (((((Int32.toInt64 x9) <<< (Int32.toInt64 (32 : Int32) &&& 63))) ||| (((Int32.toInt64 x10) &&& (4294967295 : Int64)))))]) (ci := 10) hc hr (dc_at dL_law_1740 57 rfl) ml_L_198 mv_X10_write vi_X10_write rfl ho rfl (mt_X10_write ex) (Nat.le_of_ble_eq_true rfl) (Nat.le_of_ble_eq_true rfl) (by first | exact Nat.le_of_ble_eq_true rfl | decide) hm hs ?_
  refine r_lcmp_eq (tgt := 1906) hc (dc_at dL_law_1740 58 rfl) (dc_at dL_law_1740 59 rfl) (by decide) hf (fun hf => ?_) (fun hf => ?_)
  · exact gg_sub [0, 1, 2, 3] rfl (t_law_1906 hc hr hL hm hs ih hf)
  · refine r_iconst (0 : Int32) hc (dc_at dL_law_1740 60 rfl) (by decide) ?_
    cases hf
