def lL_law_1341L : List (Nat × Instr × Nat × Nat) := [(1341, .aload_n 1, 1, 1342), (1342, .aload_n 0, 1, 1343), (1343, .iload_n 3, 1, 1344), (1344, .iconst 1, 1, 1345), (1345, .iadd, 1, 1346), (1346, .iaload, 1, 1347), (1347, .aload_n 0, 1, 1348), (1348, .iload_n 3, 1, 1349), (1349, .iconst 2, 1, 1350), (1350, .iadd, 1, 1351), (1351, .iaload, 1, 1352), (1352, .aload_n 0, 1, 1353), (1353, .iload_n 3, 1, 1354), (1354, .iconst 3, 1, 1355), (1355, .iadd, 1, 1356), (1356, .iaload, 1, 1357), (1357, .invokevirtual 142, 3, 1360), (1360, .aload_n 2, 1, 1361), (1361, .aload_n 0, 1, 1362), (1362, .iload_n 3, 1, 1363), (1363, .iconst 1, 1, 1364), (1364, .iadd, 1, 1365), (1365, .iaload, 1, 1366), (1366, .aload_n 0, 1, 1367), (1367, .iload_n 3, 1, 1368), (1368, .iconst 2, 1, 1369), (1369, .iadd, 1, 1370), (1370, .iaload, 1, 1371), (1371, .aload_n 0, 1, 1372), (1372, .iload_n 3, 1, 1373), (1373, .iconst 3, 1, 1374), (1374, .iadd, 1, 1375), (1375, .iaload, 1, 1376), (1376, .invokevirtual 145, 3, 1379), (1379, .if_icmp .eq 527, 3, 1382), (1382, .iconst 0, 1, 1383), (1383, .ireturn, 1, 1384)]
set_option maxRecDepth 20000 in
theorem dL_law_1341 : dcL cL_law lL_law_1341L = true := by decide +kernel
def b_law_1341 (F : Nat) (xs : Nat → Int32) (Ls : Nat) (self : Nat × Nat → PH → Nat → Nat → Int32 → Option Int32) (cs : Nat × Nat) (h : PH) (v1 : Nat) (v2 : Nat) (v3 : Int32) : Option Int32 := (scr xs Ls ((v3 + (1 : Int32)))).bind fun x1 => ((scr xs Ls ((v3 + (2 : Int32)))).bind fun x2 => ((scr xs Ls ((v3 + (3 : Int32)))).bind fun x3 => (cO 9 h v1 (bind2 (m_X9_rank F h v1 x1 x2 x3) fun x4 h5 => ((scr xs Ls ((v3 + (1 : Int32)))).bind fun x6 => ((scr xs Ls ((v3 + (2 : Int32)))).bind fun x7 => ((scr xs Ls ((v3 + (3 : Int32)))).bind fun x8 => (cO 10 h5 v2 (bind2 (m_X10_rank F h5 v2 x6 x7 x8) fun x9 h10 => (if x4 = x9 then (b_law_1906 F xs Ls self cs h10 v1 v2 v3) else (some (0 : Int32))))))))))))
set_option maxRecDepth 20000 in
theorem t_law_1341 {M : MV} {X : XT} {F : Nat} {xs : Nat → Int32} {Ls b : Nat} {self : Nat × Nat → PH → Nat → Nat → Int32 → Option Int32} {cs : Nat × Nat} {h : PH} {v1 : Nat} {v2 : Nat} {v3 : Int32} (hc : Cx M X R_law code) (hr : Rx M 2048 84000 600000 7302250 4) (hL : Lx M X xs Ls b) (hm : cs.1 ≤ 600000) (hs : cs.2 ≤ 7302250) (ih : ∀ (cs : Nat × Nat) (h : PH) (v1 : Nat) (v2 : Nat) (v3 : Int32), cs.1 ≤ 600000 → cs.2 ≤ 7302250 → self cs h v1 v2 v3 = some 1 → GG M X h cs.1 cs.2 18 [(0, .ref b), (1, .ref (X.1 + v1)), (2, .ref (X.1 + v2)), (3, .int v3)] []) (hf : b_law_1341 F xs Ls self cs h v1 v2 v3 = some 1) : GG M X h cs.1 cs.2 1341 [(0, .ref b), (1, .ref (X.1 + v1)), (2, .ref (X.1 + v2)), (3, .int v3)] [] := by
  unfold b_law_1341 at hf
  refine r_aload_n hc 1 (dc_at dL_law_1341 0 rfl) rfl ?_
  refine r_aload_n hc 0 (dc_at dL_law_1341 1 rfl) rfl ?_
  refine r_iload_n hc 3 (dc_at dL_law_1341 2 rfl) rfl ?_
  refine r_iconst (1 : Int32) hc (dc_at dL_law_1341 3 rfl) (by decide) ?_
  refine r_iadd hc (dc_at dL_law_1341 4 rfl) ?_
  refine r_sload hL hc (dc_at dL_law_1341 5 rfl) hf fun x1 hf => ?_
  refine r_aload_n hc 0 (dc_at dL_law_1341 6 rfl) rfl ?_
  refine r_iload_n hc 3 (dc_at dL_law_1341 7 rfl) rfl ?_
  refine r_iconst (2 : Int32) hc (dc_at dL_law_1341 8 rfl) (by decide) ?_
  refine r_iadd hc (dc_at dL_law_1341 9 rfl) ?_
  refine r_sload hL hc (dc_at dL_law_1341 10 rfl) hf fun x2 hf => ?_
  refine r_aload_n hc 0 (dc_at dL_law_1341 11 rfl) rfl ?_
  refine r_iload_n hc 3 (dc_at dL_law_1341 12 rfl) rfl ?_
  refine r_iconst (3 : Int32) hc (dc_at dL_law_1341 13 rfl) (by decide) ?_
  refine r_iadd hc (dc_at dL_law_1341 14 rfl) ?_
  refine r_sload hL hc (dc_at dL_law_1341 15 rfl) hf fun x3 hf => ?_
  obtain ⟨ho, hf⟩ := cO_some hf
  refine ob2 hf fun x4 h5 ex hf => ?_
  refine r_callVi (As := [.int x1, .int x2, .int x3]) (ci := 9) hc hr (dc_at dL_law_1341 16 rfl) ml_L_142 mv_X9_rank vi_X9_rank rfl ho rfl (mt_X9_rank ex) (Nat.le_of_ble_eq_true rfl) (Nat.le_of_ble_eq_true rfl) (by first | exact Nat.le_of_ble_eq_true rfl | decide) hm hs ?_
  refine r_aload_n hc 2 (dc_at dL_law_1341 17 rfl) rfl ?_
  refine r_aload_n hc 0 (dc_at dL_law_1341 18 rfl) rfl ?_
  refine r_iload_n hc 3 (dc_at dL_law_1341 19 rfl) rfl ?_
  refine r_iconst (1 : Int32) hc (dc_at dL_law_1341 20 rfl) (by decide) ?_
  refine r_iadd hc (dc_at dL_law_1341 21 rfl) ?_
  refine r_sload hL hc (dc_at dL_law_1341 22 rfl) hf fun x6 hf => ?_
  refine r_aload_n hc 0 (dc_at dL_law_1341 23 rfl) rfl ?_
  refine r_iload_n hc 3 (dc_at dL_law_1341 24 rfl) rfl ?_
  refine r_iconst (2 : Int32) hc (dc_at dL_law_1341 25 rfl) (by decide) ?_
  refine r_iadd hc (dc_at dL_law_1341 26 rfl) ?_
  refine r_sload hL hc (dc_at dL_law_1341 27 rfl) hf fun x7 hf => ?_
  refine r_aload_n hc 0 (dc_at dL_law_1341 28 rfl) rfl ?_
  refine r_iload_n hc 3 (dc_at dL_law_1341 29 rfl) rfl ?_
  refine r_iconst (3 : Int32) hc (dc_at dL_law_1341 30 rfl) (by decide) ?_
  refine r_iadd hc (dc_at dL_law_1341 31 rfl) ?_
  refine r_sload hL hc (dc_at dL_law_1341 32 rfl) hf fun x8 hf => ?_
  obtain ⟨ho, hf⟩ := cO_some hf
  refine ob2 hf fun x9 h10 ex hf => ?_
  refine r_callVi (As := [.int x6, .int x7, .int x8]) (ci := 10) hc hr (dc_at dL_law_1341 33 rfl) ml_L_145 mv_X10_rank vi_X10_rank rfl ho rfl (mt_X10_rank ex) (Nat.le_of_ble_eq_true rfl) (Nat.le_of_ble_eq_true rfl) (by first | exact Nat.le_of_ble_eq_true rfl | decide) hm hs ?_
  refine r_icmp_eq (tgt := 1906) hc (dc_at dL_law_1341 34 rfl) (by decide) hf (fun hf => ?_) (fun hf => ?_)
  · exact gg_sub [0, 1, 2, 3] rfl (t_law_1906 hc hr hL hm hs ih hf)
  · refine r_iconst (0 : Int32) hc (dc_at dL_law_1341 35 rfl) (by decide) ?_
    cases hf
def lL_law_1814L : List (Nat × Instr × Nat × Nat) := [(1814, .aload_n 1, 1, 1815), (1815, .aload_n 0, 1, 1816), (1816, .iload_n 3, 1, 1817), (1817, .iconst 1, 1, 1818), (1818, .iadd, 1, 1819), (1819, .iaload, 1, 1820), (1820, .invokevirtual 199, 3, 1823), (1823, .aload_n 2, 1, 1824), (1824, .aload_n 0, 1, 1825), (1825, .iload_n 3, 1, 1826), (1826, .iconst 1, 1, 1827), (1827, .iadd, 1, 1828), (1828, .iaload, 1, 1829), (1829, .invokevirtual 202, 3, 1832), (1832, .if_icmp .eq 74, 3, 1835), (1835, .iconst 0, 1, 1836), (1836, .ireturn, 1, 1837)]
set_option maxRecDepth 20000 in
theorem dL_law_1814 : dcL cL_law lL_law_1814L = true := by decide +kernel
def b_law_1814 (F : Nat) (xs : Nat → Int32) (Ls : Nat) (self : Nat × Nat → PH → Nat → Nat → Int32 → Option Int32) (cs : Nat × Nat) (h : PH) (v1 : Nat) (v2 : Nat) (v3 : Int32) : Option Int32 := (scr xs Ls ((v3 + (1 : Int32)))).bind fun x1 => (cO 9 h v1 (bind2 (m_X9_copy F h v1 x1) fun x2 h3 => ((scr xs Ls ((v3 + (1 : Int32)))).bind fun x4 => (cO 10 h3 v2 (bind2 (m_X10_copy F h3 v2 x4) fun x5 h6 => (if x2 = x5 then (b_law_1906 F xs Ls self cs h6 v1 v2 v3) else (some (0 : Int32))))))))
set_option maxRecDepth 20000 in
theorem t_law_1814 {M : MV} {X : XT} {F : Nat} {xs : Nat → Int32} {Ls b : Nat} {self : Nat × Nat → PH → Nat → Nat → Int32 → Option Int32} {cs : Nat × Nat} {h : PH} {v1 : Nat} {v2 : Nat} {v3 : Int32} (hc : Cx M X R_law code) (hr : Rx M 2048 84000 600000 7302250 4) (hL : Lx M X xs Ls b) (hm : cs.1 ≤ 600000) (hs : cs.2 ≤ 7302250) (ih : ∀ (cs : Nat × Nat) (h : PH) (v1 : Nat) (v2 : Nat) (v3 : Int32), cs.1 ≤ 600000 → cs.2 ≤ 7302250 → self cs h v1 v2 v3 = some 1 → GG M X h cs.1 cs.2 18 [(0, .ref b), (1, .ref (X.1 + v1)), (2, .ref (X.1 + v2)), (3, .int v3)] []) (hf : b_law_1814 F xs Ls self cs h v1 v2 v3 = some 1) : GG M X h cs.1 cs.2 1814 [(0, .ref b), (1, .ref (X.1 + v1)), (2, .ref (X.1 + v2)), (3, .int v3)] [] := by
  unfold b_law_1814 at hf
  refine r_aload_n hc 1 (dc_at dL_law_1814 0 rfl) rfl ?_
  refine r_aload_n hc 0 (dc_at dL_law_1814 1 rfl) rfl ?_
  refine r_iload_n hc 3 (dc_at dL_law_1814 2 rfl) rfl ?_
  refine r_iconst (1 : Int32) hc (dc_at dL_law_1814 3 rfl) (by decide) ?_
  refine r_iadd hc (dc_at dL_law_1814 4 rfl) ?_
  refine r_sload hL hc (dc_at dL_law_1814 5 rfl) hf fun x1 hf => ?_
  obtain ⟨ho, hf⟩ := cO_some hf
  refine ob2 hf fun x2 h3 ex hf => ?_
  refine r_callVi (As := [.int x1]) (ci := 9) hc hr (dc_at dL_law_1814 6 rfl) ml_L_199 mv_X9_copy vi_X9_copy rfl ho rfl (mt_X9_copy ex) (Nat.le_of_ble_eq_true rfl) (Nat.le_of_ble_eq_true rfl) (by first | exact Nat.le_of_ble_eq_true rfl | decide) hm hs ?_
  refine r_aload_n hc 2 (dc_at dL_law_1814 7 rfl) rfl ?_
  refine r_aload_n hc 0 (dc_at dL_law_1814 8 rfl) rfl ?_
  refine r_iload_n hc 3 (dc_at dL_law_1814 9 rfl) rfl ?_
  refine r_iconst (1 : Int32) hc (dc_at dL_law_1814 10 rfl) (by decide) ?_
  refine r_iadd hc (dc_at dL_law_1814 11 rfl) ?_
  refine r_sload hL hc (dc_at dL_law_1814 12 rfl) hf fun x4 hf => ?_
  obtain ⟨ho, hf⟩ := cO_some hf
  refine ob2 hf fun x5 h6 ex hf => ?_
  refine r_callVi (As := [.int x4]) (ci := 10) hc hr (dc_at dL_law_1814 13 rfl) ml_L_202 mv_X10_copy vi_X10_copy rfl ho rfl (mt_X10_copy ex) (Nat.le_of_ble_eq_true rfl) (Nat.le_of_ble_eq_true rfl) (by first | exact Nat.le_of_ble_eq_true rfl | decide) hm hs ?_
  refine r_icmp_eq (tgt := 1906) hc (dc_at dL_law_1814 14 rfl) (by decide) hf (fun hf => ?_) (fun hf => ?_)
  · exact gg_sub [0, 1, 2, 3] rfl (t_law_1906 hc hr hL hm hs ih hf)
  · refine r_iconst (0 : Int32) hc (dc_at dL_law_1814 15 rfl) (by decide) ?_
    cases hf
