def lL_law_1860L : List (Nat × Instr × Nat × Nat) := [(1860, .aload_n 1, 1, 1861), (1861, .aload_n 0, 1, 1862), (1862, .iload_n 3, 1, 1863), (1863, .iconst 1, 1, 1864), (1864, .iadd, 1, 1865), (1865, .iaload, 1, 1866), (1866, .invokevirtual 207, 3, 1869), (1869, .aload_n 2, 1, 1870), (1870, .aload_n 0, 1, 1871), (1871, .iload_n 3, 1, 1872), (1872, .iconst 1, 1, 1873), (1873, .iadd, 1, 1874), (1874, .iaload, 1, 1875), (1875, .invokevirtual 210, 3, 1878), (1878, .if_icmp .eq 28, 3, 1881), (1881, .iconst 0, 1, 1882), (1882, .ireturn, 1, 1883)]
set_option maxRecDepth 20000 in
theorem dL_law_1860 : dcL cL_law lL_law_1860L = true := by decide +kernel
def b_law_1860 (F : Nat) (xs : Nat → Int32) (Ls : Nat) (self : Nat × Nat → PH → Nat → Nat → Int32 → Option Int32) (cs : Nat × Nat) (h : PH) (v1 : Nat) (v2 : Nat) (v3 : Int32) : Option Int32 := (scr xs Ls ((v3 + (1 : Int32)))).bind fun x1 => (cO 9 h v1 (bind2 (m_X9_restore h v1 x1) fun x2 h3 => ((scr xs Ls ((v3 + (1 : Int32)))).bind fun x4 => (cO 10 h3 v2 (bind2 (m_X10_restore F h3 v2 x4) fun x5 h6 => (if x2 = x5 then (b_law_1906 F xs Ls self cs h6 v1 v2 v3) else (some (0 : Int32))))))))
set_option maxRecDepth 20000 in
theorem t_law_1860 {M : MV} {X : XT} {F : Nat} {xs : Nat → Int32} {Ls b : Nat} {self : Nat × Nat → PH → Nat → Nat → Int32 → Option Int32} {cs : Nat × Nat} {h : PH} {v1 : Nat} {v2 : Nat} {v3 : Int32} (hc : Cx M X R_law code) (hr : Rx M 2048 84000 600000 7302250 4) (hL : Lx M X xs Ls b) (hm : cs.1 ≤ 600000) (hs : cs.2 ≤ 7302250) (ih : ∀ (cs : Nat × Nat) (h : PH) (v1 : Nat) (v2 : Nat) (v3 : Int32), cs.1 ≤ 600000 → cs.2 ≤ 7302250 → self cs h v1 v2 v3 = some 1 → GG M X h cs.1 cs.2 18 [(0, .ref b), (1, .ref (X.1 + v1)), (2, .ref (X.1 + v2)), (3, .int v3)] []) (hf : b_law_1860 F xs Ls self cs h v1 v2 v3 = some 1) : GG M X h cs.1 cs.2 1860 [(0, .ref b), (1, .ref (X.1 + v1)), (2, .ref (X.1 + v2)), (3, .int v3)] [] := by
  unfold b_law_1860 at hf
  refine r_aload_n hc 1 (dc_at dL_law_1860 0 rfl) rfl ?_
  refine r_aload_n hc 0 (dc_at dL_law_1860 1 rfl) rfl ?_
  refine r_iload_n hc 3 (dc_at dL_law_1860 2 rfl) rfl ?_
  refine r_iconst (1 : Int32) hc (dc_at dL_law_1860 3 rfl) (by decide) ?_
  refine r_iadd hc (dc_at dL_law_1860 4 rfl) ?_
  refine r_sload hL hc (dc_at dL_law_1860 5 rfl) hf fun x1 hf => ?_
  obtain ⟨ho, hf⟩ := cO_some hf
  refine ob2 hf fun x2 h3 ex hf => ?_
  refine r_callVi (As := [.int x1]) (ci := 9) hc hr (dc_at dL_law_1860 6 rfl) ml_L_207 mv_X9_restore vi_X9_restore rfl ho rfl (mt_X9_restore ex) (Nat.le_of_ble_eq_true rfl) (Nat.le_of_ble_eq_true rfl) (by first | exact Nat.le_of_ble_eq_true rfl | decide) hm hs ?_
  refine r_aload_n hc 2 (dc_at dL_law_1860 7 rfl) rfl ?_
  refine r_aload_n hc 0 (dc_at dL_law_1860 8 rfl) rfl ?_
  refine r_iload_n hc 3 (dc_at dL_law_1860 9 rfl) rfl ?_
  refine r_iconst (1 : Int32) hc (dc_at dL_law_1860 10 rfl) (by decide) ?_
  refine r_iadd hc (dc_at dL_law_1860 11 rfl) ?_
  refine r_sload hL hc (dc_at dL_law_1860 12 rfl) hf fun x4 hf => ?_
  obtain ⟨ho, hf⟩ := cO_some hf
  refine ob2 hf fun x5 h6 ex hf => ?_
  refine r_callVi (As := [.int x4]) (ci := 10) hc hr (dc_at dL_law_1860 13 rfl) ml_L_210 mv_X10_restore vi_X10_restore rfl ho rfl (mt_X10_restore ex) (Nat.le_of_ble_eq_true rfl) (Nat.le_of_ble_eq_true rfl) (by first | exact Nat.le_of_ble_eq_true rfl | decide) hm hs ?_
  refine r_icmp_eq (tgt := 1906) hc (dc_at dL_law_1860 14 rfl) (by decide) hf (fun hf => ?_) (fun hf => ?_)
  · exact gg_sub [0, 1, 2, 3] rfl (t_law_1906 hc hr hL hm hs ih hf)
  · refine r_iconst (0 : Int32) hc (dc_at dL_law_1860 15 rfl) (by decide) ?_
    cases hf
def lL_law_299L : List (Nat × Instr × Nat × Nat) := [(299, .aload_n 1, 1, 300), (300, .aload_n 0, 1, 301), (301, .iload_n 3, 1, 302), (302, .iconst 1, 1, 303), (303, .iadd, 1, 304), (304, .iaload, 1, 305), (305, .invokevirtual 18, 3, 308), (308, .aload_n 2, 1, 309), (309, .aload_n 0, 1, 310), (310, .iload_n 3, 1, 311), (311, .iconst 1, 1, 312), (312, .iadd, 1, 313), (313, .iaload, 1, 314), (314, .invokevirtual 22, 3, 317), (317, .if_icmp .eq 1589, 3, 320), (320, .iconst 0, 1, 321), (321, .ireturn, 1, 322)]
set_option maxRecDepth 20000 in
theorem dL_law_299 : dcL cL_law lL_law_299L = true := by decide +kernel
def b_law_299 (F : Nat) (xs : Nat → Int32) (Ls : Nat) (self : Nat × Nat → PH → Nat → Nat → Int32 → Option Int32) (cs : Nat × Nat) (h : PH) (v1 : Nat) (v2 : Nat) (v3 : Int32) : Option Int32 := (scr xs Ls ((v3 + (1 : Int32)))).bind fun x1 => (bud (kost (decide (gN 9 5 h v1 = some none)) 17 3777) cs fun cs4 => (cO 9 h v1 (bind2 (m_X9_house F h v1 x1) fun x2 h3 => ((scr xs Ls ((v3 + (1 : Int32)))).bind fun x5 => (cO 10 h3 v2 (bind2 (m_X10_house F h3 v2 x5) fun x6 h7 => (if x2 = x6 then (b_law_1906 F xs Ls self cs4 h7 v1 v2 v3) else (some (0 : Int32)))))))))
set_option maxRecDepth 20000 in
theorem t_law_299 {M : MV} {X : XT} {F : Nat} {xs : Nat → Int32} {Ls b : Nat} {self : Nat × Nat → PH → Nat → Nat → Int32 → Option Int32} {cs : Nat × Nat} {h : PH} {v1 : Nat} {v2 : Nat} {v3 : Int32} (hc : Cx M X R_law code) (hr : Rx M 2048 84000 600000 7302250 4) (hL : Lx M X xs Ls b) (hm : cs.1 ≤ 600000) (hs : cs.2 ≤ 7302250) (ih : ∀ (cs : Nat × Nat) (h : PH) (v1 : Nat) (v2 : Nat) (v3 : Int32), cs.1 ≤ 600000 → cs.2 ≤ 7302250 → self cs h v1 v2 v3 = some 1 → GG M X h cs.1 cs.2 18 [(0, .ref b), (1, .ref (X.1 + v1)), (2, .ref (X.1 + v2)), (3, .int v3)] []) (hf : b_law_299 F xs Ls self cs h v1 v2 v3 = some 1) : GG M X h cs.1 cs.2 299 [(0, .ref b), (1, .ref (X.1 + v1)), (2, .ref (X.1 + v2)), (3, .int v3)] [] := by
  unfold b_law_299 at hf
  refine r_aload_n hc 1 (dc_at dL_law_299 0 rfl) rfl ?_
  refine r_aload_n hc 0 (dc_at dL_law_299 1 rfl) rfl ?_
  refine r_iload_n hc 3 (dc_at dL_law_299 2 rfl) rfl ?_
  refine r_iconst (1 : Int32) hc (dc_at dL_law_299 3 rfl) (by decide) ?_
  refine r_iadd hc (dc_at dL_law_299 4 rfl) ?_
  refine r_sload hL hc (dc_at dL_law_299 5 rfl) hf fun x1 hf => ?_
  refine obud hf fun cs4 k1 k2 k3 k4 hm2 hs2 hf => ?_
  obtain ⟨ho, hf⟩ := cO_some hf
  refine ob2 hf fun x2 h3 ex hf => ?_
  refine r_callViC (As := [.int x1]) (ci := 9) hc hr (dc_at dL_law_299 6 rfl) ml_L_18 mv_X9_house vi_X9_house rfl ho rfl (mt_X9_house ex (kost_ok 17 3777)) (Nat.le_of_ble_eq_true rfl) (Nat.le_of_ble_eq_true rfl) (by first | exact Nat.le_of_ble_eq_true rfl | decide) k1 k2 ?_
  rw [← k3, ← k4]
  clear hm hs
  have hm := hm2
  have hs := hs2
  refine r_aload_n hc 2 (dc_at dL_law_299 7 rfl) rfl ?_
  refine r_aload_n hc 0 (dc_at dL_law_299 8 rfl) rfl ?_
  refine r_iload_n hc 3 (dc_at dL_law_299 9 rfl) rfl ?_
  refine r_iconst (1 : Int32) hc (dc_at dL_law_299 10 rfl) (by decide) ?_
  refine r_iadd hc (dc_at dL_law_299 11 rfl) ?_
  refine r_sload hL hc (dc_at dL_law_299 12 rfl) hf fun x5 hf => ?_
  obtain ⟨ho, hf⟩ := cO_some hf
  refine ob2 hf fun x6 h7 ex hf => ?_
  refine r_callVi (As := [.int x5]) (ci := 10) hc hr (dc_at dL_law_299 13 rfl) ml_L_22 mv_X10_house vi_X10_house rfl ho rfl (mt_X10_house ex) (Nat.le_of_ble_eq_true rfl) (Nat.le_of_ble_eq_true rfl) (by first | exact Nat.le_of_ble_eq_true rfl | decide) hm hs ?_
  refine r_icmp_eq (tgt := 1906) hc (dc_at dL_law_299 14 rfl) (by decide) hf (fun hf => ?_) (fun hf => ?_)
  · exact gg_sub [0, 1, 2, 3] rfl (t_law_1906 hc hr hL hm hs ih hf)
  · refine r_iconst (0 : Int32) hc (dc_at dL_law_299 15 rfl) (by decide) ?_
    cases hf
def lL_law_1551L : List (Nat × Instr × Nat × Nat) := [(1551, .aload_n 1, 1, 1552), (1552, .invokevirtual 168, 3, 1555), (1555, .aload_n 2, 1, 1556), (1556, .invokevirtual 171, 3, 1559), (1559, .if_icmp .eq 347, 3, 1562), (1562, .iconst 0, 1, 1563), (1563, .ireturn, 1, 1564)]
set_option maxRecDepth 20000 in
theorem dL_law_1551 : dcL cL_law lL_law_1551L = true := by decide +kernel
def b_law_1551 (F : Nat) (xs : Nat → Int32) (Ls : Nat) (self : Nat × Nat → PH → Nat → Nat → Int32 → Option Int32) (cs : Nat × Nat) (h : PH) (v1 : Nat) (v2 : Nat) (v3 : Int32) : Option Int32 := cO 9 h v1 (bind2 (m_X9_richest F h v1) fun x1 h2 => (cO 10 h2 v2 (bind2 (m_X10_richest F h2 v2) fun x3 h4 => (if x1 = x3 then (b_law_1906 F xs Ls self cs h4 v1 v2 v3) else (some (0 : Int32))))))
set_option maxRecDepth 20000 in
theorem t_law_1551 {M : MV} {X : XT} {F : Nat} {xs : Nat → Int32} {Ls b : Nat} {self : Nat × Nat → PH → Nat → Nat → Int32 → Option Int32} {cs : Nat × Nat} {h : PH} {v1 : Nat} {v2 : Nat} {v3 : Int32} (hc : Cx M X R_law code) (hr : Rx M 2048 84000 600000 7302250 4) (hL : Lx M X xs Ls b) (hm : cs.1 ≤ 600000) (hs : cs.2 ≤ 7302250) (ih : ∀ (cs : Nat × Nat) (h : PH) (v1 : Nat) (v2 : Nat) (v3 : Int32), cs.1 ≤ 600000 → cs.2 ≤ 7302250 → self cs h v1 v2 v3 = some 1 → GG M X h cs.1 cs.2 18 [(0, .ref b), (1, .ref (X.1 + v1)), (2, .ref (X.1 + v2)), (3, .int v3)] []) (hf : b_law_1551 F xs Ls self cs h v1 v2 v3 = some 1) : GG M X h cs.1 cs.2 1551 [(0, .ref b), (1, .ref (X.1 + v1)), (2, .ref (X.1 + v2)), (3, .int v3)] [] := by
  unfold b_law_1551 at hf
  refine r_aload_n hc 1 (dc_at dL_law_1551 0 rfl) rfl ?_
  obtain ⟨ho, hf⟩ := cO_some hf
  refine ob2 hf fun x1 h2 ex hf => ?_
  refine r_callVi (As := []) (ci := 9) hc hr (dc_at dL_law_1551 1 rfl) ml_L_168 mv_X9_richest vi_X9_richest rfl ho rfl (mt_X9_richest ex) (Nat.le_of_ble_eq_true rfl) (Nat.le_of_ble_eq_true rfl) (by first | exact Nat.le_of_ble_eq_true rfl | decide) hm hs ?_
  refine r_aload_n hc 2 (dc_at dL_law_1551 2 rfl) rfl ?_
  obtain ⟨ho, hf⟩ := cO_some hf
  refine ob2 hf fun x3 h4 ex hf => ?_
  refine r_callVi (As := []) (ci := 10) hc hr (dc_at dL_law_1551 3 rfl) ml_L_171 mv_X10_richest vi_X10_richest rfl ho rfl (mt_X10_richest ex) (Nat.le_of_ble_eq_true rfl) (Nat.le_of_ble_eq_true rfl) (by first | exact Nat.le_of_ble_eq_true rfl | decide) hm hs ?_
  refine r_icmp_eq (tgt := 1906) hc (dc_at dL_law_1551 4 rfl) (by decide) hf (fun hf => ?_) (fun hf => ?_)
  · exact gg_sub [0, 1, 2, 3] rfl (t_law_1906 hc hr hL hm hs ih hf)
  · refine r_iconst (0 : Int32) hc (dc_at dL_law_1551 5 rfl) (by decide) ?_
    cases hf
