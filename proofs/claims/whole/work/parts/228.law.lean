def lL_law_1427L : List (Nat × Instr × Nat × Nat) := [(1427, .aload_n 1, 1, 1428), (1428, .aload_n 0, 1, 1429), (1429, .iload_n 3, 1, 1430), (1430, .iconst 1, 1, 1431), (1431, .iadd, 1, 1432), (1432, .iaload, 1, 1433), (1433, .aload_n 0, 1, 1434), (1434, .iload_n 3, 1, 1435), (1435, .iconst 2, 1, 1436), (1436, .iadd, 1, 1437), (1437, .iaload, 1, 1438), (1438, .invokevirtual 150, 3, 1441), (1441, .aload_n 2, 1, 1442), (1442, .aload_n 0, 1, 1443), (1443, .iload_n 3, 1, 1444), (1444, .iconst 1, 1, 1445), (1445, .iadd, 1, 1446), (1446, .iaload, 1, 1447), (1447, .aload_n 0, 1, 1448), (1448, .iload_n 3, 1, 1449), (1449, .iconst 2, 1, 1450), (1450, .iadd, 1, 1451), (1451, .iaload, 1, 1452), (1452, .invokevirtual 154, 3, 1455), (1455, .lcmp, 1, 1456), (1456, .ifCond .eq 450, 3, 1459), (1459, .iconst 0, 1, 1460), (1460, .ireturn, 1, 1461)]
set_option maxRecDepth 20000 in
theorem dL_law_1427 : dcL cL_law lL_law_1427L = true := by decide +kernel
def b_law_1427 (F : Nat) (xs : Nat → Int32) (Ls : Nat) (self : Nat × Nat → PH → Nat → Nat → Int32 → Option Int32) (cs : Nat × Nat) (h : PH) (v1 : Nat) (v2 : Nat) (v3 : Int32) : Option Int32 := (scr xs Ls ((v3 + (1 : Int32)))).bind fun x1 => ((scr xs Ls ((v3 + (2 : Int32)))).bind fun x2 => (cO 9 h v1 (bind2 (m_X9_rent F h v1 x1 x2) fun x3 h4 => ((scr xs Ls ((v3 + (1 : Int32)))).bind fun x5 => ((scr xs Ls ((v3 + (2 : Int32)))).bind fun x6 => (cO 10 h4 v2 (bind2 (m_X10_rent F h4 v2 x5 x6) fun x7 h8 => (if x3 = x7 then (b_law_1906 F xs Ls self cs h8 v1 v2 v3) else (some (0 : Int32))))))))))
set_option maxRecDepth 20000 in
theorem t_law_1427 {M : MV} {X : XT} {F : Nat} {xs : Nat → Int32} {Ls b : Nat} {self : Nat × Nat → PH → Nat → Nat → Int32 → Option Int32} {cs : Nat × Nat} {h : PH} {v1 : Nat} {v2 : Nat} {v3 : Int32} (hc : Cx M X R_law code) (hr : Rx M 2048 84000 600000 7302250 4) (hL : Lx M X xs Ls b) (hm : cs.1 ≤ 600000) (hs : cs.2 ≤ 7302250) (ih : ∀ (cs : Nat × Nat) (h : PH) (v1 : Nat) (v2 : Nat) (v3 : Int32), cs.1 ≤ 600000 → cs.2 ≤ 7302250 → self cs h v1 v2 v3 = some 1 → GG M X h cs.1 cs.2 18 [(0, .ref b), (1, .ref (X.1 + v1)), (2, .ref (X.1 + v2)), (3, .int v3)] []) (hf : b_law_1427 F xs Ls self cs h v1 v2 v3 = some 1) : GG M X h cs.1 cs.2 1427 [(0, .ref b), (1, .ref (X.1 + v1)), (2, .ref (X.1 + v2)), (3, .int v3)] [] := by
  unfold b_law_1427 at hf
  refine r_aload_n hc 1 (dc_at dL_law_1427 0 rfl) rfl ?_
  refine r_aload_n hc 0 (dc_at dL_law_1427 1 rfl) rfl ?_
  refine r_iload_n hc 3 (dc_at dL_law_1427 2 rfl) rfl ?_
  refine r_iconst (1 : Int32) hc (dc_at dL_law_1427 3 rfl) (by decide) ?_
  refine r_iadd hc (dc_at dL_law_1427 4 rfl) ?_
  refine r_sload hL hc (dc_at dL_law_1427 5 rfl) hf fun x1 hf => ?_
  refine r_aload_n hc 0 (dc_at dL_law_1427 6 rfl) rfl ?_
  refine r_iload_n hc 3 (dc_at dL_law_1427 7 rfl) rfl ?_
  refine r_iconst (2 : Int32) hc (dc_at dL_law_1427 8 rfl) (by decide) ?_
  refine r_iadd hc (dc_at dL_law_1427 9 rfl) ?_
  refine r_sload hL hc (dc_at dL_law_1427 10 rfl) hf fun x2 hf => ?_
  obtain ⟨ho, hf⟩ := cO_some hf
  refine ob2 hf fun x3 h4 ex hf => ?_
  refine r_callVl (As := [.int x1, .int x2]) (ci := 9) hc hr (dc_at dL_law_1427 11 rfl) ml_L_150 mv_X9_rent vi_X9_rent rfl ho rfl (mt_X9_rent ex) (Nat.le_of_ble_eq_true rfl) (Nat.le_of_ble_eq_true rfl) (by first | exact Nat.le_of_ble_eq_true rfl | decide) hm hs ?_
  refine r_aload_n hc 2 (dc_at dL_law_1427 12 rfl) rfl ?_
  refine r_aload_n hc 0 (dc_at dL_law_1427 13 rfl) rfl ?_
  refine r_iload_n hc 3 (dc_at dL_law_1427 14 rfl) rfl ?_
  refine r_iconst (1 : Int32) hc (dc_at dL_law_1427 15 rfl) (by decide) ?_
  refine r_iadd hc (dc_at dL_law_1427 16 rfl) ?_
  refine r_sload hL hc (dc_at dL_law_1427 17 rfl) hf fun x5 hf => ?_
  refine r_aload_n hc 0 (dc_at dL_law_1427 18 rfl) rfl ?_
  refine r_iload_n hc 3 (dc_at dL_law_1427 19 rfl) rfl ?_
  refine r_iconst (2 : Int32) hc (dc_at dL_law_1427 20 rfl) (by decide) ?_
  refine r_iadd hc (dc_at dL_law_1427 21 rfl) ?_
  refine r_sload hL hc (dc_at dL_law_1427 22 rfl) hf fun x6 hf => ?_
  obtain ⟨ho, hf⟩ := cO_some hf
  refine ob2 hf fun x7 h8 ex hf => ?_
  refine r_callVl (As := [.int x5, .int x6]) (ci := 10) hc hr (dc_at dL_law_1427 23 rfl) ml_L_154 mv_X10_rent vi_X10_rent rfl ho rfl (mt_X10_rent ex) (Nat.le_of_ble_eq_true rfl) (Nat.le_of_ble_eq_true rfl) (by first | exact Nat.le_of_ble_eq_true rfl | decide) hm hs ?_
  refine r_lcmp_eq (tgt := 1906) hc (dc_at dL_law_1427 24 rfl) (dc_at dL_law_1427 25 rfl) (by decide) hf (fun hf => ?_) (fun hf => ?_)
  · exact gg_sub [0, 1, 2, 3] rfl (t_law_1906 hc hr hL hm hs ih hf)
  · refine r_iconst (0 : Int32) hc (dc_at dL_law_1427 26 rfl) (by decide) ?_
    cases hf
def lL_law_810L : List (Nat × Instr × Nat × Nat) := [(810, .aload_n 1, 1, 811), (811, .aload_n 0, 1, 812), (812, .iload_n 3, 1, 813), (813, .iconst 1, 1, 814), (814, .iadd, 1, 815), (815, .iaload, 1, 816), (816, .aload_n 0, 1, 817), (817, .iload_n 3, 1, 818), (818, .iconst 2, 1, 819), (819, .iadd, 1, 820), (820, .iaload, 1, 821), (821, .invokevirtual 87, 3, 824), (824, .aload_n 2, 1, 825), (825, .aload_n 0, 1, 826), (826, .iload_n 3, 1, 827), (827, .iconst 1, 1, 828), (828, .iadd, 1, 829), (829, .iaload, 1, 830), (830, .aload_n 0, 1, 831), (831, .iload_n 3, 1, 832), (832, .iconst 2, 1, 833), (833, .iadd, 1, 834), (834, .iaload, 1, 835), (835, .invokevirtual 90, 3, 838), (838, .if_icmp .eq 1068, 3, 841), (841, .iconst 0, 1, 842), (842, .ireturn, 1, 843)]
set_option maxRecDepth 20000 in
theorem dL_law_810 : dcL cL_law lL_law_810L = true := by decide +kernel
def b_law_810 (F : Nat) (xs : Nat → Int32) (Ls : Nat) (self : Nat × Nat → PH → Nat → Nat → Int32 → Option Int32) (cs : Nat × Nat) (h : PH) (v1 : Nat) (v2 : Nat) (v3 : Int32) : Option Int32 := (scr xs Ls ((v3 + (1 : Int32)))).bind fun x1 => ((scr xs Ls ((v3 + (2 : Int32)))).bind fun x2 => (cO 9 h v1 (bind2 (m_X9_tells F h v1 x1 x2) fun x3 h4 => ((scr xs Ls ((v3 + (1 : Int32)))).bind fun x5 => ((scr xs Ls ((v3 + (2 : Int32)))).bind fun x6 => (cO 10 h4 v2 (bind2 (m_X10_tells F h4 v2 x5 x6) fun x7 h8 => (if x3 = x7 then (b_law_1906 F xs Ls self cs h8 v1 v2 v3) else (some (0 : Int32))))))))))
set_option maxRecDepth 20000 in
theorem t_law_810 {M : MV} {X : XT} {F : Nat} {xs : Nat → Int32} {Ls b : Nat} {self : Nat × Nat → PH → Nat → Nat → Int32 → Option Int32} {cs : Nat × Nat} {h : PH} {v1 : Nat} {v2 : Nat} {v3 : Int32} (hc : Cx M X R_law code) (hr : Rx M 2048 84000 600000 7302250 4) (hL : Lx M X xs Ls b) (hm : cs.1 ≤ 600000) (hs : cs.2 ≤ 7302250) (ih : ∀ (cs : Nat × Nat) (h : PH) (v1 : Nat) (v2 : Nat) (v3 : Int32), cs.1 ≤ 600000 → cs.2 ≤ 7302250 → self cs h v1 v2 v3 = some 1 → GG M X h cs.1 cs.2 18 [(0, .ref b), (1, .ref (X.1 + v1)), (2, .ref (X.1 + v2)), (3, .int v3)] []) (hf : b_law_810 F xs Ls self cs h v1 v2 v3 = some 1) : GG M X h cs.1 cs.2 810 [(0, .ref b), (1, .ref (X.1 + v1)), (2, .ref (X.1 + v2)), (3, .int v3)] [] := by
  unfold b_law_810 at hf
  refine r_aload_n hc 1 (dc_at dL_law_810 0 rfl) rfl ?_
  refine r_aload_n hc 0 (dc_at dL_law_810 1 rfl) rfl ?_
  refine r_iload_n hc 3 (dc_at dL_law_810 2 rfl) rfl ?_
  refine r_iconst (1 : Int32) hc (dc_at dL_law_810 3 rfl) (by decide) ?_
  refine r_iadd hc (dc_at dL_law_810 4 rfl) ?_
  refine r_sload hL hc (dc_at dL_law_810 5 rfl) hf fun x1 hf => ?_
  refine r_aload_n hc 0 (dc_at dL_law_810 6 rfl) rfl ?_
  refine r_iload_n hc 3 (dc_at dL_law_810 7 rfl) rfl ?_
  refine r_iconst (2 : Int32) hc (dc_at dL_law_810 8 rfl) (by decide) ?_
  refine r_iadd hc (dc_at dL_law_810 9 rfl) ?_
  refine r_sload hL hc (dc_at dL_law_810 10 rfl) hf fun x2 hf => ?_
  obtain ⟨ho, hf⟩ := cO_some hf
  refine ob2 hf fun x3 h4 ex hf => ?_
  refine r_callVi (As := [.int x1, .int x2]) (ci := 9) hc hr (dc_at dL_law_810 11 rfl) ml_L_87 mv_X9_tells vi_X9_tells rfl ho rfl (mt_X9_tells ex) (Nat.le_of_ble_eq_true rfl) (Nat.le_of_ble_eq_true rfl) (by first | exact Nat.le_of_ble_eq_true rfl | decide) hm hs ?_
  refine r_aload_n hc 2 (dc_at dL_law_810 12 rfl) rfl ?_
  refine r_aload_n hc 0 (dc_at dL_law_810 13 rfl) rfl ?_
  refine r_iload_n hc 3 (dc_at dL_law_810 14 rfl) rfl ?_
  refine r_iconst (1 : Int32) hc (dc_at dL_law_810 15 rfl) (by decide) ?_
  refine r_iadd hc (dc_at dL_law_810 16 rfl) ?_
  refine r_sload hL hc (dc_at dL_law_810 17 rfl) hf fun x5 hf => ?_
  refine r_aload_n hc 0 (dc_at dL_law_810 18 rfl) rfl ?_
  refine r_iload_n hc 3 (dc_at dL_law_810 19 rfl) rfl ?_
  refine r_iconst (2 : Int32) hc (dc_at dL_law_810 20 rfl) (by decide) ?_
  refine r_iadd hc (dc_at dL_law_810 21 rfl) ?_
  refine r_sload hL hc (dc_at dL_law_810 22 rfl) hf fun x6 hf => ?_
  obtain ⟨ho, hf⟩ := cO_some hf
  refine ob2 hf fun x7 h8 ex hf => ?_
  refine r_callVi (As := [.int x5, .int x6]) (ci := 10) hc hr (dc_at dL_law_810 23 rfl) ml_L_90 mv_X10_tells vi_X10_tells rfl ho rfl (mt_X10_tells ex) (Nat.le_of_ble_eq_true rfl) (Nat.le_of_ble_eq_true rfl) (by first | exact Nat.le_of_ble_eq_true rfl | decide) hm hs ?_
  refine r_icmp_eq (tgt := 1906) hc (dc_at dL_law_810 24 rfl) (by decide) hf (fun hf => ?_) (fun hf => ?_)
  · exact gg_sub [0, 1, 2, 3] rfl (t_law_1906 hc hr hL hm hs ih hf)
  · refine r_iconst (0 : Int32) hc (dc_at dL_law_810 25 rfl) (by decide) ?_
    cases hf
