def lL_law_1255L : List (Nat × Instr × Nat × Nat) := [(1255, .aload_n 1, 1, 1256), (1256, .aload_n 0, 1, 1257), (1257, .iload_n 3, 1, 1258), (1258, .iconst 1, 1, 1259), (1259, .iadd, 1, 1260), (1260, .iaload, 1, 1261), (1261, .aload_n 0, 1, 1262), (1262, .iload_n 3, 1, 1263), (1263, .iconst 2, 1, 1264), (1264, .iadd, 1, 1265), (1265, .iaload, 1, 1266), (1266, .aload_n 0, 1, 1267), (1267, .iload_n 3, 1, 1268), (1268, .iconst 3, 1, 1269), (1269, .iadd, 1, 1270), (1270, .iaload, 1, 1271), (1271, .aload_n 0, 1, 1272), (1272, .iload_n 3, 1, 1273), (1273, .iconst 4, 1, 1274), (1274, .iadd, 1, 1275), (1275, .iaload, 1, 1276), (1276, .aload_n 0, 1, 1277), (1277, .iload_n 3, 1, 1278), (1278, .iconst 5, 1, 1279), (1279, .iadd, 1, 1280), (1280, .iaload, 1, 1281), (1281, .invokevirtual 134, 3, 1284), (1284, .aload_n 2, 1, 1285), (1285, .aload_n 0, 1, 1286), (1286, .iload_n 3, 1, 1287), (1287, .iconst 1, 1, 1288), (1288, .iadd, 1, 1289), (1289, .iaload, 1, 1290), (1290, .aload_n 0, 1, 1291), (1291, .iload_n 3, 1, 1292), (1292, .iconst 2, 1, 1293), (1293, .iadd, 1, 1294), (1294, .iaload, 1, 1295), (1295, .aload_n 0, 1, 1296), (1296, .iload_n 3, 1, 1297), (1297, .iconst 3, 1, 1298), (1298, .iadd, 1, 1299), (1299, .iaload, 1, 1300), (1300, .aload_n 0, 1, 1301), (1301, .iload_n 3, 1, 1302), (1302, .iconst 4, 1, 1303), (1303, .iadd, 1, 1304), (1304, .iaload, 1, 1305), (1305, .aload_n 0, 1, 1306), (1306, .iload_n 3, 1, 1307), (1307, .iconst 5, 1, 1308), (1308, .iadd, 1, 1309), (1309, .iaload, 1, 1310), (1310, .invokevirtual 137, 3, 1313), (1313, .if_icmp .eq 593, 3, 1316), (1316, .iconst 0, 1, 1317), (1317, .ireturn, 1, 1318)]
set_option maxRecDepth 20000 in
theorem dL_law_1255 : dcL cL_law lL_law_1255L = true := by decide +kernel
def b_law_1255 (F : Nat) (xs : Nat → Int32) (Ls : Nat) (self : Nat × Nat → PH → Nat → Nat → Int32 → Option Int32) (cs : Nat × Nat) (h : PH) (v1 : Nat) (v2 : Nat) (v3 : Int32) : Option Int32 := (scr xs Ls ((v3 + (1 : Int32)))).bind fun x1 => ((scr xs Ls ((v3 + (2 : Int32)))).bind fun x2 => ((scr xs Ls ((v3 + (3 : Int32)))).bind fun x3 => ((scr xs Ls ((v3 + (4 : Int32)))).bind fun x4 => ((scr xs Ls ((v3 + (5 : Int32)))).bind fun x5 => (cO 9 h v1 (bind2 (m_X9_simplest F h v1 x1 x2 x3 x4 x5) fun x6 h7 => ((scr xs Ls ((v3 + (1 : Int32)))).bind fun x8 => ((scr xs Ls ((v3 + (2 : Int32)))).bind fun x9 => ((scr xs Ls ((v3 + (3 : Int32)))).bind fun x10 => ((scr xs Ls ((v3 + (4 : Int32)))).bind fun x11 => ((scr xs Ls ((v3 + (5 : Int32)))).bind fun x12 => (cO 10 h7 v2 (bind2 (m_X10_simplest F h7 v2 x8 x9 x10 x11 x12) fun x13 h14 => (if x6 = x13 then (b_law_1906 F xs Ls self cs h14 v1 v2 v3) else (some (0 : Int32))))))))))))))))
set_option maxRecDepth 20000 in
theorem t_law_1255 {M : MV} {X : XT} {F : Nat} {xs : Nat → Int32} {Ls b : Nat} {self : Nat × Nat → PH → Nat → Nat → Int32 → Option Int32} {cs : Nat × Nat} {h : PH} {v1 : Nat} {v2 : Nat} {v3 : Int32} (hc : Cx M X R_law code) (hr : Rx M 2048 84000 600000 7302250 4) (hL : Lx M X xs Ls b) (hm : cs.1 ≤ 600000) (hs : cs.2 ≤ 7302250) (ih : ∀ (cs : Nat × Nat) (h : PH) (v1 : Nat) (v2 : Nat) (v3 : Int32), cs.1 ≤ 600000 → cs.2 ≤ 7302250 → self cs h v1 v2 v3 = some 1 → GG M X h cs.1 cs.2 18 [(0, .ref b), (1, .ref (X.1 + v1)), (2, .ref (X.1 + v2)), (3, .int v3)] []) (hf : b_law_1255 F xs Ls self cs h v1 v2 v3 = some 1) : GG M X h cs.1 cs.2 1255 [(0, .ref b), (1, .ref (X.1 + v1)), (2, .ref (X.1 + v2)), (3, .int v3)] [] := by
  unfold b_law_1255 at hf
  refine r_aload_n hc 1 (dc_at dL_law_1255 0 rfl) rfl ?_
  refine r_aload_n hc 0 (dc_at dL_law_1255 1 rfl) rfl ?_
  refine r_iload_n hc 3 (dc_at dL_law_1255 2 rfl) rfl ?_
  refine r_iconst (1 : Int32) hc (dc_at dL_law_1255 3 rfl) (by decide) ?_
  refine r_iadd hc (dc_at dL_law_1255 4 rfl) ?_
  refine r_sload hL hc (dc_at dL_law_1255 5 rfl) hf fun x1 hf => ?_
  refine r_aload_n hc 0 (dc_at dL_law_1255 6 rfl) rfl ?_
  refine r_iload_n hc 3 (dc_at dL_law_1255 7 rfl) rfl ?_
  refine r_iconst (2 : Int32) hc (dc_at dL_law_1255 8 rfl) (by decide) ?_
  refine r_iadd hc (dc_at dL_law_1255 9 rfl) ?_
  refine r_sload hL hc (dc_at dL_law_1255 10 rfl) hf fun x2 hf => ?_
  refine r_aload_n hc 0 (dc_at dL_law_1255 11 rfl) rfl ?_
  refine r_iload_n hc 3 (dc_at dL_law_1255 12 rfl) rfl ?_
  refine r_iconst (3 : Int32) hc (dc_at dL_law_1255 13 rfl) (by decide) ?_
  refine r_iadd hc (dc_at dL_law_1255 14 rfl) ?_
  refine r_sload hL hc (dc_at dL_law_1255 15 rfl) hf fun x3 hf => ?_
  refine r_aload_n hc 0 (dc_at dL_law_1255 16 rfl) rfl ?_
  refine r_iload_n hc 3 (dc_at dL_law_1255 17 rfl) rfl ?_
  refine r_iconst (4 : Int32) hc (dc_at dL_law_1255 18 rfl) (by decide) ?_
  refine r_iadd hc (dc_at dL_law_1255 19 rfl) ?_
  refine r_sload hL hc (dc_at dL_law_1255 20 rfl) hf fun x4 hf => ?_
  refine r_aload_n hc 0 (dc_at dL_law_1255 21 rfl) rfl ?_
  refine r_iload_n hc 3 (dc_at dL_law_1255 22 rfl) rfl ?_
  refine r_iconst (5 : Int32) hc (dc_at dL_law_1255 23 rfl) (by decide) ?_
  refine r_iadd hc (dc_at dL_law_1255 24 rfl) ?_
  refine r_sload hL hc (dc_at dL_law_1255 25 rfl) hf fun x5 hf => ?_
  obtain ⟨ho, hf⟩ := cO_some hf
  refine ob2 hf fun x6 h7 ex hf => ?_
  refine r_callVi (As := [.int x1, .int x2, .int x3, .int x4, .int x5]) (ci := 9) hc hr (dc_at dL_law_1255 26 rfl) ml_L_134 mv_X9_simplest vi_X9_simplest rfl ho rfl (mt_X9_simplest ex) (Nat.le_of_ble_eq_true rfl) (Nat.le_of_ble_eq_true rfl) (by first | exact Nat.le_of_ble_eq_true rfl | decide) hm hs ?_
  refine r_aload_n hc 2 (dc_at dL_law_1255 27 rfl) rfl ?_
  refine r_aload_n hc 0 (dc_at dL_law_1255 28 rfl) rfl ?_
  refine r_iload_n hc 3 (dc_at dL_law_1255 29 rfl) rfl ?_
  refine r_iconst (1 : Int32) hc (dc_at dL_law_1255 30 rfl) (by decide) ?_
  refine r_iadd hc (dc_at dL_law_1255 31 rfl) ?_
  refine r_sload hL hc (dc_at dL_law_1255 32 rfl) hf fun x8 hf => ?_
  refine r_aload_n hc 0 (dc_at dL_law_1255 33 rfl) rfl ?_
  refine r_iload_n hc 3 (dc_at dL_law_1255 34 rfl) rfl ?_
  refine r_iconst (2 : Int32) hc (dc_at dL_law_1255 35 rfl) (by decide) ?_
  refine r_iadd hc (dc_at dL_law_1255 36 rfl) ?_
  refine r_sload hL hc (dc_at dL_law_1255 37 rfl) hf fun x9 hf => ?_
  refine r_aload_n hc 0 (dc_at dL_law_1255 38 rfl) rfl ?_
  refine r_iload_n hc 3 (dc_at dL_law_1255 39 rfl) rfl ?_
  refine r_iconst (3 : Int32) hc (dc_at dL_law_1255 40 rfl) (by decide) ?_
  refine r_iadd hc (dc_at dL_law_1255 41 rfl) ?_
  refine r_sload hL hc (dc_at dL_law_1255 42 rfl) hf fun x10 hf => ?_
  refine r_aload_n hc 0 (dc_at dL_law_1255 43 rfl) rfl ?_
  refine r_iload_n hc 3 (dc_at dL_law_1255 44 rfl) rfl ?_
  refine r_iconst (4 : Int32) hc (dc_at dL_law_1255 45 rfl) (by decide) ?_
  refine r_iadd hc (dc_at dL_law_1255 46 rfl) ?_
  refine r_sload hL hc (dc_at dL_law_1255 47 rfl) hf fun x11 hf => ?_
  refine r_aload_n hc 0 (dc_at dL_law_1255 48 rfl) rfl ?_
  refine r_iload_n hc 3 (dc_at dL_law_1255 49 rfl) rfl ?_
  refine r_iconst (5 : Int32) hc (dc_at dL_law_1255 50 rfl) (by decide) ?_
  refine r_iadd hc (dc_at dL_law_1255 51 rfl) ?_
  refine r_sload hL hc (dc_at dL_law_1255 52 rfl) hf fun x12 hf => ?_
  obtain ⟨ho, hf⟩ := cO_some hf
  refine ob2 hf fun x13 h14 ex hf => ?_
  refine r_callVi (As := [.int x8, .int x9, .int x10, .int x11, .int x12]) (ci := 10) hc hr (dc_at dL_law_1255 53 rfl) ml_L_137 mv_X10_simplest vi_X10_simplest rfl ho rfl (mt_X10_simplest ex) (Nat.le_of_ble_eq_true rfl) (Nat.le_of_ble_eq_true rfl) (by first | exact Nat.le_of_ble_eq_true rfl | decide) hm hs ?_
  refine r_icmp_eq (tgt := 1906) hc (dc_at dL_law_1255 54 rfl) (by decide) hf (fun hf => ?_) (fun hf => ?_)
  · exact gg_sub [0, 1, 2, 3] rfl (t_law_1906 hc hr hL hm hs ih hf)
  · refine r_iconst (0 : Int32) hc (dc_at dL_law_1255 55 rfl) (by decide) ?_
    cases hf
