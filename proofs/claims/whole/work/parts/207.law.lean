def lL_law_1242L : List (Nat × Instr × Nat × Nat) := [(1242, .aload_n 0, 1, 1243), (1243, .iload_n 3, 1, 1244), (1244, .iconst 5, 1, 1245), (1245, .iadd, 1, 1246), (1246, .iaload, 1, 1247), (1247, .invokevirtual 133, 3, 1250), (1250, .if_icmp .eq 656, 3, 1253), (1253, .iconst 0, 1, 1254), (1254, .ireturn, 1, 1255)]
set_option maxRecDepth 20000 in
theorem dL_law_1242 : dcL cL_law lL_law_1242L = true := by decide +kernel
def b_law_1242 (F : Nat) (xs : Nat → Int32) (Ls : Nat) (self : Nat × Nat → PH → Nat → Nat → Int32 → Option Int32) (cs : Nat × Nat) (h : PH) (v1 : Nat) (v2 : Nat) (v3 : Int32) (s0 : Int32) (s1 : Nat) (s2 : Int32) (s3 : Int32) (s4 : Int32) (s5 : Int32) : Option Int32 := (scr xs Ls ((v3 + (5 : Int32)))).bind fun x1 => (cO 10 h s1 (bind2 (m_X10_neighbour F h s1 s2 s3 s4 s5 x1) fun x2 h3 => (if s0 = x2 then (b_law_1906 F xs Ls self cs h3 v1 v2 v3) else (some (0 : Int32)))))
set_option maxRecDepth 20000 in
theorem t_law_1242 {M : MV} {X : XT} {F : Nat} {xs : Nat → Int32} {Ls b : Nat} {self : Nat × Nat → PH → Nat → Nat → Int32 → Option Int32} {cs : Nat × Nat} {h : PH} {v1 : Nat} {v2 : Nat} {v3 : Int32} {s0 : Int32} {s1 : Nat} {s2 : Int32} {s3 : Int32} {s4 : Int32} {s5 : Int32} (hc : Cx M X R_law code) (hr : Rx M 2048 84000 600000 7302250 4) (hL : Lx M X xs Ls b) (hm : cs.1 ≤ 600000) (hs : cs.2 ≤ 7302250) (ih : ∀ (cs : Nat × Nat) (h : PH) (v1 : Nat) (v2 : Nat) (v3 : Int32), cs.1 ≤ 600000 → cs.2 ≤ 7302250 → self cs h v1 v2 v3 = some 1 → GG M X h cs.1 cs.2 18 [(0, .ref b), (1, .ref (X.1 + v1)), (2, .ref (X.1 + v2)), (3, .int v3)] []) (hf : b_law_1242 F xs Ls self cs h v1 v2 v3 s0 s1 s2 s3 s4 s5 = some 1) : GG M X h cs.1 cs.2 1242 [(0, .ref b), (1, .ref (X.1 + v1)), (2, .ref (X.1 + v2)), (3, .int v3)] [.int s5, .int s4, .int s3, .int s2, .ref (X.1 + s1), .int s0] := by
  unfold b_law_1242 at hf
  refine r_aload_n hc 0 (dc_at dL_law_1242 0 rfl) rfl ?_
  refine r_iload_n hc 3 (dc_at dL_law_1242 1 rfl) rfl ?_
  refine r_iconst (5 : Int32) hc (dc_at dL_law_1242 2 rfl) (by decide) ?_
  refine r_iadd hc (dc_at dL_law_1242 3 rfl) ?_
  refine r_sload hL hc (dc_at dL_law_1242 4 rfl) hf fun x1 hf => ?_
  obtain ⟨ho, hf⟩ := cO_some hf
  refine ob2 hf fun x2 h3 ex hf => ?_
  refine r_callVi (As := [.int s2, .int s3, .int s4, .int s5, .int x1]) (ci := 10) hc hr (dc_at dL_law_1242 5 rfl) ml_L_133 mv_X10_neighbour vi_X10_neighbour rfl ho rfl (mt_X10_neighbour ex) (Nat.le_of_ble_eq_true rfl) (Nat.le_of_ble_eq_true rfl) (by first | exact Nat.le_of_ble_eq_true rfl | decide) hm hs ?_
  refine r_icmp_eq (tgt := 1906) hc (dc_at dL_law_1242 6 rfl) (by decide) hf (fun hf => ?_) (fun hf => ?_)
  · exact gg_sub [0, 1, 2, 3] rfl (t_law_1906 hc hr hL hm hs ih hf)
  · refine r_iconst (0 : Int32) hc (dc_at dL_law_1242 7 rfl) (by decide) ?_
    cases hf
def lL_law_1205L : List (Nat × Instr × Nat × Nat) := [(1205, .aload_n 0, 1, 1206), (1206, .iload_n 3, 1, 1207), (1207, .iconst 5, 1, 1208), (1208, .iadd, 1, 1209), (1209, .iaload, 1, 1210), (1210, .invokevirtual 129, 3, 1213), (1213, .aload_n 2, 1, 1214), (1214, .aload_n 0, 1, 1215), (1215, .iload_n 3, 1, 1216), (1216, .iconst 1, 1, 1217), (1217, .iadd, 1, 1218), (1218, .iaload, 1, 1219), (1219, .aload_n 0, 1, 1220), (1220, .iload_n 3, 1, 1221), (1221, .iconst 2, 1, 1222), (1222, .iadd, 1, 1223), (1223, .iaload, 1, 1224), (1224, .aload_n 0, 1, 1225), (1225, .iload_n 3, 1, 1226), (1226, .iconst 3, 1, 1227), (1227, .iadd, 1, 1228), (1228, .iaload, 1, 1229), (1229, .aload_n 0, 1, 1230), (1230, .iload_n 3, 1, 1231), (1231, .iconst 4, 1, 1232), (1232, .iadd, 1, 1233), (1233, .iaload, 1, 1234), (1234, .ifCond .eq 7, 3, 1237), (1241, .iconst 0, 1, 1242), (1237, .iconst 1, 1, 1238), (1238, .goto 4, 3, 1241)]
set_option maxRecDepth 20000 in
theorem dL_law_1205 : dcL cL_law lL_law_1205L = true := by decide +kernel
def b_law_1205 (F : Nat) (xs : Nat → Int32) (Ls : Nat) (self : Nat × Nat → PH → Nat → Nat → Int32 → Option Int32) (cs : Nat × Nat) (h : PH) (v1 : Nat) (v2 : Nat) (v3 : Int32) (s0 : Nat) (s1 : Int32) (s2 : Int32) (s3 : Int32) (s4 : Int32) : Option Int32 := (scr xs Ls ((v3 + (5 : Int32)))).bind fun x1 => (cO 9 h s0 (bind2 (m_X9_neighbour F h s0 s1 s2 s3 s4 x1) fun x2 h3 => ((scr xs Ls ((v3 + (1 : Int32)))).bind fun x4 => ((scr xs Ls ((v3 + (2 : Int32)))).bind fun x5 => ((scr xs Ls ((v3 + (3 : Int32)))).bind fun x6 => ((scr xs Ls ((v3 + (4 : Int32)))).bind fun x7 => (if x7 = 0 then (b_law_1242 F xs Ls self cs h3 v1 v2 v3 x2 v2 x4 x5 x6 (0 : Int32)) else (b_law_1242 F xs Ls self cs h3 v1 v2 v3 x2 v2 x4 x5 x6 (1 : Int32)))))))))
set_option maxRecDepth 20000 in
theorem t_law_1205 {M : MV} {X : XT} {F : Nat} {xs : Nat → Int32} {Ls b : Nat} {self : Nat × Nat → PH → Nat → Nat → Int32 → Option Int32} {cs : Nat × Nat} {h : PH} {v1 : Nat} {v2 : Nat} {v3 : Int32} {s0 : Nat} {s1 : Int32} {s2 : Int32} {s3 : Int32} {s4 : Int32} (hc : Cx M X R_law code) (hr : Rx M 2048 84000 600000 7302250 4) (hL : Lx M X xs Ls b) (hm : cs.1 ≤ 600000) (hs : cs.2 ≤ 7302250) (ih : ∀ (cs : Nat × Nat) (h : PH) (v1 : Nat) (v2 : Nat) (v3 : Int32), cs.1 ≤ 600000 → cs.2 ≤ 7302250 → self cs h v1 v2 v3 = some 1 → GG M X h cs.1 cs.2 18 [(0, .ref b), (1, .ref (X.1 + v1)), (2, .ref (X.1 + v2)), (3, .int v3)] []) (hf : b_law_1205 F xs Ls self cs h v1 v2 v3 s0 s1 s2 s3 s4 = some 1) : GG M X h cs.1 cs.2 1205 [(0, .ref b), (1, .ref (X.1 + v1)), (2, .ref (X.1 + v2)), (3, .int v3)] [.int s4, .int s3, .int s2, .int s1, .ref (X.1 + s0)] := by
  unfold b_law_1205 at hf
  refine r_aload_n hc 0 (dc_at dL_law_1205 0 rfl) rfl ?_
  refine r_iload_n hc 3 (dc_at dL_law_1205 1 rfl) rfl ?_
  refine r_iconst (5 : Int32) hc (dc_at dL_law_1205 2 rfl) (by decide) ?_
  refine r_iadd hc (dc_at dL_law_1205 3 rfl) ?_
  refine r_sload hL hc (dc_at dL_law_1205 4 rfl) hf fun x1 hf => ?_
  obtain ⟨ho, hf⟩ := cO_some hf
  refine ob2 hf fun x2 h3 ex hf => ?_
  refine r_callVi (As := [.int s1, .int s2, .int s3, .int s4, .int x1]) (ci := 9) hc hr (dc_at dL_law_1205 5 rfl) ml_L_129 mv_X9_neighbour vi_X9_neighbour rfl ho rfl (mt_X9_neighbour ex) (Nat.le_of_ble_eq_true rfl) (Nat.le_of_ble_eq_true rfl) (by first | exact Nat.le_of_ble_eq_true rfl | decide) hm hs ?_
  refine r_aload_n hc 2 (dc_at dL_law_1205 6 rfl) rfl ?_
  refine r_aload_n hc 0 (dc_at dL_law_1205 7 rfl) rfl ?_
  refine r_iload_n hc 3 (dc_at dL_law_1205 8 rfl) rfl ?_
  refine r_iconst (1 : Int32) hc (dc_at dL_law_1205 9 rfl) (by decide) ?_
  refine r_iadd hc (dc_at dL_law_1205 10 rfl) ?_
  refine r_sload hL hc (dc_at dL_law_1205 11 rfl) hf fun x4 hf => ?_
  refine r_aload_n hc 0 (dc_at dL_law_1205 12 rfl) rfl ?_
  refine r_iload_n hc 3 (dc_at dL_law_1205 13 rfl) rfl ?_
  refine r_iconst (2 : Int32) hc (dc_at dL_law_1205 14 rfl) (by decide) ?_
  refine r_iadd hc (dc_at dL_law_1205 15 rfl) ?_
  refine r_sload hL hc (dc_at dL_law_1205 16 rfl) hf fun x5 hf => ?_
  refine r_aload_n hc 0 (dc_at dL_law_1205 17 rfl) rfl ?_
  refine r_iload_n hc 3 (dc_at dL_law_1205 18 rfl) rfl ?_
  refine r_iconst (3 : Int32) hc (dc_at dL_law_1205 19 rfl) (by decide) ?_
  refine r_iadd hc (dc_at dL_law_1205 20 rfl) ?_
  refine r_sload hL hc (dc_at dL_law_1205 21 rfl) hf fun x6 hf => ?_
  refine r_aload_n hc 0 (dc_at dL_law_1205 22 rfl) rfl ?_
  refine r_iload_n hc 3 (dc_at dL_law_1205 23 rfl) rfl ?_
  refine r_iconst (4 : Int32) hc (dc_at dL_law_1205 24 rfl) (by decide) ?_
  refine r_iadd hc (dc_at dL_law_1205 25 rfl) ?_
  refine r_sload hL hc (dc_at dL_law_1205 26 rfl) hf fun x7 hf => ?_
  refine r_if_eq (tgt := 1241) hc (dc_at dL_law_1205 27 rfl) (by decide) hf (fun hf => ?_) (fun hf => ?_)
  · refine r_iconst (0 : Int32) hc (dc_at dL_law_1205 28 rfl) (by decide) ?_
    exact gg_sub [0, 1, 2, 3] rfl (t_law_1242 hc hr hL hm hs ih hf)
  · refine r_iconst (1 : Int32) hc (dc_at dL_law_1205 29 rfl) (by decide) ?_
    refine r_goto (tgt := 1242) hc (dc_at dL_law_1205 30 rfl) (by decide) ?_
    exact gg_sub [0, 1, 2, 3] rfl (t_law_1242 hc hr hL hm hs ih hf)
