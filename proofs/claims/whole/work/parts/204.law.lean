def lL_law_1008L : List (Nat × Instr × Nat × Nat) := [(1008, .aload_n 1, 1, 1009), (1009, .aload_n 0, 1, 1010), (1010, .iload_n 3, 1, 1011), (1011, .iconst 1, 1, 1012), (1012, .iadd, 1, 1013), (1013, .iaload, 1, 1014), (1014, .aload_n 0, 1, 1015), (1015, .iload_n 3, 1, 1016), (1016, .iconst 2, 1, 1017), (1017, .iadd, 1, 1018), (1018, .iaload, 1, 1019), (1019, .invokevirtual 112, 3, 1022), (1022, .aload_n 2, 1, 1023), (1023, .aload_n 0, 1, 1024), (1024, .iload_n 3, 1, 1025), (1025, .iconst 1, 1, 1026), (1026, .iadd, 1, 1027), (1027, .iaload, 1, 1028), (1028, .aload_n 0, 1, 1029), (1029, .iload_n 3, 1, 1030), (1030, .iconst 2, 1, 1031), (1031, .iadd, 1, 1032), (1032, .iaload, 1, 1033), (1033, .invokevirtual 115, 3, 1036), (1036, .if_icmp .eq 870, 3, 1039), (1039, .iconst 0, 1, 1040), (1040, .ireturn, 1, 1041)]
set_option maxRecDepth 20000 in
theorem dL_law_1008 : dcL cL_law lL_law_1008L = true := by decide +kernel
def b_law_1008 (F : Nat) (xs : Nat → Int32) (Ls : Nat) (self : Nat × Nat → PH → Nat → Nat → Int32 → Option Int32) (cs : Nat × Nat) (h : PH) (v1 : Nat) (v2 : Nat) (v3 : Int32) : Option Int32 := (scr xs Ls ((v3 + (1 : Int32)))).bind fun x1 => ((scr xs Ls ((v3 + (2 : Int32)))).bind fun x2 => (cO 9 h v1 (bind2 (m_X9_shown F h v1 x1 x2) fun x3 h4 => ((scr xs Ls ((v3 + (1 : Int32)))).bind fun x5 => ((scr xs Ls ((v3 + (2 : Int32)))).bind fun x6 => (cO 10 h4 v2 (bind2 (m_X10_shown F h4 v2 x5 x6) fun x7 h8 => (if x3 = x7 then (b_law_1906 F xs Ls self cs h8 v1 v2 v3) else (some (0 : Int32))))))))))
set_option maxRecDepth 20000 in
theorem t_law_1008 {M : MV} {X : XT} {F : Nat} {xs : Nat → Int32} {Ls b : Nat} {self : Nat × Nat → PH → Nat → Nat → Int32 → Option Int32} {cs : Nat × Nat} {h : PH} {v1 : Nat} {v2 : Nat} {v3 : Int32} (hc : Cx M X R_law code) (hr : Rx M 2048 84000 600000 7302250 4) (hL : Lx M X xs Ls b) (hm : cs.1 ≤ 600000) (hs : cs.2 ≤ 7302250) (ih : ∀ (cs : Nat × Nat) (h : PH) (v1 : Nat) (v2 : Nat) (v3 : Int32), cs.1 ≤ 600000 → cs.2 ≤ 7302250 → self cs h v1 v2 v3 = some 1 → GG M X h cs.1 cs.2 18 [(0, .ref b), (1, .ref (X.1 + v1)), (2, .ref (X.1 + v2)), (3, .int v3)] []) (hf : b_law_1008 F xs Ls self cs h v1 v2 v3 = some 1) : GG M X h cs.1 cs.2 1008 [(0, .ref b), (1, .ref (X.1 + v1)), (2, .ref (X.1 + v2)), (3, .int v3)] [] := by
  unfold b_law_1008 at hf
  refine r_aload_n hc 1 (dc_at dL_law_1008 0 rfl) rfl ?_
  refine r_aload_n hc 0 (dc_at dL_law_1008 1 rfl) rfl ?_
  refine r_iload_n hc 3 (dc_at dL_law_1008 2 rfl) rfl ?_
  refine r_iconst (1 : Int32) hc (dc_at dL_law_1008 3 rfl) (by decide) ?_
  refine r_iadd hc (dc_at dL_law_1008 4 rfl) ?_
  refine r_sload hL hc (dc_at dL_law_1008 5 rfl) hf fun x1 hf => ?_
  refine r_aload_n hc 0 (dc_at dL_law_1008 6 rfl) rfl ?_
  refine r_iload_n hc 3 (dc_at dL_law_1008 7 rfl) rfl ?_
  refine r_iconst (2 : Int32) hc (dc_at dL_law_1008 8 rfl) (by decide) ?_
  refine r_iadd hc (dc_at dL_law_1008 9 rfl) ?_
  refine r_sload hL hc (dc_at dL_law_1008 10 rfl) hf fun x2 hf => ?_
  obtain ⟨ho, hf⟩ := cO_some hf
  refine ob2 hf fun x3 h4 ex hf => ?_
  refine r_callVi (As := [.int x1, .int x2]) (ci := 9) hc hr (dc_at dL_law_1008 11 rfl) ml_L_112 mv_X9_shown vi_X9_shown rfl ho rfl (mt_X9_shown ex) (Nat.le_of_ble_eq_true rfl) (Nat.le_of_ble_eq_true rfl) (by first | exact Nat.le_of_ble_eq_true rfl | decide) hm hs ?_
  refine r_aload_n hc 2 (dc_at dL_law_1008 12 rfl) rfl ?_
  refine r_aload_n hc 0 (dc_at dL_law_1008 13 rfl) rfl ?_
  refine r_iload_n hc 3 (dc_at dL_law_1008 14 rfl) rfl ?_
  refine r_iconst (1 : Int32) hc (dc_at dL_law_1008 15 rfl) (by decide) ?_
  refine r_iadd hc (dc_at dL_law_1008 16 rfl) ?_
  refine r_sload hL hc (dc_at dL_law_1008 17 rfl) hf fun x5 hf => ?_
  refine r_aload_n hc 0 (dc_at dL_law_1008 18 rfl) rfl ?_
  refine r_iload_n hc 3 (dc_at dL_law_1008 19 rfl) rfl ?_
  refine r_iconst (2 : Int32) hc (dc_at dL_law_1008 20 rfl) (by decide) ?_
  refine r_iadd hc (dc_at dL_law_1008 21 rfl) ?_
  refine r_sload hL hc (dc_at dL_law_1008 22 rfl) hf fun x6 hf => ?_
  obtain ⟨ho, hf⟩ := cO_some hf
  refine ob2 hf fun x7 h8 ex hf => ?_
  refine r_callVi (As := [.int x5, .int x6]) (ci := 10) hc hr (dc_at dL_law_1008 23 rfl) ml_L_115 mv_X10_shown vi_X10_shown rfl ho rfl (mt_X10_shown ex) (Nat.le_of_ble_eq_true rfl) (Nat.le_of_ble_eq_true rfl) (by first | exact Nat.le_of_ble_eq_true rfl | decide) hm hs ?_
  refine r_icmp_eq (tgt := 1906) hc (dc_at dL_law_1008 24 rfl) (by decide) hf (fun hf => ?_) (fun hf => ?_)
  · exact gg_sub [0, 1, 2, 3] rfl (t_law_1906 hc hr hL hm hs ih hf)
  · refine r_iconst (0 : Int32) hc (dc_at dL_law_1008 25 rfl) (by decide) ?_
    cases hf
def lL_law_1318L : List (Nat × Instr × Nat × Nat) := [(1318, .aload_n 1, 1, 1319), (1319, .aload_n 0, 1, 1320), (1320, .iload_n 3, 1, 1321), (1321, .iconst 1, 1, 1322), (1322, .iadd, 1, 1323), (1323, .iaload, 1, 1324), (1324, .invokevirtual 138, 3, 1327), (1327, .aload_n 2, 1, 1328), (1328, .aload_n 0, 1, 1329), (1329, .iload_n 3, 1, 1330), (1330, .iconst 1, 1, 1331), (1331, .iadd, 1, 1332), (1332, .iaload, 1, 1333), (1333, .invokevirtual 141, 3, 1336), (1336, .if_icmp .eq 570, 3, 1339), (1339, .iconst 0, 1, 1340), (1340, .ireturn, 1, 1341)]
set_option maxRecDepth 20000 in
theorem dL_law_1318 : dcL cL_law lL_law_1318L = true := by decide +kernel
def b_law_1318 (F : Nat) (xs : Nat → Int32) (Ls : Nat) (self : Nat × Nat → PH → Nat → Nat → Int32 → Option Int32) (cs : Nat × Nat) (h : PH) (v1 : Nat) (v2 : Nat) (v3 : Int32) : Option Int32 := (scr xs Ls ((v3 + (1 : Int32)))).bind fun x1 => (cO 9 h v1 (bind2 (m_X9_floors F h v1 x1) fun x2 h3 => ((scr xs Ls ((v3 + (1 : Int32)))).bind fun x4 => (cO 10 h3 v2 (bind2 (m_X10_floors F h3 v2 x4) fun x5 h6 => (if x2 = x5 then (b_law_1906 F xs Ls self cs h6 v1 v2 v3) else (some (0 : Int32))))))))
set_option maxRecDepth 20000 in
theorem t_law_1318 {M : MV} {X : XT} {F : Nat} {xs : Nat → Int32} {Ls b : Nat} {self : Nat × Nat → PH → Nat → Nat → Int32 → Option Int32} {cs : Nat × Nat} {h : PH} {v1 : Nat} {v2 : Nat} {v3 : Int32} (hc : Cx M X R_law code) (hr : Rx M 2048 84000 600000 7302250 4) (hL : Lx M X xs Ls b) (hm : cs.1 ≤ 600000) (hs : cs.2 ≤ 7302250) (ih : ∀ (cs : Nat × Nat) (h : PH) (v1 : Nat) (v2 : Nat) (v3 : Int32), cs.1 ≤ 600000 → cs.2 ≤ 7302250 → self cs h v1 v2 v3 = some 1 → GG M X h cs.1 cs.2 18 [(0, .ref b), (1, .ref (X.1 + v1)), (2, .ref (X.1 + v2)), (3, .int v3)] []) (hf : b_law_1318 F xs Ls self cs h v1 v2 v3 = some 1) : GG M X h cs.1 cs.2 1318 [(0, .ref b), (1, .ref (X.1 + v1)), (2, .ref (X.1 + v2)), (3, .int v3)] [] := by
  unfold b_law_1318 at hf
  refine r_aload_n hc 1 (dc_at dL_law_1318 0 rfl) rfl ?_
  refine r_aload_n hc 0 (dc_at dL_law_1318 1 rfl) rfl ?_
  refine r_iload_n hc 3 (dc_at dL_law_1318 2 rfl) rfl ?_
  refine r_iconst (1 : Int32) hc (dc_at dL_law_1318 3 rfl) (by decide) ?_
  refine r_iadd hc (dc_at dL_law_1318 4 rfl) ?_
  refine r_sload hL hc (dc_at dL_law_1318 5 rfl) hf fun x1 hf => ?_
  obtain ⟨ho, hf⟩ := cO_some hf
  refine ob2 hf fun x2 h3 ex hf => ?_
  refine r_callVi (As := [.int x1]) (ci := 9) hc hr (dc_at dL_law_1318 6 rfl) ml_L_138 mv_X9_floors vi_X9_floors rfl ho rfl (mt_X9_floors ex) (Nat.le_of_ble_eq_true rfl) (Nat.le_of_ble_eq_true rfl) (by first | exact Nat.le_of_ble_eq_true rfl | decide) hm hs ?_
  refine r_aload_n hc 2 (dc_at dL_law_1318 7 rfl) rfl ?_
  refine r_aload_n hc 0 (dc_at dL_law_1318 8 rfl) rfl ?_
  refine r_iload_n hc 3 (dc_at dL_law_1318 9 rfl) rfl ?_
  refine r_iconst (1 : Int32) hc (dc_at dL_law_1318 10 rfl) (by decide) ?_
  refine r_iadd hc (dc_at dL_law_1318 11 rfl) ?_
  refine r_sload hL hc (dc_at dL_law_1318 12 rfl) hf fun x4 hf => ?_
  obtain ⟨ho, hf⟩ := cO_some hf
  refine ob2 hf fun x5 h6 ex hf => ?_
  refine r_callVi (As := [.int x4]) (ci := 10) hc hr (dc_at dL_law_1318 13 rfl) ml_L_141 mv_X10_floors vi_X10_floors rfl ho rfl (mt_X10_floors ex) (Nat.le_of_ble_eq_true rfl) (Nat.le_of_ble_eq_true rfl) (by first | exact Nat.le_of_ble_eq_true rfl | decide) hm hs ?_
  refine r_icmp_eq (tgt := 1906) hc (dc_at dL_law_1318 14 rfl) (by decide) hf (fun hf => ?_) (fun hf => ?_)
  · exact gg_sub [0, 1, 2, 3] rfl (t_law_1906 hc hr hL hm hs ih hf)
  · refine r_iconst (0 : Int32) hc (dc_at dL_law_1318 15 rfl) (by decide) ?_
    cases hf
