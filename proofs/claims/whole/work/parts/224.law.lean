def lL_law_322L : List (Nat × Instr × Nat × Nat) := [(322, .aload_n 1, 1, 323), (323, .aload_n 0, 1, 324), (324, .iload_n 3, 1, 325), (325, .iconst 1, 1, 326), (326, .iadd, 1, 327), (327, .iaload, 1, 328), (328, .invokevirtual 23, 3, 331), (331, .aload_n 2, 1, 332), (332, .aload_n 0, 1, 333), (333, .iload_n 3, 1, 334), (334, .iconst 1, 1, 335), (335, .iadd, 1, 336), (336, .iaload, 1, 337), (337, .invokevirtual 26, 3, 340), (340, .if_icmp .eq 1566, 3, 343), (343, .iconst 0, 1, 344), (344, .ireturn, 1, 345)]
set_option maxRecDepth 20000 in
theorem dL_law_322 : dcL cL_law lL_law_322L = true := by decide +kernel
def b_law_322 (F : Nat) (xs : Nat → Int32) (Ls : Nat) (self : Nat × Nat → PH → Nat → Nat → Int32 → Option Int32) (cs : Nat × Nat) (h : PH) (v1 : Nat) (v2 : Nat) (v3 : Int32) : Option Int32 := (scr xs Ls ((v3 + (1 : Int32)))).bind fun x1 => (cO 9 h v1 ((m_X9_fault h v1 x1).bind fun x2 => ((scr xs Ls ((v3 + (1 : Int32)))).bind fun x4 => (cO 10 h v2 (bind2 (m_X10_fault h v2 x4) fun x5 h6 => (if x2 = x5 then (b_law_1906 F xs Ls self cs h6 v1 v2 v3) else (some (0 : Int32))))))))
set_option maxRecDepth 20000 in
theorem t_law_322 {M : MV} {X : XT} {F : Nat} {xs : Nat → Int32} {Ls b : Nat} {self : Nat × Nat → PH → Nat → Nat → Int32 → Option Int32} {cs : Nat × Nat} {h : PH} {v1 : Nat} {v2 : Nat} {v3 : Int32} (hc : Cx M X R_law code) (hr : Rx M 2048 84000 600000 7302250 4) (hL : Lx M X xs Ls b) (hm : cs.1 ≤ 600000) (hs : cs.2 ≤ 7302250) (ih : ∀ (cs : Nat × Nat) (h : PH) (v1 : Nat) (v2 : Nat) (v3 : Int32), cs.1 ≤ 600000 → cs.2 ≤ 7302250 → self cs h v1 v2 v3 = some 1 → GG M X h cs.1 cs.2 18 [(0, .ref b), (1, .ref (X.1 + v1)), (2, .ref (X.1 + v2)), (3, .int v3)] []) (hf : b_law_322 F xs Ls self cs h v1 v2 v3 = some 1) : GG M X h cs.1 cs.2 322 [(0, .ref b), (1, .ref (X.1 + v1)), (2, .ref (X.1 + v2)), (3, .int v3)] [] := by
  unfold b_law_322 at hf
  refine r_aload_n hc 1 (dc_at dL_law_322 0 rfl) rfl ?_
  refine r_aload_n hc 0 (dc_at dL_law_322 1 rfl) rfl ?_
  refine r_iload_n hc 3 (dc_at dL_law_322 2 rfl) rfl ?_
  refine r_iconst (1 : Int32) hc (dc_at dL_law_322 3 rfl) (by decide) ?_
  refine r_iadd hc (dc_at dL_law_322 4 rfl) ?_
  refine r_sload hL hc (dc_at dL_law_322 5 rfl) hf fun x1 hf => ?_
  obtain ⟨ho, hf⟩ := cO_some hf
  refine ob hf fun x2 ex hf => ?_
  refine r_callVi (As := [.int x1]) (ci := 9) hc hr (dc_at dL_law_322 6 rfl) ml_L_23 mv_X9_fault vi_X9_fault rfl ho rfl (mt_X9_fault ex) (Nat.le_of_ble_eq_true rfl) (Nat.le_of_ble_eq_true rfl) (by first | exact Nat.le_of_ble_eq_true rfl | decide) hm hs ?_
  refine r_aload_n hc 2 (dc_at dL_law_322 7 rfl) rfl ?_
  refine r_aload_n hc 0 (dc_at dL_law_322 8 rfl) rfl ?_
  refine r_iload_n hc 3 (dc_at dL_law_322 9 rfl) rfl ?_
  refine r_iconst (1 : Int32) hc (dc_at dL_law_322 10 rfl) (by decide) ?_
  refine r_iadd hc (dc_at dL_law_322 11 rfl) ?_
  refine r_sload hL hc (dc_at dL_law_322 12 rfl) hf fun x4 hf => ?_
  obtain ⟨ho, hf⟩ := cO_some hf
  refine ob2 hf fun x5 h6 ex hf => ?_
  refine r_callVi (As := [.int x4]) (ci := 10) hc hr (dc_at dL_law_322 13 rfl) ml_L_26 mv_X10_fault vi_X10_fault rfl ho rfl (mt_X10_fault ex) (Nat.le_of_ble_eq_true rfl) (Nat.le_of_ble_eq_true rfl) (by first | exact Nat.le_of_ble_eq_true rfl | decide) hm hs ?_
  refine r_icmp_eq (tgt := 1906) hc (dc_at dL_law_322 14 rfl) (by decide) hf (fun hf => ?_) (fun hf => ?_)
  · exact gg_sub [0, 1, 2, 3] rfl (t_law_1906 hc hr hL hm hs ih hf)
  · refine r_iconst (0 : Int32) hc (dc_at dL_law_322 15 rfl) (by decide) ?_
    cases hf
