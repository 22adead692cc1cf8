def lL_law_612L : List (Nat × Instr × Nat × Nat) := [(612, .aload_n 1, 1, 613), (613, .aload_n 0, 1, 614), (614, .iload_n 3, 1, 615), (615, .iconst 1, 1, 616), (616, .iadd, 1, 617), (617, .iaload, 1, 618), (618, .aload_n 0, 1, 619), (619, .iload_n 3, 1, 620), (620, .iconst 2, 1, 621), (621, .iadd, 1, 622), (622, .iaload, 1, 623), (623, .invokevirtual 65, 3, 626), (626, .aload_n 2, 1, 627), (627, .aload_n 0, 1, 628), (628, .iload_n 3, 1, 629), (629, .iconst 1, 1, 630), (630, .iadd, 1, 631), (631, .iaload, 1, 632), (632, .aload_n 0, 1, 633), (633, .iload_n 3, 1, 634), (634, .iconst 2, 1, 635), (635, .iadd, 1, 636), (636, .iaload, 1, 637), (637, .invokevirtual 68, 3, 640), (640, .if_icmp .eq 1266, 3, 643), (643, .iconst 0, 1, 644), (644, .ireturn, 1, 645)]
set_option maxRecDepth 20000 in
theorem dL_law_612 : dcL cL_law lL_law_612L = true := by decide +kernel
def b_law_612 (F : Nat) (xs : Nat → Int32) (Ls : Nat) (self : Nat × Nat → PH → Nat → Nat → Int32 → Option Int32) (cs : Nat × Nat) (h : PH) (v1 : Nat) (v2 : Nat) (v3 : Int32) : Option Int32 := (scr xs Ls ((v3 + (1 : Int32)))).bind fun x1 => ((scr xs Ls ((v3 + (2 : Int32)))).bind fun x2 => (cO 9 h v1 (bind2 (m_X9_day F h v1 x1 x2) fun x3 h4 => ((scr xs Ls ((v3 + (1 : Int32)))).bind fun x5 => ((scr xs Ls ((v3 + (2 : Int32)))).bind fun x6 => (cO 10 h4 v2 (bind2 (m_X10_day F h4 v2 x5 x6) fun x7 h8 => (if x3 = x7 then (b_law_1906 F xs Ls self cs h8 v1 v2 v3) else (some (0 : Int32))))))))))
set_option maxRecDepth 20000 in
theorem t_law_612 {M : MV} {X : XT} {F : Nat} {xs : Nat → Int32} {Ls b : Nat} {self : Nat × Nat → PH → Nat → Nat → Int32 → Option Int32} {cs : Nat × Nat} {h : PH} {v1 : Nat} {v2 : Nat} {v3 : Int32} (hc : Cx M X R_law code) (hr : Rx M 2048 84000 600000 7302250 4) (hL : Lx M X xs Ls b) (hm : cs.1 ≤ 600000) (hs : cs.2 ≤ 7302250) (ih : ∀ (cs : Nat × Nat) (h : PH) (v1 : Nat) (v2 : Nat) (v3 : Int32), cs.1 ≤ 600000 → cs.2 ≤ 7302250 → self cs h v1 v2 v3 = some 1 → GG M X h cs.1 cs.2 18 [(0, .ref b), (1, .ref (X.1 + v1)), (2, .ref (X.1 + v2)), (3, .int v3)] []) (hf : b_law_612 F xs Ls self cs h v1 v2 v3 = some 1) : GG M X h cs.1 cs.2 612 [(0, .ref b), (1, .ref (X.1 + v1)), (2, .ref (X.1 + v2)), (3, .int v3)] [] := by
  unfold b_law_612 at hf
  refine r_aload_n hc 1 (dc_at dL_law_612 0 rfl) rfl ?_
  refine r_aload_n hc 0 (dc_at dL_law_612 1 rfl) rfl ?_
  refine r_iload_n hc 3 (dc_at dL_law_612 2 rfl) rfl ?_
  refine r_iconst (1 : Int32) hc (dc_at dL_law_612 3 rfl) (by decide) ?_
  refine r_iadd hc (dc_at dL_law_612 4 rfl) ?_
  refine r_sload hL hc (dc_at dL_law_612 5 rfl) hf fun x1 hf => ?_
  refine r_aload_n hc 0 (dc_at dL_law_612 6 rfl) rfl ?_
  refine r_iload_n hc 3 (dc_at dL_law_612 7 rfl) rfl ?_
  refine r_iconst (2 : Int32) hc (dc_at dL_law_612 8 rfl) (by decide) ?_
  refine r_iadd hc (dc_at dL_law_612 9 rfl) ?_
  refine r_sload hL hc (dc_at dL_law_612 10 rfl) hf fun x2 hf => ?_
  obtain ⟨ho, hf⟩ := cO_some hf
  refine ob2 hf fun x3 h4 ex hf => ?_
  refine r_callVi (As := [.int x1, .int x2]) (ci := 9) hc hr (dc_at dL_law_612 11 rfl) ml_L_65 mv_X9_day vi_X9_day rfl ho rfl (mt_X9_day ex) (Nat.le_of_ble_eq_true rfl) (Nat.le_of_ble_eq_true rfl) (by first | exact Nat.le_of_ble_eq_true rfl | decide) hm hs ?_
  refine r_aload_n hc 2 (dc_at dL_law_612 12 rfl) rfl ?_
  refine r_aload_n hc 0 (dc_at dL_law_612 13 rfl) rfl ?_
  refine r_iload_n hc 3 (dc_at dL_law_612 14 rfl) rfl ?_
  refine r_iconst (1 : Int32) hc (dc_at dL_law_612 15 rfl) (by decide) ?_
  refine r_iadd hc (dc_at dL_law_612 16 rfl) ?_
  refine r_sload hL hc (dc_at dL_law_612 17 rfl) hf fun x5 hf => ?_
  refine r_aload_n hc 0 (dc_at dL_law_612 18 rfl) rfl ?_
  refine r_iload_n hc 3 (dc_at dL_law_612 19 rfl) rfl ?_
  refine r_iconst (2 : Int32) hc (dc_at dL_law_612 20 rfl) (by decide) ?_
  refine r_iadd hc (dc_at dL_law_612 21 rfl) ?_
  refine r_sload hL hc (dc_at dL_law_612 22 rfl) hf fun x6 hf => ?_
  obtain ⟨ho, hf⟩ := cO_some hf
  refine ob2 hf fun x7 h8 ex hf => ?_
  refine r_callVi (As := [.int x5, .int x6]) (ci := 10) hc hr (dc_at dL_law_612 23 rfl) ml_L_68 mv_X10_day vi_X10_day rfl ho rfl (mt_X10_day ex) (Nat.le_of_ble_eq_true rfl) (Nat.le_of_ble_eq_true rfl) (by first | exact Nat.le_of_ble_eq_true rfl | decide) hm hs ?_
  refine r_icmp_eq (tgt := 1906) hc (dc_at dL_law_612 24 rfl) (by decide) hf (fun hf => ?_) (fun hf => ?_)
  · exact gg_sub [0, 1, 2, 3] rfl (t_law_1906 hc hr hL hm hs ih hf)
  · refine r_iconst (0 : Int32) hc (dc_at dL_law_612 25 rfl) (by decide) ?_
    cases hf
