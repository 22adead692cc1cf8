def lL_law_401L : List (Nat × Instr × Nat × Nat) := [(401, .aload_n 1, 1, 402), (402, .aload_n 0, 1, 403), (403, .iload_n 3, 1, 404), (404, .iconst 1, 1, 405), (405, .iadd, 1, 406), (406, .iaload, 1, 407), (407, .aload_n 0, 1, 408), (408, .iload_n 3, 1, 409), (409, .iconst 2, 1, 410), (410, .iadd, 1, 411), (411, .iaload, 1, 412), (412, .invokevirtual 36, 3, 415), (415, .aload_n 2, 1, 416), (416, .aload_n 0, 1, 417), (417, .iload_n 3, 1, 418), (418, .iconst 1, 1, 419), (419, .iadd, 1, 420), (420, .iaload, 1, 421), (421, .aload_n 0, 1, 422), (422, .iload_n 3, 1, 423), (423, .iconst 2, 1, 424), (424, .iadd, 1, 425), (425, .iaload, 1, 426), (426, .invokevirtual 39, 3, 429), (429, .if_icmp .eq 1477, 3, 432), (432, .iconst 0, 1, 433), (433, .ireturn, 1, 434)]
set_option maxRecDepth 20000 in
theorem dL_law_401 : dcL cL_law lL_law_401L = true := by decide +kernel
def b_law_401 (F : Nat) (xs : Nat → Int32) (Ls : Nat) (self : Nat × Nat → PH → Nat → Nat → Int32 → Option Int32) (cs : Nat × Nat) (h : PH) (v1 : Nat) (v2 : Nat) (v3 : Int32) : Option Int32 := (scr xs Ls ((v3 + (1 : Int32)))).bind fun x1 => ((scr xs Ls ((v3 + (2 : Int32)))).bind fun x2 => (cO 9 h v1 ((m_X9_tenant h v1 x1 x2).bind fun x3 => ((scr xs Ls ((v3 + (1 : Int32)))).bind fun x5 => ((scr xs Ls ((v3 + (2 : Int32)))).bind fun x6 => (cO 10 h v2 (bind2 (m_X10_tenant h v2 x5 x6) fun x7 h8 => (if x3 = x7 then (b_law_1906 F xs Ls self cs h8 v1 v2 v3) else (some (0 : Int32))))))))))
set_option maxRecDepth 20000 in
theorem t_law_401 {M : MV} {X : XT} {F : Nat} {xs : Nat → Int32} {Ls b : Nat} {self : Nat × Nat → PH → Nat → Nat → Int32 → Option Int32} {cs : Nat × Nat} {h : PH} {v1 : Nat} {v2 : Nat} {v3 : Int32} (hc : Cx M X R_law code) (hr : Rx M 2048 84000 600000 7302250 4) (hL : Lx M X xs Ls b) (hm : cs.1 ≤ 600000) (hs : cs.2 ≤ 7302250) (ih : ∀ (cs : Nat × Nat) (h : PH) (v1 : Nat) (v2 : Nat) (v3 : Int32), cs.1 ≤ 600000 → cs.2 ≤ 7302250 → self cs h v1 v2 v3 = some 1 → GG M X h cs.1 cs.2 18 [(0, .ref b), (1, .ref (X.1 + v1)), (2, .ref (X.1 + v2)), (3, .int v3)] []) (hf : b_law_401 F xs Ls self cs h v1 v2 v3 = some 1) : GG M X h cs.1 cs.2 401 [(0, .ref b), (1, .ref (X.1 + v1)), (2, .ref (X.1 + v2)), (3, .int v3)] [] := by
  unfold b_law_401 at hf
  refine r_aload_n hc 1 (dc_at dL_law_401 0 rfl) rfl ?_
  refine r_aload_n hc 0 (dc_at dL_law_401 1 rfl) rfl ?_
  refine r_iload_n hc 3 (dc_at dL_law_401 2 rfl) rfl ?_
  refine r_iconst (1 : Int32) hc (dc_at dL_law_401 3 rfl) (by decide) ?_
  refine r_iadd hc (dc_at dL_law_401 4 rfl) ?_
  refine r_sload hL hc (dc_at dL_law_401 5 rfl) hf fun x1 hf => ?_
  refine r_aload_n hc 0 (dc_at dL_law_401 6 rfl) rfl ?_
  refine r_iload_n hc 3 (dc_at dL_law_401 7 rfl) rfl ?_
  refine r_iconst (2 : Int32) hc (dc_at dL_law_401 8 rfl) (by decide) ?_
  refine r_iadd hc (dc_at dL_law_401 9 rfl) ?_
  refine r_sload hL hc (dc_at dL_law_401 10 rfl) hf fun x2 hf => ?_
  obtain ⟨ho, hf⟩ := cO_some hf
  refine ob hf fun x3 ex hf => ?_
  refine r_callVi (As := [.int x1, .int x2]) (ci := 9) hc hr (dc_at dL_law_401 11 rfl) ml_L_36 mv_X9_tenant vi_X9_tenant rfl ho rfl (mt_X9_tenant ex) (Nat.le_of_ble_eq_true rfl) (Nat.le_of_ble_eq_true rfl) (by first | exact Nat.le_of_ble_eq_true rfl | decide) hm hs ?_
  refine r_aload_n hc 2 (dc_at dL_law_401 12 rfl) rfl ?_
  refine r_aload_n hc 0 (dc_at dL_law_401 13 rfl) rfl ?_
  refine r_iload_n hc 3 (dc_at dL_law_401 14 rfl) rfl ?_
  refine r_iconst (1 : Int32) hc (dc_at dL_law_401 15 rfl) (by decide) ?_
  refine r_iadd hc (dc_at dL_law_401 16 rfl) ?_
  refine r_sload hL hc (dc_at dL_law_401 17 rfl) hf fun x5 hf => ?_
  refine r_aload_n hc 0 (dc_at dL_law_401 18 rfl) rfl ?_
  refine r_iload_n hc 3 (dc_at dL_law_401 19 rfl) rfl ?_
  refine r_iconst (2 : Int32) hc (dc_at dL_law_401 20 rfl) (by decide) ?_
  refine r_iadd hc (dc_at dL_law_401 21 rfl) ?_
  refine r_sload hL hc (dc_at dL_law_401 22 rfl) hf fun x6 hf => ?_
  obtain ⟨ho, hf⟩ := cO_some hf
  refine ob2 hf fun x7 h8 ex hf => ?_
  refine r_callVi (As := [.int x5, .int x6]) (ci := 10) hc hr (dc_at dL_law_401 23 rfl) ml_L_39 mv_X10_tenant vi_X10_tenant rfl ho rfl (mt_X10_tenant ex) (Nat.le_of_ble_eq_true rfl) (Nat.le_of_ble_eq_true rfl) (by first | exact Nat.le_of_ble_eq_true rfl | decide) hm hs ?_
  refine r_icmp_eq (tgt := 1906) hc (dc_at dL_law_401 24 rfl) (by decide) hf (fun hf => ?_) (fun hf => ?_)
  · exact gg_sub [0, 1, 2, 3] rfl (t_law_1906 hc hr hL hm hs ih hf)
  · refine r_iconst (0 : Int32) hc (dc_at dL_law_401 25 rfl) (by decide) ?_
    cases hf
