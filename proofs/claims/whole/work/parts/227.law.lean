def lL_law_965L : List (Nat × Instr × Nat × Nat) := [(965, .aload_n 1, 1, 966), (966, .aload_n 0, 1, 967), (967, .iload_n 3, 1, 968), (968, .iconst 1, 1, 969), (969, .iadd, 1, 970), (970, .iaload, 1, 971), (971, .aload_n 0, 1, 972), (972, .iload_n 3, 1, 973), (973, .iconst 2, 1, 974), (974, .iadd, 1, 975), (975, .iaload, 1, 976), (976, .aload_n 0, 1, 977), (977, .iload_n 3, 1, 978), (978, .iconst 3, 1, 979), (979, .iadd, 1, 980), (980, .iaload, 1, 981), (981, .invokevirtual 108, 3, 984), (984, .aload_n 2, 1, 985), (985, .aload_n 0, 1, 986), (986, .iload_n 3, 1, 987), (987, .iconst 1, 1, 988), (988, .iadd, 1, 989), (989, .iaload, 1, 990), (990, .aload_n 0, 1, 991), (991, .iload_n 3, 1, 992), (992, .iconst 2, 1, 993), (993, .iadd, 1, 994), (994, .iaload, 1, 995), (995, .aload_n 0, 1, 996), (996, .iload_n 3, 1, 997), (997, .iconst 3, 1, 998), (998, .iadd, 1, 999), (999, .iaload, 1, 1000), (1000, .invokevirtual 111, 3, 1003), (1003, .if_icmp .eq 903, 3, 1006), (1006, .iconst 0, 1, 1007), (1007, .ireturn, 1, 1008)]
set_option maxRecDepth 20000 in
theorem dL_law_965 : dcL cL_law lL_law_965L = true := by decide +kernel
def b_law_965 (F : Nat) (xs : Nat → Int32) (Ls : Nat) (self : Nat × Nat → PH → Nat → Nat → Int32 → Option Int32) (cs : Nat × Nat) (h : PH) (v1 : Nat) (v2 : Nat) (v3 : Int32) : Option Int32 := (scr xs Ls ((v3 + (1 : Int32)))).bind fun x1 => ((scr xs Ls ((v3 + (2 : Int32)))).bind fun x2 => ((scr xs Ls ((v3 + (3 : Int32)))).bind fun x3 => (cO 9 h v1 (bind2 (m_X9_never F h v1 x1 x2 x3) fun x4 h5 => ((scr xs Ls ((v3 + (1 : Int32)))).bind fun x6 => ((scr xs Ls ((v3 + (2 : Int32)))).bind fun x7 => ((scr xs Ls ((v3 + (3 : Int32)))).bind fun x8 => (cO 10 h5 v2 (bind2 (m_X10_never F h5 v2 x6 x7 x8) fun x9 h10 => (if x4 = x9 then (b_law_1906 F xs Ls self cs h10 v1 v2 v3) else (some (0 : Int32))))))))))))
set_option maxRecDepth 20000 in
theorem t_law_965 {M : MV} {X : XT} {F : Nat} {xs : Nat → Int32} {Ls b : Nat} {self : Nat × Nat → PH → Nat → Nat → Int32 → Option Int32} {cs : Nat × Nat} {h : PH} {v1 : Nat} {v2 : Nat} {v3 : Int32} (hc : Cx M X R_law code) (hr : Rx M 2048 84000 600000 7302250 4) (hL : Lx M X xs Ls b) (hm : cs.1 ≤ 600000) (hs : cs.2 ≤ 7302250) (ih : ∀ (cs : Nat × Nat) (h : PH) (v1 : Nat) (v2 : Nat) (v3 : Int32), cs.1 ≤ 600000 → cs.2 ≤ 7302250 → self cs h v1 v2 v3 = some 1 → GG M X h cs.1 cs.2 18 [(0, .ref b), (1, .ref (X.1 + v1)), (2, .ref (X.1 + v2)), (3, .int v3)] []) (hf : b_law_965 F xs Ls self cs h v1 v2 v3 = some 1) : GG M X h cs.1 cs.2 965 [(0, .ref b), (1, .ref (X.1 + v1)), (2, .ref (X.1 + v2)), (3, .int v3)] [] := by
  unfold b_law_965 at hf
  refine r_aload_n hc 1 (dc_at dL_law_965 0 rfl) rfl ?_
  refine r_aload_n hc 0 (dc_at dL_law_965 1 rfl) rfl ?_
  refine r_iload_n hc 3 (dc_at dL_law_965 2 rfl) rfl ?_
  refine r_iconst (1 : Int32) hc (dc_at dL_law_965 3 rfl) (by decide) ?_
  refine r_iadd hc (dc_at dL_law_965 4 rfl) ?_
  refine r_sload hL hc (dc_at dL_law_965 5 rfl) hf fun x1 hf => ?_
  refine r_aload_n hc 0 (dc_at dL_law_965 6 rfl) rfl ?_
  refine r_iload_n hc 3 (dc_at dL_law_965 7 rfl) rfl ?_
  refine r_iconst (2 : Int32) hc (dc_at dL_law_965 8 rfl) (by decide) ?_
  refine r_iadd hc (dc_at dL_law_965 9 rfl) ?_
  refine r_sload hL hc (dc_at dL_law_965 10 rfl) hf fun x2 hf => ?_
  refine r_aload_n hc 0 (dc_at dL_law_965 11 rfl) rfl ?_
  refine r_iload_n hc 3 (dc_at dL_law_965 12 rfl) rfl ?_
  refine r_iconst (3 : Int32) hc (dc_at dL_law_965 13 rfl) (by decide) ?_
  refine r_iadd hc (dc_at dL_law_965 14 rfl) ?_
  refine r_sload hL hc (dc_at dL_law_965 15 rfl) hf fun x3 hf => ?_
  obtain ⟨ho, hf⟩ := cO_some hf
  refine ob2 hf fun x4 h5 ex hf => ?_
  refine r_callVi (As := [.int x1, .int x2, .int x3]) (ci := 9) hc hr (dc_at dL_law_965 16 rfl) ml_L_108 mv_X9_never vi_X9_never rfl ho rfl (mt_X9_never ex) (Nat.le_of_ble_eq_true rfl) (Nat.le_of_ble_eq_true rfl) (by first | exact Nat.le_of_ble_eq_true rfl | decide) hm hs ?_
  refine r_aload_n hc 2 (dc_at dL_law_965 17 rfl) rfl ?_
  refine r_aload_n hc 0 (dc_at dL_law_965 18 rfl) rfl ?_
  refine r_iload_n hc 3 (dc_at dL_law_965 19 rfl) rfl ?_
  refine r_iconst (1 : Int32) hc (dc_at dL_law_965 20 rfl) (by decide) ?_
  refine r_iadd hc (dc_at dL_law_965 21 rfl) ?_
  refine r_sload hL hc (dc_at dL_law_965 22 rfl) hf fun x6 hf => ?_
  refine r_aload_n hc 0 (dc_at dL_law_965 23 rfl) rfl ?_
  refine r_iload_n hc 3 (dc_at dL_law_965 24 rfl) rfl ?_
  refine r_iconst (2 : Int32) hc (dc_at dL_law_965 25 rfl) (by decide) ?_
  refine r_iadd hc (dc_at dL_law_965 26 rfl) ?_
  refine r_sload hL hc (dc_at dL_law_965 27 rfl) hf fun x7 hf => ?_
  refine r_aload_n hc 0 (dc_at dL_law_965 28 rfl) rfl ?_
  refine r_iload_n hc 3 (dc_at dL_law_965 29 rfl) rfl ?_
  refine r_iconst (3 : Int32) hc (dc_at dL_law_965 30 rfl) (by decide) ?_
  refine r_iadd hc (dc_at dL_law_965 31 rfl) ?_
  refine r_sload hL hc (dc_at dL_law_965 32 rfl) hf fun x8 hf => ?_
  obtain ⟨ho, hf⟩ := cO_some hf
  refine ob2 hf fun x9 h10 ex hf => ?_
  refine r_callVi (As := [.int x6, .int x7, .int x8]) (ci := 10) hc hr (dc_at dL_law_965 33 rfl) ml_L_111 mv_X10_never vi_X10_never rfl ho rfl (mt_X10_never ex) (Nat.le_of_ble_eq_true rfl) (Nat.le_of_ble_eq_true rfl) (by first | exact Nat.le_of_ble_eq_true rfl | decide) hm hs ?_
  refine r_icmp_eq (tgt := 1906) hc (dc_at dL_law_965 34 rfl) (by decide) hf (fun hf => ?_) (fun hf => ?_)
  · exact gg_sub [0, 1, 2, 3] rfl (t_law_1906 hc hr hL hm hs ih hf)
  · refine r_iconst (0 : Int32) hc (dc_at dL_law_965 35 rfl) (by decide) ?_
    cases hf
