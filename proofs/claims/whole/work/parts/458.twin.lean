def gp (P : RPL) (i : Nat) : FR × Nat := P.getD i ((0, 1), 0)
theorem gp_l {L R : RPL} {i : Nat} (h : i < L.length) : gp (L ++ R) i = gp L i := by
  unfold gp; rw [List.getD_eq_getElem?_getD, List.getD_eq_getElem?_getD, List.getElem?_append_left h]
theorem gp_e {L : RPL} {x : FR × Nat} : gp (L ++ [x]) L.length = x := by
  unfold gp; rw [List.getD_eq_getElem?_getD, List.getElem?_append_right (Nat.le_refl _), Nat.sub_self]; rfl
theorem gp_mem {L : RPL} {i : Nat} (h : i < L.length) : gp L i ∈ L := by
  unfold gp; rw [List.getD_eq_getElem?_getD, List.getElem?_eq_getElem h]; exact List.getElem_mem h
theorem mem_gp {L : RPL} {x : FR × Nat} (h : x ∈ L) : ∃ i, i < L.length ∧ gp L i = x := by
  obtain ⟨i, hi, e⟩ := List.mem_iff_getElem.mp h
  exact ⟨i, hi, by unfold gp; rw [List.getD_eq_getElem?_getD, List.getElem?_eq_getElem hi]; exact e⟩
def TOK (tp : Int) (bc : Nat) (S : BST) (K : Nat → Nat) : Prop := 1 ≤ S.1.length ∧ S.1.length ≤ 9331 ∧ FLS tp S.1 ∧ ∀ j, 0 < j → j < S.1.length → 0 ≤ S.2.1 j ∧ S.2.1 j < j ∧ 0 ≤ S.2.2 j ∧ S.2.2 j < bc ∧ (K j : Int) = K (S.2.1 j).toNat * bc + S.2.2 j
theorem cbb {c bc b : Nat} (h : b < bc) : (c * bc + b) / bc = c ∧ (c * bc + b) % bc = b := by
  refine ⟨?_, ?_⟩
  · rw [Nat.mul_comm, Nat.mul_add_div (by omega), Nat.div_eq_of_lt h, Nat.add_zero]
  · rw [Nat.mul_comm, Nat.mul_add_mod, Nat.mod_eq_of_lt h]
theorem TOK.c {tp : Int} {bc : Nat} {S : BST} {K : Nat → Nat} (h : TOK tp bc S K) {j : Nat} (h0 : 0 < j) (hj : j < S.1.length) : K j / bc = K (S.2.1 j).toNat ∧ ((K j % bc : Nat) : Int) = S.2.2 j := by
  obtain ⟨k1, k2, k3, k4, k5⟩ := h.2.2.2 j h0 hj
  obtain ⟨b, hb⟩ := Int.eq_ofNat_of_zero_le k3
  rw [hb] at k4 k5 ⊢
  have e : K j = K (S.2.1 j).toNat * bc + b := by
    have : (K j : Int) = ((K (S.2.1 j).toNat * bc + b : Nat) : Int) := by rw [k5, Int.natCast_add, Int.natCast_mul]
    omega
  obtain ⟨c1, c2⟩ := cbb (c := K (S.2.1 j).toNat) (bc := bc) (b := b) (by omega)
  rw [e]
  exact ⟨c1, by rw [c2]⟩
theorem RX_DG {tp : Int} {bc : Nat} {S : BST} {K : Nat → Nat} (h : TOK tp bc S K) : ∀ d j k, j < S.1.length → DP S.2.1 d j → k < d → RX S.2.1 S.2.2 d j k = (DG bc d (K j) k : Nat) := by
  intro d
  induction d with
  | zero => intro j k _ _ hk; omega
  | succ d ih =>
    intro j k hj hd hk
    obtain ⟨h0, hd'⟩ := hd
    obtain ⟨c1, c2⟩ := h.c h0 hj
    obtain ⟨k1, k2, -⟩ := h.2.2.2 j h0 hj
    unfold RX DG
    by_cases ck : k = d
    · rw [if_pos ck, if_pos ck, c2]
    · rw [if_neg ck, if_neg ck, c1]
      exact ih _ _ (by omega) hd' (by omega)
def TIN (S : BST) (K : Nat → Nat) (bg en d : Nat) (P R : RPL) : Prop := bg + P.length = en ∧ S.1.length = en + R.length ∧ (∀ i, i < P.length → gt S.1 (bg + i) = (gp P i).1 ∧ K (bg + i) = (gp P i).2) ∧ (∀ i, i < R.length → gt S.1 (en + i) = (gp R i).1 ∧ K (en + i) = (gp R i).2) ∧ LV bg en d S ∧ (R.map Prod.fst).Nodup
theorem twput {tp : Int} {bc : Nat} {S : BST} {K : Nat → Nat} {bg en d : Nat} {P R : RPL} (hk : TOK tp bc S K) (ht : TIN S K bg en d P R) {i b : Nat} (hi : i < P.length) (hb : b < bc) (hn : S.1.length < 9331) {y : FR} (hy : FLR tp y.1 y.2) (hl : lk R y = none) : TOK tp bc (S.1 ++ [y], updI S.2.1 S.1.length (bg + i : Nat), updI S.2.2 S.1.length b) (fun j => if j = S.1.length then (gp P i).2 * bc + b else K j) ∧ TIN (S.1 ++ [y], updI S.2.1 S.1.length (bg + i : Nat), updI S.2.2 S.1.length b) (fun j => if j = S.1.length then (gp P i).2 * bc + b else K j) bg en d P (R ++ [(y, (gp P i).2 * bc + b)]) := by
  obtain ⟨k1, k2, k3, k4⟩ := hk
  obtain ⟨t1, t2, t3, t4, t5, t6⟩ := ht
  have hlen : (S.1 ++ [y]).length = S.1.length + 1 := by rw [List.length_append]; rfl
  have hlR : (R ++ [(y, (gp P i).2 * bc + b)]).length = R.length + 1 := by rw [List.length_append]; rfl
  have hb4 : ∀ j, 0 < j → j < S.1.length → 0 ≤ S.2.1 j ∧ S.2.1 j < j := fun j p1 p2 => ⟨(k4 j p1 p2).1, (k4 j p1 p2).2.1⟩
  have he : ∀ j, j < S.1.length → updI S.2.1 S.1.length (bg + i : Nat) j = S.2.1 j := fun j hj => updI_n (by omega)
  refine ⟨⟨by show 1 ≤ (S.1 ++ [y]).length; omega, by show (S.1 ++ [y]).length ≤ 9331; omega, k3.ap (FLS.one hy), fun j h0 hj => ?_⟩, t1, by show (S.1 ++ [y]).length = _; omega, fun k hk => ?_, fun k hk => ?_, ⟨fun j p1 p2 => ?_, fun j p1 p2 => ?_⟩, ?_⟩
  · have hj' : j < (S.1 ++ [y]).length := hj
    show 0 ≤ updI S.2.1 S.1.length (bg + i : Nat) j ∧ updI S.2.1 S.1.length (bg + i : Nat) j < j ∧ 0 ≤ updI S.2.2 S.1.length b j ∧ updI S.2.2 S.1.length b j < bc ∧ ((if j = S.1.length then (gp P i).2 * bc + b else K j : Nat) : Int) = ((if (updI S.2.1 S.1.length (bg + i : Nat) j).toNat = S.1.length then (gp P i).2 * bc + b else K (updI S.2.1 S.1.length (bg + i : Nat) j).toNat : Nat) : Int) * bc + updI S.2.2 S.1.length b j
    by_cases cj : j = S.1.length
    · subst cj
      rw [updI_s, updI_s, Int.toNat_natCast, if_pos rfl, if_neg (by omega), (t3 i hi).2, Int.natCast_add ((gp P i).2 * bc) b, Int.natCast_mul]
      exact ⟨by omega, by omega, by omega, by omega, rfl⟩
    · have := k4 j h0 (by omega)
      rw [updI_n cj, updI_n cj, if_neg cj, if_neg (by omega)]
      exact this
  · show gt (S.1 ++ [y]) (bg + k) = _ ∧ (if bg + k = S.1.length then _ else K (bg + k)) = _
    rw [gt_l (by omega), if_neg (by omega)]
    exact t3 k hk
  · show gt (S.1 ++ [y]) (en + k) = _ ∧ (if en + k = S.1.length then _ else K (en + k)) = _
    by_cases ck : k = R.length
    · rw [ck, ← t2, gt_e, if_pos rfl, gp_e]
      exact ⟨rfl, rfl⟩
    · rw [gt_l (by omega), if_neg (by omega), gp_l (by omega)]
      exact t4 k (by omega)
  · exact DP_c hb4 he d j (by omega) (t5.1 j p1 p2)
  · have p2' : j < S.1.length + 1 := by rw [← hlen]; exact p2
    by_cases cj : j = S.1.length
    · subst cj
      refine ⟨by omega, ?_⟩
      show DP (updI S.2.1 S.1.length (bg + i : Nat)) d (updI S.2.1 S.1.length (bg + i : Nat) S.1.length).toNat
      rw [updI_s, Int.toNat_natCast]
      exact DP_c hb4 he d (bg + i) (by omega) (t5.1 (bg + i) (by omega) (by omega))
    · exact DP_c hb4 he (d + 1) j (by omega) (t5.2 j p1 (by omega))
  · rw [List.map_append]
    refine List.nodup_append.mpr ⟨t6, by simp, fun a ha b' hb' => ?_⟩
    obtain ⟨p, hp, rfl⟩ := List.mem_map.mp ha
    rw [List.map_cons, List.map_nil, List.mem_singleton] at hb'
    rw [hb']
    exact lk_n.mp hl p hp
