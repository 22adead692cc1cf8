theorem MG.c {m : Mem} {L : List FR} {C C' D D' : Nat → Int} (h : MG m L C D) (e : ∀ i, i < L.length → C i = C' i) (f : ∀ i, i < L.length → D i = D' i) : MG m L C' D' := ⟨h.1, fun i hi => by rw [← e i hi, ← f i hi]; exact h.2.1 i hi, h.2.2⟩
theorem gt_map {R : RPL} {i : Nat} (h : i < R.length) : gt (R.map Prod.fst) i = (gp R i).1 := by
  unfold gt gp
  rw [List.getD_eq_getElem?_getD, List.getD_eq_getElem?_getD, List.getElem?_map, List.getElem?_eq_getElem h]
  rfl
theorem lk_mem {R : RPL} {y : FR} {c : Nat} (h : lk R y = some c) : (y, c) ∈ R := by
  induction R with
  | nil => cases h
  | cons p R ih =>
    unfold lk at h
    by_cases e : p.1 = y
    · rw [if_pos e] at h
      cases h
      rw [← e]
      exact List.mem_cons_self
    · rw [if_neg e] at h
      exact List.mem_cons_of_mem _ (ih h)
theorem twL10 {F : Nat} (hF : 20000 ≤ F) {s : List Sh} (hp : ∃ t, s = sB ++ t) {al : Nat → Int32} (hw : WA al) {bc : Nat} (h2 : al 2 = q32 bc) (hbc : bc ≤ 6) {n : Nat} (hn : 1 ≤ n ∧ n ≤ 5) (ns : Mem → Nat → Int32 → Option (Int32 × Mem)) : ∀ k c fuel, c + k = bc ^ n → k < fuel → ∀ (m : Mem) (R : RPL), RD m al → MG m (R.map Prod.fst) (fun _ => -1) (fun i => ((gp R i).2 : Int)) → (R.map Prod.fst).Nodup → FLS (A al 1) (R.map Prod.fst) → R.length ≤ c → (∀ p ∈ R, p.2 < c) → ∃ m', KN m m' ∧ (∀ c0 c1, (RTW al bc (A al 7, A al 8) n k c R).1 = some (c0, c1) → nl_X10_laysTwins_13 F s ns fuel m 23 (q32 n) (q32 (c : Nat)) = some (q32 n, m') ∧ m'.1 23 34 = q32 (c0 : Nat) ∧ m'.1 23 35 = q32 (c1 : Nat) ∧ 1 ≤ bc ∧ c0 ≤ 7776 ∧ c1 ≤ 7776) ∧ ((RTW al bc (A al 7, A al 8) n k c R).1 = none → nl_X10_laysTwins_13 F s ns fuel m 23 (q32 n) (q32 (c : Nat)) = ns m' 23 (q32 (n + 1))) := by
  have l34 := ln34 hp
  have hN : bc ^ n ≤ 7776 := by
    have h1 : bc ^ n ≤ 6 ^ n := Nat.pow_le_pow_left hbc n
    have h3 : 6 ^ n ≤ 6 ^ 5 := Nat.pow_le_pow_right (by omega) hn.2
    have h4 : 6 ^ 5 = 7776 := by decide
    omega
  obtain ⟨tp, t1, t2, t3, t4, t5, t6, t7, -⟩ := hw.at
  have hx : FLR (A al 1) (A al 7, A al 8).1 (A al 7, A al 8).2 := by rw [t4]; exact t5
  intro k
  induction k with
  | zero =>
    intro c fuel hk hfu m R hr hM nd hf hl hcd
    obtain ⟨fuel, rfl⟩ : ∃ f, fuel = f + 1 := ⟨fuel - 1, by omega⟩
    have hb2 : m.1 24 2 = q32 bc := by rw [hr.2 2 (by omega)]; exact h2
    have ro := rows10 hF hp hr.1 hb2 hbc hn.2
    refine ⟨m, KN.rf m, fun c0 c1 h => by (cases h), fun _ => ?_⟩
    show nb_X10_laysTwins_13 F s ns (nl_X10_laysTwins_13 F s ns fuel) m 23 _ _ = _
    unfold nb_X10_laysTwins_13
    generalize bc ^ n = N at *
    simp (disch := omega) only [Option.bind_some, bindv, bindv0, bind2_s, bind3_s, ↓reduceIte, Bool.false_eq_true, rZM_0, rZM_1, rZP_0, rZP_1, ptZ_0, ptZ_1, c32i, c64i, ncI, Int.natCast_add, Int.natCast_mul, q32_neg, q64_neg, q32_add, q32_sub, q32_mul, q64_add, q64_sub, q64_mul, q32_64i, q64_32, q32_lt_t, q32_lt_f, q32_le_t, q32_le_f, q32_eq_t, q32_eq_f, q64_lt_t, q64_lt_f, q64_le_t, q64_le_f, q64_eq_t, q64_eq_f, rdI_i, rdL_i, rdR_i, rdN_i, stI_i, stL_i, stR_i, wI_s, wI_n, wL_s, wL_n, wI_2, wI_3, wL_1, wL_3, wR_1, wR_2, Int.toNat_natCast, tnO, tn_add, tn_sub, tn_mul, Nat.add_sub_cancel, Nat.add_zero, Nat.zero_add, lnO, win_t, win_f, ro]
  | succ k ih =>
    intro c fuel hk hfu m R hr hM nd hf hl hcd
    obtain ⟨fuel, rfl⟩ : ∃ f, fuel = f + 1 := ⟨fuel - 1, by omega⟩
    have hb1 : 1 ≤ bc := by
      rcases Nat.eq_zero_or_pos bc with h | h
      · rw [h, Nat.zero_pow (by omega)] at hk; omega
      · exact h
    have hb2 : m.1 24 2 = q32 bc := by rw [hr.2 2 (by omega)]; exact h2
    have ro := rows10 hF hp hr.1 hb2 hbc hn.2
    obtain ⟨m1, e1, e2, e3⟩ := ldr10 hF hp hw h2 ⟨hb1, hbc⟩ hn (c := c) (by omega) hr
    have hr1 := hr.k e1.kn
    have hM1 := e2 _ _ _ hM
    have hml : (R.map Prod.fst).length = R.length := List.length_map _
    show ∃ m', KN m m' ∧ (∀ c0 c1, _ → nb_X10_laysTwins_13 F s ns (nl_X10_laysTwins_13 F s ns fuel) m 23 _ _ = _ ∧ _) ∧ (_ → nb_X10_laysTwins_13 F s ns (nl_X10_laysTwins_13 F s ns fuel) m 23 _ _ = _)
    rcases e3 with ⟨hW, e3⟩ | ⟨y, hW, e3, a0, a1⟩
    · have hR : RTW al bc (A al 7, A al 8) n (k + 1) c R = RTW al bc (A al 7, A al 8) n k (c + 1) R := by
        show (match WK al bc (A al 7, A al 8) n c with | none => _ | some y => _) = _
        rw [hW]
      rw [hR]
      obtain ⟨m2, i1, i2, i3⟩ := ih (c + 1) fuel (by omega) (by omega) m1 R hr1 hM1 nd hf (by omega) (fun p hp => by have := hcd p hp; omega)
      have eq : nb_X10_laysTwins_13 F s ns (nl_X10_laysTwins_13 F s ns fuel) m 23 (q32 n) (q32 (c : Nat)) = nl_X10_laysTwins_13 F s ns fuel m1 23 (q32 n) (q32 ((c + 1 : Nat) : Int)) := by
        rw [Int.natCast_add, show ((1 : Nat) : Int) = 1 from rfl]
        unfold nb_X10_laysTwins_13 nb_X10_laysTwins_83
        generalize bc ^ n = N at *
        simp (disch := omega) only [Option.bind_some, bindv, bindv0, bind2_s, bind3_s, ↓reduceIte, Bool.false_eq_true, rZM_0, rZM_1, rZP_0, rZP_1, ptZ_0, ptZ_1, c32i, c64i, ncI, Int.natCast_add, Int.natCast_mul, q32_neg, q64_neg, q32_add, q32_sub, q32_mul, q64_add, q64_sub, q64_mul, q32_64i, q64_32, q32_lt_t, q32_lt_f, q32_le_t, q32_le_f, q32_eq_t, q32_eq_f, q64_lt_t, q64_lt_f, q64_le_t, q64_le_f, q64_eq_t, q64_eq_f, rdI_i, rdL_i, rdR_i, rdN_i, stI_i, stL_i, stR_i, wI_s, wI_n, wL_s, wL_n, wI_2, wI_3, wL_1, wL_3, wR_1, wR_2, Int.toNat_natCast, tnO, tn_add, tn_sub, tn_mul, Nat.add_sub_cancel, Nat.add_zero, Nat.zero_add, lnO, win_t, win_f, ro, e3]
      rw [eq]
      exact ⟨m2, e1.kn.tr i1, i2, i3⟩
    · have hy := WK_flr hw hx _ _ _ hW
      have yb := hy.b
      obtain ⟨r, p1, p2⟩ := met10 hF hp hr1.1 hM1 (by omega) hf hy
      cases hl' : lk R y with
      | none =>
        have hR : RTW al bc (A al 7, A al 8) n (k + 1) c R = RTW al bc (A al 7, A al 8) n k (c + 1) (R ++ [(y, c)]) := by
          show (match WK al bc (A al 7, A al 8) n c with | none => _ | some y => _) = _
          rw [hW]
          dsimp only
          rw [hl']
        rw [hR]
        have ny : ¬ y ∈ R.map Prod.fst := fun h => by
          obtain ⟨p, q1, q2⟩ := List.mem_map.mp h
          exact lk_n.mp hl' p q1 q2
        have hr' : r = -1 := by
          rcases p2 with ⟨h, -⟩ | ⟨j, -, j1, j2⟩
          · exact h
          · exact absurd (by rw [← j2]; exact gt_mem j1) ny
        rw [hr'] at p1
        obtain ⟨m2, v1, v2, v3, -, v4⟩ := gput hF hp hr1 hM1 (by omega) hy (-1) (c : Int)
        have em : (R ++ [(y, c)]).map Prod.fst = R.map Prod.fst ++ [y] := by rw [List.map_append]; rfl
        obtain ⟨m3, i1, i2, i3⟩ := ih (c + 1) fuel (by omega) (by omega) m2 (R ++ [(y, c)]) v3 (by
          rw [em]
          refine v4.c (fun i hi => by split <;> rfl) (fun i hi => ?_)
          rw [List.length_append, List.length_singleton, hml] at hi
          rw [hml]
          by_cases ci : i = R.length
          · rw [if_pos ci, ci, gp_e]
          · rw [if_neg ci, gp_l (by omega)]) (by
          rw [em]
          exact List.nodup_append.mpr ⟨nd, by simp, fun a ha b hb => by rw [List.mem_singleton.mp hb]; exact fun h => ny (by rw [← h]; exact ha)⟩) (by rw [em]; exact hf.ap (FLS.one hy)) (by rw [List.length_append, List.length_singleton]; omega) (fun p hp => by
          rcases List.mem_append.mp hp with h | h
          · have := hcd p h; omega
          · rw [List.mem_singleton.mp h]; exact Nat.lt_succ_self c)
        have eq : nb_X10_laysTwins_13 F s ns (nl_X10_laysTwins_13 F s ns fuel) m 23 (q32 n) (q32 (c : Nat)) = nl_X10_laysTwins_13 F s ns fuel m2 23 (q32 n) (q32 ((c + 1 : Nat) : Int)) := by
          rw [Int.natCast_add, show ((1 : Nat) : Int) = 1 from rfl]
          unfold nb_X10_laysTwins_13 nb_X10_laysTwins_83
          generalize bc ^ n = N at *
          simp (disch := omega) only [Option.bind_some, bindv, bindv0, bind2_s, bind3_s, ↓reduceIte, Bool.false_eq_true, rZM_0, rZM_1, rZP_0, rZP_1, ptZ_0, ptZ_1, c32i, c64i, ncI, Int.natCast_add, Int.natCast_mul, q32_neg, q64_neg, q32_add, q32_sub, q32_mul, q64_add, q64_sub, q64_mul, q32_64i, q64_32, q32_lt_t, q32_lt_f, q32_le_t, q32_le_f, q32_eq_t, q32_eq_f, q64_lt_t, q64_lt_f, q64_le_t, q64_le_f, q64_eq_t, q64_eq_f, rdI_i, rdL_i, rdR_i, rdN_i, stI_i, stL_i, stR_i, wI_s, wI_n, wL_s, wL_n, wI_2, wI_3, wL_1, wL_3, wR_1, wR_2, Int.toNat_natCast, tnO, tn_add, tn_sub, tn_mul, Nat.add_sub_cancel, Nat.add_zero, Nat.zero_add, lnO, win_t, win_f, ro, e3, a0, a1, p1, v1]
        rw [eq]
        exact ⟨m3, (e1.kn.tr v2.kn).tr i1, i2, i3⟩
      | some cc =>
        have hR : RTW al bc (A al 7, A al 8) n (k + 1) c R = (some (cc, c), R) := by
          show (match WK al bc (A al 7, A al 8) n c with | none => _ | some y => _) = _
          rw [hW]
          dsimp only
          rw [hl']
        rw [hR]
        have hm := lk_mem hl'
        rcases p2 with ⟨-, h⟩ | ⟨j, hj, j1, j2⟩
        · exact absurd (List.mem_map_of_mem (f := Prod.fst) hm) h
        · rw [hml] at j1
          rw [gt_map j1] at j2
          have hgj : (y, (gp R j).2) ∈ R := by
            have := gp_mem j1
            rw [show gp R j = (y, (gp R j).2) from Prod.ext j2 rfl] at this
            exact this
          have hcj : (gp R j).2 = cc := by
            have := lk_s nd hgj
            rw [hl'] at this
            exact (Option.some.inj this).symm
          obtain ⟨-, -, -, z4⟩ := hM1.2.1 j (by omega)
          have z4 : m1.1 34 j = q32 (((gp R j).2 : Nat) : Int) := z4
          rw [hcj] at z4
          have r27 := rf23_27 hr1.1
          rw [hj] at p1
          refine ⟨wI (wI m1 23 34 (q32 cc)) 23 35 (q32 c), e1.kn.tr ⟨fun a k q1 q2 => by rw [wI_n (by omega), wI_n (by omega)], fun _ _ _ _ _ => rfl, rfl⟩, fun c0 c1 h => ?_, fun h => by (cases h)⟩
          cases h
          refine ⟨?_, by rw [wI_n (by omega), wI_s], wI_s .., hb1, ?_, by omega⟩
          · unfold nb_X10_laysTwins_13
            generalize bc ^ n = N at *
            simp (disch := omega) only [Option.bind_some, bindv, bindv0, bind2_s, bind3_s, ↓reduceIte, Bool.false_eq_true, rZM_0, rZM_1, rZP_0, rZP_1, ptZ_0, ptZ_1, c32i, c64i, ncI, Int.natCast_add, Int.natCast_mul, q32_neg, q64_neg, q32_add, q32_sub, q32_mul, q64_add, q64_sub, q64_mul, q32_64i, q64_32, q32_lt_t, q32_lt_f, q32_le_t, q32_le_f, q32_eq_t, q32_eq_f, q64_lt_t, q64_lt_f, q64_le_t, q64_le_f, q64_eq_t, q64_eq_f, rdI_i, rdL_i, rdR_i, rdN_i, stI_i, stL_i, stR_i, wI_s, wI_n, wL_s, wL_n, wI_2, wI_3, wL_1, wL_3, wR_1, wR_2, Int.toNat_natCast, tnO, tn_add, tn_sub, tn_mul, Nat.add_sub_cancel, Nat.add_zero, Nat.zero_add, lnO, win_t, win_f, ro, e3, a0, a1, p1, r27, z4]
          · have hlt := hcd _ hm
            have : cc < c := hlt
            omega
theorem twS10 {F : Nat} (hF : 20000 ≤ F) {s : List Sh} (hp : ∃ t, s = sB ++ t) {al : Nat → Int32} (hw : WA al) {bc : Nat} (h2 : al 2 = q32 bc) (hbc : bc ≤ 6) : ∀ (k d fuel : Nat), d + k = 5 → k < fuel → ∀ m : Mem, RD m al → ∃ m', nl_X10_laysTwins_2 F s fuel m 23 (q32 ((d : Int) + 1)) = some (q32 (tvl (RTS al bc (A al 7, A al 8) k d)), m') ∧ KN m m' ∧ ∀ n c0 c1, RTS al bc (A al 7, A al 8) k d = some (n, c0, c1) → m'.1 23 34 = q32 (c0 : Nat) ∧ m'.1 23 35 = q32 (c1 : Nat) ∧ 1 ≤ bc ∧ c0 ≤ 7776 ∧ c1 ≤ 7776 := by
  intro k
  induction k with
  | zero =>
    intro d fuel hd hfu m hr
    obtain ⟨fuel, rfl⟩ : ∃ f, fuel = f + 1 := ⟨fuel - 1, by omega⟩
    refine ⟨m, ?_, KN.rf m, fun n c0 c1 h => by (cases h)⟩
    show nb_X10_laysTwins_2 F s (nl_X10_laysTwins_2 F s fuel) m 23 _ = some (q32 (-1), m)
    unfold nb_X10_laysTwins_2
    simp (disch := omega) only [Option.bind_some, bindv, bindv0, bind2_s, bind3_s, ↓reduceIte, Bool.false_eq_true, rZM_0, rZM_1, rZP_0, rZP_1, ptZ_0, ptZ_1, c32i, c64i, ncI, Int.natCast_add, Int.natCast_mul, q32_neg, q64_neg, q32_add, q32_sub, q32_mul, q64_add, q64_sub, q64_mul, q32_64i, q64_32, q32_lt_t, q32_lt_f, q32_le_t, q32_le_f, q32_eq_t, q32_eq_f, q64_lt_t, q64_lt_f, q64_le_t, q64_le_f, q64_eq_t, q64_eq_f, rdI_i, rdL_i, rdR_i, rdN_i, stI_i, stL_i, stR_i, wI_s, wI_n, wL_s, wL_n, wI_2, wI_3, wL_1, wL_3, wR_1, wR_2, Int.toNat_natCast, tnO, tn_add, tn_sub, tn_mul, Nat.add_sub_cancel, Nat.add_zero, Nat.zero_add, lnO, win_t, win_f]
  | succ k ih =>
    intro d fuel hd hfu m hr
    obtain ⟨fuel, rfl⟩ : ∃ f, fuel = f + 1 := ⟨fuel - 1, by omega⟩
    obtain ⟨m1, f1, f2, f3, f4⟩ := forg10 hF hp hr.1 (fun _ => -1) (fun i => ((gp [] i).2 : Int))
    have k1 : KG m m1 := ⟨fun a k p1 p2 => f4 a k (by omega) (by omega), fun a k _ _ _ => by rw [f3], by rw [f3]⟩
    have hN : bc ^ (d + 1) ≤ 7776 := by
      have h1 : bc ^ (d + 1) ≤ 6 ^ (d + 1) := Nat.pow_le_pow_left hbc _
      have h3 : 6 ^ (d + 1) ≤ 6 ^ 5 := Nat.pow_le_pow_right (by omega) (by omega)
      have h4 : 6 ^ 5 = 7776 := by decide
      omega
    obtain ⟨m2, j1, j2, j3⟩ := twL10 hF hp hw h2 hbc (n := d + 1) (by omega) (nl_X10_laysTwins_2 F s fuel) (bc ^ (d + 1)) 0 F (by omega) (by omega) m1 [] (hr.k k1.kn) f2 List.nodup_nil (fun x hx => (List.not_mem_nil hx).elim) (Nat.zero_le _) (fun p hp => (List.not_mem_nil hp).elim)
    have eq : nl_X10_laysTwins_2 F s (fuel + 1) m 23 (q32 ((d : Int) + 1)) = nl_X10_laysTwins_13 F s (nl_X10_laysTwins_2 F s fuel) F m1 23 (q32 ((d + 1 : Nat) : Int)) (q32 ((0 : Nat) : Int)) := by
      rw [Int.natCast_add, show ((1 : Nat) : Int) = 1 from rfl]
      show nb_X10_laysTwins_2 F s (nl_X10_laysTwins_2 F s fuel) m 23 _ = _
      unfold nb_X10_laysTwins_2
      simp (disch := omega) only [Option.bind_some, bindv, bindv0, bind2_s, bind3_s, ↓reduceIte, Bool.false_eq_true, rZM_0, rZM_1, rZP_0, rZP_1, ptZ_0, ptZ_1, c32i, c64i, ncI, Int.natCast_add, Int.natCast_mul, q32_neg, q64_neg, q32_add, q32_sub, q32_mul, q64_add, q64_sub, q64_mul, q32_64i, q64_32, q32_lt_t, q32_lt_f, q32_le_t, q32_le_f, q32_eq_t, q32_eq_f, q64_lt_t, q64_lt_f, q64_le_t, q64_le_f, q64_eq_t, q64_eq_f, rdI_i, rdL_i, rdR_i, rdN_i, stI_i, stL_i, stR_i, wI_s, wI_n, wL_s, wL_n, wI_2, wI_3, wL_1, wL_3, wR_1, wR_2, Int.toNat_natCast, tnO, tn_add, tn_sub, tn_mul, Nat.add_sub_cancel, Nat.add_zero, Nat.zero_add, lnO, win_t, win_f, f1]
      first | done | rfl
    rw [eq]
    cases hb : (RTW al bc (A al 7, A al 8) (d + 1) (bc ^ (d + 1)) 0 []).1 with
    | some z =>
      obtain ⟨c0, c1⟩ := z
      have hB : RTS al bc (A al 7, A al 8) (k + 1) d = some (d + 1, c0, c1) := by
        show (match (RTW al bc (A al 7, A al 8) (d + 1) (bc ^ (d + 1)) 0 []).1 with | some z => _ | none => _) = _
        rw [hb]
      rw [hB]
      obtain ⟨z1, z2⟩ := j2 c0 c1 hb
      refine ⟨m2, z1, k1.kn.tr j1, fun n a b h => ?_⟩
      cases h
      exact z2
    | none =>
      have hB : RTS al bc (A al 7, A al 8) (k + 1) d = RTS al bc (A al 7, A al 8) k (d + 1) := by
        show (match (RTW al bc (A al 7, A al 8) (d + 1) (bc ^ (d + 1)) 0 []).1 with | some z => _ | none => _) = _
        rw [hb]
      rw [hB]
      obtain ⟨m3, i1, i2, i3⟩ := ih (d + 1) fuel (by omega) (by omega) m2 (hr.k (k1.kn.tr j1))
      rw [j3 hb]
      exact ⟨m3, i1, (k1.kn.tr j1).tr i2, i3⟩
