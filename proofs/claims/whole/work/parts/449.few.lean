/-! the fewest, by the reference -/
theorem trL10 {F : Nat} {s : List Sh} (hp : ∃ t, s = sB ++ t) {tp : Int} {S : BST} (hk : BOK tp S) {n : Int32} : ∀ d fuel i, d < fuel → i < S.1.length → DP S.2.1 d i → d ≤ 7 → ∀ m : Mem, RF m → MG m S.1 S.2.1 S.2.2 → ∃ m', nl_X10_seeks_149 F s fuel m 23 n (q32 ((d : Nat) - 1)) (q32 i) = some (n, m') ∧ (∀ k, k < d → m'.1 36 k = q32 (RX S.2.1 S.2.2 d i k)) ∧ (∀ k, d ≤ k → m'.1 36 k = m.1 36 k) ∧ (∀ a k, a ≠ 36 → m'.1 a k = m.1 a k) ∧ m'.2 = m.2 := by
  have l33 := ln33 hp
  have l34 := ln34 hp
  have l36 := ln36 hp
  have hk2 := hk.2.1
  intro d
  induction d with
  | zero =>
    intro fuel i hfu hi hd hd7 m hr hM
    obtain ⟨fuel, rfl⟩ : ∃ f, fuel = f + 1 := ⟨fuel - 1, by omega⟩
    refine ⟨m, ?_, fun k hk => by omega, fun k hk => rfl, fun _ _ _ => rfl, rfl⟩
    show nb_X10_seeks_149 F s (nl_X10_seeks_149 F s fuel) m 23 n (q32 (-1)) _ = _
    unfold nb_X10_seeks_149
    simp (disch := omega) only [Option.bind_some, bindv, bindv0, bind2_s, bind3_s, ↓reduceIte, Bool.false_eq_true, rZM_0, rZM_1, rZP_0, rZP_1, ptZ_0, ptZ_1, c32i, c64i, ncI, Int.natCast_add, Int.natCast_mul, q32_neg, q64_neg, q32_add, q32_sub, q32_mul, q64_add, q64_sub, q64_mul, q32_64i, q64_32, q32_lt_t, q32_lt_f, q32_le_t, q32_le_f, q32_eq_t, q32_eq_f, q64_lt_t, q64_lt_f, q64_le_t, q64_le_f, q64_eq_t, q64_eq_f, rdI_i, rdL_i, rdR_i, rdN_i, stI_i, stL_i, stR_i, wI_s, wI_n, wL_s, wL_n, wI_2, wI_3, wL_1, wL_3, wR_1, wR_2, Int.toNat_natCast, tnO, tn_add, tn_sub, tn_mul, Nat.add_sub_cancel, Nat.add_zero, Nat.zero_add, lnO, win_t, win_f]
  | succ d ih =>
    intro fuel i hfu hi hd hd7 m hr hM
    obtain ⟨fuel, rfl⟩ : ∃ f, fuel = f + 1 := ⟨fuel - 1, by omega⟩
    have r26 := rf23_26 hr
    have r27 := rf23_27 hr
    have r30 := rf23_30 hr
    obtain ⟨hi0, hd'⟩ := hd
    obtain ⟨k1, k2, k3, k4⟩ := hk.2.2.2 i hi0 hi
    obtain ⟨p, hpp⟩ := Int.eq_ofNat_of_zero_le k1
    rw [hpp, Int.toNat_natCast] at hd'
    obtain ⟨-, -, u3, u4⟩ := hM.2.1 i hi
    rw [hpp] at u3
    obtain ⟨m', i1, i2, i3, i4, i5⟩ := ih fuel p (by omega) (by omega) hd' (by omega) (wI m 36 d (q32 (S.2.2 i))) (hr.same rfl) (hM.k (fun a k hk => by rw [wI_n (by omega)]))
    refine ⟨m', ?_, fun k hk => ?_, fun k hk => by rw [i3 k (by omega), wI_n (by omega)], fun a k ha => by rw [i4 a k ha, wI_n (by omega)], i5⟩
    · rw [← i1, show ((d + 1 : Nat) : Int) - 1 = (d : Int) by omega]
      show nb_X10_seeks_149 F s (nl_X10_seeks_149 F s fuel) m 23 _ _ _ = _
      unfold nb_X10_seeks_149
      have ed : (d : Int) + -1 = (d : Int) - 1 := by omega
      simp (disch := omega) only [Option.bind_some, bindv, bindv0, bind2_s, bind3_s, ↓reduceIte, Bool.false_eq_true, rZM_0, rZM_1, rZP_0, rZP_1, ptZ_0, ptZ_1, c32i, c64i, ncI, Int.natCast_add, Int.natCast_mul, q32_neg, q64_neg, q32_add, q32_sub, q32_mul, q64_add, q64_sub, q64_mul, q32_64i, q64_32, q32_lt_t, q32_lt_f, q32_le_t, q32_le_f, q32_eq_t, q32_eq_f, q64_lt_t, q64_lt_f, q64_le_t, q64_le_f, q64_eq_t, q64_eq_f, rdI_i, rdL_i, rdR_i, rdN_i, stI_i, stL_i, stR_i, wI_s, wI_n, wL_s, wL_n, wI_2, wI_3, wL_1, wL_3, wR_1, wR_2, Int.toNat_natCast, tnO, tn_add, tn_sub, tn_mul, Nat.add_sub_cancel, Nat.add_zero, Nat.zero_add, lnO, win_t, win_f, r26, r27, r30, u3, u4]
      first | done | rfl | rw [ed]
    · unfold RX
      by_cases ck : k = d
      · rw [if_pos ck, ck, i3 d (by omega), wI_s]
      · rw [if_neg ck, i2 k (by omega), hpp, Int.toNat_natCast]
theorem seI10 {F : Nat} (hF : 20000 ≤ F) {s : List Sh} (hp : ∃ t, s = sB ++ t) {al : Nat → Int32} (hw : WA al) {bc : Nat} (h2 : al 2 = q32 bc) (hbc : bc ≤ 6) {t : FR} (htf : FLR (A al 1) t.1 t.2) {d i bg en : Nat} (hd7 : d ≤ 7) (hen : en ≤ 8191) (hbi : bg ≤ i) (hie : i < en) (n28 : Mem → Nat → Int64 → Int64 → Int32 → Int32 → Option (Int32 × Mem)) (n36 : Mem → Nat → Int64 → Int64 → Int32 → Int32 → Int32 → Option (Int32 × Mem)) : ∀ n fuel b, b + n = bc → n < fuel → ∀ (m : Mem) (S : BST), RD m al → MG m S.1 S.2.1 S.2.2 → BOK (A al 1) S → en ≤ S.1.length → LV bg en d S → ∃ m', (∀ b', (BFI al t i n b S).1 = some b' → nl_X10_seeks_71 F s n28 n36 fuel m 23 (q64 t.1) (q64 t.2) (q32 ((d : Int) + 1)) (q32 en) (q32 i) (q32 (b : Nat)) = some (q32 ((d : Int) + 1), m') ∧ ∀ k, k ≤ d → m'.1 36 k = q32 (RW (BFI al t i n b S).2.2.1 (BFI al t i n b S).2.2.2 d i b' k)) ∧ ((BFI al t i n b S).1 = none → nl_X10_seeks_71 F s n28 n36 fuel m 23 (q64 t.1) (q64 t.2) (q32 ((d : Int) + 1)) (q32 en) (q32 i) (q32 (b : Nat)) = n36 m' 23 (q64 t.1) (q64 t.2) (q32 ((d : Int) + 1)) (q32 en) (q32 (i + 1)) ∧ MG m' (BFI al t i n b S).2.1 (BFI al t i n b S).2.2.1 (BFI al t i n b S).2.2.2) ∧ KN m m' := by
  have l24 := ln24 hp
  have l31 := ln31 hp
  have l32 := ln32 hp
  have l36 := ln36 hp
  have tb := htf.b
  intro n
  induction n with
  | zero =>
    intro fuel b hb hfu m S hr hM hk hl hv
    obtain ⟨fuel, rfl⟩ : ∃ f, fuel = f + 1 := ⟨fuel - 1, by omega⟩
    have hk2 := hk.2.1
    have r1 := rf23_1 hr.1
    have hb2 : m.1 24 2 = q32 bc := by rw [hr.2 2 (by omega)]; exact h2
    refine ⟨m, fun b' h => by (cases h), fun _ => ⟨?_, hM⟩, KN.rf m⟩
    show nb_X10_seeks_71 F s n28 n36 (nl_X10_seeks_71 F s n28 n36 fuel) m 23 _ _ _ _ _ _ = _
    unfold nb_X10_seeks_71
    simp (disch := omega) only [Option.bind_some, bindv, bindv0, bind2_s, bind3_s, ↓reduceIte, Bool.false_eq_true, rZM_0, rZM_1, rZP_0, rZP_1, ptZ_0, ptZ_1, c32i, c64i, ncI, Int.natCast_add, Int.natCast_mul, q32_neg, q64_neg, q32_add, q32_sub, q32_mul, q64_add, q64_sub, q64_mul, q32_64i, q64_32, q32_lt_t, q32_lt_f, q32_le_t, q32_le_f, q32_eq_t, q32_eq_f, q64_lt_t, q64_lt_f, q64_le_t, q64_le_f, q64_eq_t, q64_eq_f, rdI_i, rdL_i, rdR_i, rdN_i, stI_i, stL_i, stR_i, wI_s, wI_n, wL_s, wL_n, wI_2, wI_3, wL_1, wL_3, wR_1, wR_2, Int.toNat_natCast, tnO, tn_add, tn_sub, tn_mul, Nat.add_sub_cancel, Nat.add_zero, Nat.zero_add, lnO, win_t, win_f, r1, hb2]
  | succ n ih =>
    intro fuel b hb hfu m S hr hM hk hl hv
    obtain ⟨fuel, rfl⟩ : ∃ f, fuel = f + 1 := ⟨fuel - 1, by omega⟩
    have hk2 := hk.2.1
    have r1 := rf23_1 hr.1
    have r24 := rf23_24 hr.1
    have r25 := rf23_25 hr.1
    have hb2 : m.1 24 2 = q32 bc := by rw [hr.2 2 (by omega)]; exact h2
    have hi : i < S.1.length := by omega
    have hx := hk.2.2.1.at hi
    have xb := hx.b
    obtain ⟨u1, u2, -⟩ := hM.2.1 i hi
    obtain ⟨m1, e1, e2, e3, e4, e5⟩ := glead hF hp hw hr hx (b := (b : Int)) (by omega)
    have hM1 := e4 _ _ _ hM
    have r30 := rf23_30 e3.1
    have le := LE_b al b (gt S.1 i)
    by_cases c0 : (LE al b (gt S.1 i)).1 = 0
    · rw [c0] at e1
      obtain ⟨a0, a1, ay⟩ := e5 c0
      have yb := ay.b
      by_cases ct : (LE al b (gt S.1 i)).2 = t
      · have hB : BFI al t i (n + 1) b S = (some b, S) := by unfold BFI; rw [if_pos ⟨c0, ct⟩]
        rw [hB]
        rw [ct] at a0 a1
        obtain ⟨m2, t1, t2, t3, t4, t5⟩ := trL10 (F := F) hp hk (n := q32 ((d : Int) + 1)) d F i (by omega) hi (hv.1 i hbi hie) hd7 (wI m1 36 d (q32 b)) (e3.1.same rfl) (hM1.k (fun a k hk => by rw [wI_n (by omega)]))
        refine ⟨m2, fun b' h => ?_, fun h => by (cases h), e2.kn.tr ⟨fun a k p1 p2 => by rw [t4 a k (by omega), wI_n (by omega)], fun a k _ _ _ => by rw [t5]; rfl, by rw [t5]; rfl⟩⟩
        cases h
        refine ⟨?_, fun k hk => ?_⟩
        · rw [← t1]
          show nb_X10_seeks_71 F s n28 n36 (nl_X10_seeks_71 F s n28 n36 fuel) m 23 _ _ _ _ _ _ = _
          unfold nb_X10_seeks_71
          have ed : (d : Int) + 1 - 1 = d := by omega
          have ed2 : (d : Int) + 1 - 2 = (d : Int) - 1 := by omega
          simp (disch := omega) only [Option.bind_some, bindv, bindv0, bind2_s, bind3_s, ↓reduceIte, Bool.false_eq_true, rZM_0, rZM_1, rZP_0, rZP_1, ptZ_0, ptZ_1, c32i, c64i, ncI, Int.natCast_add, Int.natCast_mul, q32_neg, q64_neg, q32_add, q32_sub, q32_mul, q64_add, q64_sub, q64_mul, q32_64i, q64_32, q32_lt_t, q32_lt_f, q32_le_t, q32_le_f, q32_eq_t, q32_eq_f, q64_lt_t, q64_lt_f, q64_le_t, q64_le_f, q64_eq_t, q64_eq_f, rdI_i, rdL_i, rdR_i, rdN_i, stI_i, stL_i, stR_i, wI_s, wI_n, wL_s, wL_n, wI_2, wI_3, wL_1, wL_3, wR_1, wR_2, Int.toNat_natCast, tnO, tn_add, tn_sub, tn_mul, Nat.add_sub_cancel, Nat.add_zero, Nat.zero_add, lnO, win_t, win_f, r1, hb2, r24, r25, u1, u2, e1, a0, a1, r30, ed, ed2]
        · unfold RW
          by_cases ck : k = d
          · rw [if_pos ck, ck, t3 d (by omega), wI_s]
          · rw [if_neg ck]
            exact t2 k (by omega)
      · have hB : BFI al t i (n + 1) b S = BFI al t i n (b + 1) (BF1 al i b S) := by
          show (if _ then _ else _) = _
          rw [if_neg (fun h => ct h.2)]
        rw [hB]
        have step : ∃ m2, nb_X10_seeks_186 F s n28 n36 (nl_X10_seeks_71 F s n28 n36 fuel) m1 23 (q64 t.1) (q64 t.2) (q32 ((d : Int) + 1)) (q32 en) (q32 i) (q32 b) = nl_X10_seeks_71 F s n28 n36 fuel m2 23 (q64 t.1) (q64 t.2) (q32 ((d : Int) + 1)) (q32 en) (q32 i) (q32 ((b : Int) + 1)) ∧ KN m1 m2 ∧ RD m2 al ∧ MG m2 (BF1 al i b S).1 (BF1 al i b S).2.1 (BF1 al i b S).2.2 := by
          have sz := hM1.1
          unfold nb_X10_seeks_186 nb_X10_seeks_228
          by_cases c2 : S.1.length ≤ 2000
          · have ff := gmet hF hp e3.1 hM1 (by omega) hk.2.2.1 ay
            by_cases cm : (LE al b (gt S.1 i)).2 ∈ S.1
            · rw [show BF1 al i b S = S by unfold BF1; rw [if_neg (fun h => h.2.2 cm)]]
              obtain ⟨r, r1', r2', r3'⟩ := ff.1 cm
              refine ⟨m1, ?_, KN.rf m1, e3, hM1⟩
              simp (disch := omega) only [Option.bind_some, bindv, bindv0, bind2_s, bind3_s, ↓reduceIte, Bool.false_eq_true, rZM_0, rZM_1, rZP_0, rZP_1, ptZ_0, ptZ_1, c32i, c64i, ncI, Int.natCast_add, Int.natCast_mul, q32_neg, q64_neg, q32_add, q32_sub, q32_mul, q64_add, q64_sub, q64_mul, q32_64i, q64_32, q32_lt_t, q32_lt_f, q32_le_t, q32_le_f, q32_eq_t, q32_eq_f, q64_lt_t, q64_lt_f, q64_le_t, q64_le_f, q64_eq_t, q64_eq_f, rdI_i, rdL_i, rdR_i, rdN_i, stI_i, stL_i, stR_i, wI_s, wI_n, wL_s, wL_n, wI_2, wI_3, wL_1, wL_3, wR_1, wR_2, Int.toNat_natCast, tnO, tn_add, tn_sub, tn_mul, Nat.add_sub_cancel, Nat.add_zero, Nat.zero_add, lnO, win_t, win_f, sz, a0, a1, r3']
              first | done | rfl
            · rw [show BF1 al i b S = (S.1 ++ [(LE al b (gt S.1 i)).2], updI S.2.1 S.1.length i, updI S.2.2 S.1.length b) by unfold BF1; rw [if_pos ⟨c0, c2, cm⟩]]
              have r3' := ff.2 cm
              obtain ⟨m2, p1, p2, p3, -, p4⟩ := gput hF hp e3 hM1 (by omega) ay i b
              refine ⟨m2, ?_, p2.kn, p3, p4⟩
              simp (disch := omega) only [Option.bind_some, bindv, bindv0, bind2_s, bind3_s, ↓reduceIte, Bool.false_eq_true, rZM_0, rZM_1, rZP_0, rZP_1, ptZ_0, ptZ_1, c32i, c64i, ncI, Int.natCast_add, Int.natCast_mul, q32_neg, q64_neg, q32_add, q32_sub, q32_mul, q64_add, q64_sub, q64_mul, q32_64i, q64_32, q32_lt_t, q32_lt_f, q32_le_t, q32_le_f, q32_eq_t, q32_eq_f, q64_lt_t, q64_lt_f, q64_le_t, q64_le_f, q64_eq_t, q64_eq_f, rdI_i, rdL_i, rdR_i, rdN_i, stI_i, stL_i, stR_i, wI_s, wI_n, wL_s, wL_n, wI_2, wI_3, wL_1, wL_3, wR_1, wR_2, Int.toNat_natCast, tnO, tn_add, tn_sub, tn_mul, Nat.add_sub_cancel, Nat.add_zero, Nat.zero_add, lnO, win_t, win_f, sz, a0, a1, r3', p1]
              first | done | rfl
          · rw [show BF1 al i b S = S by unfold BF1; rw [if_neg (fun h => c2 h.2.1)]]
            refine ⟨m1, ?_, KN.rf m1, e3, hM1⟩
            simp (disch := omega) only [Option.bind_some, bindv, bindv0, bind2_s, bind3_s, ↓reduceIte, Bool.false_eq_true, rZM_0, rZM_1, rZP_0, rZP_1, ptZ_0, ptZ_1, c32i, c64i, ncI, Int.natCast_add, Int.natCast_mul, q32_neg, q64_neg, q32_add, q32_sub, q32_mul, q64_add, q64_sub, q64_mul, q32_64i, q64_32, q32_lt_t, q32_lt_f, q32_le_t, q32_le_f, q32_eq_t, q32_eq_f, q64_lt_t, q64_lt_f, q64_le_t, q64_le_f, q64_eq_t, q64_eq_f, rdI_i, rdL_i, rdR_i, rdN_i, stI_i, stL_i, stR_i, wI_s, wI_n, wL_s, wL_n, wI_2, wI_3, wL_1, wL_3, wR_1, wR_2, Int.toNat_natCast, tnO, tn_add, tn_sub, tn_mul, Nat.add_sub_cancel, Nat.add_zero, Nat.zero_add, lnO, win_t, win_f, sz]
            first | done | rfl
        obtain ⟨m2, s1, s2, s3, s4⟩ := step
        obtain ⟨m3, j1, j2, j3⟩ := ih fuel (b + 1) (by omega) (by omega) m2 _ s3 s4 (hk.f1 hw hi (by omega)) (Nat.le_trans hl (BF1_len al i b S)) (hv.f1 hk hl hbi hie)
        have eq : nl_X10_seeks_71 F s n28 n36 (fuel + 1) m 23 (q64 t.1) (q64 t.2) (q32 ((d : Int) + 1)) (q32 en) (q32 i) (q32 (b : Nat)) = nl_X10_seeks_71 F s n28 n36 fuel m2 23 (q64 t.1) (q64 t.2) (q32 ((d : Int) + 1)) (q32 en) (q32 i) (q32 ((b + 1 : Nat) : Int)) := by
          rw [Int.natCast_add, show ((1 : Nat) : Int) = 1 from rfl, ← s1]
          show nb_X10_seeks_71 F s n28 n36 (nl_X10_seeks_71 F s n28 n36 fuel) m 23 _ _ _ _ _ _ = _
          unfold nb_X10_seeks_71
          by_cases c1 : (LE al b (gt S.1 i)).2.1 = t.1
          · have c2 : (LE al b (gt S.1 i)).2.2 ≠ t.2 := fun h => ct (Prod.ext c1 h)
            rw [c1] at a0
            simp (disch := omega) only [Option.bind_some, bindv, bindv0, bind2_s, bind3_s, ↓reduceIte, Bool.false_eq_true, rZM_0, rZM_1, rZP_0, rZP_1, ptZ_0, ptZ_1, c32i, c64i, ncI, Int.natCast_add, Int.natCast_mul, q32_neg, q64_neg, q32_add, q32_sub, q32_mul, q64_add, q64_sub, q64_mul, q32_64i, q64_32, q32_lt_t, q32_lt_f, q32_le_t, q32_le_f, q32_eq_t, q32_eq_f, q64_lt_t, q64_lt_f, q64_le_t, q64_le_f, q64_eq_t, q64_eq_f, rdI_i, rdL_i, rdR_i, rdN_i, stI_i, stL_i, stR_i, wI_s, wI_n, wL_s, wL_n, wI_2, wI_3, wL_1, wL_3, wR_1, wR_2, Int.toNat_natCast, tnO, tn_add, tn_sub, tn_mul, Nat.add_sub_cancel, Nat.add_zero, Nat.zero_add, lnO, win_t, win_f, r1, hb2, r24, r25, u1, u2, e1, a0, a1]
          · simp (disch := omega) only [Option.bind_some, bindv, bindv0, bind2_s, bind3_s, ↓reduceIte, Bool.false_eq_true, rZM_0, rZM_1, rZP_0, rZP_1, ptZ_0, ptZ_1, c32i, c64i, ncI, Int.natCast_add, Int.natCast_mul, q32_neg, q64_neg, q32_add, q32_sub, q32_mul, q64_add, q64_sub, q64_mul, q32_64i, q64_32, q32_lt_t, q32_lt_f, q32_le_t, q32_le_f, q32_eq_t, q32_eq_f, q64_lt_t, q64_lt_f, q64_le_t, q64_le_f, q64_eq_t, q64_eq_f, rdI_i, rdL_i, rdR_i, rdN_i, stI_i, stL_i, stR_i, wI_s, wI_n, wL_s, wL_n, wI_2, wI_3, wL_1, wL_3, wR_1, wR_2, Int.toNat_natCast, tnO, tn_add, tn_sub, tn_mul, Nat.add_sub_cancel, Nat.add_zero, Nat.zero_add, lnO, win_t, win_f, r1, hb2, r24, r25, u1, u2, e1, a0, a1]
        rw [eq]
        exact ⟨m3, j1, j2, (e2.kn.tr s2).tr j3⟩
    · have hB : BFI al t i (n + 1) b S = BFI al t i n (b + 1) S := by
        show (if _ then _ else _) = _
        rw [if_neg (fun h => c0 h.1)]
        unfold BF1
        rw [if_neg (fun h => c0 h.1)]
      rw [hB]
      obtain ⟨m3, j1, j2, j3⟩ := ih fuel (b + 1) (by omega) (by omega) m1 S e3 hM1 hk hl hv
      have eq : nl_X10_seeks_71 F s n28 n36 (fuel + 1) m 23 (q64 t.1) (q64 t.2) (q32 ((d : Int) + 1)) (q32 en) (q32 i) (q32 (b : Nat)) = nl_X10_seeks_71 F s n28 n36 fuel m1 23 (q64 t.1) (q64 t.2) (q32 ((d : Int) + 1)) (q32 en) (q32 i) (q32 ((b + 1 : Nat) : Int)) := by
        rw [Int.natCast_add, show ((1 : Nat) : Int) = 1 from rfl]
        show nb_X10_seeks_71 F s n28 n36 (nl_X10_seeks_71 F s n28 n36 fuel) m 23 _ _ _ _ _ _ = _
        unfold nb_X10_seeks_71 nb_X10_seeks_228
        simp (disch := omega) only [Option.bind_some, bindv, bindv0, bind2_s, bind3_s, ↓reduceIte, Bool.false_eq_true, rZM_0, rZM_1, rZP_0, rZP_1, ptZ_0, ptZ_1, c32i, c64i, ncI, Int.natCast_add, Int.natCast_mul, q32_neg, q64_neg, q32_add, q32_sub, q32_mul, q64_add, q64_sub, q64_mul, q32_64i, q64_32, q32_lt_t, q32_lt_f, q32_le_t, q32_le_f, q32_eq_t, q32_eq_f, q64_lt_t, q64_lt_f, q64_le_t, q64_le_f, q64_eq_t, q64_eq_f, rdI_i, rdL_i, rdR_i, rdN_i, stI_i, stL_i, stR_i, wI_s, wI_n, wL_s, wL_n, wI_2, wI_3, wL_1, wL_3, wR_1, wR_2, Int.toNat_natCast, tnO, tn_add, tn_sub, tn_mul, Nat.add_sub_cancel, Nat.add_zero, Nat.zero_add, lnO, win_t, win_f, r1, hb2, r24, r25, u1, u2, e1]
      rw [eq]
      exact ⟨m3, j1, j2, e2.kn.tr j3⟩
theorem seO10 {F : Nat} (hF : 20000 ≤ F) {s : List Sh} (hp : ∃ t, s = sB ++ t) {al : Nat → Int32} (hw : WA al) {bc : Nat} (h2 : al 2 = q32 bc) (hbc : bc ≤ 6) {t : FR} (htf : FLR (A al 1) t.1 t.2) {d bg en : Nat} (hd7 : d ≤ 7) (hen : en ≤ 8191) (n28 : Mem → Nat → Int64 → Int64 → Int32 → Int32 → Option (Int32 × Mem)) : ∀ n fuel i, i + n = en → n < fuel → bg ≤ i → ∀ (m : Mem) (S : BST), RD m al → MG m S.1 S.2.1 S.2.2 → BOK (A al 1) S → en ≤ S.1.length → LV bg en d S → ∃ m', (∀ i' b', (BFO al t bc n i S).1 = some (i', b') → nl_X10_seeks_61 F s n28 fuel m 23 (q64 t.1) (q64 t.2) (q32 ((d : Int) + 1)) (q32 en) (q32 (i : Nat)) = some (q32 ((d : Int) + 1), m') ∧ ∀ k, k ≤ d → m'.1 36 k = q32 (RW (BFO al t bc n i S).2.2.1 (BFO al t bc n i S).2.2.2 d i' b' k)) ∧ ((BFO al t bc n i S).1 = none → nl_X10_seeks_61 F s n28 fuel m 23 (q64 t.1) (q64 t.2) (q32 ((d : Int) + 1)) (q32 en) (q32 (i : Nat)) = (if 2000 < (BFO al t bc n i S).2.1.length then some (q32 (-1000), m') else if (BFO al t bc n i S).2.1.length = en then some (q32 (-1), m') else n28 m' 23 (q64 t.1) (q64 t.2) (q32 en) (q32 ((d : Int) + 1 + 1))) ∧ MG m' (BFO al t bc n i S).2.1 (BFO al t bc n i S).2.2.1 (BFO al t bc n i S).2.2.2) ∧ KN m m' := by
  intro n
  induction n with
  | zero =>
    intro fuel i hi hfu hbi m S hr hM hk hl hv
    obtain ⟨fuel, rfl⟩ : ∃ f, fuel = f + 1 := ⟨fuel - 1, by omega⟩
    have hk2 := hk.2.1
    have sz := hM.1
    refine ⟨m, fun i' b' h => by (cases h), fun _ => ⟨?_, hM⟩, KN.rf m⟩
    show nb_X10_seeks_61 F s n28 (nl_X10_seeks_61 F s n28 fuel) m 23 _ _ _ _ _ = if 2000 < S.1.length then _ else if S.1.length = en then _ else _
    unfold nb_X10_seeks_61
    by_cases c2 : 2000 < S.1.length
    · rw [if_pos c2]
      simp (disch := omega) only [Option.bind_some, bindv, bindv0, bind2_s, bind3_s, ↓reduceIte, Bool.false_eq_true, rZM_0, rZM_1, rZP_0, rZP_1, ptZ_0, ptZ_1, c32i, c64i, ncI, Int.natCast_add, Int.natCast_mul, q32_neg, q64_neg, q32_add, q32_sub, q32_mul, q64_add, q64_sub, q64_mul, q32_64i, q64_32, q32_lt_t, q32_lt_f, q32_le_t, q32_le_f, q32_eq_t, q32_eq_f, q64_lt_t, q64_lt_f, q64_le_t, q64_le_f, q64_eq_t, q64_eq_f, rdI_i, rdL_i, rdR_i, rdN_i, stI_i, stL_i, stR_i, wI_s, wI_n, wL_s, wL_n, wI_2, wI_3, wL_1, wL_3, wR_1, wR_2, Int.toNat_natCast, tnO, tn_add, tn_sub, tn_mul, Nat.add_sub_cancel, Nat.add_zero, Nat.zero_add, lnO, win_t, win_f, sz]
    · rw [if_neg c2]
      by_cases c3 : S.1.length = en
      · rw [if_pos c3]
        rw [c3] at sz
        simp (disch := omega) only [Option.bind_some, bindv, bindv0, bind2_s, bind3_s, ↓reduceIte, Bool.false_eq_true, rZM_0, rZM_1, rZP_0, rZP_1, ptZ_0, ptZ_1, c32i, c64i, ncI, Int.natCast_add, Int.natCast_mul, q32_neg, q64_neg, q32_add, q32_sub, q32_mul, q64_add, q64_sub, q64_mul, q32_64i, q64_32, q32_lt_t, q32_lt_f, q32_le_t, q32_le_f, q32_eq_t, q32_eq_f, q64_lt_t, q64_lt_f, q64_le_t, q64_le_f, q64_eq_t, q64_eq_f, rdI_i, rdL_i, rdR_i, rdN_i, stI_i, stL_i, stR_i, wI_s, wI_n, wL_s, wL_n, wI_2, wI_3, wL_1, wL_3, wR_1, wR_2, Int.toNat_natCast, tnO, tn_add, tn_sub, tn_mul, Nat.add_sub_cancel, Nat.add_zero, Nat.zero_add, lnO, win_t, win_f, sz]
      · rw [if_neg c3]
        simp (disch := omega) only [Option.bind_some, bindv, bindv0, bind2_s, bind3_s, ↓reduceIte, Bool.false_eq_true, rZM_0, rZM_1, rZP_0, rZP_1, ptZ_0, ptZ_1, c32i, c64i, ncI, Int.natCast_add, Int.natCast_mul, q32_neg, q64_neg, q32_add, q32_sub, q32_mul, q64_add, q64_sub, q64_mul, q32_64i, q64_32, q32_lt_t, q32_lt_f, q32_le_t, q32_le_f, q32_eq_t, q32_eq_f, q64_lt_t, q64_lt_f, q64_le_t, q64_le_f, q64_eq_t, q64_eq_f, rdI_i, rdL_i, rdR_i, rdN_i, stI_i, stL_i, stR_i, wI_s, wI_n, wL_s, wL_n, wI_2, wI_3, wL_1, wL_3, wR_1, wR_2, Int.toNat_natCast, tnO, tn_add, tn_sub, tn_mul, Nat.add_sub_cancel, Nat.add_zero, Nat.zero_add, lnO, win_t, win_f, sz]
  | succ n ih =>
    intro fuel i hi hfu hbi m S hr hM hk hl hv
    obtain ⟨fuel, rfl⟩ : ∃ f, fuel = f + 1 := ⟨fuel - 1, by omega⟩
    obtain ⟨m1, j1, j2, j3⟩ := seI10 hF hp hw h2 hbc htf (d := d) (i := i) (bg := bg) (en := en) hd7 hen hbi (by omega) n28 (nl_X10_seeks_61 F s n28 fuel) bc F 0 (by omega) (by omega) m S hr hM hk hl hv
    have eq : nl_X10_seeks_61 F s n28 (fuel + 1) m 23 (q64 t.1) (q64 t.2) (q32 ((d : Int) + 1)) (q32 en) (q32 (i : Nat)) = nl_X10_seeks_71 F s n28 (nl_X10_seeks_61 F s n28 fuel) F m 23 (q64 t.1) (q64 t.2) (q32 ((d : Int) + 1)) (q32 en) (q32 i) (q32 ((0 : Nat) : Int)) := by
      show nb_X10_seeks_61 F s n28 (nl_X10_seeks_61 F s n28 fuel) m 23 _ _ _ _ _ = _
      unfold nb_X10_seeks_61
      simp (disch := omega) only [Option.bind_some, bindv, bindv0, bind2_s, bind3_s, ↓reduceIte, Bool.false_eq_true, rZM_0, rZM_1, rZP_0, rZP_1, ptZ_0, ptZ_1, c32i, c64i, ncI, Int.natCast_add, Int.natCast_mul, q32_neg, q64_neg, q32_add, q32_sub, q32_mul, q64_add, q64_sub, q64_mul, q32_64i, q64_32, q32_lt_t, q32_lt_f, q32_le_t, q32_le_f, q32_eq_t, q32_eq_f, q64_lt_t, q64_lt_f, q64_le_t, q64_le_f, q64_eq_t, q64_eq_f, rdI_i, rdL_i, rdR_i, rdN_i, stI_i, stL_i, stR_i, wI_s, wI_n, wL_s, wL_n, wI_2, wI_3, wL_1, wL_3, wR_1, wR_2, Int.toNat_natCast, tnO, tn_add, tn_sub, tn_mul, Nat.add_sub_cancel, Nat.add_zero, Nat.zero_add, lnO, win_t, win_f]
      first | done | rfl
    rw [eq]
    have lv := LV.fi hw (t := t) (i := i) hbi (by omega) bc 0 S (by omega) hv hk hl
    cases hb : (BFI al t i bc 0 S).1 with
    | some b =>
      have hB : BFO al t bc (n + 1) i S = (some (i, b), (BFI al t i bc 0 S).2) := by
        show (match (BFI al t i bc 0 S).1 with | some b => _ | none => _) = _
        rw [hb]
      rw [hB]
      refine ⟨m1, fun i' b' h => ?_, fun h => by (cases h), j3⟩
      cases h
      exact j1 b hb
    | none =>
      have hB : BFO al t bc (n + 1) i S = BFO al t bc n (i + 1) (BFI al t i bc 0 S).2 := by
        show (match (BFI al t i bc 0 S).1 with | some b => _ | none => _) = _
        rw [hb]
      rw [hB]
      obtain ⟨j4, j5⟩ := j2 hb
      obtain ⟨m2, k1, k2, k3⟩ := ih fuel (i + 1) (by omega) (by omega) (by omega) m1 _ (hr.k j3) j5 lv.2 (Nat.le_trans hl (BFI_len al t i bc 0 S)) lv.1
      rw [j4]
      exact ⟨m2, k1, k2, j3.tr k3⟩
theorem fwsL10 {F : Nat} (hF : 20000 ≤ F) {s : List Sh} (hp : ∃ t, s = sB ++ t) {al : Nat → Int32} (hw : WA al) {bc : Nat} (h2 : al 2 = q32 bc) (hbc : bc ≤ 6) {t : FR} (htf : FLR (A al 1) t.1 t.2) : ∀ k d fuel bg, d + k = 8 → k < fuel → ∀ (m : Mem) (S : BST), RD m al → MG m S.1 S.2.1 S.2.2 → BOK (A al 1) S → bg ≤ S.1.length → LV bg S.1.length d S → ∃ m', nl_X10_seeks_44 F s fuel m 23 (q64 t.1) (q64 t.2) (q32 (bg : Nat)) (q32 ((d : Int) + 1)) = some (q32 (BFL al t bc k d bg S).1, m') ∧ KN m m' ∧ ∀ k' : Nat, (k' : Int) < (BFL al t bc k d bg S).1 → m'.1 36 k' = q32 ((BFL al t bc k d bg S).2 k') := by
  intro k
  induction k with
  | zero =>
    intro d fuel bg hd hfu m S hr hM hk hbg hv
    obtain ⟨fuel, rfl⟩ : ∃ f, fuel = f + 1 := ⟨fuel - 1, by omega⟩
    refine ⟨m, ?_, KN.rf m, fun k' h => absurd h (by show ¬ (k' : Int) < -1; omega)⟩
    show nb_X10_seeks_44 F s (nl_X10_seeks_44 F s fuel) m 23 _ _ _ _ = _
    unfold nb_X10_seeks_44 BFL
    simp (disch := omega) only [Option.bind_some, bindv, bindv0, bind2_s, bind3_s, ↓reduceIte, Bool.false_eq_true, rZM_0, rZM_1, rZP_0, rZP_1, ptZ_0, ptZ_1, c32i, c64i, ncI, Int.natCast_add, Int.natCast_mul, q32_neg, q64_neg, q32_add, q32_sub, q32_mul, q64_add, q64_sub, q64_mul, q32_64i, q64_32, q32_lt_t, q32_lt_f, q32_le_t, q32_le_f, q32_eq_t, q32_eq_f, q64_lt_t, q64_lt_f, q64_le_t, q64_le_f, q64_eq_t, q64_eq_f, rdI_i, rdL_i, rdR_i, rdN_i, stI_i, stL_i, stR_i, wI_s, wI_n, wL_s, wL_n, wI_2, wI_3, wL_1, wL_3, wR_1, wR_2, Int.toNat_natCast, tnO, tn_add, tn_sub, tn_mul, Nat.add_sub_cancel, Nat.add_zero, Nat.zero_add, lnO, win_t, win_f]
  | succ k ih =>
    intro d fuel bg hd hfu m S hr hM hk hbg hv
    obtain ⟨fuel, rfl⟩ : ∃ f, fuel = f + 1 := ⟨fuel - 1, by omega⟩
    have hk2 := hk.2.1
    have sz := hM.1
    obtain ⟨m1, j1, j2, j3⟩ := seO10 hF hp hw h2 hbc htf (d := d) (bg := bg) (en := S.1.length) (by omega) (by omega) (nl_X10_seeks_44 F s fuel) (S.1.length - bg) F bg (by omega) (by omega) (Nat.le_refl _) m S hr hM hk (Nat.le_refl _) hv
    have lv := LV.fo hw (t := t) hbc (S.1.length - bg) bg S (by omega) (Nat.le_refl _) hv hk (Nat.le_refl _)
    have ll := BFO_len al t bc (S.1.length - bg) bg S
    have eq : nl_X10_seeks_44 F s (fuel + 1) m 23 (q64 t.1) (q64 t.2) (q32 (bg : Nat)) (q32 ((d : Int) + 1)) = nl_X10_seeks_61 F s (nl_X10_seeks_44 F s fuel) F m 23 (q64 t.1) (q64 t.2) (q32 ((d : Int) + 1)) (q32 S.1.length) (q32 (bg : Nat)) := by
      show nb_X10_seeks_44 F s (nl_X10_seeks_44 F s fuel) m 23 _ _ _ _ = _
      unfold nb_X10_seeks_44
      simp (disch := omega) only [Option.bind_some, bindv, bindv0, bind2_s, bind3_s, ↓reduceIte, Bool.false_eq_true, rZM_0, rZM_1, rZP_0, rZP_1, ptZ_0, ptZ_1, c32i, c64i, ncI, Int.natCast_add, Int.natCast_mul, q32_neg, q64_neg, q32_add, q32_sub, q32_mul, q64_add, q64_sub, q64_mul, q32_64i, q64_32, q32_lt_t, q32_lt_f, q32_le_t, q32_le_f, q32_eq_t, q32_eq_f, q64_lt_t, q64_lt_f, q64_le_t, q64_le_f, q64_eq_t, q64_eq_f, rdI_i, rdL_i, rdR_i, rdN_i, stI_i, stL_i, stR_i, wI_s, wI_n, wL_s, wL_n, wI_2, wI_3, wL_1, wL_3, wR_1, wR_2, Int.toNat_natCast, tnO, tn_add, tn_sub, tn_mul, Nat.add_sub_cancel, Nat.add_zero, Nat.zero_add, lnO, win_t, win_f, sz]
    rw [eq]
    cases hb : (BFO al t bc (S.1.length - bg) bg S).1 with
    | some p =>
      obtain ⟨i, b⟩ := p
      have hB : BFL al t bc (k + 1) d bg S = ((d : Int) + 1, RW (BFO al t bc (S.1.length - bg) bg S).2.2.1 (BFO al t bc (S.1.length - bg) bg S).2.2.2 d i b) := by
        show (match (BFO al t bc (S.1.length - bg) bg S).1 with | some (i, b) => _ | none => _) = _
        rw [hb]
      rw [hB]
      obtain ⟨z1, z2⟩ := j1 i b hb
      refine ⟨m1, z1, j3, fun k' hk' => ?_⟩
      have hk'' : (k' : Int) < (d : Int) + 1 := hk'
      exact z2 k' (by omega)
    | none =>
      have hB : BFL al t bc (k + 1) d bg S = if 2000 < (BFO al t bc (S.1.length - bg) bg S).2.1.length then (-1000, fun _ => 0) else if (BFO al t bc (S.1.length - bg) bg S).2.1.length = S.1.length then (-1, fun _ => 0) else BFL al t bc k (d + 1) S.1.length (BFO al t bc (S.1.length - bg) bg S).2 := by
        show (match (BFO al t bc (S.1.length - bg) bg S).1 with | some (i, b) => _ | none => _) = _
        rw [hb]
      rw [hB]
      obtain ⟨z1, z2⟩ := j2 hb
      rw [z1]
      have j5 : BOK (A al 1) (BFO al t bc (S.1.length - bg) bg S).2 := BOK.fo hw hbc (S.1.length - bg) bg S (by omega) hk
      generalize (BFO al t bc (S.1.length - bg) bg S).2 = S' at *
      by_cases c2 : 2000 < S'.1.length
      · rw [if_pos c2, if_pos c2]
        exact ⟨m1, rfl, j3, fun k' h => absurd h (by show ¬ (k' : Int) < -1000; omega)⟩
      · rw [if_neg c2, if_neg c2]
        by_cases c3 : S'.1.length = S.1.length
        · rw [if_pos c3, if_pos c3]
          exact ⟨m1, rfl, j3, fun k' h => absurd h (by show ¬ (k' : Int) < -1; omega)⟩
        · rw [if_neg c3, if_neg c3]
          obtain ⟨m2, i1, i2, i3⟩ := ih (d + 1) fuel S.1.length (by omega) (by omega) m1 S' (hr.k j3) z2 j5 ll ⟨fun j p1 p2 => lv.2 j p1 p2, fun j p1 p2 => absurd p2 (by omega)⟩
          exact ⟨m2, i1, j3.tr i2, i3⟩
theorem seeks10 {F : Nat} (hF : 20000 ≤ F) {s : List Sh} (hp : ∃ t, s = sB ++ t) {al : Nat → Int32} (hw : WA al) {bc : Nat} (h2 : al 2 = q32 bc) (hbc : bc ≤ 6) {t : FR} (htf : FLR (A al 1) t.1 t.2) {m : Mem} (hr : RD m al) : ∃ m', n_X10_seeks F s m 23 (q64 t.1) (q64 t.2) = some (q32 (if (A al 7, A al 8) = t then 0 else (BFL al t bc 8 0 0 ([(A al 7, A al 8)], fun _ => -1, fun _ => -1)).1), m') ∧ KN m m' ∧ ((A al 7, A al 8) ≠ t → ∀ k' : Nat, (k' : Int) < (BFL al t bc 8 0 0 ([(A al 7, A al 8)], fun _ => -1, fun _ => -1)).1 → m'.1 36 k' = q32 ((BFL al t bc 8 0 0 ([(A al 7, A al 8)], fun _ => -1, fun _ => -1)).2 k')) := by
  obtain ⟨tp, t1, t2, t3, t4, t5, t6, t7, -⟩ := hw.at
  have hx : FLR (A al 1) (A al 7, A al 8).1 (A al 7, A al 8).2 := by rw [t4]; exact t5
  have xb := hx.b
  have tb := htf.b
  have l24 := ln24 hp
  obtain ⟨m1, f1, f2, f3, f4⟩ := forg10 hF hp hr.1 (fun _ => -1) (fun _ => -1)
  have k1 : KG m m1 := ⟨fun a k p1 p2 => f4 a k (by omega) (by omega), fun a k _ _ _ => by rw [f3], by rw [f3]⟩
  have hr1 := hr.k k1.kn
  have r1 := rf23_1 hr1.1
  have h7 : m1.1 24 7 = q32 (A al 7) := by rw [hr1.2 7 (by omega)]; exact t6
  have h8 : m1.1 24 8 = q32 (A al 8) := by rw [hr1.2 8 (by omega)]; exact t7
  obtain ⟨m2, p1, p2, p3, -, p4⟩ := gput hF hp hr1 f2 (by decide) hx (-1) (-1)
  have lg : MG m2 [(A al 7, A al 8)] (fun _ => -1) (fun _ => -1) := by
    obtain ⟨z1, z2, z3⟩ := p4
    refine ⟨z1, fun i hi => ?_, z3⟩
    have hi' : i = 0 := by have : [(A al 7, A al 8)].length = 1 := rfl; omega
    subst hi'
    exact z2 0 (Nat.zero_lt_one)
  have ff := gmet hF hp p3.1 lg (by show 1 < 8192; decide) (FLS.one hx) htf
  have p1' : n_X10_meets F s m1 23 (q64 (A al 7)) (q64 (A al 8)) (q32 (-1)) (q32 (-1)) = some ((), m2) := p1
  by_cases c : (A al 7, A al 8) = t
  · rw [if_pos c]
    obtain ⟨r, r1', r2', r3'⟩ := ff.1 (List.mem_singleton.mpr c.symm)
    refine ⟨m2, ?_, k1.kn.tr p2.kn, fun h => absurd c h⟩
    have xb' : 0 ≤ A al 7 ∧ A al 7 ≤ 1000000 ∧ 1 ≤ A al 8 ∧ A al 8 ≤ 1000000 := xb
    unfold n_X10_seeks nb_X10_seeks_0
    simp (disch := omega) only [Option.bind_some, bindv, bindv0, bind2_s, bind3_s, ↓reduceIte, Bool.false_eq_true, rZM_0, rZM_1, rZP_0, rZP_1, ptZ_0, ptZ_1, c32i, c64i, ncI, Int.natCast_add, Int.natCast_mul, q32_neg, q64_neg, q32_add, q32_sub, q32_mul, q64_add, q64_sub, q64_mul, q32_64i, q64_32, q32_lt_t, q32_lt_f, q32_le_t, q32_le_f, q32_eq_t, q32_eq_f, q64_lt_t, q64_lt_f, q64_le_t, q64_le_f, q64_eq_t, q64_eq_f, rdI_i, rdL_i, rdR_i, rdN_i, stI_i, stL_i, stR_i, wI_s, wI_n, wL_s, wL_n, wI_2, wI_3, wL_1, wL_3, wR_1, wR_2, Int.toNat_natCast, tnO, tn_add, tn_sub, tn_mul, Nat.add_sub_cancel, Nat.add_zero, Nat.zero_add, lnO, win_t, win_f, f1, r1, h7, h8, p1', r3']
  · rw [if_neg c]
    have r3' := ff.2 (fun h => c (List.mem_singleton.mp h).symm)
    obtain ⟨m3, i1, i2, i3⟩ := fwsL10 hF hp hw h2 hbc htf 8 0 F 0 (by omega) (by omega) m2 ([(A al 7, A al 8)], fun _ => -1, fun _ => -1) p3 lg ⟨by show 1 ≤ 1; omega, by show 1 ≤ 2001; omega, FLS.one hx, fun j h0 hj => absurd (show j < 1 from hj) (by omega)⟩ (by omega) ⟨fun j p1 p2 => by
      have : j < 1 := p2
      show j = 0
      omega, fun j p1 p2 => absurd p2 (by omega)⟩
    refine ⟨m3, ?_, (k1.kn.tr p2.kn).tr i2, fun _ => i3⟩
    have xb' : 0 ≤ A al 7 ∧ A al 7 ≤ 1000000 ∧ 1 ≤ A al 8 ∧ A al 8 ≤ 1000000 := xb
    have i1' : nl_X10_seeks_44 F s F m2 23 (q64 t.1) (q64 t.2) (q32 0) (q32 1) = _ := i1
    unfold n_X10_seeks nb_X10_seeks_0
    simp (disch := omega) only [Option.bind_some, bindv, bindv0, bind2_s, bind3_s, ↓reduceIte, Bool.false_eq_true, rZM_0, rZM_1, rZP_0, rZP_1, ptZ_0, ptZ_1, c32i, c64i, ncI, Int.natCast_add, Int.natCast_mul, q32_neg, q64_neg, q32_add, q32_sub, q32_mul, q64_add, q64_sub, q64_mul, q32_64i, q64_32, q32_lt_t, q32_lt_f, q32_le_t, q32_le_f, q32_eq_t, q32_eq_f, q64_lt_t, q64_lt_f, q64_le_t, q64_le_f, q64_eq_t, q64_eq_f, rdI_i, rdL_i, rdR_i, rdN_i, stI_i, stL_i, stR_i, wI_s, wI_n, wL_s, wL_n, wI_2, wI_3, wL_1, wL_3, wR_1, wR_2, Int.toNat_natCast, tnO, tn_add, tn_sub, tn_mul, Nat.add_sub_cancel, Nat.add_zero, Nat.zero_add, lnO, win_t, win_f, f1, r1, h7, h8, p1', r3', i1']
