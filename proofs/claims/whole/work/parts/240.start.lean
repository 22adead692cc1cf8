theorem nw_L_7 : NW RL 7 9 18 df9 := ⟨RX9, TX9, tyX9, fk9, mk_k (List.mem_of_getElem? (i := 148) (by decide +kernel)) rfl, mk_k (List.mem_of_getElem? (i := 149) (by decide +kernel)) rfl, mk_k (List.mem_of_getElem? (i := 129) (by decide +kernel)) rfl, tyX9_ok, by decide +kernel, fun _ => rfl⟩
theorem nw_L_10 : NW RL 10 10 55 df10 := ⟨RX10, TX10, tyX10, fk10, mk_k (List.mem_of_getElem? (i := 1325) (by decide +kernel)) rfl, mk_k (List.mem_of_getElem? (i := 1326) (by decide +kernel)) rfl, mk_k (List.mem_of_getElem? (i := 133) (by decide +kernel)) rfl, tyX10_ok, by decide +kernel, fun _ => rfl⟩
theorem ml_L_9 : Cond.methodLink RL 9 yX9_init ∈ lw_k := mk_k (List.mem_of_getElem? (i := 150) (by decide +kernel)) rfl
theorem ml_L_12 : Cond.methodLink RL 12 yX10_init ∈ lw_k := mk_k (List.mem_of_getElem? (i := 1327) (by decide +kernel)) rfl
theorem mv_X9_init : MV0 yX9_init cX9_init 1 none 0 := ⟨mk_k (List.mem_of_getElem? (i := 152) (by decide +kernel)) rfl, mk_k (List.mem_of_getElem? (i := 129) (by decide +kernel)) rfl, by decide +kernel, by decide +kernel, by decide +kernel⟩
theorem mv_X10_init : MV0 yX10_init cX10_init 1 none 0 := ⟨mk_k (List.mem_of_getElem? (i := 1329) (by decide +kernel)) rfl, mk_k (List.mem_of_getElem? (i := 133) (by decide +kernel)) rfl, by decide +kernel, by decide +kernel, by decide +kernel⟩
theorem im_X9_init : Cond.instanceMethod yX9_init ∈ lw_k := mk_k (List.mem_of_getElem? (i := 151) (by decide +kernel)) rfl
theorem im_X10_init : Cond.instanceMethod yX10_init ∈ lw_k := mk_k (List.mem_of_getElem? (i := 1328) (by decide +kernel)) rfl
def lL_law_0L : List (Nat × Instr × Nat × Nat) := [(0, .new 7, 3, 3), (3, .dup, 1, 4), (4, .invokespecial 9, 3, 7), (7, .astore_n 1, 1, 8), (8, .new 10, 3, 11), (11, .dup, 1, 12), (12, .invokespecial 12, 3, 15), (15, .astore_n 2, 1, 16), (16, .iconst 0, 1, 17), (17, .istore_n 3, 1, 18)]
theorem dL_law_0 : dcL cL_law lL_law_0L = true := by decide +kernel
/-- the law's loop, and the whole of it, as pure functions -/
def lawL (F : Nat) (xs : Nat → Int32) (Ls : Nat) : Nat → Nat × Nat → PH → Nat → Nat → Int32 → Option Int32
  | 0 => fun _ _ _ _ _ => none
  | n + 1 => fun cs h v1 v2 v3 => b_law_18 F xs Ls (lawL F xs Ls n) cs h v1 v2 v3
def lawS (F : Nat) (xs : Nat → Int32) (Ls : Nat) : Option Int32 :=
  bind2 (m_X9_init [.inr (9, df9)] 0) fun _ h1 => bindv h1.length fun a => bindv (h1 ++ [.inr (10, df10)]) fun h2 => bind2 (m_X10_init F h2 a) fun _ h3 => lawL F xs Ls F (53, 79579) h3 0 a 0
theorem tl_law {M : MV} {X : XT} {F : Nat} {xs : Nat → Int32} {Ls b : Nat} (hc : Cx M X R_law code) (hr : Rx M 2048 84000 600000 7302250 4) (hL : Lx M X xs Ls b) (n : Nat) : ∀ (cs : Nat × Nat) (h : PH) (v1 v2 : Nat) (v3 : Int32), cs.1 ≤ 600000 → cs.2 ≤ 7302250 → lawL F xs Ls n cs h v1 v2 v3 = some 1 → GG M X h cs.1 cs.2 18 [(0, .ref b), (1, .ref (X.1 + v1)), (2, .ref (X.1 + v2)), (3, .int v3)] [] := by
  induction n with
  | zero => intro cs h v1 v2 v3 _ _ hf; cases hf
  | succ n ih => intro cs h v1 v2 v3 hm hs hf; exact t_law_18 (F := F) hc hr hL hm hs ih hf
theorem t_lawS {M : MV} {X : XT} {F : Nat} {xs : Nat → Int32} {Ls b : Nat} (hc : Cx M X R_law code) (hr : Rx M 2048 84000 600000 7302250 4) (hL : Lx M X xs Ls b) (hf : lawS F xs Ls = some 1) : GG M X [] 0 0 0 [(0, .ref b)] [] := by
  unfold lawS at hf
  refine r_new (α := Unit) (f := fun _ => none) (g := fun _ _ => none) (N := 18) (dfs := df9) (ci := 9) hc hr (dc_at dL_law_0 0 rfl) nw_L_7 (Nat.le_of_ble_eq_true rfl) (Nat.le_of_ble_eq_true rfl) ?_
  show GG M X [.inr (9, df9)] 1 18 3 [(0, .ref b)] [.ref (X.1 + 0)]
  refine r_dup hc (dc_at dL_law_0 1 rfl) rfl ?_
  refine ob2 hf fun u h1 ex hf => ?_
  refine r_callIC (As := []) hc hr (dc_at dL_law_0 2 rfl) ml_L_9 mv_X9_init im_X9_init rfl rfl (mt_X9_init ex) (Nat.le_of_ble_eq_true rfl) (Nat.le_of_ble_eq_true rfl) (Nat.le_of_ble_eq_true rfl) (Nat.le_of_ble_eq_true rfl) (Nat.le_of_ble_eq_true rfl) ?_
  refine r_astore_n [(1, .ref (X.1 + 0)), (0, .ref b)] hc hr (dc_at dL_law_0 3 rfl) (by decide) rfl ?_
  refine r_newN (N := 55) hc hr (dc_at dL_law_0 4 rfl) nw_L_10 (Nat.le_of_ble_eq_true rfl) (Nat.le_of_ble_eq_true rfl) hf fun a h2 hf => ?_
  refine r_dup hc (dc_at dL_law_0 5 rfl) rfl ?_
  refine ob2 hf fun u h3 ex hf => ?_
  refine r_callIC (As := []) hc hr (dc_at dL_law_0 6 rfl) ml_L_12 mv_X10_init im_X10_init rfl rfl (mt_X10_init ex) (Nat.le_of_ble_eq_true rfl) (Nat.le_of_ble_eq_true rfl) (Nat.le_of_ble_eq_true rfl) (Nat.le_of_ble_eq_true rfl) (Nat.le_of_ble_eq_true rfl) ?_
  refine r_astore_n [(2, .ref (X.1 + a)), (1, .ref (X.1 + 0)), (0, .ref b)] hc hr (dc_at dL_law_0 7 rfl) (by decide) rfl ?_
  refine r_iconst (0 : Int32) hc (dc_at dL_law_0 8 rfl) (by decide) ?_
  refine r_istore_n [(3, .int (0 : Int32)), (2, .ref (X.1 + a)), (1, .ref (X.1 + 0)), (0, .ref b)] hc hr (dc_at dL_law_0 9 rfl) (by decide) rfl ?_
  exact gg_sub [3, 2, 1, 0] rfl (tl_law hc hr hL F (53, 79579) h3 0 a 0 (Nat.le_of_ble_eq_true rfl) (Nat.le_of_ble_eq_true rfl) hf)
/-! what the Statement gives at the law's entry -/
def kl_all : List (String × u_T × Nat) := cls
theorem kn_all {s : State} {args : Array Value} (hts : ∀ w ∈ lw_k, w.before args s = true) : ∃ (dC : Nat → ClassId) (dI : Nat → Nat → Nat), ∀ (k : Nat) (q : vw_C), cls[k]? = some q → u_Kn s q.1 q.2.1 q.2.2 (dC k) (dI k) := by
  have h : ∀ k : Nat, ∃ z : ClassId × (Nat → Nat), ∀ q : vw_C, cls[k]? = some q → u_Kn s q.1 q.2.1 q.2.2 z.1 z.2 := by
    intro k
    by_cases hk : k < 11
    · have go : ∀ (C : String) (T : u_T) (N : Nat), cls[k]? = some (C, T, N) → (∀ w ∈ u_ws C T N, w ∈ lw_k) → Cond.instantiable C N ∈ lw_k → ∃ z : ClassId × (Nat → Nat), ∀ q : vw_C, cls[k]? = some q → u_Kn s q.1 q.2.1 q.2.2 z.1 z.2 := by
        intro C T N hq hin hi
        obtain ⟨c, iS, hK⟩ := u_known (C := C) (T := T) (N := N) (n := N) hts hin (hts _ hi)
        exact ⟨(c, iS), fun q hq' => by rw [hq] at hq'; cases hq'; exact hK⟩
      rcases (show k = 0 ∨ k = 1 ∨ k = 2 ∨ k = 3 ∨ k = 4 ∨ k = 5 ∨ k = 6 ∨ k = 7 ∨ k = 8 ∨ k = 9 ∨ k = 10 by omega) with rfl | rfl | rfl | rfl | rfl | rfl | rfl | rfl | rfl | rfl | rfl
      · exact go _ _ _ rfl iX0 (by decide +kernel)
      · exact go _ _ _ rfl iX1 (by decide +kernel)
      · exact go _ _ _ rfl iX2 (by decide +kernel)
      · exact go _ _ _ rfl iX3 (by decide +kernel)
      · exact go _ _ _ rfl iX4 (by decide +kernel)
      · exact go _ _ _ rfl iX5 (by decide +kernel)
      · exact go _ _ _ rfl iX6 (by decide +kernel)
      · exact go _ _ _ rfl iX7 (by decide +kernel)
      · exact go _ _ _ rfl iX8 (by decide +kernel)
      · exact go _ _ _ rfl iX9 (by decide +kernel)
      · exact go _ _ _ rfl iX10 (by decide +kernel)
    · exact ⟨(0, fun _ => 0), fun q hq => by
        have := (List.getElem?_eq_some_iff.mp hq).1
        exact absurd this (by show ¬ k < 11; exact hk)⟩
  obtain ⟨z, hz⟩ := Classical.axiomOfChoice h
  exact ⟨fun k => (z k).1, fun k => (z k).2, hz⟩
theorem arr_prim {s : State} {args : Array Value} {ty : FieldType} (h : (Cond.arrayClass ty).before args s = true) : ∃ c : ClassId, ArrOfT s c ty ∧ s.vm.findClass ("[" ++ ty.toString) = some c := by
  obtain ⟨c, k, comp, h1, h2, h3⟩ := Cond.arrayClass_spec h
  exact ⟨c, fun n z => ⟨fun k h => (by cases h), k, h2, comp, h3⟩, h1⟩
theorem arr_ref {s : State} {args : Array Value} {C : String} (h : (Cond.arrayOver (.object C)).before args s = true) : ∃ c : ClassId, ArrOfT s c (.object C) ∧ va_RA s c (.object C) := by
  obtain ⟨comp, c, k, h1, h2, h3, h4, h5⟩ := Cond.arrayOver_spec h
  exact ⟨c, fun n z => ⟨fun k h => (by cases h), k, h3, comp, h4⟩, k, comp, h3, h4, h1, h5⟩
theorem tys_all {s : State} {args : Array Value} (hts : ∀ w ∈ lw_tbl, w.before args s = true) : ∃ tA : Nat → ClassId, ∀ (k : Nat) (q : ClassId × FieldType), (tysOf tA)[k]? = some q → ArrOfT s q.1 q.2 ∧ va_RA s q.1 q.2 := by
  obtain ⟨c0, a0, b0⟩ := arr_prim (hts (.arrayClass .int) (List.mem_of_getElem? (i := 259) (by decide +kernel)))
  obtain ⟨c1, a1, b1⟩ := arr_prim (hts (.arrayClass .long) (List.mem_of_getElem? (i := 291) (by decide +kernel)))
  obtain ⟨c2, a2, b2⟩ := arr_prim (hts (.arrayClass .boolean) (List.mem_of_getElem? (i := 1500) (by decide +kernel)))
  obtain ⟨c3, a3, b3⟩ := arr_ref (hts (.arrayOver (.object "FractionLift$House")) (List.mem_of_getElem? (i := 260) (by decide +kernel)))
  obtain ⟨c4, a4, b4⟩ := arr_ref (hts (.arrayOver (.object "FractionLift$Tray")) (List.mem_of_getElem? (i := 262) (by decide +kernel)))
  refine ⟨fun k => if k = 0 then c0 else if k = 1 then c1 else if k = 2 then c2 else if k = 3 then c3 else c4, fun k q hq => ?_⟩
  have hk : k < 5 := (List.getElem?_eq_some_iff.mp hq).1
  rcases (show k = 0 ∨ k = 1 ∨ k = 2 ∨ k = 3 ∨ k = 4 by omega) with rfl | rfl | rfl | rfl | rfl
  · cases hq; exact ⟨a0, b0⟩
  · cases hq; exact ⟨a1, b1⟩
  · cases hq; exact ⟨a2, b2⟩
  · cases hq; exact ⟨a3, b3⟩
  · cases hq; exact ⟨a4, b4⟩
def sTm (j : Nat) : Term := .string (sOwn j) (sIdx j)
theorem sf_ex : ∀ i, i < 10 → Cond.exactly (sTm i) "java/lang/String" ∈ flatC (Jvm.Cond.and given_1 narrow_1) := by decide +kernel
theorem sf_co : ∀ i, i < 10 → Cond.eq (.field (sTm i) "java/lang/String" "coder" "B") (.int 0) ∈ flatC (Jvm.Cond.and given_1 narrow_1) := by decide +kernel
theorem sf_ar : ∀ i, i < 10 → Cond.arrayOf (.field (sTm i) "java/lang/String" "value" "[B") .byte ∈ flatC (Jvm.Cond.and given_1 narrow_1) := by decide +kernel
theorem sf_le : ∀ i, i < 10 → Cond.eq (.length (.field (sTm i) "java/lang/String" "value" "[B")) (.int (Int32.ofNat (sLen.getD i 0))) ∈ flatC (Jvm.Cond.and given_1 narrow_1) := by decide +kernel
theorem sf_el : ∀ i, i < 10 → ∀ j, j < sLen.getD i 0 → Cond.eq (.elem (.field (sTm i) "java/lang/String" "value" "[B") (.int (Int32.ofNat j))) (.int ((sByt.getD i []).getD j 0)) ∈ flatC (Jvm.Cond.and given_1 narrow_1) := by decide +kernel
theorem sf_ne : ∀ i, i < 10 → ∀ j, j < 10 → i ≠ j → (Cond.not (Cond.eq (sTm i) (sTm j)) ∈ flatC (Jvm.Cond.and given_1 narrow_1) ∨ Cond.not (Cond.eq (sTm j) (sTm i)) ∈ flatC (Jvm.Cond.and given_1 narrow_1)) := by decide +kernel
theorem sf_ref : ∀ i, i < 10 → Cond.stringRef (sOwn i) (sIdx i) (sTxt i) ∈ lw_tbl := by decide +kernel
theorem UX_start {s : State} {b : Nat} (hts : ∀ w ∈ lw_tbl, w.before #[Value.ref b] s = true) (hgv : (Jvm.Cond.and given_1 narrow_1).before #[Value.ref b] s = true) : ∃ X : XT, X.1 = s.heap.size ∧ X.2.2.2.1 = s.heap ∧ UX X s := by
  have hk : ∀ w ∈ lw_k, w.before #[Value.ref b] s = true := fun w h => hts w (List.mem_filter.mp h).1
  obtain ⟨dC, dI, hK⟩ := kn_all hk
  obtain ⟨tA, hT⟩ := tys_all hts
  have hs := flat_of_before _ hgv
  have hA : ∀ a : Nat, a < s.heap.size → ¬ s.heap.size ≤ a := fun a h => Nat.not_le.mpr h
  obtain ⟨adK, adV, hS, hE⟩ := vk_Sof (N := 10) (tm := sTm) (len := sLen) (byt := sByt) (A := fun q => s.heap.size ≤ q) (by decide) (fun i hi => hs _ (sf_ex i hi)) (fun i hi => hs _ (sf_co i hi)) (fun i hi => hs _ (sf_ar i hi)) (fun i hi => hs _ (sf_le i hi)) (fun i hi j hj => hs _ (sf_el i hi j hj))
    (fun i j hi hj hne => (sf_ne i hi j hj hne).elim (fun h => Or.inl (hs _ h)) (fun h => Or.inr (hs _ h))) hA
  refine ⟨(s.heap.size, (dC, dI), tA, s.heap, adK, adV), rfl, rfl, ⟨hK, hT⟩, fun j hj => vk_R.of (hts _ (sf_ref j hj)) (hE j hj), hS, ?_, ?_, ?_, ?_, ?_⟩
  · exact va_Zof (hts _ (List.mem_of_getElem? (i := 512) (by decide +kernel))) (hts _ (by decide +kernel)) (va_eqt (hs _ (by decide +kernel))) hA
  · exact va_Zqof (hts _ (List.mem_of_getElem? (i := 528) (by decide +kernel))) (hts _ (by decide +kernel)) (hs _ (by decide +kernel)) hA
  · intro j hj
    rcases (show j = 0 ∨ j = 1 ∨ j = 2 by omega) with rfl | rfl | rfl
    · exact va_Nw.of rfl (hts _ (List.mem_of_getElem? (i := 644) (by decide +kernel)))
    · exact va_Nw.of rfl (hts _ (List.mem_of_getElem? (i := 732) (by decide +kernel)))
    · exact va_Nw.of rfl (hts _ (List.mem_of_getElem? (i := 1033) (by decide +kernel)))
  · exact va_AO.of (hts _ (List.mem_of_getElem? (i := 260) (by decide +kernel)))
  · exact va_AO.of (hts _ (List.mem_of_getElem? (i := 262) (by decide +kernel)))
/-- the machine's side is done: what is left is that the pure law answers 1 -/
theorem start_of {p : Program} {e : Env} {s : State} {m : MethodId} {below : List Frame} {meth : Method} {c : Code} (l : Launch) {b L : Nat} {xs : Nat → Int32} (C0 : lw_At p s m meth c b L xs) {F : Nat} (hf : lawS F xs L = some 1) : W p l e room_1 s m #[Value.ref b] below meth c s.heap [] 0 0 (lw_Z below #[Value.ref b] s) (entryFrame m ([Value.ref b] : List Value).toArray 4) := by
  obtain ⟨hx, hb, hr, hml, hown, hts, hX, hbl, hlocks, hgv⟩ := C0
  obtain ⟨X, hX1, hXh, hU⟩ := UX_start hts hgv
  have hk : ∀ w ∈ lw_k, w.before #[Value.ref b] s = true := fun w h => hts w (List.mem_filter.mp h).1
  have hP : RP X [] s.heap := ⟨by rw [hX1]; rfl, by rw [hXh, hX1], fun q _ => by rw [hXh], fun k e h => by simp at h⟩
  have hl := lv_entry ([.ref b]) (n := 4) (Nat.le_of_ble_eq_true rfl)
  rw [lg_entry_eq]
  have k := t_lawS (M := (p, l, e, room_1, s, m, #[Value.ref b], below, meth, c, lw_Z below #[Value.ref b] s)) (X := X) (b := b) ⟨hx, hb, hown, hk, hU, by rw [hX1]; exact Nat.le_refl _, fun q _ => by rw [hXh]⟩ ⟨rfl, hml⟩ ⟨rfl, hX, hbl, hX1, rfl, hlocks, hr, rfl⟩ hf
  exact k s.heap [] _ hP (fun q hq => by cases hq) (by rw [hml]; exact hl)
