/-! the law, case by case -/
def rq (m : Mem) : Nat := if m.2.2 0 16 = none then 1 else 0
def BG (cs : Nat × Nat) (k : Nat) (m : Mem) : Prop := cs.1 + 17 * k + 10 * rq m ≤ 600000 ∧ cs.2 + 3777 * k + 46057 * rq m ≤ 7302250
def NXT (self : Nat × Nat → PH → Nat → Nat → Int32 → Option Int32) (k : Nat) (v : Int32) : Prop := ∀ cs s m, INV s m → BG cs k m → self cs (bl s m) 0 23 v = some 1
def SCR (xs : Nat → Int32) (Ls : Nat) (v3 x1 x2 x3 x4 x5 : Int32) : Prop := scr xs Ls (v3 + (1 : Int32)) = some x1 ∧ scr xs Ls (v3 + (2 : Int32)) = some x2 ∧ scr xs Ls (v3 + (3 : Int32)) = some x3 ∧ scr xs Ls (v3 + (4 : Int32)) = some x4 ∧ scr xs Ls (v3 + (5 : Int32)) = some x5
theorem rq_e {m m2 : Mem} (e : m2.2.2 0 16 = m.2.2 0 16) : rq m2 = rq m := by unfold rq; rw [e]
theorem rq_1 {m : Mem} (e : m.2.2 0 16 = none) : rq m = 1 := by unfold rq; rw [if_pos e]
theorem rq_0 {m : Mem} (e : m.2.2 0 16 ≠ none) : rq m = 0 := by unfold rq; rw [if_neg e]
theorem BG.k {cs : Nat × Nat} {k : Nat} {m m2 : Mem} (h : BG cs (k + 1) m) (e : m2.2.2 0 16 = m.2.2 0 16) : BG cs k m2 := by
  unfold BG at h ⊢
  rw [rq_e e]
  omega
theorem BG.g {cs cs' : Nat × Nat} {k : Nat} {m m2 : Mem} (h : BG cs (k + 1) m) (e : m2.2.2 0 16 = m.2.2 0 16) (h1 : cs'.1 ≤ cs.1 + 17) (h2 : cs'.2 ≤ cs.2 + 3777) : BG cs' k m2 := by
  unfold BG at h ⊢
  rw [rq_e e]
  omega
theorem BG.q {cs cs' : Nat × Nat} {k : Nat} {m m2 : Mem} (h : BG cs (k + 1) m) (n1 : m.2.2 0 16 = none) (n2 : m2.2.2 0 16 ≠ none) (h1 : cs'.1 ≤ cs.1 + 10) (h2 : cs'.2 ≤ cs.2 + 46057) : BG cs' k m2 := by
  unfold BG at h ⊢
  rw [rq_1 n1] at h
  rw [rq_0 n2]
  omega
theorem bud_k {b : Bool} {K S : Nat} {cs : Nat × Nat} {f : Nat × Nat → Option Int32} (h1 : cs.1 + K ≤ 600000) (h2 : cs.2 + S ≤ 7302250) (hf : ∀ cs' : Nat × Nat, cs'.1 ≤ cs.1 + K → cs'.2 ≤ cs.2 + S → f cs' = some 1) : bud (kost b K S) cs f = some 1 := by
  cases b with
  | true =>
    show bud (K, S) cs f = some 1
    unfold bud
    rw [if_pos ⟨h1, h2⟩]
    exact hf _ (Nat.le_refl _) (Nat.le_refl _)
  | false =>
    show bud (0, 0) cs f = some 1
    unfold bud
    rw [if_pos ⟨by show cs.1 + 0 ≤ _; omega, by show cs.2 + 0 ≤ _; omega⟩]
    exact hf _ (by show cs.1 + 0 ≤ _; omega) (by show cs.2 + 0 ≤ _; omega)
theorem bud_0 {α : Type} {v : α} {K S : Nat} {cs : Nat × Nat} {f : Nat × Nat → Option Int32} (h1 : cs.1 ≤ 600000) (h2 : cs.2 ≤ 7302250) (hf : f cs = some 1) : bud (kost (some v).isNone K S) cs f = some 1 := by
  show bud (0, 0) cs f = some 1
  unfold bud
  rw [if_pos ⟨by show cs.1 + 0 ≤ _; omega, by show cs.2 + 0 ≤ _; omega⟩]
  exact hf
theorem at9 {s : List Sh} (hp : ∃ t, s = sB ++ t) : s[0]? = some (.inl 9) := by obtain ⟨t, rfl⟩ := hp; rfl
theorem at10 {s : List Sh} (hp : ∃ t, s = sB ++ t) : s[23]? = some (.inl 10) := by obtain ⟨t, rfl⟩ := hp; rfl
theorem c_236 {F : Nat} (hF : 3000000 ≤ F) {xs : Nat → Int32} {Ls : Nat} {self : Nat × Nat → PH → Nat → Nat → Int32 → Option Int32} {cs : Nat × Nat} {s : List Sh} {m : Mem} {v3 : Int32} {k : Nat} (h : INV s m) (hb : BG cs (k + 1) m) {x1 x2 x3 x4 x5 : Int32} (he : SCR xs Ls v3 x1 x2 x3 x4 x5) (hN : NXT self k (v3 + 6)) : b_law_236 F xs Ls self cs (bl s m) 0 23 v3 = some 1 := by
  obtain ⟨e1, e2, e3, e4, e5⟩ := he
  obtain ⟨r, m1, m2, o1, o2, hi, hr⟩ := opk_feed (F := F) (by omega) h x1 x2 x3 x4 x5
  have u1 := un_X9_feed h.gs (okB h.hp).1 o1
  have u2 := un_X10_feed u1.2 (okB h.hp).2 o2
  unfold b_law_236
  rw [e1, e2, e3, e4, e5]
  simp only [Option.bind_some]
  rw [cO_bl (at9 h.hp), u1.1, bind2_s, cO_bl (at10 h.hp), u2.1, bind2_s, if_pos rfl]
  exact hN cs s m2 hi (hb.k (by rw [hr]))
theorem c_299 {F : Nat} (hF : 3000000 ≤ F) {xs : Nat → Int32} {Ls : Nat} {self : Nat × Nat → PH → Nat → Nat → Int32 → Option Int32} {cs : Nat × Nat} {s : List Sh} {m : Mem} {v3 : Int32} {k : Nat} (h : INV s m) (hb : BG cs (k + 1) m) {x1 x2 x3 x4 x5 : Int32} (he : SCR xs Ls v3 x1 x2 x3 x4 x5) (hN : NXT self k (v3 + 6)) : b_law_299 F xs Ls self cs (bl s m) 0 23 v3 = some 1 := by
  obtain ⟨e1, e2, e3, e4, e5⟩ := he
  obtain ⟨r, s1, m1, m2, o1, o2, hi, ht, hr⟩ := opg_house (F := F) (by omega) h x1
  have u1 := un_X9_house h.gs (okB h.hp).1 o1
  have u2 := un_X10_house u1.2.1 (okB hi.hp).2 o2
  have b1 := hb.1
  have b2 := hb.2
  unfold b_law_299
  rw [e1]
  simp only [Option.bind_some]
  refine bud_k (by omega) (by omega) (fun cs' q1 q2 => ?_)
  rw [cO_bl (at9 h.hp), u1.1, bind2_s, cO_bl (at10 hi.hp), u2.1, bind2_s, if_pos rfl]
  exact hN cs' s1 m2 hi (hb.g hr (by omega) (by omega))
theorem c_322 {F : Nat} (hF : 3000000 ≤ F) {xs : Nat → Int32} {Ls : Nat} {self : Nat × Nat → PH → Nat → Nat → Int32 → Option Int32} {cs : Nat × Nat} {s : List Sh} {m : Mem} {v3 : Int32} {k : Nat} (h : INV s m) (hb : BG cs (k + 1) m) {x1 x2 x3 x4 x5 : Int32} (he : SCR xs Ls v3 x1 x2 x3 x4 x5) (hN : NXT self k (v3 + 6)) : b_law_322 F xs Ls self cs (bl s m) 0 23 v3 = some 1 := by
  obtain ⟨e1, e2, e3, e4, e5⟩ := he
  obtain ⟨r, m2, o1, o2, hi, hr⟩ := op_fault  h x1
  have u1 := un_X9_fault h.gs (okB h.hp).1 o1
  have u2 := un_X10_fault h.gs (okB h.hp).2 o2
  unfold b_law_322
  rw [e1]
  simp only [Option.bind_some]
  rw [cO_bl (at9 h.hp), u1.1, Option.bind_some, cO_bl (at10 h.hp), u2.1, bind2_s, if_pos rfl]
  exact hN cs s m2 hi (hb.k (by rw [hr]))
theorem c_345 {F : Nat} (hF : 3000000 ≤ F) {xs : Nat → Int32} {Ls : Nat} {self : Nat × Nat → PH → Nat → Nat → Int32 → Option Int32} {cs : Nat × Nat} {s : List Sh} {m : Mem} {v3 : Int32} {k : Nat} (h : INV s m) (hb : BG cs (k + 1) m) {x1 x2 x3 x4 x5 : Int32} (he : SCR xs Ls v3 x1 x2 x3 x4 x5) (hN : NXT self k (v3 + 6)) : b_law_345 F xs Ls self cs (bl s m) 0 23 v3 = some 1 := by
  obtain ⟨e1, e2, e3, e4, e5⟩ := he
  obtain ⟨r, m2, o1, o2, hi, hr⟩ := op_at  h x1
  have u1 := un_X9_at h.gs (okB h.hp).1 o1
  have u2 := un_X10_at h.gs (okB h.hp).2 o2
  unfold b_law_345
  rw [e1]
  simp only [Option.bind_some]
  rw [cO_bl (at9 h.hp), u1.1, Option.bind_some, cO_bl (at10 h.hp), u2.1, bind2_s, if_pos rfl]
  exact hN cs s m2 hi (hb.k (by rw [hr]))
theorem c_368 {F : Nat} (hF : 3000000 ≤ F) {xs : Nat → Int32} {Ls : Nat} {self : Nat × Nat → PH → Nat → Nat → Int32 → Option Int32} {cs : Nat × Nat} {s : List Sh} {m : Mem} {v3 : Int32} {k : Nat} (h : INV s m) (hb : BG cs (k + 1) m) {x1 x2 x3 x4 x5 : Int32} (he : SCR xs Ls v3 x1 x2 x3 x4 x5) (hN : NXT self k (v3 + 6)) : b_law_368 F xs Ls self cs (bl s m) 0 23 v3 = some 1 := by
  obtain ⟨e1, e2, e3, e4, e5⟩ := he
  obtain ⟨r, m2, o1, o2, hi, hr⟩ := opr_floor (F := F) (by omega) h x1 x2
  have u1 := un_X9_floor h.gs (okB h.hp).1 o1
  have u2 := un_X10_floor h.gs (okB h.hp).2 o2
  unfold b_law_368
  rw [e1, e2]
  simp only [Option.bind_some]
  rw [cO_bl (at9 h.hp), u1.1, Option.bind_some, cO_bl (at10 h.hp), u2.1, bind2_s, if_pos rfl]
  exact hN cs s m2 hi (hb.k (by rw [hr]))
theorem c_401 {F : Nat} (hF : 3000000 ≤ F) {xs : Nat → Int32} {Ls : Nat} {self : Nat × Nat → PH → Nat → Nat → Int32 → Option Int32} {cs : Nat × Nat} {s : List Sh} {m : Mem} {v3 : Int32} {k : Nat} (h : INV s m) (hb : BG cs (k + 1) m) {x1 x2 x3 x4 x5 : Int32} (he : SCR xs Ls v3 x1 x2 x3 x4 x5) (hN : NXT self k (v3 + 6)) : b_law_401 F xs Ls self cs (bl s m) 0 23 v3 = some 1 := by
  obtain ⟨e1, e2, e3, e4, e5⟩ := he
  obtain ⟨r, m2, o1, o2, hi, hr⟩ := opr_tenant  h x1 x2
  have u1 := un_X9_tenant h.gs (okB h.hp).1 o1
  have u2 := un_X10_tenant h.gs (okB h.hp).2 o2
  unfold b_law_401
  rw [e1, e2]
  simp only [Option.bind_some]
  rw [cO_bl (at9 h.hp), u1.1, Option.bind_some, cO_bl (at10 h.hp), u2.1, bind2_s, if_pos rfl]
  exact hN cs s m2 hi (hb.k (by rw [hr]))
theorem c_434 {F : Nat} (hF : 3000000 ≤ F) {xs : Nat → Int32} {Ls : Nat} {self : Nat × Nat → PH → Nat → Nat → Int32 → Option Int32} {cs : Nat × Nat} {s : List Sh} {m : Mem} {v3 : Int32} {k : Nat} (h : INV s m) (hb : BG cs (k + 1) m) {x1 x2 x3 x4 x5 : Int32} (he : SCR xs Ls v3 x1 x2 x3 x4 x5) (hN : NXT self k (v3 + 6)) : b_law_434 F xs Ls self cs (bl s m) 0 23 v3 = some 1 := by
  obtain ⟨e1, e2, e3, e4, e5⟩ := he
  obtain ⟨r, m1, m2, o1, o2, hi, hr⟩ := opk_why (F := F) (by omega) h x1
  have u1 := un_X9_why h.gs (okB h.hp).1 o1
  have u2 := un_X10_why u1.2 (okB h.hp).2 o2
  unfold b_law_434
  rw [e1]
  simp only [Option.bind_some]
  rw [cO_bl (at9 h.hp), u1.1, bind2_s, cO_bl (at10 h.hp), u2.1, bind2_s, if_pos rfl]
  exact hN cs s m2 hi (hb.k (by rw [hr]))
theorem c_457 {F : Nat} (hF : 3000000 ≤ F) {xs : Nat → Int32} {Ls : Nat} {self : Nat × Nat → PH → Nat → Nat → Int32 → Option Int32} {cs : Nat × Nat} {s : List Sh} {m : Mem} {v3 : Int32} {k : Nat} (h : INV s m) (hb : BG cs (k + 1) m) {x1 x2 x3 x4 x5 : Int32} (he : SCR xs Ls v3 x1 x2 x3 x4 x5) (hN : NXT self k (v3 + 6)) : b_law_457 F xs Ls self cs (bl s m) 0 23 v3 = some 1 := by
  obtain ⟨e1, e2, e3, e4, e5⟩ := he
  obtain ⟨r, m1, m2, o1, o2, hi, hr⟩ := opk_leads (F := F) (by omega) h x1 x2 x3 x4
  have u1 := un_X9_leads h.gs (okB h.hp).1 o1
  have u2 := un_X10_leads u1.2 (okB h.hp).2 o2
  unfold b_law_457
  rw [e1, e2, e3, e4]
  simp only [Option.bind_some]
  rw [cO_bl (at9 h.hp), u1.1, bind2_s, cO_bl (at10 h.hp), u2.1, bind2_s, if_pos rfl]
  exact hN cs s m2 hi (hb.k (by rw [hr]))
theorem c_510 {F : Nat} (hF : 3000000 ≤ F) {xs : Nat → Int32} {Ls : Nat} {self : Nat × Nat → PH → Nat → Nat → Int32 → Option Int32} {cs : Nat × Nat} {s : List Sh} {m : Mem} {v3 : Int32} {k : Nat} (h : INV s m) (hb : BG cs (k + 1) m) {x1 x2 x3 x4 x5 : Int32} (he : SCR xs Ls v3 x1 x2 x3 x4 x5) (hN : NXT self k (v3 + 6)) : b_law_510 F xs Ls self cs (bl s m) 0 23 v3 = some 1 := by
  obtain ⟨e1, e2, e3, e4, e5⟩ := he
  obtain ⟨r, m1, m2, o1, o2, hi, hr⟩ := opk_press (F := F) (by omega) h x1
  have u1 := un_X9_press h.gs (okB h.hp).1 o1
  have u2 := un_X10_press u1.2 (okB h.hp).2 o2
  unfold b_law_510
  rw [e1]
  simp only [Option.bind_some]
  rw [cO_bl (at9 h.hp), u1.1, bind2_s, cO_bl (at10 h.hp), u2.1, bind2_s, if_pos rfl]
  exact hN cs s m2 hi (hb.k (by rw [hr]))
theorem c_533 {F : Nat} (hF : 3000000 ≤ F) {xs : Nat → Int32} {Ls : Nat} {self : Nat × Nat → PH → Nat → Nat → Int32 → Option Int32} {cs : Nat × Nat} {s : List Sh} {m : Mem} {v3 : Int32} {k : Nat} (h : INV s m) (hb : BG cs (k + 1) m) {x1 x2 x3 x4 x5 : Int32} (he : SCR xs Ls v3 x1 x2 x3 x4 x5) (hN : NXT self k (v3 + 6)) : b_law_533 F xs Ls self cs (bl s m) 0 23 v3 = some 1 := by
  obtain ⟨e1, e2, e3, e4, e5⟩ := he
  obtain ⟨r, m1, m2, o1, o2, hi, hr⟩ := opk_undo  h x1
  have u1 := un_X9_undo h.gs (okB h.hp).1 o1
  have u2 := un_X10_undo u1.2 (okB h.hp).2 o2
  unfold b_law_533
  rw [e1]
  simp only [Option.bind_some]
  rw [cO_bl (at9 h.hp), u1.1, bind2_s, cO_bl (at10 h.hp), u2.1, bind2_s, if_pos rfl]
  exact hN cs s m2 hi (hb.k (by rw [hr]))
theorem c_556 {F : Nat} (hF : 3000000 ≤ F) {xs : Nat → Int32} {Ls : Nat} {self : Nat × Nat → PH → Nat → Nat → Int32 → Option Int32} {cs : Nat × Nat} {s : List Sh} {m : Mem} {v3 : Int32} {k : Nat} (h : INV s m) (hb : BG cs (k + 1) m) {x1 x2 x3 x4 x5 : Int32} (he : SCR xs Ls v3 x1 x2 x3 x4 x5) (hN : NXT self k (v3 + 6)) : b_law_556 F xs Ls self cs (bl s m) 0 23 v3 = some 1 := by
  obtain ⟨e1, e2, e3, e4, e5⟩ := he
  obtain ⟨r, m1, m2, o1, o2, hi, hr⟩ := opk_judge (F := F) (by omega) h x1 x2
  have u1 := un_X9_judge h.gs (okB h.hp).1 o1
  have u2 := un_X10_judge u1.2 (okB h.hp).2 o2
  unfold b_law_556
  rw [e1, e2]
  simp only [Option.bind_some]
  rw [cO_bl (at9 h.hp), u1.1, bind2_s, cO_bl (at10 h.hp), u2.1, bind2_s, if_pos rfl]
  exact hN cs s m2 hi (hb.k (by rw [hr]))
theorem c_589 {F : Nat} (hF : 3000000 ≤ F) {xs : Nat → Int32} {Ls : Nat} {self : Nat × Nat → PH → Nat → Nat → Int32 → Option Int32} {cs : Nat × Nat} {s : List Sh} {m : Mem} {v3 : Int32} {k : Nat} (h : INV s m) (hb : BG cs (k + 1) m) {x1 x2 x3 x4 x5 : Int32} (he : SCR xs Ls v3 x1 x2 x3 x4 x5) (hN : NXT self k (v3 + 6)) : b_law_589 F xs Ls self cs (bl s m) 0 23 v3 = some 1 := by
  obtain ⟨e1, e2, e3, e4, e5⟩ := he
  obtain ⟨r, m1, m2, o1, o2, hi, hr⟩ := opk_perform (F := F) (by omega) h x1
  have u1 := un_X9_perform h.gs (okB h.hp).1 o1
  have u2 := un_X10_perform u1.2 (okB h.hp).2 o2
  unfold b_law_589
  rw [e1]
  simp only [Option.bind_some]
  rw [cO_bl (at9 h.hp), u1.1, bind2_s, cO_bl (at10 h.hp), u2.1, bind2_s, if_pos rfl]
  exact hN cs s m2 hi (hb.k (by rw [hr]))
theorem c_612 {F : Nat} (hF : 3000000 ≤ F) {xs : Nat → Int32} {Ls : Nat} {self : Nat × Nat → PH → Nat → Nat → Int32 → Option Int32} {cs : Nat × Nat} {s : List Sh} {m : Mem} {v3 : Int32} {k : Nat} (h : INV s m) (hb : BG cs (k + 1) m) {x1 x2 x3 x4 x5 : Int32} (he : SCR xs Ls v3 x1 x2 x3 x4 x5) (hN : NXT self k (v3 + 6)) : b_law_612 F xs Ls self cs (bl s m) 0 23 v3 = some 1 := by
  obtain ⟨e1, e2, e3, e4, e5⟩ := he
  obtain ⟨r, m1, m2, o1, o2, hi, hr⟩ := opk_day (F := F) (by omega) h x1 x2
  have u1 := un_X9_day h.gs (okB h.hp).1 o1
  have u2 := un_X10_day u1.2 (okB h.hp).2 o2
  unfold b_law_612
  rw [e1, e2]
  simp only [Option.bind_some]
  rw [cO_bl (at9 h.hp), u1.1, bind2_s, cO_bl (at10 h.hp), u2.1, bind2_s, if_pos rfl]
  exact hN cs s m2 hi (hb.k (by rw [hr]))
theorem c_645 {F : Nat} (hF : 3000000 ≤ F) {xs : Nat → Int32} {Ls : Nat} {self : Nat × Nat → PH → Nat → Nat → Int32 → Option Int32} {cs : Nat × Nat} {s : List Sh} {m : Mem} {v3 : Int32} {k : Nat} (h : INV s m) (hb : BG cs (k + 1) m) {x1 x2 x3 x4 x5 : Int32} (he : SCR xs Ls v3 x1 x2 x3 x4 x5) (hN : NXT self k (v3 + 6)) : b_law_645 F xs Ls self cs (bl s m) 0 23 v3 = some 1 := by
  obtain ⟨e1, e2, e3, e4, e5⟩ := he
  obtain ⟨r, m1, m2, o1, o2, hi, hr⟩ := opk_has (F := F) (by omega) h x1 x2 x3 x4
  have u1 := un_X9_has h.gs (okB h.hp).1 o1
  have u2 := un_X10_has u1.2 (okB h.hp).2 o2
  unfold b_law_645
  rw [e1, e2, e3, e4]
  simp only [Option.bind_some]
  rw [cO_bl (at9 h.hp), u1.1, bind2_s, cO_bl (at10 h.hp), u2.1, bind2_s, if_pos rfl]
  exact hN cs s m2 hi (hb.k (by rw [hr]))
theorem c_699 {F : Nat} (hF : 3000000 ≤ F) {xs : Nat → Int32} {Ls : Nat} {self : Nat × Nat → PH → Nat → Nat → Int32 → Option Int32} {cs : Nat × Nat} {s : List Sh} {m : Mem} {v3 : Int32} {k : Nat} (h : INV s m) (hb : BG cs (k + 1) m) {x1 x2 x3 x4 x5 : Int32} (he : SCR xs Ls v3 x1 x2 x3 x4 x5) (hN : NXT self k (v3 + 6)) : b_law_699 F xs Ls self cs (bl s m) 0 23 v3 = some 1 := by
  obtain ⟨e1, e2, e3, e4, e5⟩ := he
  obtain ⟨r, m1, m2, o1, o2, hi, hr⟩ := opk_where (F := F) (by omega) h x1 x2 x3
  have u1 := un_X9_where h.gs (okB h.hp).1 o1
  have u2 := un_X10_where u1.2 (okB h.hp).2 o2
  unfold b_law_699
  rw [e1, e2, e3]
  simp only [Option.bind_some]
  rw [cO_bl (at9 h.hp), u1.1, bind2_s, cO_bl (at10 h.hp), u2.1, bind2_s, if_pos rfl]
  exact hN cs s m2 hi (hb.k (by rw [hr]))
theorem c_743 {F : Nat} (hF : 3000000 ≤ F) {xs : Nat → Int32} {Ls : Nat} {self : Nat × Nat → PH → Nat → Nat → Int32 → Option Int32} {cs : Nat × Nat} {s : List Sh} {m : Mem} {v3 : Int32} {k : Nat} (h : INV s m) (hb : BG cs (k + 1) m) {x1 x2 x3 x4 x5 : Int32} (he : SCR xs Ls v3 x1 x2 x3 x4 x5) (hN : NXT self k (v3 + 6)) : b_law_743 F xs Ls self cs (bl s m) 0 23 v3 = some 1 := by
  obtain ⟨e1, e2, e3, e4, e5⟩ := he
  obtain ⟨r, m1, m2, o1, o2, hi, hr⟩ := opk_alike (F := F) (by omega) h x1 x2 x3
  have u1 := un_X9_alike h.gs (okB h.hp).1 o1
  have u2 := un_X10_alike u1.2 (okB h.hp).2 o2
  unfold b_law_743
  rw [e1, e2, e3]
  simp only [Option.bind_some]
  rw [cO_bl (at9 h.hp), u1.1, bind2_s, cO_bl (at10 h.hp), u2.1, bind2_s, if_pos rfl]
  exact hN cs s m2 hi (hb.k (by rw [hr]))
theorem c_787 {F : Nat} (hF : 3000000 ≤ F) {xs : Nat → Int32} {Ls : Nat} {self : Nat × Nat → PH → Nat → Nat → Int32 → Option Int32} {cs : Nat × Nat} {s : List Sh} {m : Mem} {v3 : Int32} {k : Nat} (h : INV s m) (hb : BG cs (k + 1) m) {x1 x2 x3 x4 x5 : Int32} (he : SCR xs Ls v3 x1 x2 x3 x4 x5) (hN : NXT self k (v3 + 6)) : b_law_787 F xs Ls self cs (bl s m) 0 23 v3 = some 1 := by
  obtain ⟨e1, e2, e3, e4, e5⟩ := he
  obtain ⟨r, m2, o1, o2, hi, hr⟩ := opr_most (F := F) (by omega) h x1
  have u1 := un_X9_most h.gs (okB h.hp).1 o1
  have u2 := un_X10_most h.gs (okB h.hp).2 o2
  unfold b_law_787
  rw [e1]
  simp only [Option.bind_some]
  rw [cO_bl (at9 h.hp), u1.1, Option.bind_some, cO_bl (at10 h.hp), u2.1, bind2_s, if_pos rfl]
  exact hN cs s m2 hi (hb.k (by rw [hr]))
theorem c_810 {F : Nat} (hF : 3000000 ≤ F) {xs : Nat → Int32} {Ls : Nat} {self : Nat × Nat → PH → Nat → Nat → Int32 → Option Int32} {cs : Nat × Nat} {s : List Sh} {m : Mem} {v3 : Int32} {k : Nat} (h : INV s m) (hb : BG cs (k + 1) m) {x1 x2 x3 x4 x5 : Int32} (he : SCR xs Ls v3 x1 x2 x3 x4 x5) (hN : NXT self k (v3 + 6)) : b_law_810 F xs Ls self cs (bl s m) 0 23 v3 = some 1 := by
  obtain ⟨e1, e2, e3, e4, e5⟩ := he
  obtain ⟨r, m1, m2, o1, o2, hi, hr⟩ := opk_tells (F := F) (by omega) h x1 x2
  have u1 := un_X9_tells h.gs (okB h.hp).1 o1
  have u2 := un_X10_tells u1.2 (okB h.hp).2 o2
  unfold b_law_810
  rw [e1, e2]
  simp only [Option.bind_some]
  rw [cO_bl (at9 h.hp), u1.1, bind2_s, cO_bl (at10 h.hp), u2.1, bind2_s, if_pos rfl]
  exact hN cs s m2 hi (hb.k (by rw [hr]))
theorem c_843 {F : Nat} (hF : 3000000 ≤ F) {xs : Nat → Int32} {Ls : Nat} {self : Nat × Nat → PH → Nat → Nat → Int32 → Option Int32} {cs : Nat × Nat} {s : List Sh} {m : Mem} {v3 : Int32} {k : Nat} (h : INV s m) (hb : BG cs (k + 1) m) {x1 x2 x3 x4 x5 : Int32} (he : SCR xs Ls v3 x1 x2 x3 x4 x5) (hN : NXT self k (v3 + 6)) : b_law_843 F xs Ls self cs (bl s m) 0 23 v3 = some 1 := by
  obtain ⟨e1, e2, e3, e4, e5⟩ := he
  obtain ⟨r, s1, m1, m2, o1, o2, hi, ht, hq⟩ := opq_fewest (F := F) (by omega) h x1 x2 x3
  have u1 := un_X9_fewest h.gs (okB h.hp).1 o1
  have u2 := un_X10_fewest u1.2.1 (okB hi.hp).2 o2
  have b1 := hb.1
  have b2 := hb.2
  unfold b_law_843
  rw [e1, e2, e3]
  simp only [Option.bind_some]
  rcases hq with ⟨hq, hr⟩ | ⟨n1, n2⟩
  · have uq := unq_X9_fewest h.gs (okB h.hp).1 hq
    rw [uq.1]
    refine bud_0 (by omega) (by omega) ?_
    rw [cO_bl (at9 h.hp), u1.1, bind2_s, cO_bl (at10 hi.hp), u2.1, bind2_s, if_pos rfl]
    exact hN cs s1 m2 hi (hb.k hr)
  · rw [rq_1 n1] at b1 b2
    refine bud_k (by omega) (by omega) (fun cs' q1 q2 => ?_)
    rw [cO_bl (at9 h.hp), u1.1, bind2_s, cO_bl (at10 hi.hp), u2.1, bind2_s, if_pos rfl]
    exact hN cs' s1 m2 hi (hb.q n1 n2 (by omega) (by omega))
theorem c_886 {F : Nat} (hF : 3000000 ≤ F) {xs : Nat → Int32} {Ls : Nat} {self : Nat × Nat → PH → Nat → Nat → Int32 → Option Int32} {cs : Nat × Nat} {s : List Sh} {m : Mem} {v3 : Int32} {k : Nat} (h : INV s m) (hb : BG cs (k + 1) m) {x1 x2 x3 x4 x5 : Int32} (he : SCR xs Ls v3 x1 x2 x3 x4 x5) (hN : NXT self k (v3 + 6)) : b_law_886 F xs Ls self cs (bl s m) 0 23 v3 = some 1 := by
  obtain ⟨e1, e2, e3, e4, e5⟩ := he
  obtain ⟨r, s1, m1, m2, o1, o2, hi, ht, hq⟩ := opq_reach (F := F) (by omega) h x1
  have u1 := un_X9_reach h.gs (okB h.hp).1 o1
  have u2 := un_X10_reach u1.2.1 (okB hi.hp).2 o2
  have b1 := hb.1
  have b2 := hb.2
  unfold b_law_886
  rw [e1]
  simp only [Option.bind_some]
  rcases hq with ⟨hq, hr⟩ | ⟨n1, n2⟩
  · have uq := unq_X9_reach h.gs (okB h.hp).1 hq
    rw [uq.1]
    refine bud_0 (by omega) (by omega) ?_
    rw [cO_bl (at9 h.hp), u1.1, bind2_s, cO_bl (at10 hi.hp), u2.1, bind2_s, if_pos rfl]
    exact hN cs s1 m2 hi (hb.k hr)
  · rw [rq_1 n1] at b1 b2
    refine bud_k (by omega) (by omega) (fun cs' q1 q2 => ?_)
    rw [cO_bl (at9 h.hp), u1.1, bind2_s, cO_bl (at10 hi.hp), u2.1, bind2_s, if_pos rfl]
    exact hN cs' s1 m2 hi (hb.q n1 n2 (by omega) (by omega))
theorem c_909 {F : Nat} (hF : 3000000 ≤ F) {xs : Nat → Int32} {Ls : Nat} {self : Nat × Nat → PH → Nat → Nat → Int32 → Option Int32} {cs : Nat × Nat} {s : List Sh} {m : Mem} {v3 : Int32} {k : Nat} (h : INV s m) (hb : BG cs (k + 1) m) {x1 x2 x3 x4 x5 : Int32} (he : SCR xs Ls v3 x1 x2 x3 x4 x5) (hN : NXT self k (v3 + 6)) : b_law_909 F xs Ls self cs (bl s m) 0 23 v3 = some 1 := by
  obtain ⟨e1, e2, e3, e4, e5⟩ := he
  obtain ⟨r, s1, m1, m2, o1, o2, hi, ht, hq⟩ := opq_highest (F := F) (by omega) h x1 x2
  have u1 := un_X9_highest h.gs (okB h.hp).1 o1
  have u2 := un_X10_highest u1.2.1 (okB hi.hp).2 o2
  have b1 := hb.1
  have b2 := hb.2
  unfold b_law_909
  rw [e1, e2]
  simp only [Option.bind_some]
  rcases hq with ⟨hq, hr⟩ | ⟨n1, n2⟩
  · have uq := unq_X9_highest h.gs (okB h.hp).1 hq
    rw [uq.1]
    refine bud_0 (by omega) (by omega) ?_
    rw [cO_bl (at9 h.hp), u1.1, bind2_s, cO_bl (at10 hi.hp), u2.1, bind2_s, if_pos rfl]
    exact hN cs s1 m2 hi (hb.k hr)
  · rw [rq_1 n1] at b1 b2
    refine bud_k (by omega) (by omega) (fun cs' q1 q2 => ?_)
    rw [cO_bl (at9 h.hp), u1.1, bind2_s, cO_bl (at10 hi.hp), u2.1, bind2_s, if_pos rfl]
    exact hN cs' s1 m2 hi (hb.q n1 n2 (by omega) (by omega))
theorem c_942 {F : Nat} (hF : 3000000 ≤ F) {xs : Nat → Int32} {Ls : Nat} {self : Nat × Nat → PH → Nat → Nat → Int32 → Option Int32} {cs : Nat × Nat} {s : List Sh} {m : Mem} {v3 : Int32} {k : Nat} (h : INV s m) (hb : BG cs (k + 1) m) {x1 x2 x3 x4 x5 : Int32} (he : SCR xs Ls v3 x1 x2 x3 x4 x5) (hN : NXT self k (v3 + 6)) : b_law_942 F xs Ls self cs (bl s m) 0 23 v3 = some 1 := by
  obtain ⟨e1, e2, e3, e4, e5⟩ := he
  obtain ⟨r, s1, m1, m2, o1, o2, hi, ht, hq⟩ := opq_twins (F := F) (by omega) h x1
  have u1 := un_X9_twins h.gs (okB h.hp).1 o1
  have u2 := un_X10_twins u1.2.1 (okB hi.hp).2 o2
  have b1 := hb.1
  have b2 := hb.2
  unfold b_law_942
  rw [e1]
  simp only [Option.bind_some]
  rcases hq with ⟨hq, hr⟩ | ⟨n1, n2⟩
  · have uq := unq_X9_twins h.gs (okB h.hp).1 hq
    rw [uq.1]
    refine bud_0 (by omega) (by omega) ?_
    rw [cO_bl (at9 h.hp), u1.1, bind2_s, cO_bl (at10 hi.hp), u2.1, bind2_s, if_pos rfl]
    exact hN cs s1 m2 hi (hb.k hr)
  · rw [rq_1 n1] at b1 b2
    refine bud_k (by omega) (by omega) (fun cs' q1 q2 => ?_)
    rw [cO_bl (at9 h.hp), u1.1, bind2_s, cO_bl (at10 hi.hp), u2.1, bind2_s, if_pos rfl]
    exact hN cs' s1 m2 hi (hb.q n1 n2 (by omega) (by omega))
theorem c_965 {F : Nat} (hF : 3000000 ≤ F) {xs : Nat → Int32} {Ls : Nat} {self : Nat × Nat → PH → Nat → Nat → Int32 → Option Int32} {cs : Nat × Nat} {s : List Sh} {m : Mem} {v3 : Int32} {k : Nat} (h : INV s m) (hb : BG cs (k + 1) m) {x1 x2 x3 x4 x5 : Int32} (he : SCR xs Ls v3 x1 x2 x3 x4 x5) (hN : NXT self k (v3 + 6)) : b_law_965 F xs Ls self cs (bl s m) 0 23 v3 = some 1 := by
  obtain ⟨e1, e2, e3, e4, e5⟩ := he
  obtain ⟨r, m1, m2, o1, o2, hi, hr⟩ := opk_never (F := F) (by omega) h x1 x2 x3
  have u1 := un_X9_never h.gs (okB h.hp).1 o1
  have u2 := un_X10_never u1.2 (okB h.hp).2 o2
  unfold b_law_965
  rw [e1, e2, e3]
  simp only [Option.bind_some]
  rw [cO_bl (at9 h.hp), u1.1, bind2_s, cO_bl (at10 h.hp), u2.1, bind2_s, if_pos rfl]
  exact hN cs s m2 hi (hb.k (by rw [hr]))
theorem c_1008 {F : Nat} (hF : 3000000 ≤ F) {xs : Nat → Int32} {Ls : Nat} {self : Nat × Nat → PH → Nat → Nat → Int32 → Option Int32} {cs : Nat × Nat} {s : List Sh} {m : Mem} {v3 : Int32} {k : Nat} (h : INV s m) (hb : BG cs (k + 1) m) {x1 x2 x3 x4 x5 : Int32} (he : SCR xs Ls v3 x1 x2 x3 x4 x5) (hN : NXT self k (v3 + 6)) : b_law_1008 F xs Ls self cs (bl s m) 0 23 v3 = some 1 := by
  obtain ⟨e1, e2, e3, e4, e5⟩ := he
  obtain ⟨r, m1, m2, o1, o2, hi, hr⟩ := opk_shown (F := F) (by omega) h x1 x2
  have u1 := un_X9_shown h.gs (okB h.hp).1 o1
  have u2 := un_X10_shown u1.2 (okB h.hp).2 o2
  unfold b_law_1008
  rw [e1, e2]
  simp only [Option.bind_some]
  rw [cO_bl (at9 h.hp), u1.1, bind2_s, cO_bl (at10 h.hp), u2.1, bind2_s, if_pos rfl]
  exact hN cs s m2 hi (hb.k (by rw [hr]))
theorem c_1041 {F : Nat} (hF : 3000000 ≤ F) {xs : Nat → Int32} {Ls : Nat} {self : Nat × Nat → PH → Nat → Nat → Int32 → Option Int32} {cs : Nat × Nat} {s : List Sh} {m : Mem} {v3 : Int32} {k : Nat} (h : INV s m) (hb : BG cs (k + 1) m) {x1 x2 x3 x4 x5 : Int32} (he : SCR xs Ls v3 x1 x2 x3 x4 x5) (hN : NXT self k (v3 + 6)) : b_law_1041 F xs Ls self cs (bl s m) 0 23 v3 = some 1 := by
  obtain ⟨e1, e2, e3, e4, e5⟩ := he
  obtain ⟨r, m1, m2, o1, o2, hi, hr⟩ := opk_rests (F := F) (by omega) h x1
  have u1 := un_X9_rests h.gs (okB h.hp).1 o1
  have u2 := un_X10_rests u1.2 (okB h.hp).2 o2
  unfold b_law_1041
  rw [e1]
  simp only [Option.bind_some]
  rw [cO_bl (at9 h.hp), u1.1, bind2_s, cO_bl (at10 h.hp), u2.1, bind2_s, if_pos rfl]
  exact hN cs s m2 hi (hb.k (by rw [hr]))
theorem c_1064 {F : Nat} (hF : 3000000 ≤ F) {xs : Nat → Int32} {Ls : Nat} {self : Nat × Nat → PH → Nat → Nat → Int32 → Option Int32} {cs : Nat × Nat} {s : List Sh} {m : Mem} {v3 : Int32} {k : Nat} (h : INV s m) (hb : BG cs (k + 1) m) {x1 x2 x3 x4 x5 : Int32} (he : SCR xs Ls v3 x1 x2 x3 x4 x5) (hN : NXT self k (v3 + 6)) : b_law_1064 F xs Ls self cs (bl s m) 0 23 v3 = some 1 := by
  obtain ⟨e1, e2, e3, e4, e5⟩ := he
  have go : ∀ w : Nat, w ≤ 1 → (x3 = 0 → q32 (w : Int) = (0 : Int32)) → (x3 ≠ 0 → q32 (w : Int) = (1 : Int32)) → b_law_1088 F xs Ls self cs (bl s m) 0 23 v3 0 x1 x2 (q32 (w : Int)) = some 1 := fun w hw q0 q1 => by
    obtain ⟨r, s1, m1, m2, o1, o2, hi, ht, hq⟩ := opq_meet (F := F) (by omega) h x1 x2 w hw x4
    have u1 := un_X9_meet h.gs (okB h.hp).1 o1
    have u2 := un_X10_meet u1.2.1 (okB hi.hp).2 o2
    have b1 := hb.1
    have b2 := hb.2
    have fin : ∀ cs' : Nat × Nat, BG cs' k m2 → b_law_1120 F xs Ls self cs' (bl s1 m1) 0 23 v3 r 23 x1 x2 (q32 (w : Int)) = some 1 := fun cs' hb' => by
      unfold b_law_1120
      rw [e4, Option.bind_some, cO_bl (at10 hi.hp), u2.1, bind2_s, if_pos rfl]
      exact hN cs' s1 m2 hi hb'
    have fin2 : ∀ cs' : Nat × Nat, BG cs' k m2 → (if x3 = 0 then (b_law_1120 F xs Ls self cs' (bl s1 m1) 0 23 v3 r 23 x1 x2 (0 : Int32)) else (b_law_1120 F xs Ls self cs' (bl s1 m1) 0 23 v3 r 23 x1 x2 (1 : Int32))) = some 1 := fun cs' hb' => by
      by_cases c : x3 = 0
      · have fin := fin cs' hb'
        rw [q0 c] at fin
        rw [if_pos c]
        exact fin
      · have fin := fin cs' hb'
        rw [q1 c] at fin
        rw [if_neg c]
        exact fin
    unfold b_law_1088
    rw [e1, e2, e3, e4]
    simp only [Option.bind_some]
    rcases hq with ⟨hq, hr⟩ | ⟨n1, n2⟩
    · have uq := unq_X9_meet h.gs (okB h.hp).1 hq
      rw [uq.1]
      refine bud_0 (by omega) (by omega) ?_
      rw [cO_bl (at9 h.hp), u1.1, bind2_s]
      exact fin2 cs (hb.k hr)
    · rw [rq_1 n1] at b1 b2
      refine bud_k (by omega) (by omega) (fun cs' q1 q2 => ?_)
      rw [cO_bl (at9 h.hp), u1.1, bind2_s]
      exact fin2 cs' (hb.q n1 n2 (by omega) (by omega))
  unfold b_law_1064
  rw [e1, e2, e3]
  simp only [Option.bind_some]
  by_cases c : x3 = 0
  · rw [if_pos c]
    exact go 0 (by omega) (fun _ => rfl) (fun n => absurd c n)
  · rw [if_neg c]
    exact go 1 (by omega) (fun n => absurd n c) (fun _ => rfl)
theorem c_1133 {F : Nat} (hF : 3000000 ≤ F) {xs : Nat → Int32} {Ls : Nat} {self : Nat × Nat → PH → Nat → Nat → Int32 → Option Int32} {cs : Nat × Nat} {s : List Sh} {m : Mem} {v3 : Int32} {k : Nat} (h : INV s m) (hb : BG cs (k + 1) m) {x1 x2 x3 x4 x5 : Int32} (he : SCR xs Ls v3 x1 x2 x3 x4 x5) (hN : NXT self k (v3 + 6)) : b_law_1133 F xs Ls self cs (bl s m) 0 23 v3 = some 1 := by
  obtain ⟨e1, e2, e3, e4, e5⟩ := he
  obtain ⟨r, m1, m2, o1, o2, hi, hr⟩ := opk_address (F := F) (by omega) h x1 x2 x3
  have u1 := un_X9_address h.gs (okB h.hp).1 o1
  have u2 := un_X10_address u1.2 (okB h.hp).2 o2
  unfold b_law_1133
  rw [e1, e2, e3]
  simp only [Option.bind_some]
  rw [cO_bl (at9 h.hp), u1.1, bind2_s, cO_bl (at10 h.hp), u2.1, bind2_s, if_pos rfl]
  exact hN cs s m2 hi (hb.k (by rw [hr]))
theorem c_1176 {F : Nat} (hF : 3000000 ≤ F) {xs : Nat → Int32} {Ls : Nat} {self : Nat × Nat → PH → Nat → Nat → Int32 → Option Int32} {cs : Nat × Nat} {s : List Sh} {m : Mem} {v3 : Int32} {k : Nat} (h : INV s m) (hb : BG cs (k + 1) m) {x1 x2 x3 x4 x5 : Int32} (he : SCR xs Ls v3 x1 x2 x3 x4 x5) (hN : NXT self k (v3 + 6)) : b_law_1176 F xs Ls self cs (bl s m) 0 23 v3 = some 1 := by
  obtain ⟨e1, e2, e3, e4, e5⟩ := he
  have go : ∀ ab : Int, (ab = 0 ∨ ab = 1) → (q32 ab = (0 : Int32) ↔ x4 = 0) → (x4 ≠ 0 → q32 ab = (1 : Int32)) → b_law_1205 F xs Ls self cs (bl s m) 0 23 v3 0 x1 x2 x3 (q32 ab) = some 1 := fun ab hab q0 q1 => by
    obtain ⟨r, m1, m2, o1, o2, hi, hr⟩ := opk_neighbour (F := F) (by omega) h x1 x2 x3 ab hab x5
    have u1 := un_X9_neighbour h.gs (okB h.hp).1 o1
    have u2 := un_X10_neighbour u1.2 (okB h.hp).2 o2
    have fin : b_law_1242 F xs Ls self cs (bl s m1) 0 23 v3 r 23 x1 x2 x3 (q32 ab) = some 1 := by
      unfold b_law_1242
      rw [e5, Option.bind_some, cO_bl (at10 h.hp), u2.1, bind2_s, if_pos rfl]
      exact hN cs s m2 hi (hb.k (by rw [hr]))
    unfold b_law_1205
    rw [e1, e2, e3, e4, e5]
    simp only [Option.bind_some]
    rw [cO_bl (at9 h.hp), u1.1, bind2_s]
    by_cases c : x4 = 0
    · rw [if_pos c]
      rw [q0.mpr c] at fin
      exact fin
    · rw [if_neg c]
      rw [q1 c] at fin
      exact fin
  unfold b_law_1176
  rw [e1, e2, e3, e4]
  simp only [Option.bind_some]
  by_cases c : x4 = 0
  · rw [if_pos c]
    exact go 0 (Or.inl rfl) ⟨fun _ => c, fun _ => rfl⟩ (fun n => absurd c n)
  · rw [if_neg c]
    exact go 1 (Or.inr rfl) ⟨fun n => absurd n (by decide), fun n => absurd n c⟩ (fun _ => rfl)
theorem c_1255 {F : Nat} (hF : 3000000 ≤ F) {xs : Nat → Int32} {Ls : Nat} {self : Nat × Nat → PH → Nat → Nat → Int32 → Option Int32} {cs : Nat × Nat} {s : List Sh} {m : Mem} {v3 : Int32} {k : Nat} (h : INV s m) (hb : BG cs (k + 1) m) {x1 x2 x3 x4 x5 : Int32} (he : SCR xs Ls v3 x1 x2 x3 x4 x5) (hN : NXT self k (v3 + 6)) : b_law_1255 F xs Ls self cs (bl s m) 0 23 v3 = some 1 := by
  obtain ⟨e1, e2, e3, e4, e5⟩ := he
  obtain ⟨r, m1, m2, o1, o2, hi, hr⟩ := opk_simplest (F := F) (by omega) h x1 x2 x3 x4 x5
  have u1 := un_X9_simplest h.gs (okB h.hp).1 o1
  have u2 := un_X10_simplest u1.2 (okB h.hp).2 o2
  unfold b_law_1255
  rw [e1, e2, e3, e4, e5]
  simp only [Option.bind_some]
  rw [cO_bl (at9 h.hp), u1.1, bind2_s, cO_bl (at10 h.hp), u2.1, bind2_s, if_pos rfl]
  exact hN cs s m2 hi (hb.k (by rw [hr]))
theorem c_1318 {F : Nat} (hF : 3000000 ≤ F) {xs : Nat → Int32} {Ls : Nat} {self : Nat × Nat → PH → Nat → Nat → Int32 → Option Int32} {cs : Nat × Nat} {s : List Sh} {m : Mem} {v3 : Int32} {k : Nat} (h : INV s m) (hb : BG cs (k + 1) m) {x1 x2 x3 x4 x5 : Int32} (he : SCR xs Ls v3 x1 x2 x3 x4 x5) (hN : NXT self k (v3 + 6)) : b_law_1318 F xs Ls self cs (bl s m) 0 23 v3 = some 1 := by
  obtain ⟨e1, e2, e3, e4, e5⟩ := he
  obtain ⟨r, m1, m2, o1, o2, hi, hr⟩ := opk_floors (F := F) (by omega) h x1
  have u1 := un_X9_floors h.gs (okB h.hp).1 o1
  have u2 := un_X10_floors u1.2 (okB h.hp).2 o2
  unfold b_law_1318
  rw [e1]
  simp only [Option.bind_some]
  rw [cO_bl (at9 h.hp), u1.1, bind2_s, cO_bl (at10 h.hp), u2.1, bind2_s, if_pos rfl]
  exact hN cs s m2 hi (hb.k (by rw [hr]))
theorem c_1341 {F : Nat} (hF : 3000000 ≤ F) {xs : Nat → Int32} {Ls : Nat} {self : Nat × Nat → PH → Nat → Nat → Int32 → Option Int32} {cs : Nat × Nat} {s : List Sh} {m : Mem} {v3 : Int32} {k : Nat} (h : INV s m) (hb : BG cs (k + 1) m) {x1 x2 x3 x4 x5 : Int32} (he : SCR xs Ls v3 x1 x2 x3 x4 x5) (hN : NXT self k (v3 + 6)) : b_law_1341 F xs Ls self cs (bl s m) 0 23 v3 = some 1 := by
  obtain ⟨e1, e2, e3, e4, e5⟩ := he
  obtain ⟨r, m1, m2, o1, o2, hi, hr⟩ := opk_rank (F := F) (by omega) h x1 x2 x3
  have u1 := un_X9_rank h.gs (okB h.hp).1 o1
  have u2 := un_X10_rank u1.2 (okB h.hp).2 o2
  unfold b_law_1341
  rw [e1, e2, e3]
  simp only [Option.bind_some]
  rw [cO_bl (at9 h.hp), u1.1, bind2_s, cO_bl (at10 h.hp), u2.1, bind2_s, if_pos rfl]
  exact hN cs s m2 hi (hb.k (by rw [hr]))
theorem c_1384 {F : Nat} (hF : 3000000 ≤ F) {xs : Nat → Int32} {Ls : Nat} {self : Nat × Nat → PH → Nat → Nat → Int32 → Option Int32} {cs : Nat × Nat} {s : List Sh} {m : Mem} {v3 : Int32} {k : Nat} (h : INV s m) (hb : BG cs (k + 1) m) {x1 x2 x3 x4 x5 : Int32} (he : SCR xs Ls v3 x1 x2 x3 x4 x5) (hN : NXT self k (v3 + 6)) : b_law_1384 F xs Ls self cs (bl s m) 0 23 v3 = some 1 := by
  obtain ⟨e1, e2, e3, e4, e5⟩ := he
  obtain ⟨r, m1, m2, o1, o2, hi, hr⟩ := opk_parts (F := F) (by omega) h x1 x2 x3
  have u1 := un_X9_parts h.gs (okB h.hp).1 o1
  have u2 := un_X10_parts u1.2 (okB h.hp).2 o2
  unfold b_law_1384
  rw [e1, e2, e3]
  simp only [Option.bind_some]
  rw [cO_bl (at9 h.hp), u1.1, bind2_s, cO_bl (at10 h.hp), u2.1, bind2_s, if_pos rfl]
  exact hN cs s m2 hi (hb.k (by rw [hr]))
theorem c_1427 {F : Nat} (hF : 3000000 ≤ F) {xs : Nat → Int32} {Ls : Nat} {self : Nat × Nat → PH → Nat → Nat → Int32 → Option Int32} {cs : Nat × Nat} {s : List Sh} {m : Mem} {v3 : Int32} {k : Nat} (h : INV s m) (hb : BG cs (k + 1) m) {x1 x2 x3 x4 x5 : Int32} (he : SCR xs Ls v3 x1 x2 x3 x4 x5) (hN : NXT self k (v3 + 6)) : b_law_1427 F xs Ls self cs (bl s m) 0 23 v3 = some 1 := by
  obtain ⟨e1, e2, e3, e4, e5⟩ := he
  obtain ⟨r, m1, m2, o1, o2, hi, hr⟩ := opk_rent (F := F) (by omega) h x1 x2
  have u1 := un_X9_rent h.gs (okB h.hp).1 o1
  have u2 := un_X10_rent u1.2 (okB h.hp).2 o2
  unfold b_law_1427
  rw [e1, e2]
  simp only [Option.bind_some]
  rw [cO_bl (at9 h.hp), u1.1, bind2_s, cO_bl (at10 h.hp), u2.1, bind2_s, if_pos rfl]
  exact hN cs s m2 hi (hb.k (by rw [hr]))
theorem c_1461 {F : Nat} (hF : 3000000 ≤ F) {xs : Nat → Int32} {Ls : Nat} {self : Nat × Nat → PH → Nat → Nat → Int32 → Option Int32} {cs : Nat × Nat} {s : List Sh} {m : Mem} {v3 : Int32} {k : Nat} (h : INV s m) (hb : BG cs (k + 1) m) {x1 x2 x3 x4 x5 : Int32} (he : SCR xs Ls v3 x1 x2 x3 x4 x5) (hN : NXT self k (v3 + 6)) : b_law_1461 F xs Ls self cs (bl s m) 0 23 v3 = some 1 := by
  obtain ⟨e1, e2, e3, e4, e5⟩ := he
  obtain ⟨r, m1, m2, o1, o2, hi, hr⟩ := opk_rents (F := F) (by omega) h 
  have u1 := un_X9_rents h.gs (okB h.hp).1 o1
  have u2 := un_X10_rents u1.2 (okB h.hp).2 o2
  unfold b_law_1461
  rw [cO_bl (at9 h.hp), u1.1, bind2_s, cO_bl (at10 h.hp), u2.1, bind2_s, if_pos rfl]
  exact hN cs s m2 hi (hb.k (by rw [hr]))
theorem c_1474 {F : Nat} (hF : 3000000 ≤ F) {xs : Nat → Int32} {Ls : Nat} {self : Nat × Nat → PH → Nat → Nat → Int32 → Option Int32} {cs : Nat × Nat} {s : List Sh} {m : Mem} {v3 : Int32} {k : Nat} (h : INV s m) (hb : BG cs (k + 1) m) {x1 x2 x3 x4 x5 : Int32} (he : SCR xs Ls v3 x1 x2 x3 x4 x5) (hN : NXT self k (v3 + 6)) : b_law_1474 F xs Ls self cs (bl s m) 0 23 v3 = some 1 := by
  obtain ⟨e1, e2, e3, e4, e5⟩ := he
  obtain ⟨r, m1, m2, o1, o2, hi, hr⟩ := opk_moves (F := F) (by omega) h x1 x2 x3
  have u1 := un_X9_moves h.gs (okB h.hp).1 o1
  have u2 := un_X10_moves u1.2 (okB h.hp).2 o2
  unfold b_law_1474
  rw [e1, e2, e3]
  simp only [Option.bind_some]
  rw [cO_bl (at9 h.hp), u1.1, bind2_s, cO_bl (at10 h.hp), u2.1, bind2_s, if_pos rfl]
  exact hN cs s m2 hi (hb.k (by rw [hr]))
theorem c_1517 {F : Nat} (hF : 3000000 ≤ F) {xs : Nat → Int32} {Ls : Nat} {self : Nat × Nat → PH → Nat → Nat → Int32 → Option Int32} {cs : Nat × Nat} {s : List Sh} {m : Mem} {v3 : Int32} {k : Nat} (h : INV s m) (hb : BG cs (k + 1) m) {x1 x2 x3 x4 x5 : Int32} (he : SCR xs Ls v3 x1 x2 x3 x4 x5) (hN : NXT self k (v3 + 6)) : b_law_1517 F xs Ls self cs (bl s m) 0 23 v3 = some 1 := by
  obtain ⟨e1, e2, e3, e4, e5⟩ := he
  obtain ⟨r, m1, m2, o1, o2, hi, hr⟩ := opk_fairest (F := F) (by omega) h x1 x2
  have u1 := un_X9_fairest h.gs (okB h.hp).1 o1
  have u2 := un_X10_fairest u1.2 (okB h.hp).2 o2
  unfold b_law_1517
  rw [e1, e2]
  simp only [Option.bind_some]
  rw [cO_bl (at9 h.hp), u1.1, bind2_s, cO_bl (at10 h.hp), u2.1, bind2_s, if_pos rfl]
  exact hN cs s m2 hi (hb.k (by rw [hr]))
theorem c_1551 {F : Nat} (hF : 3000000 ≤ F) {xs : Nat → Int32} {Ls : Nat} {self : Nat × Nat → PH → Nat → Nat → Int32 → Option Int32} {cs : Nat × Nat} {s : List Sh} {m : Mem} {v3 : Int32} {k : Nat} (h : INV s m) (hb : BG cs (k + 1) m) {x1 x2 x3 x4 x5 : Int32} (he : SCR xs Ls v3 x1 x2 x3 x4 x5) (hN : NXT self k (v3 + 6)) : b_law_1551 F xs Ls self cs (bl s m) 0 23 v3 = some 1 := by
  obtain ⟨e1, e2, e3, e4, e5⟩ := he
  obtain ⟨r, m1, m2, o1, o2, hi, hr⟩ := opk_richest (F := F) (by omega) h 
  have u1 := un_X9_richest h.gs (okB h.hp).1 o1
  have u2 := un_X10_richest u1.2 (okB h.hp).2 o2
  unfold b_law_1551
  rw [cO_bl (at9 h.hp), u1.1, bind2_s, cO_bl (at10 h.hp), u2.1, bind2_s, if_pos rfl]
  exact hN cs s m2 hi (hb.k (by rw [hr]))
theorem c_1564 {F : Nat} (hF : 3000000 ≤ F) {xs : Nat → Int32} {Ls : Nat} {self : Nat × Nat → PH → Nat → Nat → Int32 → Option Int32} {cs : Nat × Nat} {s : List Sh} {m : Mem} {v3 : Int32} {k : Nat} (h : INV s m) (hb : BG cs (k + 1) m) {x1 x2 x3 x4 x5 : Int32} (he : SCR xs Ls v3 x1 x2 x3 x4 x5) (hN : NXT self k (v3 + 6)) : b_law_1564 F xs Ls self cs (bl s m) 0 23 v3 = some 1 := by
  obtain ⟨e1, e2, e3, e4, e5⟩ := he
  obtain ⟨r, s1, m1, m2, o1, o2, hi, ht, hr⟩ := opg_fits (F := F) (by omega) h x1 x2
  have u1 := un_X9_fits h.gs (okB h.hp).1 o1
  have u2 := un_X10_fits u1.2.1 (okB hi.hp).2 o2
  have b1 := hb.1
  have b2 := hb.2
  unfold b_law_1564
  rw [e1, e2]
  simp only [Option.bind_some]
  refine bud_k (by omega) (by omega) (fun cs' q1 q2 => ?_)
  rw [cO_bl (at9 h.hp), u1.1, bind2_s, cO_bl (at10 hi.hp), u2.1, bind2_s, if_pos rfl]
  exact hN cs' s1 m2 hi (hb.g hr (by omega) (by omega))
theorem c_1597 {F : Nat} (hF : 3000000 ≤ F) {xs : Nat → Int32} {Ls : Nat} {self : Nat × Nat → PH → Nat → Nat → Int32 → Option Int32} {cs : Nat × Nat} {s : List Sh} {m : Mem} {v3 : Int32} {k : Nat} (h : INV s m) (hb : BG cs (k + 1) m) {x1 x2 x3 x4 x5 : Int32} (he : SCR xs Ls v3 x1 x2 x3 x4 x5) (hN : NXT self k (v3 + 6)) : b_law_1597 F xs Ls self cs (bl s m) 0 23 v3 = some 1 := by
  obtain ⟨e1, e2, e3, e4, e5⟩ := he
  obtain ⟨r, s1, m1, m2, o1, o2, hi, ht, hr⟩ := opg_sure (F := F) (by omega) h x1 x2
  have u1 := un_X9_sure h.gs (okB h.hp).1 o1
  have u2 := un_X10_sure u1.2.1 (okB hi.hp).2 o2
  have b1 := hb.1
  have b2 := hb.2
  unfold b_law_1597
  rw [e1, e2]
  simp only [Option.bind_some]
  refine bud_k (by omega) (by omega) (fun cs' q1 q2 => ?_)
  rw [cO_bl (at9 h.hp), u1.1, bind2_s, cO_bl (at10 hi.hp), u2.1, bind2_s, if_pos rfl]
  exact hN cs' s1 m2 hi (hb.g hr (by omega) (by omega))
theorem c_1630 {F : Nat} (hF : 3000000 ≤ F) {xs : Nat → Int32} {Ls : Nat} {self : Nat × Nat → PH → Nat → Nat → Int32 → Option Int32} {cs : Nat × Nat} {s : List Sh} {m : Mem} {v3 : Int32} {k : Nat} (h : INV s m) (hb : BG cs (k + 1) m) {x1 x2 x3 x4 x5 : Int32} (he : SCR xs Ls v3 x1 x2 x3 x4 x5) (hN : NXT self k (v3 + 6)) : b_law_1630 F xs Ls self cs (bl s m) 0 23 v3 = some 1 := by
  obtain ⟨e1, e2, e3, e4, e5⟩ := he
  obtain ⟨r, s1, m1, m2, o1, o2, hi, ht, hq⟩ := opq_odds (F := F) (by omega) h x1 x2 x3
  have u1 := un_X9_odds h.gs (okB h.hp).1 o1
  have u2 := un_X10_odds u1.2.1 (okB hi.hp).2 o2
  have b1 := hb.1
  have b2 := hb.2
  unfold b_law_1630
  rw [e1, e2, e3]
  simp only [Option.bind_some]
  rcases hq with ⟨hq, hr⟩ | ⟨n1, n2⟩
  · have uq := unq_X9_odds h.gs (okB h.hp).1 hq
    rw [uq.1]
    refine bud_0 (by omega) (by omega) ?_
    rw [cO_bl (at9 h.hp), u1.1, bind2_s, cO_bl (at10 hi.hp), u2.1, bind2_s, if_pos rfl]
    exact hN cs s1 m2 hi (hb.k hr)
  · rw [rq_1 n1] at b1 b2
    refine bud_k (by omega) (by omega) (fun cs' q1 q2 => ?_)
    rw [cO_bl (at9 h.hp), u1.1, bind2_s, cO_bl (at10 hi.hp), u2.1, bind2_s, if_pos rfl]
    exact hN cs' s1 m2 hi (hb.q n1 n2 (by omega) (by omega))
theorem c_1674 {F : Nat} (hF : 3000000 ≤ F) {xs : Nat → Int32} {Ls : Nat} {self : Nat × Nat → PH → Nat → Nat → Int32 → Option Int32} {cs : Nat × Nat} {s : List Sh} {m : Mem} {v3 : Int32} {k : Nat} (h : INV s m) (hb : BG cs (k + 1) m) {x1 x2 x3 x4 x5 : Int32} (he : SCR xs Ls v3 x1 x2 x3 x4 x5) (hN : NXT self k (v3 + 6)) : b_law_1674 F xs Ls self cs (bl s m) 0 23 v3 = some 1 := by
  obtain ⟨e1, e2, e3, e4, e5⟩ := he
  obtain ⟨r, s1, m1, m2, o1, o2, hi, ht, hq⟩ := opq_ends (F := F) (by omega) h x1
  have u1 := un_X9_ends h.gs (okB h.hp).1 o1
  have u2 := un_X10_ends u1.2.1 (okB hi.hp).2 o2
  have b1 := hb.1
  have b2 := hb.2
  unfold b_law_1674
  rw [e1]
  simp only [Option.bind_some]
  rcases hq with ⟨hq, hr⟩ | ⟨n1, n2⟩
  · have uq := unq_X9_ends h.gs (okB h.hp).1 hq
    rw [uq.1]
    refine bud_0 (by omega) (by omega) ?_
    rw [cO_bl (at9 h.hp), u1.1, bind2_s, cO_bl (at10 hi.hp), u2.1, bind2_s, if_pos rfl]
    exact hN cs s1 m2 hi (hb.k hr)
  · rw [rq_1 n1] at b1 b2
    refine bud_k (by omega) (by omega) (fun cs' q1 q2 => ?_)
    rw [cO_bl (at9 h.hp), u1.1, bind2_s, cO_bl (at10 hi.hp), u2.1, bind2_s, if_pos rfl]
    exact hN cs' s1 m2 hi (hb.q n1 n2 (by omega) (by omega))
theorem c_1697 {F : Nat} (hF : 3000000 ≤ F) {xs : Nat → Int32} {Ls : Nat} {self : Nat × Nat → PH → Nat → Nat → Int32 → Option Int32} {cs : Nat × Nat} {s : List Sh} {m : Mem} {v3 : Int32} {k : Nat} (h : INV s m) (hb : BG cs (k + 1) m) {x1 x2 x3 x4 x5 : Int32} (he : SCR xs Ls v3 x1 x2 x3 x4 x5) (hN : NXT self k (v3 + 6)) : b_law_1697 F xs Ls self cs (bl s m) 0 23 v3 = some 1 := by
  obtain ⟨e1, e2, e3, e4, e5⟩ := he
  obtain ⟨r, s1, m1, m2, o1, o2, hi, ht, hr⟩ := opg_numbers (F := F) (by omega) h x1 x2 x3
  have u1 := un_X9_numbers h.gs (okB h.hp).1 o1
  have u2 := un_X10_numbers u1.2.1 (okB hi.hp).2 o2
  have b1 := hb.1
  have b2 := hb.2
  unfold b_law_1697
  rw [e1, e2, e3]
  simp only [Option.bind_some]
  refine bud_k (by omega) (by omega) (fun cs' q1 q2 => ?_)
  rw [cO_bl (at9 h.hp), u1.1, bind2_s, cO_bl (at10 hi.hp), u2.1, bind2_s, if_pos rfl]
  exact hN cs' s1 m2 hi (hb.g hr (by omega) (by omega))
theorem c_1740 {F : Nat} (hF : 3000000 ≤ F) {xs : Nat → Int32} {Ls : Nat} {self : Nat × Nat → PH → Nat → Nat → Int32 → Option Int32} {cs : Nat × Nat} {s : List Sh} {m : Mem} {v3 : Int32} {k : Nat} (h : INV s m) (hb : BG cs (k + 1) m) {x1 x2 x3 x4 x5 : Int32} (he : SCR xs Ls v3 x1 x2 x3 x4 x5) (hN : NXT self k (v3 + 6)) : b_law_1740 F xs Ls self cs (bl s m) 0 23 v3 = some 1 := by
  obtain ⟨e1, e2, e3, e4, e5⟩ := he
  obtain ⟨r, m1, m2, o1, o2, hi, hr⟩ := opk_write  h x1 x2 (((((Int32.toInt64 x3) <<< (Int32.toInt64 (32 : Int32) &&& 63))) ||| (((Int32.toInt64 x4) &&& (4294967295 : Int64)))))
  have u1 := un_X9_write h.gs (okB h.hp).1 o1
  have u2 := un_X10_write u1.2 (okB h.hp).2 o2
  unfold b_law_1740
  rw [e1, e2, e3, e4]
  simp only [Option.bind_some]
  rw [cO_bl (at9 h.hp), u1.1, bind2_s, cO_bl (at10 h.hp), u2.1, bind2_s, if_pos rfl]
  exact hN cs s m2 hi (hb.k (by rw [hr]))
theorem c_1814 {F : Nat} (hF : 3000000 ≤ F) {xs : Nat → Int32} {Ls : Nat} {self : Nat × Nat → PH → Nat → Nat → Int32 → Option Int32} {cs : Nat × Nat} {s : List Sh} {m : Mem} {v3 : Int32} {k : Nat} (h : INV s m) (hb : BG cs (k + 1) m) {x1 x2 x3 x4 x5 : Int32} (he : SCR xs Ls v3 x1 x2 x3 x4 x5) (hN : NXT self k (v3 + 6)) : b_law_1814 F xs Ls self cs (bl s m) 0 23 v3 = some 1 := by
  obtain ⟨e1, e2, e3, e4, e5⟩ := he
  obtain ⟨r, m1, m2, o1, o2, hi, hr⟩ := opk_copy (F := F) (by omega) h x1
  have u1 := un_X9_copy h.gs (okB h.hp).1 o1
  have u2 := un_X10_copy u1.2 (okB h.hp).2 o2
  unfold b_law_1814
  rw [e1]
  simp only [Option.bind_some]
  rw [cO_bl (at9 h.hp), u1.1, bind2_s, cO_bl (at10 h.hp), u2.1, bind2_s, if_pos rfl]
  exact hN cs s m2 hi (hb.k (by rw [hr]))
theorem c_1837 {F : Nat} (hF : 3000000 ≤ F) {xs : Nat → Int32} {Ls : Nat} {self : Nat × Nat → PH → Nat → Nat → Int32 → Option Int32} {cs : Nat × Nat} {s : List Sh} {m : Mem} {v3 : Int32} {k : Nat} (h : INV s m) (hb : BG cs (k + 1) m) {x1 x2 x3 x4 x5 : Int32} (he : SCR xs Ls v3 x1 x2 x3 x4 x5) (hN : NXT self k (v3 + 6)) : b_law_1837 F xs Ls self cs (bl s m) 0 23 v3 = some 1 := by
  obtain ⟨e1, e2, e3, e4, e5⟩ := he
  obtain ⟨r, s1, m1, m2, o1, o2, hi, ht, hr⟩ := opg_image (F := F) (by omega) h x1
  have u1 := un_X9_image h.gs (okB h.hp).1 o1
  have u2 := un_X10_image u1.2.1 (okB hi.hp).2 o2
  have b1 := hb.1
  have b2 := hb.2
  unfold b_law_1837
  rw [e1]
  simp only [Option.bind_some]
  refine bud_k (by omega) (by omega) (fun cs' q1 q2 => ?_)
  rw [cO_bl (at9 h.hp), u1.1, bind2_s, cO_bl (at10 hi.hp), u2.1, bind2_s, if_pos rfl]
  exact hN cs' s1 m2 hi (hb.g hr (by omega) (by omega))
theorem c_1860 {F : Nat} (hF : 3000000 ≤ F) {xs : Nat → Int32} {Ls : Nat} {self : Nat × Nat → PH → Nat → Nat → Int32 → Option Int32} {cs : Nat × Nat} {s : List Sh} {m : Mem} {v3 : Int32} {k : Nat} (h : INV s m) (hb : BG cs (k + 1) m) {x1 x2 x3 x4 x5 : Int32} (he : SCR xs Ls v3 x1 x2 x3 x4 x5) (hN : NXT self k (v3 + 6)) : b_law_1860 F xs Ls self cs (bl s m) 0 23 v3 = some 1 := by
  obtain ⟨e1, e2, e3, e4, e5⟩ := he
  obtain ⟨r, m1, m2, o1, o2, hi, hr⟩ := opk_restore (F := F) (by omega) h x1
  have u1 := un_X9_restore h.gs (okB h.hp).1 o1
  have u2 := un_X10_restore u1.2 (okB h.hp).2 o2
  unfold b_law_1860
  rw [e1]
  simp only [Option.bind_some]
  rw [cO_bl (at9 h.hp), u1.1, bind2_s, cO_bl (at10 h.hp), u2.1, bind2_s, if_pos rfl]
  exact hN cs s m2 hi (hb.k (by rw [hr]))
theorem c_1883 {F : Nat} (hF : 3000000 ≤ F) {xs : Nat → Int32} {Ls : Nat} {self : Nat × Nat → PH → Nat → Nat → Int32 → Option Int32} {cs : Nat × Nat} {s : List Sh} {m : Mem} {v3 : Int32} {k : Nat} (h : INV s m) (hb : BG cs (k + 1) m) {x1 x2 x3 x4 x5 : Int32} (he : SCR xs Ls v3 x1 x2 x3 x4 x5) (hN : NXT self k (v3 + 6)) : b_law_1883 F xs Ls self cs (bl s m) 0 23 v3 = some 1 := by
  obtain ⟨e1, e2, e3, e4, e5⟩ := he
  obtain ⟨r, m2, o1, o2, hi, hr⟩ := op_count  h x1
  have u1 := un_X9_count h.gs (okB h.hp).1 o1
  have u2 := un_X10_count h.gs (okB h.hp).2 o2
  unfold b_law_1883
  rw [e1]
  simp only [Option.bind_some]
  rw [cO_bl (at9 h.hp), u1.1, Option.bind_some, cO_bl (at10 h.hp), u2.1, bind2_s, if_pos rfl]
  exact hN cs s m2 hi (hb.k (by rw [hr]))
