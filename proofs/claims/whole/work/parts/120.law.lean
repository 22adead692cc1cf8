/-! the law: rows of its own, and its walk over the pure functions of both sides -/
def bud {α : Type} (k cs : Nat × Nat) (f : Nat × Nat → Option α) : Option α := if cs.1 + k.1 ≤ 600000 ∧ cs.2 + k.2 ≤ 7302250 then f (cs.1 + k.1, cs.2 + k.2) else none
def scr (xs : Nat → Int32) (Ls : Nat) (i : Int32) : Option Int32 := if 0 ≤ i ∧ i.toNatClampNeg < Ls then some (xs i.toNatClampNeg) else none
theorem obud {α : Type} {k cs : Nat × Nat} {f : Nat × Nat → Option α} {r : α} {P : Prop} (hf : bud k cs f = some r) (K : ∀ cs2 : Nat × Nat, cs.1 + k.1 ≤ 600000 → cs.2 + k.2 ≤ 7302250 → cs2.1 = cs.1 + k.1 → cs2.2 = cs.2 + k.2 → cs2.1 ≤ 600000 → cs2.2 ≤ 7302250 → f cs2 = some r → P) : P := by
  unfold bud at hf
  split at hf
  · rename_i h
    exact K _ h.1 h.2 rfl rfl h.1 h.2 hf
  · cases hf
theorem kost_ok (K S : Nat) {p : Prop} [Decidable p] : p → K ≤ (kost (decide p) K S).1 ∧ S ≤ (kost (decide p) K S).2 := by
  intro hp
  unfold kost
  rw [if_pos (decide_eq_true hp)]
  exact ⟨Nat.le_refl _, Nat.le_refl _⟩
def Lx (M : MV) (X : XT) (xs : Nat → Int32) (Ls b : Nat) : Prop := match M with
  | (_, _, _, R, s, _, args, below, meth, _, Q) => args = #[Value.ref b] ∧ va_X b Ls xs s s.heap ∧ b < s.heap.size ∧ X.1 = s.heap.size ∧ Q = lw_Z below #[Value.ref b] s ∧ meth.locks = false ∧ meth.sig.returnType = ret ∧ R = room_1
section RL
variable {M : MV} {X : XT} {own : String} {cc : ByteArray} {h : PH} {ce sl pc n : Nat} {L : List (Nat × Value)} {st : List Value} {xs : Nat → Int32} {Ls b : Nat}
theorem r_sS {s : State} {H : Heap} {locs : List Loc} (hP : RP X h H) (hO : LO X.1 locs) (h1 : X.1 = s.heap.size) (hOs : ∀ q : Nat, q < X.1 → s.heap[q]? = X.2.2.2.1[q]?) : va_S (fun q => X.1 ≤ q) s.heap H locs :=
  ⟨by rw [hP.1, h1]; exact Nat.le_add_right _ _, fun q hq _ => by rw [hP.2.2.1 q (by omega), hOs q (by omega)], hO⟩
theorem r_sload {α : Type} {i : Int32} {f : Int32 → Option α} {r : α} (hL : Lx M X xs Ls b) (hc : Cx M X own cc) (hd : Dc cc pc .iaload 1 n) (hf : (scr xs Ls i).bind f = some r) (k : ∀ x, f x = some r → GG M X h ce sl n L (.int x :: st)) : GG M X h ce sl pc L (.int i :: .ref b :: st) :=
  ob hf fun x ex hf => by
    have k := k x hf
    obtain ⟨p, l, e, R, s, m, args, below, meth, c, Q⟩ := M
    obtain ⟨hx, hb, hown, hts, hU, hBs, hOs⟩ := hc
    obtain ⟨hd, rfl⟩ := hd
    obtain ⟨-, hX, hbl, hX1, -, -, -, -⟩ := hL
    intro H locs ls hP hO hl
    unfold scr at ex
    split at ex
    · rename_i hi
      cases ex
      exact va_sld hx hb hX hbl (Nat.not_le.mpr (by rw [hX1]; exact hbl)) (r_sS hP hO hX1 hOs) (vin_of hi) hd (k H locs ls hP hO hl)
    · cases ex
theorem r_slen (hL : Lx M X xs Ls b) (hc : Cx M X own cc) (hd : Dc cc pc .arraylength 1 n) (k : GG M X h ce sl n L (.int (Int32.ofNat Ls) :: st)) : GG M X h ce sl pc L (.ref b :: st) := by
  obtain ⟨p, l, e, R, s, m, args, below, meth, c, Q⟩ := M
  obtain ⟨hx, hb, hown, hts, hU, hBs, hOs⟩ := hc
  obtain ⟨hd, rfl⟩ := hd
  obtain ⟨-, hX, hbl, hX1, -, -, -, -⟩ := hL
  intro H locs ls hP hO hl
  exact va_slen hx hb hX hbl (Nat.not_le.mpr (by rw [hX1]; exact hbl)) (r_sS hP hO hX1 hOs) hd (k H locs ls hP hO hl)
theorem r_lawret (hL : Lx M X xs Ls b) (hc : Cx M X own code) (hm : ce ≤ 600000) (hs : sl ≤ 7302250) (hd : Dc code pc .ireturn 1 n) : GG M X h ce sl pc L [.int 1] := by
  obtain ⟨p, l, e, R, s, m, args, below, meth, c, Q⟩ := M
  obtain ⟨hx, hb, hown, hts, hU, hBs, hOs⟩ := hc
  obtain ⟨hd, -⟩ := hd
  obtain ⟨rfl, hX, hbl, hX1, rfl, hlocks, hret, rfl⟩ := hL
  intro H locs ls hP hO hl
  refine va_forget (fun q hq => by rw [← hX1]; exact hO q hq) ?_
  exact W.widen hm hs (lw_ret hx hb hret hlocks hd)
end RL
theorem ml_L_31 : Cond.methodLink RL 31 yX9_floor ∈ lw_k := mk_k (List.mem_of_getElem? (i := 696) (by decide +kernel)) rfl
theorem mv_X9_floor : MV0 yX9_floor cX9_floor 3 (some .int) 2 := ⟨mk_k (List.mem_of_getElem? (i := 699) (by decide +kernel)) rfl, mk_k (List.mem_of_getElem? (i := 129) (by decide +kernel)) rfl, by decide +kernel, by decide +kernel, by decide +kernel⟩
theorem vi_X9_floor : Cond.instanceMethod yX9_floor ∈ lw_k ∧ Cond.selects RX9 yX9_floor yX9_floor ∈ lw_k := ⟨mk_k (List.mem_of_getElem? (i := 697) (by decide +kernel)) rfl, mk_k (List.mem_of_getElem? (i := 698) (by decide +kernel)) rfl⟩
theorem ml_L_35 : Cond.methodLink RL 35 yX10_floor ∈ lw_k := mk_k (List.mem_of_getElem? (i := 1609) (by decide +kernel)) rfl
theorem mv_X10_floor : MV0 yX10_floor cX10_floor 3 (some .int) 2 := ⟨mk_k (List.mem_of_getElem? (i := 1612) (by decide +kernel)) rfl, mk_k (List.mem_of_getElem? (i := 133) (by decide +kernel)) rfl, by decide +kernel, by decide +kernel, by decide +kernel⟩
theorem vi_X10_floor : Cond.instanceMethod yX10_floor ∈ lw_k ∧ Cond.selects RX10 yX10_floor yX10_floor ∈ lw_k := ⟨mk_k (List.mem_of_getElem? (i := 1610) (by decide +kernel)) rfl, mk_k (List.mem_of_getElem? (i := 1611) (by decide +kernel)) rfl⟩
theorem ml_L_155 : Cond.methodLink RL 155 yX9_rents ∈ lw_k := mk_k (List.mem_of_getElem? (i := 1123) (by decide +kernel)) rfl
theorem mv_X9_rents : MV0 yX9_rents cX9_rents 4 (some .int) 0 := ⟨mk_k (List.mem_of_getElem? (i := 1126) (by decide +kernel)) rfl, mk_k (List.mem_of_getElem? (i := 129) (by decide +kernel)) rfl, by decide +kernel, by decide +kernel, by decide +kernel⟩
theorem vi_X9_rents : Cond.instanceMethod yX9_rents ∈ lw_k ∧ Cond.selects RX9 yX9_rents yX9_rents ∈ lw_k := ⟨mk_k (List.mem_of_getElem? (i := 1124) (by decide +kernel)) rfl, mk_k (List.mem_of_getElem? (i := 1125) (by decide +kernel)) rfl⟩
theorem ml_L_159 : Cond.methodLink RL 159 yX10_rents ∈ lw_k := mk_k (List.mem_of_getElem? (i := 1912) (by decide +kernel)) rfl
theorem mv_X10_rents : MV0 yX10_rents cX10_rents 3 (some .int) 0 := ⟨mk_k (List.mem_of_getElem? (i := 1915) (by decide +kernel)) rfl, mk_k (List.mem_of_getElem? (i := 133) (by decide +kernel)) rfl, by decide +kernel, by decide +kernel, by decide +kernel⟩
theorem vi_X10_rents : Cond.instanceMethod yX10_rents ∈ lw_k ∧ Cond.selects RX10 yX10_rents yX10_rents ∈ lw_k := ⟨mk_k (List.mem_of_getElem? (i := 1913) (by decide +kernel)) rfl, mk_k (List.mem_of_getElem? (i := 1914) (by decide +kernel)) rfl⟩
theorem ml_L_91 : Cond.methodLink RL 91 yX9_fewest ∈ lw_k := mk_k (List.mem_of_getElem? (i := 852) (by decide +kernel)) rfl
theorem mv_X9_fewest : MV0 yX9_fewest cX9_fewest 6 (some .int) 3 := ⟨mk_k (List.mem_of_getElem? (i := 855) (by decide +kernel)) rfl, mk_k (List.mem_of_getElem? (i := 129) (by decide +kernel)) rfl, by decide +kernel, by decide +kernel, by decide +kernel⟩
theorem vi_X9_fewest : Cond.instanceMethod yX9_fewest ∈ lw_k ∧ Cond.selects RX9 yX9_fewest yX9_fewest ∈ lw_k := ⟨mk_k (List.mem_of_getElem? (i := 853) (by decide +kernel)) rfl, mk_k (List.mem_of_getElem? (i := 854) (by decide +kernel)) rfl⟩
theorem ml_L_95 : Cond.methodLink RL 95 yX10_fewest ∈ lw_k := mk_k (List.mem_of_getElem? (i := 1751) (by decide +kernel)) rfl
theorem mv_X10_fewest : MV0 yX10_fewest cX10_fewest 5 (some .int) 3 := ⟨mk_k (List.mem_of_getElem? (i := 1754) (by decide +kernel)) rfl, mk_k (List.mem_of_getElem? (i := 133) (by decide +kernel)) rfl, by decide +kernel, by decide +kernel, by decide +kernel⟩
theorem vi_X10_fewest : Cond.instanceMethod yX10_fewest ∈ lw_k ∧ Cond.selects RX10 yX10_fewest yX10_fewest ∈ lw_k := ⟨mk_k (List.mem_of_getElem? (i := 1752) (by decide +kernel)) rfl, mk_k (List.mem_of_getElem? (i := 1753) (by decide +kernel)) rfl⟩
theorem ml_L_53 : Cond.methodLink RL 53 yX9_undo ∈ lw_k := mk_k (List.mem_of_getElem? (i := 760) (by decide +kernel)) rfl
theorem mv_X9_undo : MV0 yX9_undo cX9_undo 2 (some .int) 1 := ⟨mk_k (List.mem_of_getElem? (i := 763) (by decide +kernel)) rfl, mk_k (List.mem_of_getElem? (i := 129) (by decide +kernel)) rfl, by decide +kernel, by decide +kernel, by decide +kernel⟩
theorem vi_X9_undo : Cond.instanceMethod yX9_undo ∈ lw_k ∧ Cond.selects RX9 yX9_undo yX9_undo ∈ lw_k := ⟨mk_k (List.mem_of_getElem? (i := 761) (by decide +kernel)) rfl, mk_k (List.mem_of_getElem? (i := 762) (by decide +kernel)) rfl⟩
theorem ml_L_56 : Cond.methodLink RL 56 yX10_undo ∈ lw_k := mk_k (List.mem_of_getElem? (i := 1674) (by decide +kernel)) rfl
theorem mv_X10_undo : MV0 yX10_undo cX10_undo 2 (some .int) 1 := ⟨mk_k (List.mem_of_getElem? (i := 1677) (by decide +kernel)) rfl, mk_k (List.mem_of_getElem? (i := 133) (by decide +kernel)) rfl, by decide +kernel, by decide +kernel, by decide +kernel⟩
theorem vi_X10_undo : Cond.instanceMethod yX10_undo ∈ lw_k ∧ Cond.selects RX10 yX10_undo yX10_undo ∈ lw_k := ⟨mk_k (List.mem_of_getElem? (i := 1675) (by decide +kernel)) rfl, mk_k (List.mem_of_getElem? (i := 1676) (by decide +kernel)) rfl⟩
theorem ml_L_180 : Cond.methodLink RL 180 yX9_odds ∈ lw_k := mk_k (List.mem_of_getElem? (i := 1228) (by decide +kernel)) rfl
theorem mv_X9_odds : MV0 yX9_odds cX9_odds 7 (some .long) 3 := ⟨mk_k (List.mem_of_getElem? (i := 1231) (by decide +kernel)) rfl, mk_k (List.mem_of_getElem? (i := 129) (by decide +kernel)) rfl, by decide +kernel, by decide +kernel, by decide +kernel⟩
theorem vi_X9_odds : Cond.instanceMethod yX9_odds ∈ lw_k ∧ Cond.selects RX9 yX9_odds yX9_odds ∈ lw_k := ⟨mk_k (List.mem_of_getElem? (i := 1229) (by decide +kernel)) rfl, mk_k (List.mem_of_getElem? (i := 1230) (by decide +kernel)) rfl⟩
theorem ml_L_183 : Cond.methodLink RL 183 yX10_odds ∈ lw_k := mk_k (List.mem_of_getElem? (i := 1950) (by decide +kernel)) rfl
theorem mv_X10_odds : MV0 yX10_odds cX10_odds 11 (some .long) 3 := ⟨mk_k (List.mem_of_getElem? (i := 1953) (by decide +kernel)) rfl, mk_k (List.mem_of_getElem? (i := 133) (by decide +kernel)) rfl, by decide +kernel, by decide +kernel, by decide +kernel⟩
theorem vi_X10_odds : Cond.instanceMethod yX10_odds ∈ lw_k ∧ Cond.selects RX10 yX10_odds yX10_odds ∈ lw_k := ⟨mk_k (List.mem_of_getElem? (i := 1951) (by decide +kernel)) rfl, mk_k (List.mem_of_getElem? (i := 1952) (by decide +kernel)) rfl⟩
theorem ml_L_160 : Cond.methodLink RL 160 yX9_moves ∈ lw_k := mk_k (List.mem_of_getElem? (i := 1128) (by decide +kernel)) rfl
theorem mv_X9_moves : MV0 yX9_moves cX9_moves 4 (some .int) 3 := ⟨mk_k (List.mem_of_getElem? (i := 1131) (by decide +kernel)) rfl, mk_k (List.mem_of_getElem? (i := 129) (by decide +kernel)) rfl, by decide +kernel, by decide +kernel, by decide +kernel⟩
theorem vi_X9_moves : Cond.instanceMethod yX9_moves ∈ lw_k ∧ Cond.selects RX9 yX9_moves yX9_moves ∈ lw_k := ⟨mk_k (List.mem_of_getElem? (i := 1129) (by decide +kernel)) rfl, mk_k (List.mem_of_getElem? (i := 1130) (by decide +kernel)) rfl⟩
theorem ml_L_163 : Cond.methodLink RL 163 yX10_moves ∈ lw_k := mk_k (List.mem_of_getElem? (i := 1917) (by decide +kernel)) rfl
theorem mv_X10_moves : MV0 yX10_moves cX10_moves 10 (some .int) 3 := ⟨mk_k (List.mem_of_getElem? (i := 1920) (by decide +kernel)) rfl, mk_k (List.mem_of_getElem? (i := 133) (by decide +kernel)) rfl, by decide +kernel, by decide +kernel, by decide +kernel⟩
theorem vi_X10_moves : Cond.instanceMethod yX10_moves ∈ lw_k ∧ Cond.selects RX10 yX10_moves yX10_moves ∈ lw_k := ⟨mk_k (List.mem_of_getElem? (i := 1918) (by decide +kernel)) rfl, mk_k (List.mem_of_getElem? (i := 1919) (by decide +kernel)) rfl⟩
theorem ml_L_112 : Cond.methodLink RL 112 yX9_shown ∈ lw_k := mk_k (List.mem_of_getElem? (i := 1034) (by decide +kernel)) rfl
theorem mv_X9_shown : MV0 yX9_shown cX9_shown 4 (some .int) 2 := ⟨mk_k (List.mem_of_getElem? (i := 1037) (by decide +kernel)) rfl, mk_k (List.mem_of_getElem? (i := 129) (by decide +kernel)) rfl, by decide +kernel, by decide +kernel, by decide +kernel⟩
theorem vi_X9_shown : Cond.instanceMethod yX9_shown ∈ lw_k ∧ Cond.selects RX9 yX9_shown yX9_shown ∈ lw_k := ⟨mk_k (List.mem_of_getElem? (i := 1035) (by decide +kernel)) rfl, mk_k (List.mem_of_getElem? (i := 1036) (by decide +kernel)) rfl⟩
theorem ml_L_115 : Cond.methodLink RL 115 yX10_shown ∈ lw_k := mk_k (List.mem_of_getElem? (i := 1850) (by decide +kernel)) rfl
theorem mv_X10_shown : MV0 yX10_shown cX10_shown 8 (some .int) 2 := ⟨mk_k (List.mem_of_getElem? (i := 1853) (by decide +kernel)) rfl, mk_k (List.mem_of_getElem? (i := 133) (by decide +kernel)) rfl, by decide +kernel, by decide +kernel, by decide +kernel⟩
theorem vi_X10_shown : Cond.instanceMethod yX10_shown ∈ lw_k ∧ Cond.selects RX10 yX10_shown yX10_shown ∈ lw_k := ⟨mk_k (List.mem_of_getElem? (i := 1851) (by decide +kernel)) rfl, mk_k (List.mem_of_getElem? (i := 1852) (by decide +kernel)) rfl⟩
theorem ml_L_138 : Cond.methodLink RL 138 yX9_floors ∈ lw_k := mk_k (List.mem_of_getElem? (i := 1093) (by decide +kernel)) rfl
theorem mv_X9_floors : MV0 yX9_floors cX9_floors 2 (some .int) 1 := ⟨mk_k (List.mem_of_getElem? (i := 1096) (by decide +kernel)) rfl, mk_k (List.mem_of_getElem? (i := 129) (by decide +kernel)) rfl, by decide +kernel, by decide +kernel, by decide +kernel⟩
theorem vi_X9_floors : Cond.instanceMethod yX9_floors ∈ lw_k ∧ Cond.selects RX9 yX9_floors yX9_floors ∈ lw_k := ⟨mk_k (List.mem_of_getElem? (i := 1094) (by decide +kernel)) rfl, mk_k (List.mem_of_getElem? (i := 1095) (by decide +kernel)) rfl⟩
theorem ml_L_141 : Cond.methodLink RL 141 yX10_floors ∈ lw_k := mk_k (List.mem_of_getElem? (i := 1883) (by decide +kernel)) rfl
theorem mv_X10_floors : MV0 yX10_floors cX10_floors 2 (some .int) 1 := ⟨mk_k (List.mem_of_getElem? (i := 1886) (by decide +kernel)) rfl, mk_k (List.mem_of_getElem? (i := 133) (by decide +kernel)) rfl, by decide +kernel, by decide +kernel, by decide +kernel⟩
theorem vi_X10_floors : Cond.instanceMethod yX10_floors ∈ lw_k ∧ Cond.selects RX10 yX10_floors yX10_floors ∈ lw_k := ⟨mk_k (List.mem_of_getElem? (i := 1884) (by decide +kernel)) rfl, mk_k (List.mem_of_getElem? (i := 1885) (by decide +kernel)) rfl⟩
theorem ml_L_74 : Cond.methodLink RL 74 yX9_where ∈ lw_k := mk_k (List.mem_of_getElem? (i := 816) (by decide +kernel)) rfl
theorem mv_X9_where : MV0 yX9_where cX9_where 4 (some .long) 3 := ⟨mk_k (List.mem_of_getElem? (i := 819) (by decide +kernel)) rfl, mk_k (List.mem_of_getElem? (i := 129) (by decide +kernel)) rfl, by decide +kernel, by decide +kernel, by decide +kernel⟩
theorem vi_X9_where : Cond.instanceMethod yX9_where ∈ lw_k ∧ Cond.selects RX9 yX9_where yX9_where ∈ lw_k := ⟨mk_k (List.mem_of_getElem? (i := 817) (by decide +kernel)) rfl, mk_k (List.mem_of_getElem? (i := 818) (by decide +kernel)) rfl⟩
theorem ml_L_78 : Cond.methodLink RL 78 yX10_where ∈ lw_k := mk_k (List.mem_of_getElem? (i := 1729) (by decide +kernel)) rfl
theorem mv_X10_where : MV0 yX10_where cX10_where 4 (some .long) 3 := ⟨mk_k (List.mem_of_getElem? (i := 1732) (by decide +kernel)) rfl, mk_k (List.mem_of_getElem? (i := 133) (by decide +kernel)) rfl, by decide +kernel, by decide +kernel, by decide +kernel⟩
theorem vi_X10_where : Cond.instanceMethod yX10_where ∈ lw_k ∧ Cond.selects RX10 yX10_where yX10_where ∈ lw_k := ⟨mk_k (List.mem_of_getElem? (i := 1730) (by decide +kernel)) rfl, mk_k (List.mem_of_getElem? (i := 1731) (by decide +kernel)) rfl⟩
theorem ml_L_13 : Cond.methodLink RL 13 yX9_feed ∈ lw_k := mk_k (List.mem_of_getElem? (i := 364) (by decide +kernel)) rfl
theorem mv_X9_feed : MV0 yX9_feed cX9_feed 6 (some .int) 5 := ⟨mk_k (List.mem_of_getElem? (i := 367) (by decide +kernel)) rfl, mk_k (List.mem_of_getElem? (i := 129) (by decide +kernel)) rfl, by decide +kernel, by decide +kernel, by decide +kernel⟩
theorem vi_X9_feed : Cond.instanceMethod yX9_feed ∈ lw_k ∧ Cond.selects RX9 yX9_feed yX9_feed ∈ lw_k := ⟨mk_k (List.mem_of_getElem? (i := 365) (by decide +kernel)) rfl, mk_k (List.mem_of_getElem? (i := 366) (by decide +kernel)) rfl⟩
theorem ml_L_17 : Cond.methodLink RL 17 yX10_feed ∈ lw_k := mk_k (List.mem_of_getElem? (i := 1501) (by decide +kernel)) rfl
theorem mv_X10_feed : MV0 yX10_feed cX10_feed 8 (some .int) 5 := ⟨mk_k (List.mem_of_getElem? (i := 1504) (by decide +kernel)) rfl, mk_k (List.mem_of_getElem? (i := 133) (by decide +kernel)) rfl, by decide +kernel, by decide +kernel, by decide +kernel⟩
theorem vi_X10_feed : Cond.instanceMethod yX10_feed ∈ lw_k ∧ Cond.selects RX10 yX10_feed yX10_feed ∈ lw_k := ⟨mk_k (List.mem_of_getElem? (i := 1502) (by decide +kernel)) rfl, mk_k (List.mem_of_getElem? (i := 1503) (by decide +kernel)) rfl⟩
theorem ml_L_133 : Cond.methodLink RL 133 yX10_neighbour ∈ lw_k := mk_k (List.mem_of_getElem? (i := 1874) (by decide +kernel)) rfl
theorem mv_X10_neighbour : MV0 yX10_neighbour cX10_neighbour 19 (some .int) 5 := ⟨mk_k (List.mem_of_getElem? (i := 1877) (by decide +kernel)) rfl, mk_k (List.mem_of_getElem? (i := 133) (by decide +kernel)) rfl, by decide +kernel, by decide +kernel, by decide +kernel⟩
theorem vi_X10_neighbour : Cond.instanceMethod yX10_neighbour ∈ lw_k ∧ Cond.selects RX10 yX10_neighbour yX10_neighbour ∈ lw_k := ⟨mk_k (List.mem_of_getElem? (i := 1875) (by decide +kernel)) rfl, mk_k (List.mem_of_getElem? (i := 1876) (by decide +kernel)) rfl⟩
theorem ml_L_129 : Cond.methodLink RL 129 yX9_neighbour ∈ lw_k := mk_k (List.mem_of_getElem? (i := 1066) (by decide +kernel)) rfl
theorem mv_X9_neighbour : MV0 yX9_neighbour cX9_neighbour 7 (some .int) 5 := ⟨mk_k (List.mem_of_getElem? (i := 1069) (by decide +kernel)) rfl, mk_k (List.mem_of_getElem? (i := 129) (by decide +kernel)) rfl, by decide +kernel, by decide +kernel, by decide +kernel⟩
theorem vi_X9_neighbour : Cond.instanceMethod yX9_neighbour ∈ lw_k ∧ Cond.selects RX9 yX9_neighbour yX9_neighbour ∈ lw_k := ⟨mk_k (List.mem_of_getElem? (i := 1067) (by decide +kernel)) rfl, mk_k (List.mem_of_getElem? (i := 1068) (by decide +kernel)) rfl⟩
theorem ml_L_57 : Cond.methodLink RL 57 yX9_judge ∈ lw_k := mk_k (List.mem_of_getElem? (i := 764) (by decide +kernel)) rfl
theorem mv_X9_judge : MV0 yX9_judge cX9_judge 10 (some .int) 2 := ⟨mk_k (List.mem_of_getElem? (i := 767) (by decide +kernel)) rfl, mk_k (List.mem_of_getElem? (i := 129) (by decide +kernel)) rfl, by decide +kernel, by decide +kernel, by decide +kernel⟩
theorem vi_X9_judge : Cond.instanceMethod yX9_judge ∈ lw_k ∧ Cond.selects RX9 yX9_judge yX9_judge ∈ lw_k := ⟨mk_k (List.mem_of_getElem? (i := 765) (by decide +kernel)) rfl, mk_k (List.mem_of_getElem? (i := 766) (by decide +kernel)) rfl⟩
theorem ml_L_60 : Cond.methodLink RL 60 yX10_judge ∈ lw_k := mk_k (List.mem_of_getElem? (i := 1679) (by decide +kernel)) rfl
theorem mv_X10_judge : MV0 yX10_judge cX10_judge 10 (some .int) 2 := ⟨mk_k (List.mem_of_getElem? (i := 1682) (by decide +kernel)) rfl, mk_k (List.mem_of_getElem? (i := 133) (by decide +kernel)) rfl, by decide +kernel, by decide +kernel, by decide +kernel⟩
theorem vi_X10_judge : Cond.instanceMethod yX10_judge ∈ lw_k ∧ Cond.selects RX10 yX10_judge yX10_judge ∈ lw_k := ⟨mk_k (List.mem_of_getElem? (i := 1680) (by decide +kernel)) rfl, mk_k (List.mem_of_getElem? (i := 1681) (by decide +kernel)) rfl⟩
theorem ml_L_36 : Cond.methodLink RL 36 yX9_tenant ∈ lw_k := mk_k (List.mem_of_getElem? (i := 708) (by decide +kernel)) rfl
theorem mv_X9_tenant : MV0 yX9_tenant cX9_tenant 3 (some .int) 2 := ⟨mk_k (List.mem_of_getElem? (i := 711) (by decide +kernel)) rfl, mk_k (List.mem_of_getElem? (i := 129) (by decide +kernel)) rfl, by decide +kernel, by decide +kernel, by decide +kernel⟩
theorem vi_X9_tenant : Cond.instanceMethod yX9_tenant ∈ lw_k ∧ Cond.selects RX9 yX9_tenant yX9_tenant ∈ lw_k := ⟨mk_k (List.mem_of_getElem? (i := 709) (by decide +kernel)) rfl, mk_k (List.mem_of_getElem? (i := 710) (by decide +kernel)) rfl⟩
theorem ml_L_39 : Cond.methodLink RL 39 yX10_tenant ∈ lw_k := mk_k (List.mem_of_getElem? (i := 1624) (by decide +kernel)) rfl
theorem mv_X10_tenant : MV0 yX10_tenant cX10_tenant 3 (some .int) 2 := ⟨mk_k (List.mem_of_getElem? (i := 1627) (by decide +kernel)) rfl, mk_k (List.mem_of_getElem? (i := 133) (by decide +kernel)) rfl, by decide +kernel, by decide +kernel, by decide +kernel⟩
theorem vi_X10_tenant : Cond.instanceMethod yX10_tenant ∈ lw_k ∧ Cond.selects RX10 yX10_tenant yX10_tenant ∈ lw_k := ⟨mk_k (List.mem_of_getElem? (i := 1625) (by decide +kernel)) rfl, mk_k (List.mem_of_getElem? (i := 1626) (by decide +kernel)) rfl⟩
theorem ml_L_142 : Cond.methodLink RL 142 yX9_rank ∈ lw_k := mk_k (List.mem_of_getElem? (i := 1101) (by decide +kernel)) rfl
theorem mv_X9_rank : MV0 yX9_rank cX9_rank 4 (some .int) 3 := ⟨mk_k (List.mem_of_getElem? (i := 1104) (by decide +kernel)) rfl, mk_k (List.mem_of_getElem? (i := 129) (by decide +kernel)) rfl, by decide +kernel, by decide +kernel, by decide +kernel⟩
theorem vi_X9_rank : Cond.instanceMethod yX9_rank ∈ lw_k ∧ Cond.selects RX9 yX9_rank yX9_rank ∈ lw_k := ⟨mk_k (List.mem_of_getElem? (i := 1102) (by decide +kernel)) rfl, mk_k (List.mem_of_getElem? (i := 1103) (by decide +kernel)) rfl⟩
theorem ml_L_145 : Cond.methodLink RL 145 yX10_rank ∈ lw_k := mk_k (List.mem_of_getElem? (i := 1892) (by decide +kernel)) rfl
theorem mv_X10_rank : MV0 yX10_rank cX10_rank 4 (some .int) 3 := ⟨mk_k (List.mem_of_getElem? (i := 1895) (by decide +kernel)) rfl, mk_k (List.mem_of_getElem? (i := 133) (by decide +kernel)) rfl, by decide +kernel, by decide +kernel, by decide +kernel⟩
theorem vi_X10_rank : Cond.instanceMethod yX10_rank ∈ lw_k ∧ Cond.selects RX10 yX10_rank yX10_rank ∈ lw_k := ⟨mk_k (List.mem_of_getElem? (i := 1893) (by decide +kernel)) rfl, mk_k (List.mem_of_getElem? (i := 1894) (by decide +kernel)) rfl⟩
theorem ml_L_199 : Cond.methodLink RL 199 yX9_copy ∈ lw_k := mk_k (List.mem_of_getElem? (i := 1304) (by decide +kernel)) rfl
theorem mv_X9_copy : MV0 yX9_copy cX9_copy 6 (some .int) 1 := ⟨mk_k (List.mem_of_getElem? (i := 1307) (by decide +kernel)) rfl, mk_k (List.mem_of_getElem? (i := 129) (by decide +kernel)) rfl, by decide +kernel, by decide +kernel, by decide +kernel⟩
theorem vi_X9_copy : Cond.instanceMethod yX9_copy ∈ lw_k ∧ Cond.selects RX9 yX9_copy yX9_copy ∈ lw_k := ⟨mk_k (List.mem_of_getElem? (i := 1305) (by decide +kernel)) rfl, mk_k (List.mem_of_getElem? (i := 1306) (by decide +kernel)) rfl⟩
theorem ml_L_202 : Cond.methodLink RL 202 yX10_copy ∈ lw_k := mk_k (List.mem_of_getElem? (i := 1984) (by decide +kernel)) rfl
theorem mv_X10_copy : MV0 yX10_copy cX10_copy 5 (some .int) 1 := ⟨mk_k (List.mem_of_getElem? (i := 1987) (by decide +kernel)) rfl, mk_k (List.mem_of_getElem? (i := 133) (by decide +kernel)) rfl, by decide +kernel, by decide +kernel, by decide +kernel⟩
theorem vi_X10_copy : Cond.instanceMethod yX10_copy ∈ lw_k ∧ Cond.selects RX10 yX10_copy yX10_copy ∈ lw_k := ⟨mk_k (List.mem_of_getElem? (i := 1985) (by decide +kernel)) rfl, mk_k (List.mem_of_getElem? (i := 1986) (by decide +kernel)) rfl⟩
theorem ml_L_116 : Cond.methodLink RL 116 yX9_rests ∈ lw_k := mk_k (List.mem_of_getElem? (i := 1038) (by decide +kernel)) rfl
theorem mv_X9_rests : MV0 yX9_rests cX9_rests 2 (some .int) 1 := ⟨mk_k (List.mem_of_getElem? (i := 1041) (by decide +kernel)) rfl, mk_k (List.mem_of_getElem? (i := 129) (by decide +kernel)) rfl, by decide +kernel, by decide +kernel, by decide +kernel⟩
theorem vi_X9_rests : Cond.instanceMethod yX9_rests ∈ lw_k ∧ Cond.selects RX9 yX9_rests yX9_rests ∈ lw_k := ⟨mk_k (List.mem_of_getElem? (i := 1039) (by decide +kernel)) rfl, mk_k (List.mem_of_getElem? (i := 1040) (by decide +kernel)) rfl⟩
theorem ml_L_119 : Cond.methodLink RL 119 yX10_rests ∈ lw_k := mk_k (List.mem_of_getElem? (i := 1854) (by decide +kernel)) rfl
theorem mv_X10_rests : MV0 yX10_rests cX10_rests 2 (some .int) 1 := ⟨mk_k (List.mem_of_getElem? (i := 1857) (by decide +kernel)) rfl, mk_k (List.mem_of_getElem? (i := 133) (by decide +kernel)) rfl, by decide +kernel, by decide +kernel, by decide +kernel⟩
theorem vi_X10_rests : Cond.instanceMethod yX10_rests ∈ lw_k ∧ Cond.selects RX10 yX10_rests yX10_rests ∈ lw_k := ⟨mk_k (List.mem_of_getElem? (i := 1855) (by decide +kernel)) rfl, mk_k (List.mem_of_getElem? (i := 1856) (by decide +kernel)) rfl⟩
theorem ml_L_96 : Cond.methodLink RL 96 yX9_reach ∈ lw_k := mk_k (List.mem_of_getElem? (i := 964) (by decide +kernel)) rfl
theorem mv_X9_reach : MV0 yX9_reach cX9_reach 4 (some .int) 1 := ⟨mk_k (List.mem_of_getElem? (i := 967) (by decide +kernel)) rfl, mk_k (List.mem_of_getElem? (i := 129) (by decide +kernel)) rfl, by decide +kernel, by decide +kernel, by decide +kernel⟩
theorem vi_X9_reach : Cond.instanceMethod yX9_reach ∈ lw_k ∧ Cond.selects RX9 yX9_reach yX9_reach ∈ lw_k := ⟨mk_k (List.mem_of_getElem? (i := 965) (by decide +kernel)) rfl, mk_k (List.mem_of_getElem? (i := 966) (by decide +kernel)) rfl⟩
theorem ml_L_99 : Cond.methodLink RL 99 yX10_reach ∈ lw_k := mk_k (List.mem_of_getElem? (i := 1779) (by decide +kernel)) rfl
theorem mv_X10_reach : MV0 yX10_reach cX10_reach 2 (some .int) 1 := ⟨mk_k (List.mem_of_getElem? (i := 1782) (by decide +kernel)) rfl, mk_k (List.mem_of_getElem? (i := 133) (by decide +kernel)) rfl, by decide +kernel, by decide +kernel, by decide +kernel⟩
theorem vi_X10_reach : Cond.instanceMethod yX10_reach ∈ lw_k ∧ Cond.selects RX10 yX10_reach yX10_reach ∈ lw_k := ⟨mk_k (List.mem_of_getElem? (i := 1780) (by decide +kernel)) rfl, mk_k (List.mem_of_getElem? (i := 1781) (by decide +kernel)) rfl⟩
theorem ml_L_184 : Cond.methodLink RL 184 yX9_ends ∈ lw_k := mk_k (List.mem_of_getElem? (i := 1256) (by decide +kernel)) rfl
theorem mv_X9_ends : MV0 yX9_ends cX9_ends 5 (some .int) 1 := ⟨mk_k (List.mem_of_getElem? (i := 1259) (by decide +kernel)) rfl, mk_k (List.mem_of_getElem? (i := 129) (by decide +kernel)) rfl, by decide +kernel, by decide +kernel, by decide +kernel⟩
theorem vi_X9_ends : Cond.instanceMethod yX9_ends ∈ lw_k ∧ Cond.selects RX9 yX9_ends yX9_ends ∈ lw_k := ⟨mk_k (List.mem_of_getElem? (i := 1257) (by decide +kernel)) rfl, mk_k (List.mem_of_getElem? (i := 1258) (by decide +kernel)) rfl⟩
theorem ml_L_187 : Cond.methodLink RL 187 yX10_ends ∈ lw_k := mk_k (List.mem_of_getElem? (i := 1966) (by decide +kernel)) rfl
theorem mv_X10_ends : MV0 yX10_ends cX10_ends 3 (some .int) 1 := ⟨mk_k (List.mem_of_getElem? (i := 1969) (by decide +kernel)) rfl, mk_k (List.mem_of_getElem? (i := 133) (by decide +kernel)) rfl, by decide +kernel, by decide +kernel, by decide +kernel⟩
theorem vi_X10_ends : Cond.instanceMethod yX10_ends ∈ lw_k ∧ Cond.selects RX10 yX10_ends yX10_ends ∈ lw_k := ⟨mk_k (List.mem_of_getElem? (i := 1967) (by decide +kernel)) rfl, mk_k (List.mem_of_getElem? (i := 1968) (by decide +kernel)) rfl⟩
theorem ml_L_164 : Cond.methodLink RL 164 yX9_fairest ∈ lw_k := mk_k (List.mem_of_getElem? (i := 1132) (by decide +kernel)) rfl
theorem mv_X9_fairest : MV0 yX9_fairest cX9_fairest 3 (some .long) 2 := ⟨mk_k (List.mem_of_getElem? (i := 1135) (by decide +kernel)) rfl, mk_k (List.mem_of_getElem? (i := 129) (by decide +kernel)) rfl, by decide +kernel, by decide +kernel, by decide +kernel⟩
theorem vi_X9_fairest : Cond.instanceMethod yX9_fairest ∈ lw_k ∧ Cond.selects RX9 yX9_fairest yX9_fairest ∈ lw_k := ⟨mk_k (List.mem_of_getElem? (i := 1133) (by decide +kernel)) rfl, mk_k (List.mem_of_getElem? (i := 1134) (by decide +kernel)) rfl⟩
theorem ml_L_167 : Cond.methodLink RL 167 yX10_fairest ∈ lw_k := mk_k (List.mem_of_getElem? (i := 1921) (by decide +kernel)) rfl
theorem mv_X10_fairest : MV0 yX10_fairest cX10_fairest 18 (some .long) 2 := ⟨mk_k (List.mem_of_getElem? (i := 1924) (by decide +kernel)) rfl, mk_k (List.mem_of_getElem? (i := 133) (by decide +kernel)) rfl, by decide +kernel, by decide +kernel, by decide +kernel⟩
theorem vi_X10_fairest : Cond.instanceMethod yX10_fairest ∈ lw_k ∧ Cond.selects RX10 yX10_fairest yX10_fairest ∈ lw_k := ⟨mk_k (List.mem_of_getElem? (i := 1922) (by decide +kernel)) rfl, mk_k (List.mem_of_getElem? (i := 1923) (by decide +kernel)) rfl⟩
theorem ml_L_61 : Cond.methodLink RL 61 yX9_perform ∈ lw_k := mk_k (List.mem_of_getElem? (i := 781) (by decide +kernel)) rfl
theorem mv_X9_perform : MV0 yX9_perform cX9_perform 6 (some .int) 1 := ⟨mk_k (List.mem_of_getElem? (i := 784) (by decide +kernel)) rfl, mk_k (List.mem_of_getElem? (i := 129) (by decide +kernel)) rfl, by decide +kernel, by decide +kernel, by decide +kernel⟩
theorem vi_X9_perform : Cond.instanceMethod yX9_perform ∈ lw_k ∧ Cond.selects RX9 yX9_perform yX9_perform ∈ lw_k := ⟨mk_k (List.mem_of_getElem? (i := 782) (by decide +kernel)) rfl, mk_k (List.mem_of_getElem? (i := 783) (by decide +kernel)) rfl⟩
theorem ml_L_64 : Cond.methodLink RL 64 yX10_perform ∈ lw_k := mk_k (List.mem_of_getElem? (i := 1694) (by decide +kernel)) rfl
theorem mv_X10_perform : MV0 yX10_perform cX10_perform 4 (some .int) 1 := ⟨mk_k (List.mem_of_getElem? (i := 1697) (by decide +kernel)) rfl, mk_k (List.mem_of_getElem? (i := 133) (by decide +kernel)) rfl, by decide +kernel, by decide +kernel, by decide +kernel⟩
theorem vi_X10_perform : Cond.instanceMethod yX10_perform ∈ lw_k ∧ Cond.selects RX10 yX10_perform yX10_perform ∈ lw_k := ⟨mk_k (List.mem_of_getElem? (i := 1695) (by decide +kernel)) rfl, mk_k (List.mem_of_getElem? (i := 1696) (by decide +kernel)) rfl⟩
theorem ml_L_79 : Cond.methodLink RL 79 yX9_alike ∈ lw_k := mk_k (List.mem_of_getElem? (i := 833) (by decide +kernel)) rfl
theorem mv_X9_alike : MV0 yX9_alike cX9_alike 4 (some .long) 3 := ⟨mk_k (List.mem_of_getElem? (i := 836) (by decide +kernel)) rfl, mk_k (List.mem_of_getElem? (i := 129) (by decide +kernel)) rfl, by decide +kernel, by decide +kernel, by decide +kernel⟩
theorem vi_X9_alike : Cond.instanceMethod yX9_alike ∈ lw_k ∧ Cond.selects RX9 yX9_alike yX9_alike ∈ lw_k := ⟨mk_k (List.mem_of_getElem? (i := 834) (by decide +kernel)) rfl, mk_k (List.mem_of_getElem? (i := 835) (by decide +kernel)) rfl⟩
theorem ml_L_82 : Cond.methodLink RL 82 yX10_alike ∈ lw_k := mk_k (List.mem_of_getElem? (i := 1739) (by decide +kernel)) rfl
theorem mv_X10_alike : MV0 yX10_alike cX10_alike 4 (some .long) 3 := ⟨mk_k (List.mem_of_getElem? (i := 1742) (by decide +kernel)) rfl, mk_k (List.mem_of_getElem? (i := 133) (by decide +kernel)) rfl, by decide +kernel, by decide +kernel, by decide +kernel⟩
theorem vi_X10_alike : Cond.instanceMethod yX10_alike ∈ lw_k ∧ Cond.selects RX10 yX10_alike yX10_alike ∈ lw_k := ⟨mk_k (List.mem_of_getElem? (i := 1740) (by decide +kernel)) rfl, mk_k (List.mem_of_getElem? (i := 1741) (by decide +kernel)) rfl⟩
theorem ml_L_40 : Cond.methodLink RL 40 yX9_why ∈ lw_k := mk_k (List.mem_of_getElem? (i := 712) (by decide +kernel)) rfl
theorem mv_X9_why : MV0 yX9_why cX9_why 2 (some .int) 1 := ⟨mk_k (List.mem_of_getElem? (i := 715) (by decide +kernel)) rfl, mk_k (List.mem_of_getElem? (i := 129) (by decide +kernel)) rfl, by decide +kernel, by decide +kernel, by decide +kernel⟩
theorem vi_X9_why : Cond.instanceMethod yX9_why ∈ lw_k ∧ Cond.selects RX9 yX9_why yX9_why ∈ lw_k := ⟨mk_k (List.mem_of_getElem? (i := 713) (by decide +kernel)) rfl, mk_k (List.mem_of_getElem? (i := 714) (by decide +kernel)) rfl⟩
theorem ml_L_43 : Cond.methodLink RL 43 yX10_why ∈ lw_k := mk_k (List.mem_of_getElem? (i := 1632) (by decide +kernel)) rfl
theorem mv_X10_why : MV0 yX10_why cX10_why 2 (some .int) 1 := ⟨mk_k (List.mem_of_getElem? (i := 1635) (by decide +kernel)) rfl, mk_k (List.mem_of_getElem? (i := 133) (by decide +kernel)) rfl, by decide +kernel, by decide +kernel, by decide +kernel⟩
theorem vi_X10_why : Cond.instanceMethod yX10_why ∈ lw_k ∧ Cond.selects RX10 yX10_why yX10_why ∈ lw_k := ⟨mk_k (List.mem_of_getElem? (i := 1633) (by decide +kernel)) rfl, mk_k (List.mem_of_getElem? (i := 1634) (by decide +kernel)) rfl⟩
theorem ml_L_203 : Cond.methodLink RL 203 yX9_image ∈ lw_k := mk_k (List.mem_of_getElem? (i := 1309) (by decide +kernel)) rfl
theorem mv_X9_image : MV0 yX9_image cX9_image 2 (some .int) 1 := ⟨mk_k (List.mem_of_getElem? (i := 1312) (by decide +kernel)) rfl, mk_k (List.mem_of_getElem? (i := 129) (by decide +kernel)) rfl, by decide +kernel, by decide +kernel, by decide +kernel⟩
theorem vi_X9_image : Cond.instanceMethod yX9_image ∈ lw_k ∧ Cond.selects RX9 yX9_image yX9_image ∈ lw_k := ⟨mk_k (List.mem_of_getElem? (i := 1310) (by decide +kernel)) rfl, mk_k (List.mem_of_getElem? (i := 1311) (by decide +kernel)) rfl⟩
theorem ml_L_206 : Cond.methodLink RL 206 yX10_image ∈ lw_k := mk_k (List.mem_of_getElem? (i := 1988) (by decide +kernel)) rfl
theorem mv_X10_image : MV0 yX10_image cX10_image 3 (some .int) 1 := ⟨mk_k (List.mem_of_getElem? (i := 1991) (by decide +kernel)) rfl, mk_k (List.mem_of_getElem? (i := 133) (by decide +kernel)) rfl, by decide +kernel, by decide +kernel, by decide +kernel⟩
theorem vi_X10_image : Cond.instanceMethod yX10_image ∈ lw_k ∧ Cond.selects RX10 yX10_image yX10_image ∈ lw_k := ⟨mk_k (List.mem_of_getElem? (i := 1989) (by decide +kernel)) rfl, mk_k (List.mem_of_getElem? (i := 1990) (by decide +kernel)) rfl⟩
theorem ml_L_124 : Cond.methodLink RL 124 yX10_meet ∈ lw_k := mk_k (List.mem_of_getElem? (i := 1858) (by decide +kernel)) rfl
theorem mv_X10_meet : MV0 yX10_meet cX10_meet 6 (some .int) 4 := ⟨mk_k (List.mem_of_getElem? (i := 1861) (by decide +kernel)) rfl, mk_k (List.mem_of_getElem? (i := 133) (by decide +kernel)) rfl, by decide +kernel, by decide +kernel, by decide +kernel⟩
theorem vi_X10_meet : Cond.instanceMethod yX10_meet ∈ lw_k ∧ Cond.selects RX10 yX10_meet yX10_meet ∈ lw_k := ⟨mk_k (List.mem_of_getElem? (i := 1859) (by decide +kernel)) rfl, mk_k (List.mem_of_getElem? (i := 1860) (by decide +kernel)) rfl⟩
theorem ml_L_120 : Cond.methodLink RL 120 yX9_meet ∈ lw_k := mk_k (List.mem_of_getElem? (i := 1042) (by decide +kernel)) rfl
theorem mv_X9_meet : MV0 yX9_meet cX9_meet 8 (some .int) 4 := ⟨mk_k (List.mem_of_getElem? (i := 1045) (by decide +kernel)) rfl, mk_k (List.mem_of_getElem? (i := 129) (by decide +kernel)) rfl, by decide +kernel, by decide +kernel, by decide +kernel⟩
theorem vi_X9_meet : Cond.instanceMethod yX9_meet ∈ lw_k ∧ Cond.selects RX9 yX9_meet yX9_meet ∈ lw_k := ⟨mk_k (List.mem_of_getElem? (i := 1043) (by decide +kernel)) rfl, mk_k (List.mem_of_getElem? (i := 1044) (by decide +kernel)) rfl⟩
theorem ml_L_100 : Cond.methodLink RL 100 yX9_highest ∈ lw_k := mk_k (List.mem_of_getElem? (i := 976) (by decide +kernel)) rfl
theorem mv_X9_highest : MV0 yX9_highest cX9_highest 5 (some .int) 2 := ⟨mk_k (List.mem_of_getElem? (i := 979) (by decide +kernel)) rfl, mk_k (List.mem_of_getElem? (i := 129) (by decide +kernel)) rfl, by decide +kernel, by decide +kernel, by decide +kernel⟩
theorem vi_X9_highest : Cond.instanceMethod yX9_highest ∈ lw_k ∧ Cond.selects RX9 yX9_highest yX9_highest ∈ lw_k := ⟨mk_k (List.mem_of_getElem? (i := 977) (by decide +kernel)) rfl, mk_k (List.mem_of_getElem? (i := 978) (by decide +kernel)) rfl⟩
theorem ml_L_103 : Cond.methodLink RL 103 yX10_highest ∈ lw_k := mk_k (List.mem_of_getElem? (i := 1800) (by decide +kernel)) rfl
theorem mv_X10_highest : MV0 yX10_highest cX10_highest 5 (some .int) 2 := ⟨mk_k (List.mem_of_getElem? (i := 1803) (by decide +kernel)) rfl, mk_k (List.mem_of_getElem? (i := 133) (by decide +kernel)) rfl, by decide +kernel, by decide +kernel, by decide +kernel⟩
theorem vi_X10_highest : Cond.instanceMethod yX10_highest ∈ lw_k ∧ Cond.selects RX10 yX10_highest yX10_highest ∈ lw_k := ⟨mk_k (List.mem_of_getElem? (i := 1801) (by decide +kernel)) rfl, mk_k (List.mem_of_getElem? (i := 1802) (by decide +kernel)) rfl⟩
theorem ml_L_188 : Cond.methodLink RL 188 yX9_numbers ∈ lw_k := mk_k (List.mem_of_getElem? (i := 1260) (by decide +kernel)) rfl
theorem mv_X9_numbers : MV0 yX9_numbers cX9_numbers 4 (some .int) 3 := ⟨mk_k (List.mem_of_getElem? (i := 1263) (by decide +kernel)) rfl, mk_k (List.mem_of_getElem? (i := 129) (by decide +kernel)) rfl, by decide +kernel, by decide +kernel, by decide +kernel⟩
theorem vi_X9_numbers : Cond.instanceMethod yX9_numbers ∈ lw_k ∧ Cond.selects RX9 yX9_numbers yX9_numbers ∈ lw_k := ⟨mk_k (List.mem_of_getElem? (i := 1261) (by decide +kernel)) rfl, mk_k (List.mem_of_getElem? (i := 1262) (by decide +kernel)) rfl⟩
theorem ml_L_191 : Cond.methodLink RL 191 yX10_numbers ∈ lw_k := mk_k (List.mem_of_getElem? (i := 1970) (by decide +kernel)) rfl
theorem mv_X10_numbers : MV0 yX10_numbers cX10_numbers 5 (some .int) 3 := ⟨mk_k (List.mem_of_getElem? (i := 1973) (by decide +kernel)) rfl, mk_k (List.mem_of_getElem? (i := 133) (by decide +kernel)) rfl, by decide +kernel, by decide +kernel, by decide +kernel⟩
theorem vi_X10_numbers : Cond.instanceMethod yX10_numbers ∈ lw_k ∧ Cond.selects RX10 yX10_numbers yX10_numbers ∈ lw_k := ⟨mk_k (List.mem_of_getElem? (i := 1971) (by decide +kernel)) rfl, mk_k (List.mem_of_getElem? (i := 1972) (by decide +kernel)) rfl⟩
theorem ml_L_65 : Cond.methodLink RL 65 yX9_day ∈ lw_k := mk_k (List.mem_of_getElem? (i := 785) (by decide +kernel)) rfl
theorem mv_X9_day : MV0 yX9_day cX9_day 9 (some .int) 2 := ⟨mk_k (List.mem_of_getElem? (i := 788) (by decide +kernel)) rfl, mk_k (List.mem_of_getElem? (i := 129) (by decide +kernel)) rfl, by decide +kernel, by decide +kernel, by decide +kernel⟩
theorem vi_X9_day : Cond.instanceMethod yX9_day ∈ lw_k ∧ Cond.selects RX9 yX9_day yX9_day ∈ lw_k := ⟨mk_k (List.mem_of_getElem? (i := 786) (by decide +kernel)) rfl, mk_k (List.mem_of_getElem? (i := 787) (by decide +kernel)) rfl⟩
theorem ml_L_68 : Cond.methodLink RL 68 yX10_day ∈ lw_k := mk_k (List.mem_of_getElem? (i := 1698) (by decide +kernel)) rfl
theorem mv_X10_day : MV0 yX10_day cX10_day 6 (some .int) 2 := ⟨mk_k (List.mem_of_getElem? (i := 1701) (by decide +kernel)) rfl, mk_k (List.mem_of_getElem? (i := 133) (by decide +kernel)) rfl, by decide +kernel, by decide +kernel, by decide +kernel⟩
theorem vi_X10_day : Cond.instanceMethod yX10_day ∈ lw_k ∧ Cond.selects RX10 yX10_day yX10_day ∈ lw_k := ⟨mk_k (List.mem_of_getElem? (i := 1699) (by decide +kernel)) rfl, mk_k (List.mem_of_getElem? (i := 1700) (by decide +kernel)) rfl⟩
theorem ml_L_146 : Cond.methodLink RL 146 yX9_parts ∈ lw_k := mk_k (List.mem_of_getElem? (i := 1105) (by decide +kernel)) rfl
theorem mv_X9_parts : MV0 yX9_parts cX9_parts 5 (some .int) 3 := ⟨mk_k (List.mem_of_getElem? (i := 1108) (by decide +kernel)) rfl, mk_k (List.mem_of_getElem? (i := 129) (by decide +kernel)) rfl, by decide +kernel, by decide +kernel, by decide +kernel⟩
theorem vi_X9_parts : Cond.instanceMethod yX9_parts ∈ lw_k ∧ Cond.selects RX9 yX9_parts yX9_parts ∈ lw_k := ⟨mk_k (List.mem_of_getElem? (i := 1106) (by decide +kernel)) rfl, mk_k (List.mem_of_getElem? (i := 1107) (by decide +kernel)) rfl⟩
theorem ml_L_149 : Cond.methodLink RL 149 yX10_parts ∈ lw_k := mk_k (List.mem_of_getElem? (i := 1896) (by decide +kernel)) rfl
theorem mv_X10_parts : MV0 yX10_parts cX10_parts 5 (some .int) 3 := ⟨mk_k (List.mem_of_getElem? (i := 1899) (by decide +kernel)) rfl, mk_k (List.mem_of_getElem? (i := 133) (by decide +kernel)) rfl, by decide +kernel, by decide +kernel, by decide +kernel⟩
theorem vi_X10_parts : Cond.instanceMethod yX10_parts ∈ lw_k ∧ Cond.selects RX10 yX10_parts yX10_parts ∈ lw_k := ⟨mk_k (List.mem_of_getElem? (i := 1897) (by decide +kernel)) rfl, mk_k (List.mem_of_getElem? (i := 1898) (by decide +kernel)) rfl⟩
theorem ml_L_44 : Cond.methodLink RL 44 yX9_leads ∈ lw_k := mk_k (List.mem_of_getElem? (i := 738) (by decide +kernel)) rfl
theorem mv_X9_leads : MV0 yX9_leads cX9_leads 6 (some .int) 4 := ⟨mk_k (List.mem_of_getElem? (i := 741) (by decide +kernel)) rfl, mk_k (List.mem_of_getElem? (i := 129) (by decide +kernel)) rfl, by decide +kernel, by decide +kernel, by decide +kernel⟩
theorem vi_X9_leads : Cond.instanceMethod yX9_leads ∈ lw_k ∧ Cond.selects RX9 yX9_leads yX9_leads ∈ lw_k := ⟨mk_k (List.mem_of_getElem? (i := 739) (by decide +kernel)) rfl, mk_k (List.mem_of_getElem? (i := 740) (by decide +kernel)) rfl⟩
theorem ml_L_48 : Cond.methodLink RL 48 yX10_leads ∈ lw_k := mk_k (List.mem_of_getElem? (i := 1658) (by decide +kernel)) rfl
theorem mv_X10_leads : MV0 yX10_leads cX10_leads 6 (some .int) 4 := ⟨mk_k (List.mem_of_getElem? (i := 1661) (by decide +kernel)) rfl, mk_k (List.mem_of_getElem? (i := 133) (by decide +kernel)) rfl, by decide +kernel, by decide +kernel, by decide +kernel⟩
theorem vi_X10_leads : Cond.instanceMethod yX10_leads ∈ lw_k ∧ Cond.selects RX10 yX10_leads yX10_leads ∈ lw_k := ⟨mk_k (List.mem_of_getElem? (i := 1659) (by decide +kernel)) rfl, mk_k (List.mem_of_getElem? (i := 1660) (by decide +kernel)) rfl⟩
theorem ml_L_207 : Cond.methodLink RL 207 yX9_restore ∈ lw_k := mk_k (List.mem_of_getElem? (i := 1317) (by decide +kernel)) rfl
theorem mv_X9_restore : MV0 yX9_restore cX9_restore 2 (some .int) 1 := ⟨mk_k (List.mem_of_getElem? (i := 1320) (by decide +kernel)) rfl, mk_k (List.mem_of_getElem? (i := 129) (by decide +kernel)) rfl, by decide +kernel, by decide +kernel, by decide +kernel⟩
theorem vi_X9_restore : Cond.instanceMethod yX9_restore ∈ lw_k ∧ Cond.selects RX9 yX9_restore yX9_restore ∈ lw_k := ⟨mk_k (List.mem_of_getElem? (i := 1318) (by decide +kernel)) rfl, mk_k (List.mem_of_getElem? (i := 1319) (by decide +kernel)) rfl⟩
theorem ml_L_210 : Cond.methodLink RL 210 yX10_restore ∈ lw_k := mk_k (List.mem_of_getElem? (i := 1992) (by decide +kernel)) rfl
theorem mv_X10_restore : MV0 yX10_restore cX10_restore 3 (some .int) 1 := ⟨mk_k (List.mem_of_getElem? (i := 1995) (by decide +kernel)) rfl, mk_k (List.mem_of_getElem? (i := 133) (by decide +kernel)) rfl, by decide +kernel, by decide +kernel, by decide +kernel⟩
theorem vi_X10_restore : Cond.instanceMethod yX10_restore ∈ lw_k ∧ Cond.selects RX10 yX10_restore yX10_restore ∈ lw_k := ⟨mk_k (List.mem_of_getElem? (i := 1993) (by decide +kernel)) rfl, mk_k (List.mem_of_getElem? (i := 1994) (by decide +kernel)) rfl⟩
theorem ml_L_18 : Cond.methodLink RL 18 yX9_house ∈ lw_k := mk_k (List.mem_of_getElem? (i := 372) (by decide +kernel)) rfl
theorem mv_X9_house : MV0 yX9_house cX9_house 3 (some .int) 1 := ⟨mk_k (List.mem_of_getElem? (i := 375) (by decide +kernel)) rfl, mk_k (List.mem_of_getElem? (i := 129) (by decide +kernel)) rfl, by decide +kernel, by decide +kernel, by decide +kernel⟩
theorem vi_X9_house : Cond.instanceMethod yX9_house ∈ lw_k ∧ Cond.selects RX9 yX9_house yX9_house ∈ lw_k := ⟨mk_k (List.mem_of_getElem? (i := 373) (by decide +kernel)) rfl, mk_k (List.mem_of_getElem? (i := 374) (by decide +kernel)) rfl⟩
theorem ml_L_22 : Cond.methodLink RL 22 yX10_house ∈ lw_k := mk_k (List.mem_of_getElem? (i := 1505) (by decide +kernel)) rfl
theorem mv_X10_house : MV0 yX10_house cX10_house 3 (some .int) 1 := ⟨mk_k (List.mem_of_getElem? (i := 1508) (by decide +kernel)) rfl, mk_k (List.mem_of_getElem? (i := 133) (by decide +kernel)) rfl, by decide +kernel, by decide +kernel, by decide +kernel⟩
theorem vi_X10_house : Cond.instanceMethod yX10_house ∈ lw_k ∧ Cond.selects RX10 yX10_house yX10_house ∈ lw_k := ⟨mk_k (List.mem_of_getElem? (i := 1506) (by decide +kernel)) rfl, mk_k (List.mem_of_getElem? (i := 1507) (by decide +kernel)) rfl⟩
theorem ml_L_168 : Cond.methodLink RL 168 yX9_richest ∈ lw_k := mk_k (List.mem_of_getElem? (i := 1151) (by decide +kernel)) rfl
theorem mv_X9_richest : MV0 yX9_richest cX9_richest 3 (some .int) 0 := ⟨mk_k (List.mem_of_getElem? (i := 1154) (by decide +kernel)) rfl, mk_k (List.mem_of_getElem? (i := 129) (by decide +kernel)) rfl, by decide +kernel, by decide +kernel, by decide +kernel⟩
theorem vi_X9_richest : Cond.instanceMethod yX9_richest ∈ lw_k ∧ Cond.selects RX9 yX9_richest yX9_richest ∈ lw_k := ⟨mk_k (List.mem_of_getElem? (i := 1152) (by decide +kernel)) rfl, mk_k (List.mem_of_getElem? (i := 1153) (by decide +kernel)) rfl⟩
theorem ml_L_171 : Cond.methodLink RL 171 yX10_richest ∈ lw_k := mk_k (List.mem_of_getElem? (i := 1929) (by decide +kernel)) rfl
theorem mv_X10_richest : MV0 yX10_richest cX10_richest 7 (some .int) 0 := ⟨mk_k (List.mem_of_getElem? (i := 1932) (by decide +kernel)) rfl, mk_k (List.mem_of_getElem? (i := 133) (by decide +kernel)) rfl, by decide +kernel, by decide +kernel, by decide +kernel⟩
theorem vi_X10_richest : Cond.instanceMethod yX10_richest ∈ lw_k ∧ Cond.selects RX10 yX10_richest yX10_richest ∈ lw_k := ⟨mk_k (List.mem_of_getElem? (i := 1930) (by decide +kernel)) rfl, mk_k (List.mem_of_getElem? (i := 1931) (by decide +kernel)) rfl⟩
theorem ml_L_172 : Cond.methodLink RL 172 yX9_fits ∈ lw_k := mk_k (List.mem_of_getElem? (i := 1155) (by decide +kernel)) rfl
theorem mv_X9_fits : MV0 yX9_fits cX9_fits 5 (some .int) 2 := ⟨mk_k (List.mem_of_getElem? (i := 1158) (by decide +kernel)) rfl, mk_k (List.mem_of_getElem? (i := 129) (by decide +kernel)) rfl, by decide +kernel, by decide +kernel, by decide +kernel⟩
theorem vi_X9_fits : Cond.instanceMethod yX9_fits ∈ lw_k ∧ Cond.selects RX9 yX9_fits yX9_fits ∈ lw_k := ⟨mk_k (List.mem_of_getElem? (i := 1156) (by decide +kernel)) rfl, mk_k (List.mem_of_getElem? (i := 1157) (by decide +kernel)) rfl⟩
theorem ml_L_175 : Cond.methodLink RL 175 yX10_fits ∈ lw_k := mk_k (List.mem_of_getElem? (i := 1933) (by decide +kernel)) rfl
theorem mv_X10_fits : MV0 yX10_fits cX10_fits 6 (some .int) 2 := ⟨mk_k (List.mem_of_getElem? (i := 1936) (by decide +kernel)) rfl, mk_k (List.mem_of_getElem? (i := 133) (by decide +kernel)) rfl, by decide +kernel, by decide +kernel, by decide +kernel⟩
theorem vi_X10_fits : Cond.instanceMethod yX10_fits ∈ lw_k ∧ Cond.selects RX10 yX10_fits yX10_fits ∈ lw_k := ⟨mk_k (List.mem_of_getElem? (i := 1934) (by decide +kernel)) rfl, mk_k (List.mem_of_getElem? (i := 1935) (by decide +kernel)) rfl⟩
theorem ml_L_134 : Cond.methodLink RL 134 yX9_simplest ∈ lw_k := mk_k (List.mem_of_getElem? (i := 1078) (by decide +kernel)) rfl
theorem mv_X9_simplest : MV0 yX9_simplest cX9_simplest 7 (some .int) 5 := ⟨mk_k (List.mem_of_getElem? (i := 1081) (by decide +kernel)) rfl, mk_k (List.mem_of_getElem? (i := 129) (by decide +kernel)) rfl, by decide +kernel, by decide +kernel, by decide +kernel⟩
theorem vi_X9_simplest : Cond.instanceMethod yX9_simplest ∈ lw_k ∧ Cond.selects RX9 yX9_simplest yX9_simplest ∈ lw_k := ⟨mk_k (List.mem_of_getElem? (i := 1079) (by decide +kernel)) rfl, mk_k (List.mem_of_getElem? (i := 1080) (by decide +kernel)) rfl⟩
theorem ml_L_137 : Cond.methodLink RL 137 yX10_simplest ∈ lw_k := mk_k (List.mem_of_getElem? (i := 1879) (by decide +kernel)) rfl
theorem mv_X10_simplest : MV0 yX10_simplest cX10_simplest 17 (some .int) 5 := ⟨mk_k (List.mem_of_getElem? (i := 1882) (by decide +kernel)) rfl, mk_k (List.mem_of_getElem? (i := 133) (by decide +kernel)) rfl, by decide +kernel, by decide +kernel, by decide +kernel⟩
theorem vi_X10_simplest : Cond.instanceMethod yX10_simplest ∈ lw_k ∧ Cond.selects RX10 yX10_simplest yX10_simplest ∈ lw_k := ⟨mk_k (List.mem_of_getElem? (i := 1880) (by decide +kernel)) rfl, mk_k (List.mem_of_getElem? (i := 1881) (by decide +kernel)) rfl⟩
theorem ml_L_104 : Cond.methodLink RL 104 yX9_twins ∈ lw_k := mk_k (List.mem_of_getElem? (i := 988) (by decide +kernel)) rfl
theorem mv_X9_twins : MV0 yX9_twins cX9_twins 7 (some .int) 1 := ⟨mk_k (List.mem_of_getElem? (i := 991) (by decide +kernel)) rfl, mk_k (List.mem_of_getElem? (i := 129) (by decide +kernel)) rfl, by decide +kernel, by decide +kernel, by decide +kernel⟩
theorem vi_X9_twins : Cond.instanceMethod yX9_twins ∈ lw_k ∧ Cond.selects RX9 yX9_twins yX9_twins ∈ lw_k := ⟨mk_k (List.mem_of_getElem? (i := 989) (by decide +kernel)) rfl, mk_k (List.mem_of_getElem? (i := 990) (by decide +kernel)) rfl⟩
theorem ml_L_107 : Cond.methodLink RL 107 yX10_twins ∈ lw_k := mk_k (List.mem_of_getElem? (i := 1804) (by decide +kernel)) rfl
theorem mv_X10_twins : MV0 yX10_twins cX10_twins 4 (some .int) 1 := ⟨mk_k (List.mem_of_getElem? (i := 1807) (by decide +kernel)) rfl, mk_k (List.mem_of_getElem? (i := 133) (by decide +kernel)) rfl, by decide +kernel, by decide +kernel, by decide +kernel⟩
theorem vi_X10_twins : Cond.instanceMethod yX10_twins ∈ lw_k ∧ Cond.selects RX10 yX10_twins yX10_twins ∈ lw_k := ⟨mk_k (List.mem_of_getElem? (i := 1805) (by decide +kernel)) rfl, mk_k (List.mem_of_getElem? (i := 1806) (by decide +kernel)) rfl⟩
theorem ml_L_211 : Cond.methodLink RL 211 yX9_count ∈ lw_k := mk_k (List.mem_of_getElem? (i := 1321) (by decide +kernel)) rfl
theorem mv_X9_count : MV0 yX9_count cX9_count 2 (some .int) 1 := ⟨mk_k (List.mem_of_getElem? (i := 1324) (by decide +kernel)) rfl, mk_k (List.mem_of_getElem? (i := 129) (by decide +kernel)) rfl, by decide +kernel, by decide +kernel, by decide +kernel⟩
theorem vi_X9_count : Cond.instanceMethod yX9_count ∈ lw_k ∧ Cond.selects RX9 yX9_count yX9_count ∈ lw_k := ⟨mk_k (List.mem_of_getElem? (i := 1322) (by decide +kernel)) rfl, mk_k (List.mem_of_getElem? (i := 1323) (by decide +kernel)) rfl⟩
theorem ml_L_214 : Cond.methodLink RL 214 yX10_count ∈ lw_k := mk_k (List.mem_of_getElem? (i := 1996) (by decide +kernel)) rfl
theorem mv_X10_count : MV0 yX10_count cX10_count 2 (some .int) 1 := ⟨mk_k (List.mem_of_getElem? (i := 1999) (by decide +kernel)) rfl, mk_k (List.mem_of_getElem? (i := 133) (by decide +kernel)) rfl, by decide +kernel, by decide +kernel, by decide +kernel⟩
theorem vi_X10_count : Cond.instanceMethod yX10_count ∈ lw_k ∧ Cond.selects RX10 yX10_count yX10_count ∈ lw_k := ⟨mk_k (List.mem_of_getElem? (i := 1997) (by decide +kernel)) rfl, mk_k (List.mem_of_getElem? (i := 1998) (by decide +kernel)) rfl⟩
theorem ml_L_83 : Cond.methodLink RL 83 yX9_most ∈ lw_k := mk_k (List.mem_of_getElem? (i := 837) (by decide +kernel)) rfl
theorem mv_X9_most : MV0 yX9_most cX9_most 5 (some .int) 1 := ⟨mk_k (List.mem_of_getElem? (i := 840) (by decide +kernel)) rfl, mk_k (List.mem_of_getElem? (i := 129) (by decide +kernel)) rfl, by decide +kernel, by decide +kernel, by decide +kernel⟩
theorem vi_X9_most : Cond.instanceMethod yX9_most ∈ lw_k ∧ Cond.selects RX9 yX9_most yX9_most ∈ lw_k := ⟨mk_k (List.mem_of_getElem? (i := 838) (by decide +kernel)) rfl, mk_k (List.mem_of_getElem? (i := 839) (by decide +kernel)) rfl⟩
theorem ml_L_86 : Cond.methodLink RL 86 yX10_most ∈ lw_k := mk_k (List.mem_of_getElem? (i := 1743) (by decide +kernel)) rfl
theorem mv_X10_most : MV0 yX10_most cX10_most 4 (some .int) 1 := ⟨mk_k (List.mem_of_getElem? (i := 1746) (by decide +kernel)) rfl, mk_k (List.mem_of_getElem? (i := 133) (by decide +kernel)) rfl, by decide +kernel, by decide +kernel, by decide +kernel⟩
theorem vi_X10_most : Cond.instanceMethod yX10_most ∈ lw_k ∧ Cond.selects RX10 yX10_most yX10_most ∈ lw_k := ⟨mk_k (List.mem_of_getElem? (i := 1744) (by decide +kernel)) rfl, mk_k (List.mem_of_getElem? (i := 1745) (by decide +kernel)) rfl⟩
theorem ml_L_23 : Cond.methodLink RL 23 yX9_fault ∈ lw_k := mk_k (List.mem_of_getElem? (i := 688) (by decide +kernel)) rfl
theorem mv_X9_fault : MV0 yX9_fault cX9_fault 2 (some .int) 1 := ⟨mk_k (List.mem_of_getElem? (i := 691) (by decide +kernel)) rfl, mk_k (List.mem_of_getElem? (i := 129) (by decide +kernel)) rfl, by decide +kernel, by decide +kernel, by decide +kernel⟩
theorem vi_X9_fault : Cond.instanceMethod yX9_fault ∈ lw_k ∧ Cond.selects RX9 yX9_fault yX9_fault ∈ lw_k := ⟨mk_k (List.mem_of_getElem? (i := 689) (by decide +kernel)) rfl, mk_k (List.mem_of_getElem? (i := 690) (by decide +kernel)) rfl⟩
theorem ml_L_26 : Cond.methodLink RL 26 yX10_fault ∈ lw_k := mk_k (List.mem_of_getElem? (i := 1601) (by decide +kernel)) rfl
theorem mv_X10_fault : MV0 yX10_fault cX10_fault 2 (some .int) 1 := ⟨mk_k (List.mem_of_getElem? (i := 1604) (by decide +kernel)) rfl, mk_k (List.mem_of_getElem? (i := 133) (by decide +kernel)) rfl, by decide +kernel, by decide +kernel, by decide +kernel⟩
theorem vi_X10_fault : Cond.instanceMethod yX10_fault ∈ lw_k ∧ Cond.selects RX10 yX10_fault yX10_fault ∈ lw_k := ⟨mk_k (List.mem_of_getElem? (i := 1602) (by decide +kernel)) rfl, mk_k (List.mem_of_getElem? (i := 1603) (by decide +kernel)) rfl⟩
theorem ml_L_69 : Cond.methodLink RL 69 yX9_has ∈ lw_k := mk_k (List.mem_of_getElem? (i := 793) (by decide +kernel)) rfl
theorem mv_X9_has : MV0 yX9_has cX9_has 5 (some .long) 4 := ⟨mk_k (List.mem_of_getElem? (i := 796) (by decide +kernel)) rfl, mk_k (List.mem_of_getElem? (i := 129) (by decide +kernel)) rfl, by decide +kernel, by decide +kernel, by decide +kernel⟩
theorem vi_X9_has : Cond.instanceMethod yX9_has ∈ lw_k ∧ Cond.selects RX9 yX9_has yX9_has ∈ lw_k := ⟨mk_k (List.mem_of_getElem? (i := 794) (by decide +kernel)) rfl, mk_k (List.mem_of_getElem? (i := 795) (by decide +kernel)) rfl⟩
theorem ml_L_73 : Cond.methodLink RL 73 yX10_has ∈ lw_k := mk_k (List.mem_of_getElem? (i := 1708) (by decide +kernel)) rfl
theorem mv_X10_has : MV0 yX10_has cX10_has 5 (some .long) 4 := ⟨mk_k (List.mem_of_getElem? (i := 1711) (by decide +kernel)) rfl, mk_k (List.mem_of_getElem? (i := 133) (by decide +kernel)) rfl, by decide +kernel, by decide +kernel, by decide +kernel⟩
theorem vi_X10_has : Cond.instanceMethod yX10_has ∈ lw_k ∧ Cond.selects RX10 yX10_has yX10_has ∈ lw_k := ⟨mk_k (List.mem_of_getElem? (i := 1709) (by decide +kernel)) rfl, mk_k (List.mem_of_getElem? (i := 1710) (by decide +kernel)) rfl⟩
theorem cl2_L_192 : Cond.constantLong RL 192 (4294967295) ∈ lw_k := mk_k (List.mem_of_getElem? (i := 2000) (by decide +kernel)) rfl
theorem ml_L_194 : Cond.methodLink RL 194 yX9_write ∈ lw_k := mk_k (List.mem_of_getElem? (i := 1291) (by decide +kernel)) rfl
theorem mv_X9_write : MV0 yX9_write cX9_write 6 (some .long) 3 := ⟨mk_k (List.mem_of_getElem? (i := 1294) (by decide +kernel)) rfl, mk_k (List.mem_of_getElem? (i := 129) (by decide +kernel)) rfl, by decide +kernel, by decide +kernel, by decide +kernel⟩
theorem vi_X9_write : Cond.instanceMethod yX9_write ∈ lw_k ∧ Cond.selects RX9 yX9_write yX9_write ∈ lw_k := ⟨mk_k (List.mem_of_getElem? (i := 1292) (by decide +kernel)) rfl, mk_k (List.mem_of_getElem? (i := 1293) (by decide +kernel)) rfl⟩
theorem ml_L_198 : Cond.methodLink RL 198 yX10_write ∈ lw_k := mk_k (List.mem_of_getElem? (i := 1975) (by decide +kernel)) rfl
theorem mv_X10_write : MV0 yX10_write cX10_write 5 (some .long) 3 := ⟨mk_k (List.mem_of_getElem? (i := 1978) (by decide +kernel)) rfl, mk_k (List.mem_of_getElem? (i := 133) (by decide +kernel)) rfl, by decide +kernel, by decide +kernel, by decide +kernel⟩
theorem vi_X10_write : Cond.instanceMethod yX10_write ∈ lw_k ∧ Cond.selects RX10 yX10_write yX10_write ∈ lw_k := ⟨mk_k (List.mem_of_getElem? (i := 1976) (by decide +kernel)) rfl, mk_k (List.mem_of_getElem? (i := 1977) (by decide +kernel)) rfl⟩
theorem ml_L_108 : Cond.methodLink RL 108 yX9_never ∈ lw_k := mk_k (List.mem_of_getElem? (i := 1000) (by decide +kernel)) rfl
theorem mv_X9_never : MV0 yX9_never cX9_never 4 (some .int) 3 := ⟨mk_k (List.mem_of_getElem? (i := 1003) (by decide +kernel)) rfl, mk_k (List.mem_of_getElem? (i := 129) (by decide +kernel)) rfl, by decide +kernel, by decide +kernel, by decide +kernel⟩
theorem vi_X9_never : Cond.instanceMethod yX9_never ∈ lw_k ∧ Cond.selects RX9 yX9_never yX9_never ∈ lw_k := ⟨mk_k (List.mem_of_getElem? (i := 1001) (by decide +kernel)) rfl, mk_k (List.mem_of_getElem? (i := 1002) (by decide +kernel)) rfl⟩
theorem ml_L_111 : Cond.methodLink RL 111 yX10_never ∈ lw_k := mk_k (List.mem_of_getElem? (i := 1827) (by decide +kernel)) rfl
theorem mv_X10_never : MV0 yX10_never cX10_never 4 (some .int) 3 := ⟨mk_k (List.mem_of_getElem? (i := 1830) (by decide +kernel)) rfl, mk_k (List.mem_of_getElem? (i := 133) (by decide +kernel)) rfl, by decide +kernel, by decide +kernel, by decide +kernel⟩
theorem vi_X10_never : Cond.instanceMethod yX10_never ∈ lw_k ∧ Cond.selects RX10 yX10_never yX10_never ∈ lw_k := ⟨mk_k (List.mem_of_getElem? (i := 1828) (by decide +kernel)) rfl, mk_k (List.mem_of_getElem? (i := 1829) (by decide +kernel)) rfl⟩
theorem ml_L_150 : Cond.methodLink RL 150 yX9_rent ∈ lw_k := mk_k (List.mem_of_getElem? (i := 1114) (by decide +kernel)) rfl
theorem mv_X9_rent : MV0 yX9_rent cX9_rent 3 (some .long) 2 := ⟨mk_k (List.mem_of_getElem? (i := 1117) (by decide +kernel)) rfl, mk_k (List.mem_of_getElem? (i := 129) (by decide +kernel)) rfl, by decide +kernel, by decide +kernel, by decide +kernel⟩
theorem vi_X9_rent : Cond.instanceMethod yX9_rent ∈ lw_k ∧ Cond.selects RX9 yX9_rent yX9_rent ∈ lw_k := ⟨mk_k (List.mem_of_getElem? (i := 1115) (by decide +kernel)) rfl, mk_k (List.mem_of_getElem? (i := 1116) (by decide +kernel)) rfl⟩
theorem ml_L_154 : Cond.methodLink RL 154 yX10_rent ∈ lw_k := mk_k (List.mem_of_getElem? (i := 1904) (by decide +kernel)) rfl
theorem mv_X10_rent : MV0 yX10_rent cX10_rent 3 (some .long) 2 := ⟨mk_k (List.mem_of_getElem? (i := 1907) (by decide +kernel)) rfl, mk_k (List.mem_of_getElem? (i := 133) (by decide +kernel)) rfl, by decide +kernel, by decide +kernel, by decide +kernel⟩
theorem vi_X10_rent : Cond.instanceMethod yX10_rent ∈ lw_k ∧ Cond.selects RX10 yX10_rent yX10_rent ∈ lw_k := ⟨mk_k (List.mem_of_getElem? (i := 1905) (by decide +kernel)) rfl, mk_k (List.mem_of_getElem? (i := 1906) (by decide +kernel)) rfl⟩
theorem ml_L_87 : Cond.methodLink RL 87 yX9_tells ∈ lw_k := mk_k (List.mem_of_getElem? (i := 841) (by decide +kernel)) rfl
theorem mv_X9_tells : MV0 yX9_tells cX9_tells 4 (some .int) 2 := ⟨mk_k (List.mem_of_getElem? (i := 844) (by decide +kernel)) rfl, mk_k (List.mem_of_getElem? (i := 129) (by decide +kernel)) rfl, by decide +kernel, by decide +kernel, by decide +kernel⟩
theorem vi_X9_tells : Cond.instanceMethod yX9_tells ∈ lw_k ∧ Cond.selects RX9 yX9_tells yX9_tells ∈ lw_k := ⟨mk_k (List.mem_of_getElem? (i := 842) (by decide +kernel)) rfl, mk_k (List.mem_of_getElem? (i := 843) (by decide +kernel)) rfl⟩
theorem ml_L_90 : Cond.methodLink RL 90 yX10_tells ∈ lw_k := mk_k (List.mem_of_getElem? (i := 1747) (by decide +kernel)) rfl
theorem mv_X10_tells : MV0 yX10_tells cX10_tells 9 (some .int) 2 := ⟨mk_k (List.mem_of_getElem? (i := 1750) (by decide +kernel)) rfl, mk_k (List.mem_of_getElem? (i := 133) (by decide +kernel)) rfl, by decide +kernel, by decide +kernel, by decide +kernel⟩
theorem vi_X10_tells : Cond.instanceMethod yX10_tells ∈ lw_k ∧ Cond.selects RX10 yX10_tells yX10_tells ∈ lw_k := ⟨mk_k (List.mem_of_getElem? (i := 1748) (by decide +kernel)) rfl, mk_k (List.mem_of_getElem? (i := 1749) (by decide +kernel)) rfl⟩
theorem ml_L_27 : Cond.methodLink RL 27 yX9_at ∈ lw_k := mk_k (List.mem_of_getElem? (i := 692) (by decide +kernel)) rfl
theorem mv_X9_at : MV0 yX9_at cX9_at 2 (some .int) 1 := ⟨mk_k (List.mem_of_getElem? (i := 695) (by decide +kernel)) rfl, mk_k (List.mem_of_getElem? (i := 129) (by decide +kernel)) rfl, by decide +kernel, by decide +kernel, by decide +kernel⟩
theorem vi_X9_at : Cond.instanceMethod yX9_at ∈ lw_k ∧ Cond.selects RX9 yX9_at yX9_at ∈ lw_k := ⟨mk_k (List.mem_of_getElem? (i := 693) (by decide +kernel)) rfl, mk_k (List.mem_of_getElem? (i := 694) (by decide +kernel)) rfl⟩
theorem ml_L_30 : Cond.methodLink RL 30 yX10_at ∈ lw_k := mk_k (List.mem_of_getElem? (i := 1605) (by decide +kernel)) rfl
theorem mv_X10_at : MV0 yX10_at cX10_at 2 (some .int) 1 := ⟨mk_k (List.mem_of_getElem? (i := 1608) (by decide +kernel)) rfl, mk_k (List.mem_of_getElem? (i := 133) (by decide +kernel)) rfl, by decide +kernel, by decide +kernel, by decide +kernel⟩
theorem vi_X10_at : Cond.instanceMethod yX10_at ∈ lw_k ∧ Cond.selects RX10 yX10_at yX10_at ∈ lw_k := ⟨mk_k (List.mem_of_getElem? (i := 1606) (by decide +kernel)) rfl, mk_k (List.mem_of_getElem? (i := 1607) (by decide +kernel)) rfl⟩
theorem ml_L_176 : Cond.methodLink RL 176 yX9_sure ∈ lw_k := mk_k (List.mem_of_getElem? (i := 1224) (by decide +kernel)) rfl
theorem mv_X9_sure : MV0 yX9_sure cX9_sure 5 (some .int) 2 := ⟨mk_k (List.mem_of_getElem? (i := 1227) (by decide +kernel)) rfl, mk_k (List.mem_of_getElem? (i := 129) (by decide +kernel)) rfl, by decide +kernel, by decide +kernel, by decide +kernel⟩
theorem vi_X9_sure : Cond.instanceMethod yX9_sure ∈ lw_k ∧ Cond.selects RX9 yX9_sure yX9_sure ∈ lw_k := ⟨mk_k (List.mem_of_getElem? (i := 1225) (by decide +kernel)) rfl, mk_k (List.mem_of_getElem? (i := 1226) (by decide +kernel)) rfl⟩
theorem ml_L_179 : Cond.methodLink RL 179 yX10_sure ∈ lw_k := mk_k (List.mem_of_getElem? (i := 1946) (by decide +kernel)) rfl
theorem mv_X10_sure : MV0 yX10_sure cX10_sure 5 (some .int) 2 := ⟨mk_k (List.mem_of_getElem? (i := 1949) (by decide +kernel)) rfl, mk_k (List.mem_of_getElem? (i := 133) (by decide +kernel)) rfl, by decide +kernel, by decide +kernel, by decide +kernel⟩
theorem vi_X10_sure : Cond.instanceMethod yX10_sure ∈ lw_k ∧ Cond.selects RX10 yX10_sure yX10_sure ∈ lw_k := ⟨mk_k (List.mem_of_getElem? (i := 1947) (by decide +kernel)) rfl, mk_k (List.mem_of_getElem? (i := 1948) (by decide +kernel)) rfl⟩
theorem ml_L_125 : Cond.methodLink RL 125 yX9_address ∈ lw_k := mk_k (List.mem_of_getElem? (i := 1058) (by decide +kernel)) rfl
theorem mv_X9_address : MV0 yX9_address cX9_address 5 (some .int) 3 := ⟨mk_k (List.mem_of_getElem? (i := 1061) (by decide +kernel)) rfl, mk_k (List.mem_of_getElem? (i := 129) (by decide +kernel)) rfl, by decide +kernel, by decide +kernel, by decide +kernel⟩
theorem vi_X9_address : Cond.instanceMethod yX9_address ∈ lw_k ∧ Cond.selects RX9 yX9_address yX9_address ∈ lw_k := ⟨mk_k (List.mem_of_getElem? (i := 1059) (by decide +kernel)) rfl, mk_k (List.mem_of_getElem? (i := 1060) (by decide +kernel)) rfl⟩
theorem ml_L_128 : Cond.methodLink RL 128 yX10_address ∈ lw_k := mk_k (List.mem_of_getElem? (i := 1866) (by decide +kernel)) rfl
theorem mv_X10_address : MV0 yX10_address cX10_address 5 (some .int) 3 := ⟨mk_k (List.mem_of_getElem? (i := 1869) (by decide +kernel)) rfl, mk_k (List.mem_of_getElem? (i := 133) (by decide +kernel)) rfl, by decide +kernel, by decide +kernel, by decide +kernel⟩
theorem vi_X10_address : Cond.instanceMethod yX10_address ∈ lw_k ∧ Cond.selects RX10 yX10_address yX10_address ∈ lw_k := ⟨mk_k (List.mem_of_getElem? (i := 1867) (by decide +kernel)) rfl, mk_k (List.mem_of_getElem? (i := 1868) (by decide +kernel)) rfl⟩
theorem ml_L_49 : Cond.methodLink RL 49 yX9_press ∈ lw_k := mk_k (List.mem_of_getElem? (i := 748) (by decide +kernel)) rfl
theorem mv_X9_press : MV0 yX9_press cX9_press 3 (some .int) 1 := ⟨mk_k (List.mem_of_getElem? (i := 751) (by decide +kernel)) rfl, mk_k (List.mem_of_getElem? (i := 129) (by decide +kernel)) rfl, by decide +kernel, by decide +kernel, by decide +kernel⟩
theorem vi_X9_press : Cond.instanceMethod yX9_press ∈ lw_k ∧ Cond.selects RX9 yX9_press yX9_press ∈ lw_k := ⟨mk_k (List.mem_of_getElem? (i := 749) (by decide +kernel)) rfl, mk_k (List.mem_of_getElem? (i := 750) (by decide +kernel)) rfl⟩
theorem ml_L_52 : Cond.methodLink RL 52 yX10_press ∈ lw_k := mk_k (List.mem_of_getElem? (i := 1666) (by decide +kernel)) rfl
theorem mv_X10_press : MV0 yX10_press cX10_press 3 (some .int) 1 := ⟨mk_k (List.mem_of_getElem? (i := 1669) (by decide +kernel)) rfl, mk_k (List.mem_of_getElem? (i := 133) (by decide +kernel)) rfl, by decide +kernel, by decide +kernel, by decide +kernel⟩
theorem vi_X10_press : Cond.instanceMethod yX10_press ∈ lw_k ∧ Cond.selects RX10 yX10_press yX10_press ∈ lw_k := ⟨mk_k (List.mem_of_getElem? (i := 1667) (by decide +kernel)) rfl, mk_k (List.mem_of_getElem? (i := 1668) (by decide +kernel)) rfl⟩
