/-! rows that make cells, call, return; a contract out of a walk -/
theorem lw_goodIn {w : Cond} (h : w ∈ lw_k) : GoodIn lw_k (w :: lw_k) := by
  intro v hv
  have hm : v ∈ lw_k := (List.mem_cons.mp hv).elim (fun e => e ▸ h) id
  exact ⟨hm, good_of_word (List.mem_filter.mp hm).2⟩
theorem UX.warm {X : XT} {s U : State} (hW : s.WarmedH U.vm) (h : UX X s) : UX X U := by
  obtain ⟨h1, h2, h3, h4, h5, h6, h7, h8⟩ := h
  refine ⟨va_K.moved hW.alike h1, fun j hj => vk_R.warm hW (h2 j hj), h3.moved hW.alike, h4.moved hW.alike, h5.moved hW.alike, fun j hj => ?_, h7.moved hW.alike, h8.moved hW.alike⟩
  have := h6 j hj
  rcases (show j = 0 ∨ j = 1 ∨ j = 2 by omega) with rfl | rfl | rfl
  · exact va_Nw.warmM hW this
  · exact va_Nw.warmM hW this
  · exact va_Nw.warmM hW this
theorem UX.same {X : XT} {u U : State} (hv : u.vm = U.vm) (h : UX X u) : UX X U := by
  obtain ⟨h1, h2, h3, h4, h5, h6, h7, h8⟩ := h
  have hA : u.vm.Alike U.vm := hv ▸ Vm.Alike.refl u.vm
  refine ⟨va_K.moved hA h1, fun j hj => vk_R.same hv.symm (h2 j hj), h3.moved hA, h4.moved hA, h5.moved hA, fun j hj => ?_, h7.moved hA, h8.moved hA⟩
  have := h6 j hj
  rcases (show j = 0 ∨ j = 1 ∨ j = 2 by omega) with rfl | rfl | rfl
  · exact va_Nw.same rfl hv this
  · exact va_Nw.same rfl hv this
  · exact va_Nw.same rfl hv this
section RC
variable {M : MV} {X : XT} {own : String} {cc : ByteArray} {h h' : PH} {ce sl pc n : Nat} {L : List (Nat × Value)} {st : List Value} {α : Type} {r : α} {idx ci k0 a : Nat} {fr lo mc ms nL : Nat}
theorem r_new {N : Nat} {dfs : List Value} {f : PH → Option α} {g : Nat → PH → Option α} (hc : Cx M X own cc) (hr : Rx M fr lo mc ms nL) (hd : Dc cc pc (.new idx) 3 n) (hl : NW own idx ci N dfs) (hm : ce + 1 ≤ mc) (hs : sl + N ≤ ms) (k : GG M X (h ++ [.inr (ci, dfs)]) (ce + 1) (sl + N) n L (.ref (X.1 + h.length) :: st)) : GG M X h ce sl pc L st := by
  obtain ⟨p, l, e, R, s, m, args, below, meth, c, Q⟩ := M
  obtain ⟨hx, hb, hown, hts, hU, hBs, hOs⟩ := hc
  obtain ⟨hR, hnL⟩ := hr
  obtain ⟨hd, rfl⟩ := hd
  obtain ⟨C, T, ty0, ⟨hci, hin, -, -⟩, hcl, hins, hini, hty, hdf, hmp⟩ := hl
  intro H locs ls hP hO hl
  have hKn := hU.1.1 ci _ hci
  refine W.newcK hx hb hown (hts _ hcl) (hts _ hins) (hts _ hini) rfl hd (by rw [hR]; exact hm) (by rw [hR]; exact hs) hKn.2.1 hP.1 fun H1 kC hkC e1 z1 o1 => ?_
  refine k H1 locs ls (hP.push z1 o1 ⟨_, hci, ?_⟩) hO hl
  show t_OB _ _ _ _ _ (vp_V (dfs.map (cvV X.1)))
  rw [hmp X.1]
  exact (u_born ty0 hts hin hKn hkC e1 hty).to hdf
def nA (t : Nat) (n : Nat) : PE := if t = 1 then .inl (1, n, .inr (.inl (fun _ => 0))) else .inl (t, n, .inl (fun _ => 0))
theorem r_newarr {t N : Nat} {at0 : ArrayType} {x : Int32} {ty : FieldType} {a0 : vp_A} (hc : Cx M X own cc) (hr : Rx M fr lo mc ms nL) (hd : Dc cc pc (.newarray at0) 2 n) (hw : Cond.arrayClass (newarray.typeOf at0) ∈ lw_k) (hty : newarray.typeOf at0 = ty) (hra : ∀ (U : State) (cA : ClassId), va_RA U cA ty → U.vm.findClass ("[" ++ ty.toString) = some cA) (htt : (tysOf X.2.2.1)[t]? = some (X.2.2.1 t, ty)) (ha0 : ∀ cA : ClassId, vp_cell cA (cvA X.1 a0) = arrV cA N (fun _ => defaultValue ty)) (hx0 : ¬ x < 0) (hxN : x.toNatClampNeg = N) (hby : N * componentBytes ty ≤ 536870912) (hm : ce + 1 ≤ mc) (hs : sl + N ≤ ms) (k : GG M X (h ++ [.inl (t, a0)]) (ce + 1) (sl + N) n L (.ref (X.1 + h.length) :: st)) : GG M X h ce sl pc L (.int x :: st) := by
  obtain ⟨p, l, e, R, s, m, args, below, meth, c, Q⟩ := M
  obtain ⟨hx, hb, hown, hts, hU, hBs, hOs⟩ := hc
  obtain ⟨hR, hnL⟩ := hr
  obtain ⟨hd, rfl⟩ := hd
  subst hty
  intro H locs ls hP hO hl
  refine va_newaK hx hb (hts _ hw) rfl hd rfl hx0 hxN hby (by rw [hR]; exact hm) (by rw [hR]; exact hs) hP.1 fun H1 cA e1 z1 o1 hAr hNm => ?_
  have hcA : cA = X.2.2.1 t := Option.some.inj (hNm.symm.trans (hra s _ (hU.1.2 t _ htt).2))
  subst hcA
  refine k H1 locs ls (hP.push z1 o1 ?_) hO hl
  show H1[_]? = some (vp_cell _ _)
  rw [ha0]
  exact e1
theorem r_anewarr {t N : Nat} {C : String} {x : Int32} (hc : Cx M X own cc) (hr : Rx M fr lo mc ms nL) (hd : Dc cc pc (.anewarray idx) 3 n) (hw : Cond.classLink own idx C ∈ lw_k) (hao : ∀ U : State, UX X U → va_AO C U) (htt : (tysOf X.2.2.1)[t]? = some (X.2.2.1 t, .object C)) (hx0 : ¬ x < 0) (hxN : x.toNatClampNeg = N) (hby : N * 4 ≤ 536870912) (hm : ce + 1 ≤ mc) (hs : sl + N ≤ ms) (k : GG M X (h ++ [.inl (t, N, .inr (.inr (.inr (.inr (fun _ => none)))))]) (ce + 1) (sl + N) n L (.ref (X.1 + h.length) :: st)) : GG M X h ce sl pc L (.int x :: st) := by
  obtain ⟨p, l, e, R, s, m, args, below, meth, c, Q⟩ := M
  obtain ⟨hx, hb, hown, hts, hU, hBs, hOs⟩ := hc
  obtain ⟨hR, hnL⟩ := hr
  obtain ⟨hd, rfl⟩ := hd
  subst hxN
  intro H locs ls hP hO hl
  refine W.anew hx hb hown (hts _ hw) (va_AO.use (hao s hU)) rfl hd rfl hx0 hby (by rw [hR]; exact hm) (by rw [hR]; exact hs) fun cA kA comp f1 f2 f3 f4 => ?_
  obtain ⟨-, -, -, -, -, g4⟩ := (hU.1.2 t _ htt).2
  have hcA : cA = X.2.2.1 t := Option.some.inj (f1.symm.trans g4)
  subst hcA
  have hz := hP.1
  rw [hz]
  refine k _ locs ls (hP.push (by rw [Array.size_push, hz]) (fun q hq => by rw [Array.getElem?_push, if_neg (by rw [hz]; omega)]) ?_) hO hl
  show (H.push _)[X.1 + h.length]? = some (vp_cell _ _)
  rw [← hz, Array.getElem?_push_size, arrV_new]
  rfl
/-- what a call asks of the tables: of the method, and of the place -/
def MV0 (y : MethodName) (cc' : ByteArray) (nL' : Nat) (ret : Option FieldType) (n : Nat) : Prop := Cond.code y cc' nL' ret ∈ lw_k ∧ Cond.initialized y.cls ∈ lw_k ∧ y.cls ≠ "java/lang/invoke/MethodHandle" ∧ y.cls ≠ "java/lang/invoke/VarHandle" ∧ (parseMethodDescriptor y.desc).map (fun d => d.parameters.length) = some n
theorem pc_blind {X : XT} {h : PH} {as : List Value} : FrameBlind (va_Pc as (fun U => UX X U ∧ RP X h U.heap)) := fun _ U g mk q => ⟨q.1, UX.same (u := U) (U := U.calling g mk _) rfl q.2.1, q.2.2⟩
theorem r_back {p : Program} {l : Launch} {e : Env} {R : Room} {s : State} {m : MethodId} {args : Array Value} {below : List Frame} {meth : Method} {c : Code} {Q : State → Prop} {H : Heap} {locs : List Loc} {mc' ms' : Nat} {ls : Array Slot} {st0 : List Value} {rv : Option Value} {as : Array Value}
    (hr : CallRun p l e R s m args below meth c H locs ce sl mc' ms' (F0 m pc ls st0) st (QP X rv h' as) (fun q => X.1 ≤ q)) (hO : LO X.1 locs) (hl : lv_has ls c.maxLocals L)
    (k : GG (p, l, e, R, s, m, args, below, meth, c, Q) X h' (ce + mc') (sl + ms') (pc + 3) L (rv.toList ++ st)) : W p l e R s m args below meth c H locs ce sl Q (F0 m pc ls st0) := by
  intro T hT XX
  obtain ⟨v, st₀, t, T', L1, h0, X', hL, e1, ⟨hv, hR⟩, step⟩ := hr T hT XX
  cases hv
  obtain ⟨t2, a1, b1⟩ := k t.heap (locs ++ L1) ls hR (fun q hq => (List.mem_append.mp hq).elim (hO q) (hL q)) hl T' e1 X'
  exact ⟨t2, step t2 a1, b1⟩
theorem r_callV {y : MethodName} {cc' : ByteArray} {nL' np fr' lo' mc' ms' b : Nat} {ret : Option FieldType} {As : List Value} {rv : Option Value} {C : String} {T : u_T} {N : Nat} (hc : Cx M X own cc) (hr : Rx M fr lo mc ms nL) (hd : Dc cc pc (.invokevirtual idx) 3 n) (hlk : Cond.methodLink own idx y ∈ lw_k) (hy : MV0 y cc' nL' ret np) (hv : Cond.instanceMethod y ∈ lw_k ∧ Cond.selects C y y ∈ lw_k) (hci : cls[ci]? = some (C, T, N)) (hob : isO ci h b = true) (hn : As.length = np)
    (hM : MT M.2.1 X y cc' nL' ret fr' lo' mc' ms' (.ref (X.1 + b) :: As) h rv h') (hfr : fr' + 1 ≤ fr) (hlo : 8 + (nL' + 11) + lo' ≤ lo) (hst : (st.map fun v => v.category).sum ≤ 8) (hmc : ce + mc' ≤ mc) (hms : sl + ms' ≤ ms) (k : GG M X h' (ce + mc') (sl + ms') n L (rv.toList ++ st)) : GG M X h ce sl pc L (As.reverse ++ .ref (X.1 + b) :: st) := by
  obtain ⟨p, l, e, R, s, m, args, below, meth, c, Q⟩ := M
  obtain ⟨hx, hb, hown, hts, hU, hBs, hOs⟩ := hc
  obtain ⟨hR, hnL⟩ := hr
  obtain ⟨hd, rfl⟩ := hd
  intro H locs ls hP hO hl
  obtain ⟨fs, hob⟩ := isO_some hob
  have hrec := va_recv hU.1 (va_P1 (hP.get hob)) (ci := ci) (q0 := 0) (fs := fs.map (cvV X.1)) hci rfl
  have cB := callB_of (R := R) (rm := { frames := fr', cells := mc', slots := ms', locals := lo' }) (own := own) (index := idx) np hts (lw_goodIn hy.1) rfl rfl rfl (hts _ hy.2.1) (hts _ hlk) hy.2.2 ⟨by rw [hR]; exact hfr, by rw [hR]; exact hlo⟩
  exact r_back (W.runV (Ts := lw_k) ⟨hx, hb, hnL, hown, hts⟩ hM ⟨cB, hts _ hv.1, hts _ hv.2⟩ ⟨pc_blind, hrec, fun U hU2 hW => ⟨rfl, hU.warm hW, by rw [hU2]; exact hP⟩⟩ rfl hn (by rw [← hnL]; exact hl.1) rfl (lv_room hst) hd ⟨by rw [hR]; exact hmc, by rw [hR]; exact hms⟩) hO hl k
theorem r_callS {y : MethodName} {cc' : ByteArray} {nL' np fr' lo' mc' ms' : Nat} {ret : Option FieldType} {As : List Value} {rv : Option Value} (hc : Cx M X own cc) (hr : Rx M fr lo mc ms nL) (hd : Dc cc pc (.invokestatic idx) 3 n) (hlk : Cond.methodLink own idx y ∈ lw_k) (hy : MV0 y cc' nL' ret np) (hv : Cond.static y ∈ lw_k) (hn : As.length = np)
    (hM : MT M.2.1 X y cc' nL' ret fr' lo' mc' ms' As h rv h') (hfr : fr' + 1 ≤ fr) (hlo : 8 + (nL' + 11) + lo' ≤ lo) (hst : (st.map fun v => v.category).sum ≤ 8) (hmc : ce + mc' ≤ mc) (hms : sl + ms' ≤ ms) (k : GG M X h' (ce + mc') (sl + ms') n L (rv.toList ++ st)) : GG M X h ce sl pc L (As.reverse ++ st) := by
  obtain ⟨p, l, e, R, s, m, args, below, meth, c, Q⟩ := M
  obtain ⟨hx, hb, hown, hts, hU, hBs, hOs⟩ := hc
  obtain ⟨hR, hnL⟩ := hr
  obtain ⟨hd, rfl⟩ := hd
  intro H locs ls hP hO hl
  have cB := callB_of (R := R) (rm := { frames := fr', cells := mc', slots := ms', locals := lo' }) (own := own) (index := idx) np hts (lw_goodIn hy.1) rfl rfl rfl (hts _ hy.2.1) (hts _ hlk) hy.2.2 ⟨by rw [hR]; exact hfr, by rw [hR]; exact hlo⟩
  exact r_back (W.runS (Ts := lw_k) ⟨hx, hb, hnL, hown, hts⟩ hM ⟨cB, hts _ hv⟩ ⟨pc_blind, fun U hU2 hW => ⟨rfl, hU.warm hW, by rw [hU2]; exact hP⟩⟩ rfl hn (by rw [← hnL]; exact hl.1) rfl (lv_room hst) hd ⟨by rw [hR]; exact hmc, by rw [hR]; exact hms⟩) hO hl k
theorem r_callI {y : MethodName} {cc' : ByteArray} {nL' np fr' lo' mc' ms' b : Nat} {As : List Value} {rv : Option Value} (hc : Cx M X own cc) (hr : Rx M fr lo mc ms nL) (hd : Dc cc pc (.invokespecial idx) 3 n) (hlk : Cond.methodLink own idx y ∈ lw_k) (hy : MV0 y cc' nL' none np) (hv : Cond.instanceMethod y ∈ lw_k) (hyn : y.name = "<init>") (hn : As.length = np)
    (hM : MT M.2.1 X y cc' nL' none fr' lo' mc' ms' (.ref (X.1 + b) :: As) h rv h') (hfr : fr' + 1 ≤ fr) (hlo : 8 + (nL' + 11) + lo' ≤ lo) (hst : (st.map fun v => v.category).sum ≤ 8) (hmc : ce + mc' ≤ mc) (hms : sl + ms' ≤ ms) (k : GG M X h' (ce + mc') (sl + ms') n L (rv.toList ++ st)) : GG M X h ce sl pc L (As.reverse ++ .ref (X.1 + b) :: st) := by
  obtain ⟨p, l, e, R, s, m, args, below, meth, c, Q⟩ := M
  obtain ⟨hx, hb, hown, hts, hU, hBs, hOs⟩ := hc
  obtain ⟨hR, hnL⟩ := hr
  obtain ⟨hd, rfl⟩ := hd
  intro H locs ls hP hO hl
  have cB := callB_of (R := R) (rm := { frames := fr', cells := mc', slots := ms', locals := lo' }) (own := own) (index := idx) np hts (lw_goodIn hy.1) rfl rfl rfl (hts _ hy.2.1) (hts _ hlk) hy.2.2 ⟨by rw [hR]; exact hfr, by rw [hR]; exact hlo⟩
  exact r_back (W.runI (Ts := lw_k) ⟨hx, hb, hnL, hown, hts⟩ hM ⟨cB, hyn, hts _ hv⟩ ⟨pc_blind, fun U hU2 hW => ⟨rfl, hU.warm hW, by rw [hU2]; exact hP⟩⟩ rfl hn (by rw [← hnL]; exact hl.1) rfl (lv_room hst) hd ⟨by rw [hR]; exact hmc, by rw [hR]; exact hms⟩) hO hl k
theorem r_callSN {y : MethodName} {cc' : ByteArray} {nL' np fr' lo' mc' ms' : Nat} {ret : Option FieldType} {As : List Value} {rv : Option Value} {host : String} (j : Nat) (hj : j < 3) (hc : Cx M X own cc) (hr : Rx M fr lo mc ms nL) (hd : Dc cc pc (.invokestatic idx) 3 n) (hlk : nestW j = Cond.methodLinkNest own idx y host) (hy : MV0 y cc' nL' ret np) (hv : Cond.static y ∈ lw_k) (hn : As.length = np)
    (hM : MT M.2.1 X y cc' nL' ret fr' lo' mc' ms' As h rv h') (hfr : fr' + 1 ≤ fr) (hlo : 8 + (nL' + 11) + lo' ≤ lo) (hst : (st.map fun v => v.category).sum ≤ 8) (hmc : ce + mc' ≤ mc) (hms : sl + ms' ≤ ms) (k : GG M X h' (ce + mc') (sl + ms') n L (rv.toList ++ st)) : GG M X h ce sl pc L (As.reverse ++ st) := by
  obtain ⟨p, l, e, R, s, m, args, below, meth, c, Q⟩ := M
  obtain ⟨hx, hb, hown, hts, hU, hBs, hOs⟩ := hc
  obtain ⟨hR, hnL⟩ := hr
  obtain ⟨hd, rfl⟩ := hd
  intro H locs ls hP hO hl
  have hZ : va_Nw (Cond.methodLinkNest own idx y host) s := hlk ▸ hU.2.2.2.2.2.1 j hj
  have cB := va_cnB (R := R) (rm := { frames := fr', cells := mc', slots := ms', locals := lo' }) np hts (lw_goodIn hy.1) rfl rfl rfl hZ (hts _ hy.2.1) hy.2.2 ⟨by rw [hR]; exact hfr, by rw [hR]; exact hlo⟩
  have hrun := va_runSN (e := e) (below := below) (meth := meth) (locs := locs) (Ts := lw_k) ⟨hx, hb, hnL, hown, hts⟩ hM ⟨cB, hts _ hv, trivial⟩ ⟨pc_blind, fun U hU2 hW => ⟨rfl, hU.warm hW, by rw [hU2]; exact hP⟩⟩ (g := F0 m pc ls (As.reverse ++ st)) rfl hn (by rw [← hnL]; exact hl.1) rfl (lv_room hst) hd ⟨by rw [hR]; exact hmc, by rw [hR]; exact hms⟩
  refine r_back (as := As.toArray) (fun T hT XX => ?_) hO hl k
  obtain ⟨v, st₀, t, T', L1, h0, X', hL, e1, -, hq, step⟩ := hrun T hT XX
  exact ⟨v, st₀, t, T', L1, h0, X', hL, e1, hq, step⟩
theorem r_objinit (hc : Cx M X own cc) (hr : Rx M fr lo mc ms nL) (hd : Dc cc pc (.invokespecial idx) 3 n) (hlk : Cond.methodLink own idx objectInit ∈ lw_k) (hw : Cond.instanceMethod objectInit ∈ lw_k ∧ Cond.code objectInit ⟨#[0xb1]⟩ 1 none ∈ lw_k) (hfr : 1 ≤ fr) (hlo : (st.map fun v => v.category).sum + 12 ≤ lo) {b : Nat} (k : GG M X h ce sl n L st) : GG M X h ce sl pc L (.ref b :: st) := by
  obtain ⟨p, l, e, R, s, m, args, below, meth, c, Q⟩ := M
  obtain ⟨hx, hb, hown, hts, hU, hBs, hOs⟩ := hc
  obtain ⟨hR, hnL⟩ := hr
  obtain ⟨hd, rfl⟩ := hd
  intro H locs ls hP hO hl
  exact W.objInit hx hb hown (hts _ hlk) (hts _ hw.1) (hts _ hw.2) rfl hl.1 rfl hd (by rw [hR]; exact hfr) (by rw [hR]; show 2 * 0 + _ + 12 ≤ lo; omega) (k H locs ls hP hO hl)
/-! ends -/
variable {nm : String} {hz : PH}
theorem r_iret {x x' : Int32} (hc : Cx M X own cc) (he : Ex M X (some .int) nm (some (.int x')) hz mc ms) (hm : ce ≤ mc) (hs : sl ≤ ms) (hd : Dc cc pc .ireturn 1 n) (hf : some (x, h) = some (x', hz)) : GG M X h ce sl pc L [.int x] := by
  cases hf
  obtain ⟨p, l, e, R, s, m, args, below, meth, c, Q⟩ := M
  obtain ⟨hx, hb, hown, hts, hU, hBs, hOs⟩ := hc
  obtain ⟨rfl, hlocks, hret, -⟩ := he
  obtain ⟨hd, -⟩ := hd
  intro H locs ls hP hO hl
  exact W.widen hm hs (W.iret hx hb hret (fun t ht _ => ⟨rfl, by rw [ht]; exact hP⟩) hO hd hlocks)
def rZ (x : Int32) (h : PH) : Option (Int32 × PH) := if x = 0 ∨ x = 1 then some (x, h) else none
theorem r_zret {x x' : Int32} (hc : Cx M X own cc) (he : Ex M X (some .boolean) nm (some (.int x')) hz mc ms) (hm : ce ≤ mc) (hs : sl ≤ ms) (hd : Dc cc pc .ireturn 1 n) (hf : rZ x h = some (x', hz)) : GG M X h ce sl pc L [.int x] := by
  unfold rZ at hf
  split at hf
  · rename_i h01
    cases hf
    obtain ⟨p, l, e, R, s, m, args, below, meth, c, Q⟩ := M
    obtain ⟨hx, hb, hown, hts, hU, hBs, hOs⟩ := hc
    obtain ⟨rfl, hlocks, hret, -⟩ := he
    obtain ⟨hd, -⟩ := hd
    intro H locs ls hP hO hl
    exact W.widen hm hs (W.zret hx hb hret (by rcases h01 with rfl | rfl <;> rfl) (fun t ht _ => ⟨rfl, by rw [ht]; exact hP⟩) hO hd hlocks)
  · cases hf
theorem r_lret {x x' : Int64} (hc : Cx M X own cc) (he : Ex M X (some .long) nm (some (.long x')) hz mc ms) (hm : ce ≤ mc) (hs : sl ≤ ms) (hd : Dc cc pc .lreturn 1 n) (hf : some (x, h) = some (x', hz)) : GG M X h ce sl pc L [.long x] := by
  cases hf
  obtain ⟨p, l, e, R, s, m, args, below, meth, c, Q⟩ := M
  obtain ⟨hx, hb, hown, hts, hU, hBs, hOs⟩ := hc
  obtain ⟨rfl, hlocks, hret, -⟩ := he
  obtain ⟨hd, -⟩ := hd
  intro H locs ls hP hO hl
  exact W.widen hm hs (W.lret hx hb hret (fun t ht _ => ⟨rfl, by rw [ht]; exact hP⟩) hO hd hlocks)
theorem r_vret (hc : Cx M X own cc) (he : Ex M X none nm none hz mc ms) (hm : ce ≤ mc) (hs : sl ≤ ms) (hd : Dc cc pc .return_ 1 n) {u : Unit} (hf : some ((), h) = some (u, hz)) : GG M X h ce sl pc L [] := by
  cases hf
  obtain ⟨p, l, e, R, s, m, args, below, meth, c, Q⟩ := M
  obtain ⟨hx, hb, hown, hts, hU, hBs, hOs⟩ := hc
  obtain ⟨rfl, hlocks, hret, -⟩ := he
  obtain ⟨hd, -⟩ := hd
  intro H locs ls hP hO hl
  exact W.widen hm hs (W.vret hx hb hret (fun t ht _ => ⟨rfl, by rw [ht]; exact hP⟩) hO hd hlocks)
theorem r_aret {x x' : Nat} {rt : FieldType} (hc : Cx M X own cc) (he : Ex M X (some rt) nm (some (.ref (X.1 + x'))) hz mc ms) (hrt : (∃ n, rt = .object n) ∨ ∃ t, rt = .array t) (hm : ce ≤ mc) (hs : sl ≤ ms) (hd : Dc cc pc .areturn 1 n) (hf : some (x, h) = some (x', hz)) : GG M X h ce sl pc L [.ref (X.1 + x)] := by
  cases hf
  obtain ⟨p, l, e, R, s, m, args, below, meth, c, Q⟩ := M
  obtain ⟨hx, hb, hown, hts, hU, hBs, hOs⟩ := hc
  obtain ⟨rfl, hlocks, hret, -⟩ := he
  obtain ⟨hd, -⟩ := hd
  intro H locs ls hP hO hl
  exact W.widen hm hs (W.aret hx hb hret hrt (Or.inr ⟨_, rfl⟩) (fun t ht _ => ⟨rfl, by rw [ht]; exact hP⟩) hO hd hlocks)
end RC
/-- a contract out of a walk from the method's entry -/
theorem MT.of {l : Launch} {X : XT} {y : MethodName} {cc : ByteArray} {nL : Nat} {ret : Option FieldType} {fr lo mc ms : Nat} {as : List Value} {h : PH} {rv : Option Value} {h' : PH} (hy : plainName y.cls = true) (hlen : (lg_sl as).length ≤ nL)
    (body : ∀ M : MV, M.2.1 = l → Cx M X y.cls cc → Rx M fr lo mc ms nL → Ex M X ret y.name rv h' mc ms → GG M X h 0 0 0 (lv_args 0 as) []) : MT l X y cc nL ret fr lo mc ms as h rv h' := by
  refine Met.ofW (cc := cc) (maxL := nL) (ret := ret) hy rfl ?_
  intro p e s m args below meth c s₁ B hml hv
  obtain ⟨rfl, hU, hP⟩ := hv
  have hts := atoms_spec (ws := Cond.code y cc nL ret :: lw_k) B.pre
  have hown : s.vm.findClass y.cls = some m.cls := findClass_of_methodNamed B.named
  have hnm : meth.name = y.name := (name_of_methodNamed B.named B.method).1
  have hl := lv_entry as (n := nL) hlen
  rw [lg_entry_eq]
  have k := body (p, l, e, { frames := fr, cells := mc, slots := ms, locals := lo }, s, m, as.toArray, below, meth, c, MQ below (QP X rv h') as.toArray s mc ms (fun q => X.1 ≤ q)) rfl
    ⟨B.exec, B.bytes, hown, fun w hw => hts w (List.mem_cons_of_mem _ hw), hU, by rw [hP.1]; exact Nat.le_add_right _ _, hP.2.2.1⟩ ⟨rfl, hml⟩ ⟨rfl, B.notSynchronized, B.returns, hnm⟩
  exact k s.heap [] _ hP (fun q hq => by cases hq) (by rw [hml]; exact hl)
section RD
variable {M : MV} {X : XT} {own : String} {cc : ByteArray} {h : PH} {ce sl pc n : Nat} {L : List (Nat × Value)} {mc ms : Nat} {nm : String}
/-- the same for a method that changes nothing: its pure function answers the value alone -/
theorem r_iretP {x x' : Int32} (hc : Cx M X own cc) (he : Ex M X (some .int) nm (some (.int x')) h mc ms) (hm : ce ≤ mc) (hs : sl ≤ ms) (hd : Dc cc pc .ireturn 1 n) (hf : some x = some x') : GG M X h ce sl pc L [.int x] := r_iret hc he hm hs hd (by cases hf; rfl)
def rZP (x : Int32) : Option Int32 := if x = 0 ∨ x = 1 then some x else none
theorem r_zretP {x x' : Int32} (hc : Cx M X own cc) (he : Ex M X (some .boolean) nm (some (.int x')) h mc ms) (hm : ce ≤ mc) (hs : sl ≤ ms) (hd : Dc cc pc .ireturn 1 n) (hf : rZP x = some x') : GG M X h ce sl pc L [.int x] := r_zret hc he hm hs hd (by
  unfold rZP at hf
  unfold rZ
  split at hf
  · rename_i q; cases hf; rw [if_pos q]
  · cases hf)
theorem r_lretP {x x' : Int64} (hc : Cx M X own cc) (he : Ex M X (some .long) nm (some (.long x')) h mc ms) (hm : ce ≤ mc) (hs : sl ≤ ms) (hd : Dc cc pc .lreturn 1 n) (hf : some x = some x') : GG M X h ce sl pc L [.long x] := r_lret hc he hm hs hd (by cases hf; rfl)
end RD
section RE
variable {M : MV} {X : XT} {own : String} {cc : ByteArray} {h h' : PH} {ce sl pc n : Nat} {L : List (Nat × Value)} {st : List Value} {α : Type} {r : α} {idx ci k0 a : Nat} {fr lo mc ms nL : Nat}
theorem r_newN {N : Nat} {dfs : List Value} {g : Nat → PH → Option α} (hc : Cx M X own cc) (hr : Rx M fr lo mc ms nL) (hd : Dc cc pc (.new idx) 3 n) (hl : NW own idx ci N dfs) (hm : ce + 1 ≤ mc) (hs : sl + N ≤ ms) (hf : bindv h.length (fun a => bindv (h ++ [.inr (ci, dfs)]) (fun h' => g a h')) = some r) (k : ∀ (a : Nat) (h' : PH), g a h' = some r → GG M X h' (ce + 1) (sl + N) n L (.ref (X.1 + a) :: st)) : GG M X h ce sl pc L st :=
  r_new (f := fun _ => none) (g := g) (α := α) hc hr hd hl hm hs (k _ _ hf)
theorem r_newarrN {t N : Nat} {at0 : ArrayType} {x : Int32} {ty : FieldType} {a0 : vp_A} {g : Nat → PH → Option α} (hc : Cx M X own cc) (hr : Rx M fr lo mc ms nL) (hd : Dc cc pc (.newarray at0) 2 n) (hw : Cond.arrayClass (newarray.typeOf at0) ∈ lw_k) (hty : newarray.typeOf at0 = ty) (hra : ∀ (U : State) (cA : ClassId), va_RA U cA ty → U.vm.findClass ("[" ++ ty.toString) = some cA) (htt : (tysOf X.2.2.1)[t]? = some (X.2.2.1 t, ty)) (ha0 : ∀ cA : ClassId, vp_cell cA (cvA X.1 a0) = arrV cA N (fun _ => defaultValue ty)) (hx0 : ¬ x < 0) (hxN : x.toNatClampNeg = N) (hby : N * componentBytes ty ≤ 536870912) (hm : ce + 1 ≤ mc) (hs : sl + N ≤ ms) (hf : bindv h.length (fun a => bindv (h ++ [.inl (t, a0)]) (fun h' => g a h')) = some r) (k : ∀ (a : Nat) (h' : PH), g a h' = some r → GG M X h' (ce + 1) (sl + N) n L (.ref (X.1 + a) :: st)) : GG M X h ce sl pc L (.int x :: st) :=
  r_newarr hc hr hd hw hty hra htt ha0 hx0 hxN hby hm hs (k _ _ hf)
theorem r_anewarrN {t N : Nat} {C : String} {x : Int32} {g : Nat → PH → Option α} (hc : Cx M X own cc) (hr : Rx M fr lo mc ms nL) (hd : Dc cc pc (.anewarray idx) 3 n) (hw : Cond.classLink own idx C ∈ lw_k) (hao : ∀ U : State, UX X U → va_AO C U) (htt : (tysOf X.2.2.1)[t]? = some (X.2.2.1 t, .object C)) (hx0 : ¬ x < 0) (hxN : x.toNatClampNeg = N) (hby : N * 4 ≤ 536870912) (hm : ce + 1 ≤ mc) (hs : sl + N ≤ ms) (hf : bindv h.length (fun a => bindv (h ++ [.inl (t, N, .inr (.inr (.inr (.inr (fun _ => none)))))]) (fun h' => g a h')) = some r) (k : ∀ (a : Nat) (h' : PH), g a h' = some r → GG M X h' (ce + 1) (sl + N) n L (.ref (X.1 + a) :: st)) : GG M X h ce sl pc L (.int x :: st) :=
  r_anewarr hc hr hd hw hao htt hx0 hxN hby hm hs (k _ _ hf)
end RE
section RG
variable {M : MV} {X : XT} {own : String} {cc : ByteArray} {h h' : PH} {ce sl pc n : Nat} {L : List (Nat × Value)} {st : List Value} {idx ci : Nat} {fr lo mc ms nL : Nat} {y : MethodName} {cc' : ByteArray} {nL' np fr' lo' mc' ms' b : Nat} {ret : Option FieldType} {As : List Value}
theorem r_callVi {x : Int32} {C : String} {T : u_T} {N : Nat} (hc : Cx M X own cc) (hr : Rx M fr lo mc ms nL) (hd : Dc cc pc (.invokevirtual idx) 3 n) (hlk : Cond.methodLink own idx y ∈ lw_k) (hy : MV0 y cc' nL' ret np) (hv : Cond.instanceMethod y ∈ lw_k ∧ Cond.selects C y y ∈ lw_k) (hci : cls[ci]? = some (C, T, N)) (hob : isO ci h b = true) (hn : As.length = np) (hM : MT M.2.1 X y cc' nL' ret fr' lo' 0 0 (.ref (X.1 + b) :: As) h (some (.int x)) h') (hfr : fr' + 1 ≤ fr) (hlo : 8 + (nL' + 11) + lo' ≤ lo) (hst : (st.map fun v => v.category).sum ≤ 8) (hmc : ce ≤ mc) (hms : sl ≤ ms) (k : GG M X h' ce sl n L (.int x :: st)) : GG M X h ce sl pc L (As.reverse ++ .ref (X.1 + b) :: st) := r_callV hc hr hd hlk hy hv hci hob hn hM hfr hlo hst hmc hms k
theorem r_callSi {x : Int32} (hc : Cx M X own cc) (hr : Rx M fr lo mc ms nL) (hd : Dc cc pc (.invokestatic idx) 3 n) (hlk : Cond.methodLink own idx y ∈ lw_k) (hy : MV0 y cc' nL' ret np) (hv : Cond.static y ∈ lw_k) (hn : As.length = np) (hM : MT M.2.1 X y cc' nL' ret fr' lo' 0 0 As h (some (.int x)) h') (hfr : fr' + 1 ≤ fr) (hlo : 8 + (nL' + 11) + lo' ≤ lo) (hst : (st.map fun v => v.category).sum ≤ 8) (hmc : ce ≤ mc) (hms : sl ≤ ms) (k : GG M X h' ce sl n L (.int x :: st)) : GG M X h ce sl pc L (As.reverse ++ st) := r_callS hc hr hd hlk hy hv hn hM hfr hlo hst hmc hms k
theorem r_callSNi {x : Int32} {host : String} (j : Nat) (hj : j < 3) (hc : Cx M X own cc) (hr : Rx M fr lo mc ms nL) (hd : Dc cc pc (.invokestatic idx) 3 n) (hlk : nestW j = Cond.methodLinkNest own idx y host) (hy : MV0 y cc' nL' ret np) (hv : Cond.static y ∈ lw_k) (hn : As.length = np) (hM : MT M.2.1 X y cc' nL' ret fr' lo' 0 0 As h (some (.int x)) h') (hfr : fr' + 1 ≤ fr) (hlo : 8 + (nL' + 11) + lo' ≤ lo) (hst : (st.map fun v => v.category).sum ≤ 8) (hmc : ce ≤ mc) (hms : sl ≤ ms) (k : GG M X h' ce sl n L (.int x :: st)) : GG M X h ce sl pc L (As.reverse ++ st) := r_callSN j hj hc hr hd hlk hy hv hn hM hfr hlo hst hmc hms k
theorem r_callViC {x : Int32} {C : String} {T : u_T} {N : Nat} (hc : Cx M X own cc) (hr : Rx M fr lo mc ms nL) (hd : Dc cc pc (.invokevirtual idx) 3 n) (hlk : Cond.methodLink own idx y ∈ lw_k) (hy : MV0 y cc' nL' ret np) (hv : Cond.instanceMethod y ∈ lw_k ∧ Cond.selects C y y ∈ lw_k) (hci : cls[ci]? = some (C, T, N)) (hob : isO ci h b = true) (hn : As.length = np) (hM : MT M.2.1 X y cc' nL' ret fr' lo' mc' ms' (.ref (X.1 + b) :: As) h (some (.int x)) h') (hfr : fr' + 1 ≤ fr) (hlo : 8 + (nL' + 11) + lo' ≤ lo) (hst : (st.map fun v => v.category).sum ≤ 8) (hmc : ce + mc' ≤ mc) (hms : sl + ms' ≤ ms) (k : GG M X h' (ce + mc') (sl + ms') n L (.int x :: st)) : GG M X h ce sl pc L (As.reverse ++ .ref (X.1 + b) :: st) := r_callV hc hr hd hlk hy hv hci hob hn hM hfr hlo hst hmc hms k
theorem r_callSiC {x : Int32} (hc : Cx M X own cc) (hr : Rx M fr lo mc ms nL) (hd : Dc cc pc (.invokestatic idx) 3 n) (hlk : Cond.methodLink own idx y ∈ lw_k) (hy : MV0 y cc' nL' ret np) (hv : Cond.static y ∈ lw_k) (hn : As.length = np) (hM : MT M.2.1 X y cc' nL' ret fr' lo' mc' ms' As h (some (.int x)) h') (hfr : fr' + 1 ≤ fr) (hlo : 8 + (nL' + 11) + lo' ≤ lo) (hst : (st.map fun v => v.category).sum ≤ 8) (hmc : ce + mc' ≤ mc) (hms : sl + ms' ≤ ms) (k : GG M X h' (ce + mc') (sl + ms') n L (.int x :: st)) : GG M X h ce sl pc L (As.reverse ++ st) := r_callS hc hr hd hlk hy hv hn hM hfr hlo hst hmc hms k
theorem r_callSNiC {x : Int32} {host : String} (j : Nat) (hj : j < 3) (hc : Cx M X own cc) (hr : Rx M fr lo mc ms nL) (hd : Dc cc pc (.invokestatic idx) 3 n) (hlk : nestW j = Cond.methodLinkNest own idx y host) (hy : MV0 y cc' nL' ret np) (hv : Cond.static y ∈ lw_k) (hn : As.length = np) (hM : MT M.2.1 X y cc' nL' ret fr' lo' mc' ms' As h (some (.int x)) h') (hfr : fr' + 1 ≤ fr) (hlo : 8 + (nL' + 11) + lo' ≤ lo) (hst : (st.map fun v => v.category).sum ≤ 8) (hmc : ce + mc' ≤ mc) (hms : sl + ms' ≤ ms) (k : GG M X h' (ce + mc') (sl + ms') n L (.int x :: st)) : GG M X h ce sl pc L (As.reverse ++ st) := r_callSN j hj hc hr hd hlk hy hv hn hM hfr hlo hst hmc hms k
theorem r_callVl {x : Int64} {C : String} {T : u_T} {N : Nat} (hc : Cx M X own cc) (hr : Rx M fr lo mc ms nL) (hd : Dc cc pc (.invokevirtual idx) 3 n) (hlk : Cond.methodLink own idx y ∈ lw_k) (hy : MV0 y cc' nL' ret np) (hv : Cond.instanceMethod y ∈ lw_k ∧ Cond.selects C y y ∈ lw_k) (hci : cls[ci]? = some (C, T, N)) (hob : isO ci h b = true) (hn : As.length = np) (hM : MT M.2.1 X y cc' nL' ret fr' lo' 0 0 (.ref (X.1 + b) :: As) h (some (.long x)) h') (hfr : fr' + 1 ≤ fr) (hlo : 8 + (nL' + 11) + lo' ≤ lo) (hst : (st.map fun v => v.category).sum ≤ 8) (hmc : ce ≤ mc) (hms : sl ≤ ms) (k : GG M X h' ce sl n L (.long x :: st)) : GG M X h ce sl pc L (As.reverse ++ .ref (X.1 + b) :: st) := r_callV hc hr hd hlk hy hv hci hob hn hM hfr hlo hst hmc hms k
theorem r_callSl {x : Int64} (hc : Cx M X own cc) (hr : Rx M fr lo mc ms nL) (hd : Dc cc pc (.invokestatic idx) 3 n) (hlk : Cond.methodLink own idx y ∈ lw_k) (hy : MV0 y cc' nL' ret np) (hv : Cond.static y ∈ lw_k) (hn : As.length = np) (hM : MT M.2.1 X y cc' nL' ret fr' lo' 0 0 As h (some (.long x)) h') (hfr : fr' + 1 ≤ fr) (hlo : 8 + (nL' + 11) + lo' ≤ lo) (hst : (st.map fun v => v.category).sum ≤ 8) (hmc : ce ≤ mc) (hms : sl ≤ ms) (k : GG M X h' ce sl n L (.long x :: st)) : GG M X h ce sl pc L (As.reverse ++ st) := r_callS hc hr hd hlk hy hv hn hM hfr hlo hst hmc hms k
theorem r_callSNl {x : Int64} {host : String} (j : Nat) (hj : j < 3) (hc : Cx M X own cc) (hr : Rx M fr lo mc ms nL) (hd : Dc cc pc (.invokestatic idx) 3 n) (hlk : nestW j = Cond.methodLinkNest own idx y host) (hy : MV0 y cc' nL' ret np) (hv : Cond.static y ∈ lw_k) (hn : As.length = np) (hM : MT M.2.1 X y cc' nL' ret fr' lo' 0 0 As h (some (.long x)) h') (hfr : fr' + 1 ≤ fr) (hlo : 8 + (nL' + 11) + lo' ≤ lo) (hst : (st.map fun v => v.category).sum ≤ 8) (hmc : ce ≤ mc) (hms : sl ≤ ms) (k : GG M X h' ce sl n L (.long x :: st)) : GG M X h ce sl pc L (As.reverse ++ st) := r_callSN j hj hc hr hd hlk hy hv hn hM hfr hlo hst hmc hms k
theorem r_callVlC {x : Int64} {C : String} {T : u_T} {N : Nat} (hc : Cx M X own cc) (hr : Rx M fr lo mc ms nL) (hd : Dc cc pc (.invokevirtual idx) 3 n) (hlk : Cond.methodLink own idx y ∈ lw_k) (hy : MV0 y cc' nL' ret np) (hv : Cond.instanceMethod y ∈ lw_k ∧ Cond.selects C y y ∈ lw_k) (hci : cls[ci]? = some (C, T, N)) (hob : isO ci h b = true) (hn : As.length = np) (hM : MT M.2.1 X y cc' nL' ret fr' lo' mc' ms' (.ref (X.1 + b) :: As) h (some (.long x)) h') (hfr : fr' + 1 ≤ fr) (hlo : 8 + (nL' + 11) + lo' ≤ lo) (hst : (st.map fun v => v.category).sum ≤ 8) (hmc : ce + mc' ≤ mc) (hms : sl + ms' ≤ ms) (k : GG M X h' (ce + mc') (sl + ms') n L (.long x :: st)) : GG M X h ce sl pc L (As.reverse ++ .ref (X.1 + b) :: st) := r_callV hc hr hd hlk hy hv hci hob hn hM hfr hlo hst hmc hms k
theorem r_callSlC {x : Int64} (hc : Cx M X own cc) (hr : Rx M fr lo mc ms nL) (hd : Dc cc pc (.invokestatic idx) 3 n) (hlk : Cond.methodLink own idx y ∈ lw_k) (hy : MV0 y cc' nL' ret np) (hv : Cond.static y ∈ lw_k) (hn : As.length = np) (hM : MT M.2.1 X y cc' nL' ret fr' lo' mc' ms' As h (some (.long x)) h') (hfr : fr' + 1 ≤ fr) (hlo : 8 + (nL' + 11) + lo' ≤ lo) (hst : (st.map fun v => v.category).sum ≤ 8) (hmc : ce + mc' ≤ mc) (hms : sl + ms' ≤ ms) (k : GG M X h' (ce + mc') (sl + ms') n L (.long x :: st)) : GG M X h ce sl pc L (As.reverse ++ st) := r_callS hc hr hd hlk hy hv hn hM hfr hlo hst hmc hms k
theorem r_callSNlC {x : Int64} {host : String} (j : Nat) (hj : j < 3) (hc : Cx M X own cc) (hr : Rx M fr lo mc ms nL) (hd : Dc cc pc (.invokestatic idx) 3 n) (hlk : nestW j = Cond.methodLinkNest own idx y host) (hy : MV0 y cc' nL' ret np) (hv : Cond.static y ∈ lw_k) (hn : As.length = np) (hM : MT M.2.1 X y cc' nL' ret fr' lo' mc' ms' As h (some (.long x)) h') (hfr : fr' + 1 ≤ fr) (hlo : 8 + (nL' + 11) + lo' ≤ lo) (hst : (st.map fun v => v.category).sum ≤ 8) (hmc : ce + mc' ≤ mc) (hms : sl + ms' ≤ ms) (k : GG M X h' (ce + mc') (sl + ms') n L (.long x :: st)) : GG M X h ce sl pc L (As.reverse ++ st) := r_callSN j hj hc hr hd hlk hy hv hn hM hfr hlo hst hmc hms k
theorem r_callVv  {C : String} {T : u_T} {N : Nat} (hc : Cx M X own cc) (hr : Rx M fr lo mc ms nL) (hd : Dc cc pc (.invokevirtual idx) 3 n) (hlk : Cond.methodLink own idx y ∈ lw_k) (hy : MV0 y cc' nL' ret np) (hv : Cond.instanceMethod y ∈ lw_k ∧ Cond.selects C y y ∈ lw_k) (hci : cls[ci]? = some (C, T, N)) (hob : isO ci h b = true) (hn : As.length = np) (hM : MT M.2.1 X y cc' nL' ret fr' lo' 0 0 (.ref (X.1 + b) :: As) h (none) h') (hfr : fr' + 1 ≤ fr) (hlo : 8 + (nL' + 11) + lo' ≤ lo) (hst : (st.map fun v => v.category).sum ≤ 8) (hmc : ce ≤ mc) (hms : sl ≤ ms) (k : GG M X h' ce sl n L (st)) : GG M X h ce sl pc L (As.reverse ++ .ref (X.1 + b) :: st) := r_callV hc hr hd hlk hy hv hci hob hn hM hfr hlo hst hmc hms k
theorem r_callSv  (hc : Cx M X own cc) (hr : Rx M fr lo mc ms nL) (hd : Dc cc pc (.invokestatic idx) 3 n) (hlk : Cond.methodLink own idx y ∈ lw_k) (hy : MV0 y cc' nL' ret np) (hv : Cond.static y ∈ lw_k) (hn : As.length = np) (hM : MT M.2.1 X y cc' nL' ret fr' lo' 0 0 As h (none) h') (hfr : fr' + 1 ≤ fr) (hlo : 8 + (nL' + 11) + lo' ≤ lo) (hst : (st.map fun v => v.category).sum ≤ 8) (hmc : ce ≤ mc) (hms : sl ≤ ms) (k : GG M X h' ce sl n L (st)) : GG M X h ce sl pc L (As.reverse ++ st) := r_callS hc hr hd hlk hy hv hn hM hfr hlo hst hmc hms k
theorem r_callSNv  {host : String} (j : Nat) (hj : j < 3) (hc : Cx M X own cc) (hr : Rx M fr lo mc ms nL) (hd : Dc cc pc (.invokestatic idx) 3 n) (hlk : nestW j = Cond.methodLinkNest own idx y host) (hy : MV0 y cc' nL' ret np) (hv : Cond.static y ∈ lw_k) (hn : As.length = np) (hM : MT M.2.1 X y cc' nL' ret fr' lo' 0 0 As h (none) h') (hfr : fr' + 1 ≤ fr) (hlo : 8 + (nL' + 11) + lo' ≤ lo) (hst : (st.map fun v => v.category).sum ≤ 8) (hmc : ce ≤ mc) (hms : sl ≤ ms) (k : GG M X h' ce sl n L (st)) : GG M X h ce sl pc L (As.reverse ++ st) := r_callSN j hj hc hr hd hlk hy hv hn hM hfr hlo hst hmc hms k
theorem r_callI0 (hc : Cx M X own cc) (hr : Rx M fr lo mc ms nL) (hd : Dc cc pc (.invokespecial idx) 3 n) (hlk : Cond.methodLink own idx y ∈ lw_k) (hy : MV0 y cc' nL' none np) (hv : Cond.instanceMethod y ∈ lw_k) (hyn : y.name = "<init>") (hn : As.length = np) (hM : MT M.2.1 X y cc' nL' none fr' lo' 0 0 (.ref (X.1 + b) :: As) h (none) h') (hfr : fr' + 1 ≤ fr) (hlo : 8 + (nL' + 11) + lo' ≤ lo) (hst : (st.map fun v => v.category).sum ≤ 8) (hmc : ce ≤ mc) (hms : sl ≤ ms) (k : GG M X h' ce sl n L (st)) : GG M X h ce sl pc L (As.reverse ++ .ref (X.1 + b) :: st) := r_callI hc hr hd hlk hy hv hyn hn hM hfr hlo hst hmc hms k
theorem r_callVvC  {C : String} {T : u_T} {N : Nat} (hc : Cx M X own cc) (hr : Rx M fr lo mc ms nL) (hd : Dc cc pc (.invokevirtual idx) 3 n) (hlk : Cond.methodLink own idx y ∈ lw_k) (hy : MV0 y cc' nL' ret np) (hv : Cond.instanceMethod y ∈ lw_k ∧ Cond.selects C y y ∈ lw_k) (hci : cls[ci]? = some (C, T, N)) (hob : isO ci h b = true) (hn : As.length = np) (hM : MT M.2.1 X y cc' nL' ret fr' lo' mc' ms' (.ref (X.1 + b) :: As) h (none) h') (hfr : fr' + 1 ≤ fr) (hlo : 8 + (nL' + 11) + lo' ≤ lo) (hst : (st.map fun v => v.category).sum ≤ 8) (hmc : ce + mc' ≤ mc) (hms : sl + ms' ≤ ms) (k : GG M X h' (ce + mc') (sl + ms') n L (st)) : GG M X h ce sl pc L (As.reverse ++ .ref (X.1 + b) :: st) := r_callV hc hr hd hlk hy hv hci hob hn hM hfr hlo hst hmc hms k
theorem r_callSvC  (hc : Cx M X own cc) (hr : Rx M fr lo mc ms nL) (hd : Dc cc pc (.invokestatic idx) 3 n) (hlk : Cond.methodLink own idx y ∈ lw_k) (hy : MV0 y cc' nL' ret np) (hv : Cond.static y ∈ lw_k) (hn : As.length = np) (hM : MT M.2.1 X y cc' nL' ret fr' lo' mc' ms' As h (none) h') (hfr : fr' + 1 ≤ fr) (hlo : 8 + (nL' + 11) + lo' ≤ lo) (hst : (st.map fun v => v.category).sum ≤ 8) (hmc : ce + mc' ≤ mc) (hms : sl + ms' ≤ ms) (k : GG M X h' (ce + mc') (sl + ms') n L (st)) : GG M X h ce sl pc L (As.reverse ++ st) := r_callS hc hr hd hlk hy hv hn hM hfr hlo hst hmc hms k
theorem r_callSNvC  {host : String} (j : Nat) (hj : j < 3) (hc : Cx M X own cc) (hr : Rx M fr lo mc ms nL) (hd : Dc cc pc (.invokestatic idx) 3 n) (hlk : nestW j = Cond.methodLinkNest own idx y host) (hy : MV0 y cc' nL' ret np) (hv : Cond.static y ∈ lw_k) (hn : As.length = np) (hM : MT M.2.1 X y cc' nL' ret fr' lo' mc' ms' As h (none) h') (hfr : fr' + 1 ≤ fr) (hlo : 8 + (nL' + 11) + lo' ≤ lo) (hst : (st.map fun v => v.category).sum ≤ 8) (hmc : ce + mc' ≤ mc) (hms : sl + ms' ≤ ms) (k : GG M X h' (ce + mc') (sl + ms') n L (st)) : GG M X h ce sl pc L (As.reverse ++ st) := r_callSN j hj hc hr hd hlk hy hv hn hM hfr hlo hst hmc hms k
theorem r_callIC (hc : Cx M X own cc) (hr : Rx M fr lo mc ms nL) (hd : Dc cc pc (.invokespecial idx) 3 n) (hlk : Cond.methodLink own idx y ∈ lw_k) (hy : MV0 y cc' nL' none np) (hv : Cond.instanceMethod y ∈ lw_k) (hyn : y.name = "<init>") (hn : As.length = np) (hM : MT M.2.1 X y cc' nL' none fr' lo' mc' ms' (.ref (X.1 + b) :: As) h (none) h') (hfr : fr' + 1 ≤ fr) (hlo : 8 + (nL' + 11) + lo' ≤ lo) (hst : (st.map fun v => v.category).sum ≤ 8) (hmc : ce + mc' ≤ mc) (hms : sl + ms' ≤ ms) (k : GG M X h' (ce + mc') (sl + ms') n L (st)) : GG M X h ce sl pc L (As.reverse ++ .ref (X.1 + b) :: st) := r_callI hc hr hd hlk hy hv hyn hn hM hfr hlo hst hmc hms k
theorem r_callVr {x : Nat} {C : String} {T : u_T} {N : Nat} (hc : Cx M X own cc) (hr : Rx M fr lo mc ms nL) (hd : Dc cc pc (.invokevirtual idx) 3 n) (hlk : Cond.methodLink own idx y ∈ lw_k) (hy : MV0 y cc' nL' ret np) (hv : Cond.instanceMethod y ∈ lw_k ∧ Cond.selects C y y ∈ lw_k) (hci : cls[ci]? = some (C, T, N)) (hob : isO ci h b = true) (hn : As.length = np) (hM : MT M.2.1 X y cc' nL' ret fr' lo' 0 0 (.ref (X.1 + b) :: As) h (some (.ref (X.1 + x))) h') (hfr : fr' + 1 ≤ fr) (hlo : 8 + (nL' + 11) + lo' ≤ lo) (hst : (st.map fun v => v.category).sum ≤ 8) (hmc : ce ≤ mc) (hms : sl ≤ ms) (k : GG M X h' ce sl n L (.ref (X.1 + x) :: st)) : GG M X h ce sl pc L (As.reverse ++ .ref (X.1 + b) :: st) := r_callV hc hr hd hlk hy hv hci hob hn hM hfr hlo hst hmc hms k
theorem r_callSr {x : Nat} (hc : Cx M X own cc) (hr : Rx M fr lo mc ms nL) (hd : Dc cc pc (.invokestatic idx) 3 n) (hlk : Cond.methodLink own idx y ∈ lw_k) (hy : MV0 y cc' nL' ret np) (hv : Cond.static y ∈ lw_k) (hn : As.length = np) (hM : MT M.2.1 X y cc' nL' ret fr' lo' 0 0 As h (some (.ref (X.1 + x))) h') (hfr : fr' + 1 ≤ fr) (hlo : 8 + (nL' + 11) + lo' ≤ lo) (hst : (st.map fun v => v.category).sum ≤ 8) (hmc : ce ≤ mc) (hms : sl ≤ ms) (k : GG M X h' ce sl n L (.ref (X.1 + x) :: st)) : GG M X h ce sl pc L (As.reverse ++ st) := r_callS hc hr hd hlk hy hv hn hM hfr hlo hst hmc hms k
theorem r_callSNr {x : Nat} {host : String} (j : Nat) (hj : j < 3) (hc : Cx M X own cc) (hr : Rx M fr lo mc ms nL) (hd : Dc cc pc (.invokestatic idx) 3 n) (hlk : nestW j = Cond.methodLinkNest own idx y host) (hy : MV0 y cc' nL' ret np) (hv : Cond.static y ∈ lw_k) (hn : As.length = np) (hM : MT M.2.1 X y cc' nL' ret fr' lo' 0 0 As h (some (.ref (X.1 + x))) h') (hfr : fr' + 1 ≤ fr) (hlo : 8 + (nL' + 11) + lo' ≤ lo) (hst : (st.map fun v => v.category).sum ≤ 8) (hmc : ce ≤ mc) (hms : sl ≤ ms) (k : GG M X h' ce sl n L (.ref (X.1 + x) :: st)) : GG M X h ce sl pc L (As.reverse ++ st) := r_callSN j hj hc hr hd hlk hy hv hn hM hfr hlo hst hmc hms k
theorem r_callVrC {x : Nat} {C : String} {T : u_T} {N : Nat} (hc : Cx M X own cc) (hr : Rx M fr lo mc ms nL) (hd : Dc cc pc (.invokevirtual idx) 3 n) (hlk : Cond.methodLink own idx y ∈ lw_k) (hy : MV0 y cc' nL' ret np) (hv : Cond.instanceMethod y ∈ lw_k ∧ Cond.selects C y y ∈ lw_k) (hci : cls[ci]? = some (C, T, N)) (hob : isO ci h b = true) (hn : As.length = np) (hM : MT M.2.1 X y cc' nL' ret fr' lo' mc' ms' (.ref (X.1 + b) :: As) h (some (.ref (X.1 + x))) h') (hfr : fr' + 1 ≤ fr) (hlo : 8 + (nL' + 11) + lo' ≤ lo) (hst : (st.map fun v => v.category).sum ≤ 8) (hmc : ce + mc' ≤ mc) (hms : sl + ms' ≤ ms) (k : GG M X h' (ce + mc') (sl + ms') n L (.ref (X.1 + x) :: st)) : GG M X h ce sl pc L (As.reverse ++ .ref (X.1 + b) :: st) := r_callV hc hr hd hlk hy hv hci hob hn hM hfr hlo hst hmc hms k
theorem r_callSrC {x : Nat} (hc : Cx M X own cc) (hr : Rx M fr lo mc ms nL) (hd : Dc cc pc (.invokestatic idx) 3 n) (hlk : Cond.methodLink own idx y ∈ lw_k) (hy : MV0 y cc' nL' ret np) (hv : Cond.static y ∈ lw_k) (hn : As.length = np) (hM : MT M.2.1 X y cc' nL' ret fr' lo' mc' ms' As h (some (.ref (X.1 + x))) h') (hfr : fr' + 1 ≤ fr) (hlo : 8 + (nL' + 11) + lo' ≤ lo) (hst : (st.map fun v => v.category).sum ≤ 8) (hmc : ce + mc' ≤ mc) (hms : sl + ms' ≤ ms) (k : GG M X h' (ce + mc') (sl + ms') n L (.ref (X.1 + x) :: st)) : GG M X h ce sl pc L (As.reverse ++ st) := r_callS hc hr hd hlk hy hv hn hM hfr hlo hst hmc hms k
theorem r_callSNrC {x : Nat} {host : String} (j : Nat) (hj : j < 3) (hc : Cx M X own cc) (hr : Rx M fr lo mc ms nL) (hd : Dc cc pc (.invokestatic idx) 3 n) (hlk : nestW j = Cond.methodLinkNest own idx y host) (hy : MV0 y cc' nL' ret np) (hv : Cond.static y ∈ lw_k) (hn : As.length = np) (hM : MT M.2.1 X y cc' nL' ret fr' lo' mc' ms' As h (some (.ref (X.1 + x))) h') (hfr : fr' + 1 ≤ fr) (hlo : 8 + (nL' + 11) + lo' ≤ lo) (hst : (st.map fun v => v.category).sum ≤ 8) (hmc : ce + mc' ≤ mc) (hms : sl + ms' ≤ ms) (k : GG M X h' (ce + mc') (sl + ms') n L (.ref (X.1 + x) :: st)) : GG M X h ce sl pc L (As.reverse ++ st) := r_callSN j hj hc hr hd hlk hy hv hn hM hfr hlo hst hmc hms k
end RG
theorem r_getRe {M : MV} {X : XT} {own : String} {cc : ByteArray} {h : PH} {ce sl pc n : Nat} {L : List (Nat × Value)} {st : List Value} {α : Type} {r : α} {idx ci k0 a : Nat} {f : Nat → Option α} (hc : Cx M X own cc) (hd : Dc cc pc (.getfield idx) 3 n) (hl : FL own idx ci k0) (hf : (gR ci k0 h a).bind f = some r) (k : ∀ x, gR ci k0 h a = some x → f x = some r → GG M X h ce sl n L (.ref (X.1 + x) :: st)) : GG M X h ce sl pc L (.ref (X.1 + a) :: st) :=
  ob hf fun x ex hf => r_getV hc hd hl (gR_some ex) (k x ex hf)
