/-! rows that read and write the heap, make cells, call, return -/
def FK (ci : Nat) (C : String) (T : u_T) (N : Nat) : Prop := cls[ci]? = some (C, T, N) ∧ (∀ w ∈ u_ws C T N, w ∈ lw_k) ∧ (∃ ty0 : Nat → FieldType, ∀ k, k < N → parseFieldDescriptor (T k).2.2.1 = some (ty0 k)) ∧ ∀ a, a < N → ∀ b, b < N → a ≠ b → (T a).2.1 ≠ (T b).2.1
def FL (own : String) (idx ci k : Nat) : Prop := ∃ (C : String) (T : u_T) (N : Nat), FK ci C T N ∧ k < N ∧ Cond.fieldLink own idx (T k).1 (T k).2.1 (T k).2.2.1 ∈ lw_k
def FP (own : String) (idx ci k : Nat) (ty : FieldType) (fin : Bool) : Prop := ∃ (C : String) (T : u_T) (N : Nat), FK ci C T N ∧ k < N ∧ Cond.fieldLink own idx (T k).1 (T k).2.1 (T k).2.2.1 ∈ lw_k ∧ parseFieldDescriptor (T k).2.2.1 = some ty ∧ (T k).2.2.2 = fin ∧ (fin = true → (T k).1 = own)
def NW (own : String) (idx ci N : Nat) (dfs : List Value) : Prop := ∃ (C : String) (T : u_T) (ty0 : Nat → FieldType), FK ci C T N ∧ Cond.classLink own idx C ∈ lw_k ∧ Cond.instantiable C N ∈ lw_k ∧ Cond.initialized C ∈ lw_k ∧ (∀ k, k < N → parseFieldDescriptor (T k).2.2.1 = some (ty0 k)) ∧ (∀ j, j < N → defaultValue (ty0 j) = vp_V dfs j) ∧ ∀ B : Nat, dfs.map (cvV B) = dfs
theorem va_P1 {D : va_G} {cl : List vw_C} {q : Nat × va_E} {H : Heap} (h : va_at D cl q H) : va_P D cl [q] H := by
  intro k x hk
  have hz : k < 1 := (List.getElem?_eq_some_iff.mp hk).1
  have : k = 0 := by omega
  subst this
  cases hk
  exact h
section RH
variable {M : MV} {X : XT} {own : String} {cc : ByteArray} {h h' : PH} {ce sl pc n : Nat} {L : List (Nat × Value)} {st : List Value} {α : Type} {r : α} {idx ci k0 a : Nat}
theorem r_getV {v : Value} (hc : Cx M X own cc) (hd : Dc cc pc (.getfield idx) 3 n) (hl : FL own idx ci k0) (hv : gV ci k0 h a = some v) (k : GG M X h ce sl n L (cvV X.1 v :: st)) : GG M X h ce sl pc L (.ref (X.1 + a) :: st) := by
  obtain ⟨p, l, e, R, s, m, args, below, meth, c, Q⟩ := M
  obtain ⟨hx, hb, hown, hts, hU, hBs, hOs⟩ := hc
  obtain ⟨hd, rfl⟩ := hd
  obtain ⟨C, T, N, ⟨hci, hin, -, -⟩, hk, hlk⟩ := hl
  obtain ⟨fs, hh, hv⟩ := gV_some hv
  intro H locs ls hP hO hl
  exact va_get (C := C) (T := T) (N := N) hx hb hts hin hown hU.1 (va_P1 (hP.get hh)) 0 (ci := ci) (fs := fs.map (cvV X.1)) rfl hci k0 hk (hts _ hlk) (fun _ z => z) (v := cvV X.1 v) (by rw [List.getElem?_map, hv]; rfl) hd (k H locs ls hP hO hl)
theorem r_getI {f : Int32 → Option α} (hc : Cx M X own cc) (hd : Dc cc pc (.getfield idx) 3 n) (hl : FL own idx ci k0) (hf : (gI ci k0 h a).bind f = some r) (k : ∀ x, f x = some r → GG M X h ce sl n L (.int x :: st)) : GG M X h ce sl pc L (.ref (X.1 + a) :: st) :=
  ob hf fun x ex hf => r_getV hc hd hl (gI_some ex) (k x hf)
theorem r_getL {f : Int64 → Option α} (hc : Cx M X own cc) (hd : Dc cc pc (.getfield idx) 3 n) (hl : FL own idx ci k0) (hf : (gL ci k0 h a).bind f = some r) (k : ∀ x, f x = some r → GG M X h ce sl n L (.long x :: st)) : GG M X h ce sl pc L (.ref (X.1 + a) :: st) :=
  ob hf fun x ex hf => r_getV hc hd hl (gL_some ex) (k x hf)
theorem r_getR {f : Nat → Option α} (hc : Cx M X own cc) (hd : Dc cc pc (.getfield idx) 3 n) (hl : FL own idx ci k0) (hf : (gR ci k0 h a).bind f = some r) (k : ∀ x, f x = some r → GG M X h ce sl n L (.ref (X.1 + x) :: st)) : GG M X h ce sl pc L (.ref (X.1 + a) :: st) :=
  ob hf fun x ex hf => r_getV hc hd hl (gR_some ex) (k x hf)
theorem r_getN {f : Option Nat → Option α} (hc : Cx M X own cc) (hd : Dc cc pc (.getfield idx) 3 n) (hl : FL own idx ci k0) (hf : (gN ci k0 h a).bind f = some r) (k : ∀ x, gN ci k0 h a = some x → f x = some r → GG M X h ce sl n L (va_rf (x.map (fun k => X.1 + k)) :: st)) : GG M X h ce sl pc L (.ref (X.1 + a) :: st) :=
  ob hf fun x ex hf => r_getV hc hd hl (gN_some ex) (by
    have := k x ex hf
    cases x <;> exact this)
theorem r_putV {ty : FieldType} {fin : Bool} {v : Value} {ret : Option FieldType} {nm : String} {rv : Option Value} {hz : PH} {mc ms : Nat} (hc : Cx M X own cc) (he : Ex M X ret nm rv hz mc ms) (hd : Dc cc pc (.putfield idx) 3 n) (hl : FP own idx ci k0 ty fin) (hfi : fin = true → nm = "<init>") (hv : pV ci k0 v h a = some h') (hn : narrow ty (cvV X.1 v) = cvV X.1 v) (hfit : fits ty (cvV X.1 v) = true) (k : GG M X h' ce sl n L st) : GG M X h ce sl pc L (cvV X.1 v :: .ref (X.1 + a) :: st) := by
  obtain ⟨p, l, e, R, s, m, args, below, meth, c, Q⟩ := M
  obtain ⟨hx, hb, hown, hts, hU, hBs, hOs⟩ := hc
  obtain ⟨hd, rfl⟩ := hd
  obtain ⟨-, -, -, hnm⟩ := he
  obtain ⟨C, T, N, ⟨hci, hin, ⟨ty0, hty⟩, hnmT⟩, hk, hlk, hpd, hfin, hfo⟩ := hl
  obtain ⟨fs, hh, hkl, rfl⟩ := pV_some hv
  intro H locs ls hP hO hl
  have hap := va_apart (own := own) hts hin ty0 hty hnmT hU.1 hci
  obtain ⟨r, h1, cell, q1, q2, q3, q4⟩ := hP.get hh
  have hr : r = (C, T, N) := Option.some.inj (h1.symm.trans hci)
  subst hr
  obtain ⟨hS, hfc, kC, hkC, hkind⟩ := hU.1.1 ci _ hci
  obtain ⟨cf, kf, fi, f, hi, hsl⟩ := hS k0 hk
  have hlay := hts _ (hin _ (u_in_lay hk))
  unfold u_lay at hlay
  have hst := (u_facts hfc hkC (u_lays hts hin hk) hi).1
  have key : ∀ H' : Heap, H'[X.1 + a]? = some (cell.setSlot f.slot (cvV X.1 v)) → H'.size = H.size → (∀ q, q ≠ X.1 + a → H'[q]? = H[q]?) → RP X (h.set a (.inr (ci, fs.set k0 v))) H' := by
    intro H' e1 e2 e3
    rw [hsl] at e1
    refine hP.set hh e2 e3 ⟨_, hci, ?_⟩
    refine t_OB.to (V := updV (vp_V (fs.map (cvV X.1))) k0 (cvV X.1 v)) ⟨_, e1, q2, q3, t_set q4 hap hk _⟩ (fun j _ => ?_)
    rw [List.map_set]
    exact vp_updV_set (by rw [List.length_map]; exact hkl) _ j
  have hlo : ∀ z : Nat, LO X.1 (locs ++ [⟨X.1 + a, z⟩]) := by
    intro z q hq
    rcases List.mem_append.mp hq with h1 | h1
    · exact hO q h1
    · rw [List.mem_singleton.mp h1]; exact Nat.le_add_right _ _
  cases fin with
  | false =>
    rw [if_neg (by rw [hfin]; decide)] at hlay
    have h6 := u_store hfc hkC hkind hlay hi hpd hn hfit
    exact W.putK hx hb (f := f) ⟨hown, hts _ hlk, ⟨_, _, _, hi⟩, hst⟩ (by rw [q2]; exact h6) q1 q3 (by rw [hsl]; exact k2_hasslot (q4 k0 hk)) rfl rfl hd fun H' e1 e2 e3 => k H' _ ls (key H' e1 e2 e3) (hlo _) hl
  | true =>
    rw [if_pos hfin] at hlay
    have hcf : m.cls = cf := by
      obtain ⟨_, _, c', _, _, _, -, -, hf', -, -, -, hown2, -⟩ := Cond.laysFinal_spec hlay
      have e1 : c' = cf := by have := hi.symm.trans hf'; simp at this; exact this.1.symm
      rw [hfo rfl] at hown2
      rw [← e1]; exact Option.some.inj (hown.symm.trans hown2)
    have h6 := u_fits hfc hkC hkind (Or.inr hlay) hi hpd hn hfit
    exact W.putFinK hx hb hown (hts _ hlk) hi hst hcf (hnm.trans (hfi rfl)) (by rw [q2]; exact h6) q1 q3 (by rw [hsl]; exact k2_hasslot (q4 k0 hk)) rfl rfl hd fun H' e1 e2 e3 => k H' _ ls (key H' e1 e2 e3) (hlo _) hl
theorem r_putI {fin : Bool} {x : Int32} {f : PH → Option α} {ret : Option FieldType} {nm : String} {rv : Option Value} {hz : PH} {mc ms : Nat} (hc : Cx M X own cc) (he : Ex M X ret nm rv hz mc ms) (hd : Dc cc pc (.putfield idx) 3 n) (hl : FP own idx ci k0 .int fin) (hfi : fin = true → nm = "<init>") (hf : (pV ci k0 (.int x) h a).bind f = some r) (k : ∀ h', f h' = some r → GG M X h' ce sl n L st) : GG M X h ce sl pc L (.int x :: .ref (X.1 + a) :: st) :=
  ob hf fun h' eh hf => r_putV (v := .int x) hc he hd hl hfi eh rfl rfl (k h' hf)
theorem r_putL {fin : Bool} {x : Int64} {f : PH → Option α} {ret : Option FieldType} {nm : String} {rv : Option Value} {hz : PH} {mc ms : Nat} (hc : Cx M X own cc) (he : Ex M X ret nm rv hz mc ms) (hd : Dc cc pc (.putfield idx) 3 n) (hl : FP own idx ci k0 .long fin) (hfi : fin = true → nm = "<init>") (hf : (pV ci k0 (.long x) h a).bind f = some r) (k : ∀ h', f h' = some r → GG M X h' ce sl n L st) : GG M X h ce sl pc L (.long x :: .ref (X.1 + a) :: st) :=
  ob hf fun h' eh hf => r_putV (v := .long x) hc he hd hl hfi eh rfl rfl (k h' hf)
def pZ (c k : Nat) (x : Int32) (h : PH) (a : Nat) : Option PH := if x = 0 ∨ x = 1 then pV c k (.int x) h a else none
theorem r_putZ {fin : Bool} {x : Int32} {f : PH → Option α} {ret : Option FieldType} {nm : String} {rv : Option Value} {hz : PH} {mc ms : Nat} (hc : Cx M X own cc) (he : Ex M X ret nm rv hz mc ms) (hd : Dc cc pc (.putfield idx) 3 n) (hl : FP own idx ci k0 .boolean fin) (hfi : fin = true → nm = "<init>") (hf : (pZ ci k0 x h a).bind f = some r) (k : ∀ h', f h' = some r → GG M X h' ce sl n L st) : GG M X h ce sl pc L (.int x :: .ref (X.1 + a) :: st) :=
  ob hf fun h' eh hf => by
    unfold pZ at eh
    split at eh
    · rename_i hx
      refine r_putV (v := .int x) hc he hd hl hfi eh ?_ ?_ (k h' hf) <;> rcases hx with rfl | rfl <;> rfl
    · cases eh
theorem r_putR {fin : Bool} {x : Nat} {ty : FieldType} {f : PH → Option α} {ret : Option FieldType} {nm : String} {rv : Option Value} {hz : PH} {mc ms : Nat} (hc : Cx M X own cc) (he : Ex M X ret nm rv hz mc ms) (hd : Dc cc pc (.putfield idx) 3 n) (hl : FP own idx ci k0 ty fin) (hfi : fin = true → nm = "<init>") (hty : narrow ty (.ref 0) = .ref 0 ∧ ∀ z : Nat, narrow ty (.ref z) = .ref z ∧ fits ty (.ref z) = true) (hf : (pV ci k0 (.ref x) h a).bind f = some r) (k : ∀ h', f h' = some r → GG M X h' ce sl n L st) : GG M X h ce sl pc L (.ref (X.1 + x) :: .ref (X.1 + a) :: st) :=
  ob hf fun h' eh hf => r_putV (v := .ref x) hc he hd hl hfi eh (hty.2 _).1 (hty.2 _).2 (k h' hf)
theorem r_iaload {i : Int32} {f : Int32 → Option α} (hc : Cx M X own cc) (hd : Dc cc pc .iaload 1 n) (hf : (aI 0 h a i).bind f = some r) (k : ∀ x, f x = some r → GG M X h ce sl n L (.int x :: st)) : GG M X h ce sl pc L (.int i :: .ref (X.1 + a) :: st) :=
  ob hf fun x ex hf => by
    have k := k x hf
    obtain ⟨p, l, e, R, s, m, args, below, meth, c, Q⟩ := M
    obtain ⟨hx, hb, hown, hts, hU, hBs, hOs⟩ := hc
    obtain ⟨hd, rfl⟩ := hd
    obtain ⟨N, g, hh, hi, rfl⟩ := aI_some ex
    intro H locs ls hP hO hl
    exact va_iald hx hb hU.1 (va_P1 (hP.get hh)) 0 0 (cA := X.2.2.1 0) (n := N) (f := g) rfl rfl hi hd (k H locs ls hP hO hl)
theorem r_zaload {i : Int32} {f : Int32 → Option α} (hc : Cx M X own cc) (hd : Dc cc pc .baload 1 n) (hf : (aI 2 h a i).bind f = some r) (k : ∀ x, f x = some r → GG M X h ce sl n L (.int x :: st)) : GG M X h ce sl pc L (.int i :: .ref (X.1 + a) :: st) :=
  ob hf fun x ex hf => by
    have k := k x hf
    obtain ⟨p, l, e, R, s, m, args, below, meth, c, Q⟩ := M
    obtain ⟨hx, hb, hown, hts, hU, hBs, hOs⟩ := hc
    obtain ⟨hd, rfl⟩ := hd
    obtain ⟨N, g, hh, hi, rfl⟩ := aI_some ex
    intro H locs ls hP hO hl
    exact va_zald hx hb hU.1 (va_P1 (hP.get hh)) 0 2 (cA := X.2.2.1 2) (n := N) (f := g) rfl rfl hi hd (k H locs ls hP hO hl)
theorem r_laload {i : Int32} {f : Int64 → Option α} (hc : Cx M X own cc) (hd : Dc cc pc .laload 1 n) (hf : (aL h a i).bind f = some r) (k : ∀ x, f x = some r → GG M X h ce sl n L (.long x :: st)) : GG M X h ce sl pc L (.int i :: .ref (X.1 + a) :: st) :=
  ob hf fun x ex hf => by
    have k := k x hf
    obtain ⟨p, l, e, R, s, m, args, below, meth, c, Q⟩ := M
    obtain ⟨hx, hb, hown, hts, hU, hBs, hOs⟩ := hc
    obtain ⟨hd, rfl⟩ := hd
    obtain ⟨N, g, hh, hi, rfl⟩ := aL_some ex
    intro H locs ls hP hO hl
    exact va_lald hx hb hU.1 (va_P1 (hP.get hh)) 0 1 (cA := X.2.2.1 1) (n := N) (f := g) rfl rfl hi hd (k H locs ls hP hO hl)
theorem r_aaloadV {i : Int32} {t : Nat} {C : String} {x : Option Nat} (hc : Cx M X own cc) (hd : Dc cc pc .aaload 1 n) (ht : (tysOf X.2.2.1)[t]? = some (X.2.2.1 t, .object C)) (ex : aN t h a i = some x) (k : GG M X h ce sl n L (va_rf (x.map (fun k => X.1 + k)) :: st)) : GG M X h ce sl pc L (.int i :: .ref (X.1 + a) :: st) := by
  obtain ⟨p, l, e, R, s, m, args, below, meth, c, Q⟩ := M
  obtain ⟨hx, hb, hown, hts, hU, hBs, hOs⟩ := hc
  obtain ⟨hd, rfl⟩ := hd
  obtain ⟨N, g, hh, hi, rfl⟩ := aN_some ex
  intro H locs ls hP hO hl
  exact va_aldq hx hb hU.1 (va_P1 (hP.get hh)) 0 t (cA := X.2.2.1 t) (n := N) (f := fun j => (g j).map (fun k => X.1 + k)) rfl ht hi hd (k H locs ls hP hO hl)
theorem r_aaloadN {i : Int32} {t : Nat} {C : String} {f : Option Nat → Option α} (hc : Cx M X own cc) (hd : Dc cc pc .aaload 1 n) (ht : (tysOf X.2.2.1)[t]? = some (X.2.2.1 t, .object C)) (hf : (aN t h a i).bind f = some r) (k : ∀ x, aN t h a i = some x → f x = some r → GG M X h ce sl n L (va_rf (x.map (fun k => X.1 + k)) :: st)) : GG M X h ce sl pc L (.int i :: .ref (X.1 + a) :: st) :=
  ob hf fun x ex hf => r_aaloadV hc hd ht ex (k x ex hf)
theorem r_aaloadR {i : Int32} {t : Nat} {C : String} {f : Nat → Option α} (hc : Cx M X own cc) (hd : Dc cc pc .aaload 1 n) (ht : (tysOf X.2.2.1)[t]? = some (X.2.2.1 t, .object C)) (hf : (aR t h a i).bind f = some r) (k : ∀ x, f x = some r → GG M X h ce sl n L (.ref (X.1 + x) :: st)) : GG M X h ce sl pc L (.int i :: .ref (X.1 + a) :: st) :=
  ob hf fun x ex hf => r_aaloadV hc hd ht (aR_some ex) (k x hf)
theorem lo_app {B : Nat} {locs : List Loc} (hO : LO B locs) (z : Nat) (k : Nat) : LO B (locs ++ [⟨B + k, z⟩]) := by
  intro q hq
  rcases List.mem_append.mp hq with h1 | h1
  · exact hO q h1
  · rw [List.mem_singleton.mp h1]; exact Nat.le_add_right _ _
theorem r_iastore {i x : Int32} {f : PH → Option α} (hc : Cx M X own cc) (hd : Dc cc pc .iastore 1 n) (hf : (sI 0 h a i x).bind f = some r) (k : ∀ h', f h' = some r → GG M X h' ce sl n L st) : GG M X h ce sl pc L (.int x :: .int i :: .ref (X.1 + a) :: st) :=
  ob hf fun h' eh hf => by
    have k := k h' hf
    obtain ⟨p, l, e, R, s, m, args, below, meth, c, Q⟩ := M
    obtain ⟨hx, hb, hown, hts, hU, hBs, hOs⟩ := hc
    obtain ⟨hd, rfl⟩ := hd
    obtain ⟨N, g, hh, hi, rfl⟩ := sI_some eh
    intro H locs ls hP hO hl
    refine W.iast hx hb (hP.get hh) ((hU.1.2 0 _ rfl).1 N (fun j => .int (g j))) (fun q => by cases q) (by show ¬ (i < 0 ∨ (arrV _ _ _).slots.size ≤ _); rw [arrV_size]; exact hi) rfl rfl hd fun H1 e z oq => ?_
    refine k H1 _ ls (hP.set hh z oq ?_) (lo_app hO _ _) hl
    show H1[X.1 + a]? = some (vp_cell _ _)
    rw [e]
    show some ((vp_cell (X.2.2.1 0) (N, .inl g)).setSlot _ _) = some (vp_cell (X.2.2.1 0) (N, .inl (upd g i.toNatClampNeg x)))
    rw [vp_cell_i, vp_cell_i, arrV_store]
    congr 2
    funext q
    by_cases hq : q = i.toNatClampNeg
    · subst hq; simp [updV, upd]
    · simp [updV, upd, hq]
theorem r_zastore {i x : Int32} {f : PH → Option α} (hc : Cx M X own cc) (hd : Dc cc pc .bastore 1 n) (hf : (sZ h a i x).bind f = some r) (k : ∀ h', f h' = some r → GG M X h' ce sl n L st) : GG M X h ce sl pc L (.int x :: .int i :: .ref (X.1 + a) :: st) :=
  ob hf fun h' eh hf => by
    have k := k h' hf
    obtain ⟨p, l, e, R, s, m, args, below, meth, c, Q⟩ := M
    obtain ⟨hx, hb, hown, hts, hU, hBs, hOs⟩ := hc
    obtain ⟨hd, rfl⟩ := hd
    have hx01 : x = 0 ∨ x = 1 := Classical.byContradiction fun q => by
      unfold sZ at eh
      rw [if_neg q] at eh
      cases eh
    unfold sZ at eh
    rw [if_pos hx01] at eh
    obtain ⟨N, g, hh, hi, rfl⟩ := sI_some eh
    intro H locs ls hP hO hl
    refine W.zast hx hb (hP.get hh) ((hU.1.2 2 _ rfl).1 N (fun j => .int (g j))) (fun q => by cases q) (by show ¬ (i < 0 ∨ (arrV _ _ _).slots.size ≤ _); rw [arrV_size]; exact hi) rfl rfl hd fun H1 e z oq => ?_
    refine k H1 _ ls (hP.set hh z oq ?_) (lo_app hO _ _) hl
    show H1[X.1 + a]? = some (vp_cell _ _)
    rw [e]
    show some ((vp_cell (X.2.2.1 2) (N, .inl g)).setSlot _ _) = some (vp_cell (X.2.2.1 2) (N, .inl (upd g i.toNatClampNeg x)))
    rw [vp_cell_i, vp_cell_i, arrV_store]
    congr 2
    funext q
    by_cases hq : q = i.toNatClampNeg
    · subst hq; rcases hx01 with rfl | rfl <;> simp [updV, upd] <;> rfl
    · simp [updV, upd, hq]
theorem r_lastore {i : Int32} {x : Int64} {f : PH → Option α} (hc : Cx M X own cc) (hd : Dc cc pc .lastore 1 n) (hf : (sL h a i x).bind f = some r) (k : ∀ h', f h' = some r → GG M X h' ce sl n L st) : GG M X h ce sl pc L (.long x :: .int i :: .ref (X.1 + a) :: st) :=
  ob hf fun h' eh hf => by
    have k := k h' hf
    obtain ⟨p, l, e, R, s, m, args, below, meth, c, Q⟩ := M
    obtain ⟨hx, hb, hown, hts, hU, hBs, hOs⟩ := hc
    obtain ⟨hd, rfl⟩ := hd
    obtain ⟨N, g, hh, hi, rfl⟩ := sL_some eh
    intro H locs ls hP hO hl
    refine W.last hx hb (hP.get hh) ((hU.1.2 1 _ rfl).1 N (fun j => .long (g j))) (fun q => by cases q) (by show ¬ (i < 0 ∨ (arrV _ _ _).slots.size ≤ _); rw [arrV_size]; exact hi) rfl rfl hd fun H1 e z oq => ?_
    refine k H1 _ ls (hP.set hh z oq ?_) (lo_app hO _ _) hl
    show H1[X.1 + a]? = some (vp_cell _ _)
    rw [e]
    show some ((vp_cell (X.2.2.1 1) (N, .inr (.inl g))).setSlot _ _) = some (vp_cell (X.2.2.1 1) (N, .inr (.inl (vp_updL g i.toNatClampNeg x))))
    rw [vp_cell_l, vp_cell_l, arrV_store]
    congr 2
    funext q
    by_cases hq : q = i.toNatClampNeg
    · subst hq; simp [updV, vp_updL]
    · simp [updV, vp_updL, hq]
theorem r_aastore {i : Int32} {t x : Nat} {q : vw_C} {f : PH → Option α} (hc : Cx M X own cc) (hd : Dc cc pc .aastore 1 n) (hcq : cls[ci]? = some q) (ht : (tysOf X.2.2.1)[t]? = some (X.2.2.1 t, .object q.1)) (hf : (sR t ci h a i x).bind f = some r) (k : ∀ h', f h' = some r → GG M X h' ce sl n L st) : GG M X h ce sl pc L (.ref (X.1 + x) :: .int i :: .ref (X.1 + a) :: st) :=
  ob hf fun h' eh hf => by
    have k := k h' hf
    obtain ⟨p, l, e, R, s, m, args, below, meth, c, Q⟩ := M
    obtain ⟨hx, hb, hown, hts, hU, hBs, hOs⟩ := hc
    obtain ⟨hd, rfl⟩ := hd
    obtain ⟨N, g, hh, hi, ho, rfl⟩ := sR_some eh
    obtain ⟨fs, hox⟩ := isO_some ho
    have hlt : i.toNatClampNeg < N := Nat.not_le.mp fun q => hi (Or.inr q)
    have h0 : ¬ i < 0 := fun q => hi (Or.inl q)
    intro H locs ls hP hO hl
    obtain ⟨r', hr', cellV, g1, g2, g3, -⟩ := hP.get hox
    have hcls := (hU.1.1 ci q hcq).2
    obtain ⟨kA, comp, k1, k2, k3, -⟩ := (hU.1.2 t _ ht).2
    have hcomp : comp = X.2.1.1 ci := Option.some.inj (k3.symm.trans hcls.1)
    subst hcomp
    obtain ⟨kC, hkC, -⟩ := hcls.2
    refine W.aast hx hb (hP.get hh) (fun q h => by cases h) (fun h => by cases h) k1 k2 rfl hkC ⟨h0, by show _ < (arrV _ _ _).slots.size; rw [arrV_size]; exact hlt⟩ g1 (fun q h => by rw [g3] at h; cases h) (by rw [g2]; exact hkC) (by rw [g2]; exact va_assign hcls) rfl rfl hd fun H1 e z oq => ?_
    refine k H1 _ ls (hP.set hh z oq ?_) (lo_app hO _ _) hl
    show H1[X.1 + a]? = some (vp_cell _ _)
    rw [e]
    show some ((vp_cell (X.2.2.1 t) (N, .inr (.inr (.inr (.inr (fun j => (g j).map (fun k => X.1 + k))))))).setSlot _ _) = some (vp_cell (X.2.2.1 t) (N, .inr (.inr (.inr (.inr (fun j => (va_up g i.toNatClampNeg (some x) j).map (fun k => X.1 + k)))))))
    rw [vp_cell_q, vp_cell_q, arrV_store]
    congr 2
    funext q
    by_cases hq : q = i.toNatClampNeg
    · subst hq; simp [updV, va_up, va_rf]
    · simp [updV, va_up, hq]
theorem r_alen {f : Int32 → Option α} (hc : Cx M X own cc) (hd : Dc cc pc .arraylength 1 n) (hf : (aLen h a).bind f = some r) (k : ∀ x, f x = some r → GG M X h ce sl n L (.int x :: st)) : GG M X h ce sl pc L (.ref (X.1 + a) :: st) :=
  ob hf fun x ex hf => by
    have k := k x hf
    obtain ⟨p, l, e, R, s, m, args, below, meth, c, Q⟩ := M
    obtain ⟨hx, hb, hown, hts, hU, hBs, hOs⟩ := hc
    obtain ⟨hd, rfl⟩ := hd
    obtain ⟨t, y, hh, ht, rfl⟩ := aLen_some ex
    intro H locs ls hP hO hl
    have hv : Int32.ofNat (cvA X.1 y).1 = Int32.ofNat y.1 := by
      unfold cvA
      split <;> rfl
    have go : ∀ ty : FieldType, (tysOf X.2.2.1)[t]? = some (X.2.2.1 t, ty) → W p l e R s m args below meth c H locs ce sl Q (F0 m pc ls (.ref (X.1 + a) :: st)) := fun ty hty =>
      va_alen hx hb hU.1 (va_P1 (hP.get hh)) 0 t (cA := X.2.2.1 t) (x := cvA X.1 y) rfl hty hv hd (k H locs ls hP hO hl)
    rcases (show t = 0 ∨ t = 1 ∨ t = 2 by omega) with rfl | rfl | rfl
    · exact go _ rfl
    · exact go _ rfl
    · exact go _ rfl
theorem r_copy {b : Nat} {sp dp ln : Int32} {fr lo mc ms nL : Nat} {f : PH → Option α} (hc : Cx M X own cc) (hr : Rx M fr lo mc ms nL) (hd : Dc cc pc (.invokestatic idx) 3 n) (hlk : Cond.methodLink own idx arraycopyName ∈ lw_k) (hw : Cond.native arraycopyName ∈ lw_k ∧ Cond.static arraycopyName ∈ lw_k ∧ Cond.initialized "java/lang/System" ∈ lw_k) (hf : (cpI h a sp b dp ln).bind f = some r) (hfr : 1 ≤ fr) (hlo : (st.map fun v => v.category).sum + (nativeFrameWords "java/lang/System" "arraycopy" 5 + 11) ≤ lo) (k : ∀ h', f h' = some r → GG M X h' ce sl n L st) : GG M X h ce sl pc L (.int ln :: .int dp :: .ref (X.1 + b) :: .int sp :: .ref (X.1 + a) :: st) :=
  ob hf fun h' eh hf => by
    have k := k h' hf
    obtain ⟨p, l, e, R, s, m, args, below, meth, c, Q⟩ := M
    obtain ⟨hx, hb, hown, hts, hU, hBs, hOs⟩ := hc
    obtain ⟨hR, hnL⟩ := hr
    obtain ⟨hd, rfl⟩ := hd
    obtain ⟨n0, n1, f0, g0, ha, hb1, ⟨k1, k2, k3, k4, k5⟩, rfl⟩ := cpI_some eh
    have nn : ∀ z : Int32, 0 ≤ z → z.toInt = (z.toNatClampNeg : Int) := by
      intro z hz
      have hz0 : (0 : Int) ≤ z.toInt := by simpa using Int32.le_iff_toInt_le.mp hz
      show z.toInt = ((z.toInt.toNat : Nat) : Int)
      omega
    intro H locs ls hP hO hl
    intro T hT XX
    have hc0 : H[X.1 + a]? = some (vp_cell (X.2.2.1 0) (n0, .inl f0)) := hP.get ha
    have hc1 : H[X.1 + b]? = some (vp_cell (X.2.2.1 0) (n1, .inl g0)) := hP.get hb1
    obtain ⟨-, q0, hq0, cm0, hkk0⟩ := (hU.1.2 0 _ rfl).1 n0 (fun j => .int (f0 j))
    obtain ⟨-, q1, hq1, cm1, hkk1⟩ := (hU.1.2 0 _ rfl).1 n1 (fun j => .int (g0 j))
    obtain ⟨vm', X', step⟩ := XX.arraycopy hx hown (hts _ hlk) (hts _ hw.1) (hts _ hw.2.1) (hts _ hw.2.2) (src := X.1 + a) (dst := X.1 + b) (cs := vp_cell (X.2.2.1 0) (n0, .inl f0)) (cd := vp_cell (X.2.2.1 0) (n1, .inl g0)) (srcPos := sp) (destPos := dp) (n := ln) (by rw [hT]; exact hc0) (by rw [hT]; exact hc1)
      (fun _ h => by cases h) (fun _ h => by cases h) (fun h => by cases h) (fun h => by cases h) hq0 hq1 hkk0 hkk1 rfl (Int32.not_lt.mpr k1) (Int32.not_lt.mpr k2) (Int32.not_lt.mpr k3)
      (by rw [nn sp k1, nn ln k3]; show ¬ _ > ((arrV (X.2.2.1 0) n0 (fun j => .int (f0 j))).slots.size : Int); rw [arrV_size]; omega)
      (by rw [nn dp k2, nn ln k3]; show ¬ _ > ((arrV (X.2.2.1 0) n1 (fun j => .int (g0 j))).slots.size : Int); rw [arrV_size]; omega)
      (fun vm₁ _ i hi => by
        have e : (vp_cell (X.2.2.1 0) (n0, .inl f0)).slots.getD (sp.toNatClampNeg + i) .null = .int (f0 (sp.toNatClampNeg + i)) := by
          show (arrV (X.2.2.1 0) n0 (fun j => .int (f0 j))).slots.getD _ _ = _
          rw [Array.getD_eq_getD_getElem?, arrV_read _ _ (by omega)]
          rfl
        refine ⟨?_, ?_⟩
        · rw [e]; rfl
        · rw [e]; exact trivial)
      (g := F0 m pc ls (.int ln :: .int dp :: .ref (X.1 + b) :: .int sp :: .ref (X.1 + a) :: st)) rfl (by rw [← hl.1]) (rest := st) rfl (by rw [hb]; exact hd) (by rw [hR]; exact hfr) (by rw [hR]; show 2 * 0 + _ + _ ≤ _; show _ ≤ lo; omega)
    have e1 : copied (vp_cell (X.2.2.1 0) (n0, .inl f0)) (vp_cell (X.2.2.1 0) (n1, .inl g0)) sp dp ln = vp_cell (X.2.2.1 0) (n1, .inl (va_cpy f0 g0 sp.toNatClampNeg dp.toNatClampNeg ln.toNatClampNeg)) := va_copied (fun z => .int z) _ _ f0 g0 k4
    rw [e1] at X' step
    have hlt : X.1 + b < H.size := (Array.getElem?_eq_some_iff.mp hc1).1
    have hheap : ((T.setVm vm').setCell (X.1 + b) (vp_cell (X.2.2.1 0) (n1, .inl (va_cpy f0 g0 sp.toNatClampNeg dp.toNatClampNeg ln.toNatClampNeg)))).heap = H.setIfInBounds (X.1 + b) (vp_cell (X.2.2.1 0) (n1, .inl (va_cpy f0 g0 sp.toNatClampNeg dp.toNatClampNeg ln.toNatClampNeg))) := by rw [← hT]; rfl
    obtain ⟨t, a1, b1⟩ := k _ _ ls (hP.set hb1 (H' := H.setIfInBounds (X.1 + b) (vp_cell (X.2.2.1 0) (n1, .inl (va_cpy f0 g0 sp.toNatClampNeg dp.toNatClampNeg ln.toNatClampNeg)))) (by simp) (fun q hq => by simp [Array.getElem?_setIfInBounds, Ne.symm hq]) (show (H.setIfInBounds (X.1 + b) _)[X.1 + b]? = some _ by simp [Array.getElem?_setIfInBounds, hlt]; rfl)) (fun q hq => by
        rcases List.mem_append.mp hq with h | h
        · exact hO q h
        · obtain ⟨z, -, hz⟩ := List.mem_map.mp h
          rw [← hz]
          exact Nat.le_add_right _ _) hl _ hheap X'
    exact ⟨t, step t a1, b1⟩
end RH
