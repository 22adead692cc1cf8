abbrev remI (x y : Int32) : Int32 := x - x / y * y
abbrev remL (x y : Int64) : Int64 := x - x / y * y
def ushr (x y : Int32) : Int32 := (x.toUInt32 >>> (y.toUInt32 &&& Int32.toUInt32 31)).toInt32
/-- a switch over lo, lo + 1 .. -/
def swN {α : Type} (x : Int32) (lo : Int) (l : List (Option α)) (D : Option α) : Option α := if lo ≤ x.toInt then l.getD (x.toInt - lo).toNat D else D
def bindv0 {α β : Type} (e : α) (f : α → β) : β := f e
/-! ROWS (own): a pure heap of cells by their numbers, the machine's goal over it (GG), and a row an instruction that takes what a pure function says -/
abbrev PE : Type := (Nat × vp_A) ⊕ (Nat × List Value)
abbrev PH : Type := List PE
def cvV (B : Nat) (v : Value) : Value := match v with
  | .ref k => .ref (B + k)
  | w => w
def cvA (B : Nat) (x : vp_A) : vp_A := match x with
  | (n, .inr (.inr (.inr (.inr f)))) => (n, .inr (.inr (.inr (.inr (fun j => (f j).map (fun k => B + k))))))
  | y => y
def cvE (B : Nat) (tA : Nat → ClassId) (e : PE) : va_E := match e with
  | .inl (t, x) => .inl (tA t, cvA B x)
  | .inr (ci, fs) => .inr (ci, fs.map (cvV B))
/-- where new cells begin; classes; array classes; the heap at the start; where the String constants are, and their bytes -/
abbrev XT : Type := Nat × va_G × (Nat → ClassId) × Heap × (Nat → Nat) × (Nat → Nat)
abbrev MV : Type := Program × Launch × Env × Room × State × MethodId × Array Value × List Frame × Method × Code × (State → Prop)
def tysOf (tA : Nat → ClassId) : List (ClassId × FieldType) := [(tA 0, .int), (tA 1, .long), (tA 2, .boolean), (tA 3, .object "FractionLift$House"), (tA 4, .object "FractionLift$Tray")]
def RP (X : XT) (h : PH) (H : Heap) : Prop := H.size = X.1 + h.length ∧ X.2.2.2.1.size = X.1 ∧ (∀ q : Nat, q < X.1 → H[q]? = X.2.2.2.1[q]?) ∧ ∀ (k : Nat) (e : PE), h[k]? = some e → va_at X.2.1 cls (X.1 + k, cvE X.1 X.2.2.1 e) H
def lw_k : List Cond := lw_tbl.filter goodWord
theorem mk_k {w : Cond} (h : w ∈ lw_tbl) (g : goodWord w = true) : w ∈ lw_k := List.mem_filter.mpr ⟨h, g⟩
def nestW (j : Nat) : Cond := if j = 0 then .methodLinkNest "FractionLift$Ratio" 16 yX9_commonFactor "FractionLift" else if j = 1 then .methodLinkNest "FractionLift$Reckoner" 59 yX9_commonFactor "FractionLift" else .methodLinkNest "FractionLift$Reckoner" 75 yX9_inverseBy "FractionLift"
def UX (X : XT) (U : State) : Prop := va_K X.2.1 cls (tysOf X.2.2.1) U ∧ (∀ j : Nat, j < 10 → vk_R (sOwn j) (sIdx j) (sTxt j) (X.2.2.2.2.1 j) U) ∧ vk_S 10 sLen sByt X.2.2.2.2.1 X.2.2.2.2.2 (fun q => X.1 ≤ q) U X.2.2.2.1 ∧ va_Z "java/lang/String" "COMPACT_STRINGS" "Z" (.int 1) (fun q => X.1 ≤ q) U X.2.2.2.1 ∧ va_Zq "jdk/internal/util/Preconditions" "SIOOBE_FORMATTER" "Ljava/util/function/BiFunction;" (fun q => X.1 ≤ q) U X.2.2.2.1 ∧ (∀ j : Nat, j < 3 → va_Nw (nestW j) U) ∧ va_AO "FractionLift$House" U ∧ va_AO "FractionLift$Tray" U
def LO (B : Nat) (locs : List Loc) : Prop := ∀ q ∈ locs, B ≤ q.base
def GG (M : MV) (X : XT) (h : PH) (ce sl pc : Nat) (L : List (Nat × Value)) (st : List Value) : Prop := match M with
  | (p, l, e, R, s, m, args, below, meth, c, Q) => ∀ (H : Heap) (locs : List Loc) (ls : Array Slot), RP X h H → LO X.1 locs → lv_has ls c.maxLocals L → W p l e R s m args below meth c H locs ce sl Q (F0 m pc ls st)
/-- what stands fast in a method's walk -/
def Cx (M : MV) (X : XT) (own : String) (cc : ByteArray) : Prop := match M with
  | (p, _, _, _, s, m, args, _, _, c, _) => p.tables.exec = Jvm.exec ∧ c.code = cc ∧ s.vm.findClass own = some m.cls ∧ (∀ w ∈ lw_k, w.before args s = true) ∧ UX X s ∧ X.1 ≤ s.heap.size ∧ ∀ q : Nat, q < X.1 → s.heap[q]? = X.2.2.2.1[q]?
/-- its room -/
def Rx (M : MV) (fr lo mc ms nL : Nat) : Prop := match M with
  | (_, _, _, R, _, _, _, _, _, c, _) => R = { frames := fr, cells := mc, slots := ms, locals := lo } ∧ c.maxLocals = nL
def QP (X : XT) (rv : Option Value) (h' : PH) : Array Value → State → Outcome → State → Prop := fun _ _ o t => o = .returned rv ∧ RP X h' t.heap
/-- its end -/
def Ex (M : MV) (X : XT) (ret : Option FieldType) (nm : String) (rv : Option Value) (h' : PH) (mc ms : Nat) : Prop := match M with
  | (_, _, _, _, s, _, args, below, meth, _, Q) => Q = MQ below (QP X rv h') args s mc ms (fun q => X.1 ≤ q) ∧ meth.locks = false ∧ meth.sig.returnType = ret ∧ meth.name = nm
/-- a method's contract: from the heap h with these arguments it answers rv, the heap is h' -/
def MT (l : Launch) (X : XT) (y : MethodName) (cc : ByteArray) (nL : Nat) (ret : Option FieldType) (fr lo mc ms : Nat) (as : List Value) (h : PH) (rv : Option Value) (h' : PH) : Prop :=
  Met l y (Cond.code y cc nL ret :: lw_k) { frames := fr, cells := mc, slots := ms, locals := lo } (va_Pc as (fun U => UX X U ∧ RP X h U.heap)) (QP X rv h') mc ms (fun q => X.1 ≤ q)
/-- instruction i, of k bytes, stands at pc, the next at n -/
def Dc (cc : ByteArray) (pc : Nat) (i : Instr) (k n : Nat) : Prop := decode cc pc = .ok (i, k) ∧ pc + k = n
def dcL (cc : ByteArray) (l : List (Nat × Instr × Nat × Nat)) : Bool := l.all (fun q => decide (decode cc q.1 = .ok (q.2.1, q.2.2.1)) && decide (q.1 + q.2.2.1 = q.2.2.2))
theorem dc_at {cc : ByteArray} {l : List (Nat × Instr × Nat × Nat)} (h : dcL cc l = true) (j : Nat) {pc k n : Nat} {i : Instr} (hk : l[j]? = some (pc, i, k, n)) : Dc cc pc i k n := by
  have h1 := List.all_eq_true.mp h _ (List.mem_of_getElem? hk)
  simp only [Bool.and_eq_true, decide_eq_true_eq] at h1
  exact h1

theorem r_iadd {M : MV} {X : XT} {own : String} {cc : ByteArray} {h : PH} {ce sl pc n : Nat} {L : List (Nat × Value)} {st : List Value} {x y : Int32} (hc : Cx M X own cc) (hd : Dc cc pc (.iadd) 1 n)  (k : GG M X h ce sl n L (.int (x + y) :: st)) : GG M X h ce sl pc L (.int y :: .int x :: st) := by
  obtain ⟨p, l, e, R, s, m, args, below, meth, c, Q⟩ := M
  obtain ⟨hx, hb, hown, hts, hU, hBs, hOs⟩ := hc
  obtain ⟨hd, rfl⟩ := hd
  intro H locs ls hP hO hl
  exact lv_iadd hx hb hd (k H locs ls hP hO hl)

theorem r_isub {M : MV} {X : XT} {own : String} {cc : ByteArray} {h : PH} {ce sl pc n : Nat} {L : List (Nat × Value)} {st : List Value} {x y : Int32} (hc : Cx M X own cc) (hd : Dc cc pc (.isub) 1 n)  (k : GG M X h ce sl n L (.int (x - y) :: st)) : GG M X h ce sl pc L (.int y :: .int x :: st) := by
  obtain ⟨p, l, e, R, s, m, args, below, meth, c, Q⟩ := M
  obtain ⟨hx, hb, hown, hts, hU, hBs, hOs⟩ := hc
  obtain ⟨hd, rfl⟩ := hd
  intro H locs ls hP hO hl
  exact lv_isub hx hb hd (k H locs ls hP hO hl)

theorem r_imul {M : MV} {X : XT} {own : String} {cc : ByteArray} {h : PH} {ce sl pc n : Nat} {L : List (Nat × Value)} {st : List Value} {x y : Int32} (hc : Cx M X own cc) (hd : Dc cc pc (.imul) 1 n)  (k : GG M X h ce sl n L (.int (x * y) :: st)) : GG M X h ce sl pc L (.int y :: .int x :: st) := by
  obtain ⟨p, l, e, R, s, m, args, below, meth, c, Q⟩ := M
  obtain ⟨hx, hb, hown, hts, hU, hBs, hOs⟩ := hc
  obtain ⟨hd, rfl⟩ := hd
  intro H locs ls hP hO hl
  exact lv_imul hx hb hd (k H locs ls hP hO hl)

theorem r_iand {M : MV} {X : XT} {own : String} {cc : ByteArray} {h : PH} {ce sl pc n : Nat} {L : List (Nat × Value)} {st : List Value} {x y : Int32} (hc : Cx M X own cc) (hd : Dc cc pc (.iand) 1 n)  (k : GG M X h ce sl n L (.int (x &&& y) :: st)) : GG M X h ce sl pc L (.int y :: .int x :: st) := by
  obtain ⟨p, l, e, R, s, m, args, below, meth, c, Q⟩ := M
  obtain ⟨hx, hb, hown, hts, hU, hBs, hOs⟩ := hc
  obtain ⟨hd, rfl⟩ := hd
  intro H locs ls hP hO hl
  exact lv_iand hx hb hd (k H locs ls hP hO hl)

theorem r_ior {M : MV} {X : XT} {own : String} {cc : ByteArray} {h : PH} {ce sl pc n : Nat} {L : List (Nat × Value)} {st : List Value} {x y : Int32} (hc : Cx M X own cc) (hd : Dc cc pc (.ior) 1 n)  (k : GG M X h ce sl n L (.int (x ||| y) :: st)) : GG M X h ce sl pc L (.int y :: .int x :: st) := by
  obtain ⟨p, l, e, R, s, m, args, below, meth, c, Q⟩ := M
  obtain ⟨hx, hb, hown, hts, hU, hBs, hOs⟩ := hc
  obtain ⟨hd, rfl⟩ := hd
  intro H locs ls hP hO hl
  exact lv_ior hx hb hd (k H locs ls hP hO hl)

theorem r_ixor {M : MV} {X : XT} {own : String} {cc : ByteArray} {h : PH} {ce sl pc n : Nat} {L : List (Nat × Value)} {st : List Value} {x y : Int32} (hc : Cx M X own cc) (hd : Dc cc pc (.ixor) 1 n)  (k : GG M X h ce sl n L (.int (x ^^^ y) :: st)) : GG M X h ce sl pc L (.int y :: .int x :: st) := by
  obtain ⟨p, l, e, R, s, m, args, below, meth, c, Q⟩ := M
  obtain ⟨hx, hb, hown, hts, hU, hBs, hOs⟩ := hc
  obtain ⟨hd, rfl⟩ := hd
  intro H locs ls hP hO hl
  exact lv_ixor hx hb hd (k H locs ls hP hO hl)

theorem r_ishl {M : MV} {X : XT} {own : String} {cc : ByteArray} {h : PH} {ce sl pc n : Nat} {L : List (Nat × Value)} {st : List Value} {x y : Int32} (hc : Cx M X own cc) (hd : Dc cc pc (.ishl) 1 n)  (k : GG M X h ce sl n L (.int (x <<< (y &&& 31)) :: st)) : GG M X h ce sl pc L (.int y :: .int x :: st) := by
  obtain ⟨p, l, e, R, s, m, args, below, meth, c, Q⟩ := M
  obtain ⟨hx, hb, hown, hts, hU, hBs, hOs⟩ := hc
  obtain ⟨hd, rfl⟩ := hd
  intro H locs ls hP hO hl
  exact lv_ishl hx hb hd (k H locs ls hP hO hl)

theorem r_ishr {M : MV} {X : XT} {own : String} {cc : ByteArray} {h : PH} {ce sl pc n : Nat} {L : List (Nat × Value)} {st : List Value} {x y : Int32} (hc : Cx M X own cc) (hd : Dc cc pc (.ishr) 1 n)  (k : GG M X h ce sl n L (.int (x >>> (y &&& 31)) :: st)) : GG M X h ce sl pc L (.int y :: .int x :: st) := by
  obtain ⟨p, l, e, R, s, m, args, below, meth, c, Q⟩ := M
  obtain ⟨hx, hb, hown, hts, hU, hBs, hOs⟩ := hc
  obtain ⟨hd, rfl⟩ := hd
  intro H locs ls hP hO hl
  exact lv_ishr hx hb hd (k H locs ls hP hO hl)

theorem r_iushr {M : MV} {X : XT} {own : String} {cc : ByteArray} {h : PH} {ce sl pc n : Nat} {L : List (Nat × Value)} {st : List Value} {x y : Int32} (hc : Cx M X own cc) (hd : Dc cc pc (.iushr) 1 n)  (k : GG M X h ce sl n L (.int (ushr x y) :: st)) : GG M X h ce sl pc L (.int y :: .int x :: st) := by
  obtain ⟨p, l, e, R, s, m, args, below, meth, c, Q⟩ := M
  obtain ⟨hx, hb, hown, hts, hU, hBs, hOs⟩ := hc
  obtain ⟨hd, rfl⟩ := hd
  intro H locs ls hP hO hl
  exact lv_iushr hx hb hd rfl (k H locs ls hP hO hl)

theorem r_ladd {M : MV} {X : XT} {own : String} {cc : ByteArray} {h : PH} {ce sl pc n : Nat} {L : List (Nat × Value)} {st : List Value} {x y : Int64} (hc : Cx M X own cc) (hd : Dc cc pc (.ladd) 1 n)  (k : GG M X h ce sl n L (.long (x + y) :: st)) : GG M X h ce sl pc L (.long y :: .long x :: st) := by
  obtain ⟨p, l, e, R, s, m, args, below, meth, c, Q⟩ := M
  obtain ⟨hx, hb, hown, hts, hU, hBs, hOs⟩ := hc
  obtain ⟨hd, rfl⟩ := hd
  intro H locs ls hP hO hl
  exact lv_ladd hx hb hd (k H locs ls hP hO hl)

theorem r_lsub {M : MV} {X : XT} {own : String} {cc : ByteArray} {h : PH} {ce sl pc n : Nat} {L : List (Nat × Value)} {st : List Value} {x y : Int64} (hc : Cx M X own cc) (hd : Dc cc pc (.lsub) 1 n)  (k : GG M X h ce sl n L (.long (x - y) :: st)) : GG M X h ce sl pc L (.long y :: .long x :: st) := by
  obtain ⟨p, l, e, R, s, m, args, below, meth, c, Q⟩ := M
  obtain ⟨hx, hb, hown, hts, hU, hBs, hOs⟩ := hc
  obtain ⟨hd, rfl⟩ := hd
  intro H locs ls hP hO hl
  exact lv_lsub hx hb hd (k H locs ls hP hO hl)

theorem r_lmul {M : MV} {X : XT} {own : String} {cc : ByteArray} {h : PH} {ce sl pc n : Nat} {L : List (Nat × Value)} {st : List Value} {x y : Int64} (hc : Cx M X own cc) (hd : Dc cc pc (.lmul) 1 n)  (k : GG M X h ce sl n L (.long (x * y) :: st)) : GG M X h ce sl pc L (.long y :: .long x :: st) := by
  obtain ⟨p, l, e, R, s, m, args, below, meth, c, Q⟩ := M
  obtain ⟨hx, hb, hown, hts, hU, hBs, hOs⟩ := hc
  obtain ⟨hd, rfl⟩ := hd
  intro H locs ls hP hO hl
  exact lv_lmul hx hb hd (k H locs ls hP hO hl)

theorem r_land {M : MV} {X : XT} {own : String} {cc : ByteArray} {h : PH} {ce sl pc n : Nat} {L : List (Nat × Value)} {st : List Value} {x y : Int64} (hc : Cx M X own cc) (hd : Dc cc pc (.land) 1 n)  (k : GG M X h ce sl n L (.long (x &&& y) :: st)) : GG M X h ce sl pc L (.long y :: .long x :: st) := by
  obtain ⟨p, l, e, R, s, m, args, below, meth, c, Q⟩ := M
  obtain ⟨hx, hb, hown, hts, hU, hBs, hOs⟩ := hc
  obtain ⟨hd, rfl⟩ := hd
  intro H locs ls hP hO hl
  exact lv_land hx hb hd (k H locs ls hP hO hl)

theorem r_lor {M : MV} {X : XT} {own : String} {cc : ByteArray} {h : PH} {ce sl pc n : Nat} {L : List (Nat × Value)} {st : List Value} {x y : Int64} (hc : Cx M X own cc) (hd : Dc cc pc (.lor) 1 n)  (k : GG M X h ce sl n L (.long (x ||| y) :: st)) : GG M X h ce sl pc L (.long y :: .long x :: st) := by
  obtain ⟨p, l, e, R, s, m, args, below, meth, c, Q⟩ := M
  obtain ⟨hx, hb, hown, hts, hU, hBs, hOs⟩ := hc
  obtain ⟨hd, rfl⟩ := hd
  intro H locs ls hP hO hl
  exact lv_lor hx hb hd (k H locs ls hP hO hl)

theorem r_lshl {M : MV} {X : XT} {own : String} {cc : ByteArray} {h : PH} {ce sl pc n : Nat} {L : List (Nat × Value)} {st : List Value} {x : Int64} {y : Int32} (hc : Cx M X own cc) (hd : Dc cc pc (.lshl) 1 n)  (k : GG M X h ce sl n L (.long (x <<< (y.toInt64 &&& 63)) :: st)) : GG M X h ce sl pc L (.int y :: .long x :: st) := by
  obtain ⟨p, l, e, R, s, m, args, below, meth, c, Q⟩ := M
  obtain ⟨hx, hb, hown, hts, hU, hBs, hOs⟩ := hc
  obtain ⟨hd, rfl⟩ := hd
  intro H locs ls hP hO hl
  exact lv_lshl hx hb hd rfl (k H locs ls hP hO hl)

theorem r_lneg {M : MV} {X : XT} {own : String} {cc : ByteArray} {h : PH} {ce sl pc n : Nat} {L : List (Nat × Value)} {st : List Value} {x : Int64} (hc : Cx M X own cc) (hd : Dc cc pc (.lneg) 1 n)  (k : GG M X h ce sl n L (.long (-x) :: st)) : GG M X h ce sl pc L (.long x :: st) := by
  obtain ⟨p, l, e, R, s, m, args, below, meth, c, Q⟩ := M
  obtain ⟨hx, hb, hown, hts, hU, hBs, hOs⟩ := hc
  obtain ⟨hd, rfl⟩ := hd
  intro H locs ls hP hO hl
  exact lv_lneg hx hb hd (k H locs ls hP hO hl)

theorem r_ineg {M : MV} {X : XT} {own : String} {cc : ByteArray} {h : PH} {ce sl pc n : Nat} {L : List (Nat × Value)} {st : List Value} {x : Int32} (hc : Cx M X own cc) (hd : Dc cc pc (.ineg) 1 n)  (k : GG M X h ce sl n L (.int (-x) :: st)) : GG M X h ce sl pc L (.int x :: st) := by
  obtain ⟨p, l, e, R, s, m, args, below, meth, c, Q⟩ := M
  obtain ⟨hx, hb, hown, hts, hU, hBs, hOs⟩ := hc
  obtain ⟨hd, rfl⟩ := hd
  intro H locs ls hP hO hl
  exact lv_ineg hx hb hd (k H locs ls hP hO hl)

theorem r_i2l {M : MV} {X : XT} {own : String} {cc : ByteArray} {h : PH} {ce sl pc n : Nat} {L : List (Nat × Value)} {st : List Value} {x : Int32} (hc : Cx M X own cc) (hd : Dc cc pc (.i2l) 1 n)  (k : GG M X h ce sl n L (.long x.toInt64 :: st)) : GG M X h ce sl pc L (.int x :: st) := by
  obtain ⟨p, l, e, R, s, m, args, below, meth, c, Q⟩ := M
  obtain ⟨hx, hb, hown, hts, hU, hBs, hOs⟩ := hc
  obtain ⟨hd, rfl⟩ := hd
  intro H locs ls hP hO hl
  exact lv_i2l hx hb hd rfl (k H locs ls hP hO hl)

theorem r_l2i {M : MV} {X : XT} {own : String} {cc : ByteArray} {h : PH} {ce sl pc n : Nat} {L : List (Nat × Value)} {st : List Value} {x : Int64} (hc : Cx M X own cc) (hd : Dc cc pc (.l2i) 1 n)  (k : GG M X h ce sl n L (.int x.toInt32 :: st)) : GG M X h ce sl pc L (.long x :: st) := by
  obtain ⟨p, l, e, R, s, m, args, below, meth, c, Q⟩ := M
  obtain ⟨hx, hb, hown, hts, hU, hBs, hOs⟩ := hc
  obtain ⟨hd, rfl⟩ := hd
  intro H locs ls hP hO hl
  exact lv_l2i hx hb hd rfl (k H locs ls hP hO hl)

theorem r_i2b {M : MV} {X : XT} {own : String} {cc : ByteArray} {h : PH} {ce sl pc n : Nat} {L : List (Nat × Value)} {st : List Value} {x : Int32} (hc : Cx M X own cc) (hd : Dc cc pc (.i2b) 1 n)  (k : GG M X h ce sl n L (.int x.toInt8.toInt32 :: st)) : GG M X h ce sl pc L (.int x :: st) := by
  obtain ⟨p, l, e, R, s, m, args, below, meth, c, Q⟩ := M
  obtain ⟨hx, hb, hown, hts, hU, hBs, hOs⟩ := hc
  obtain ⟨hd, rfl⟩ := hd
  intro H locs ls hP hO hl
  exact lv_i2b hx hb hd rfl (k H locs ls hP hO hl)

theorem r_i2s {M : MV} {X : XT} {own : String} {cc : ByteArray} {h : PH} {ce sl pc n : Nat} {L : List (Nat × Value)} {st : List Value} {x : Int32} (hc : Cx M X own cc) (hd : Dc cc pc (.i2s) 1 n)  (k : GG M X h ce sl n L (.int x.toInt16.toInt32 :: st)) : GG M X h ce sl pc L (.int x :: st) := by
  obtain ⟨p, l, e, R, s, m, args, below, meth, c, Q⟩ := M
  obtain ⟨hx, hb, hown, hts, hU, hBs, hOs⟩ := hc
  obtain ⟨hd, rfl⟩ := hd
  intro H locs ls hP hO hl
  exact lv_i2s hx hb hd rfl (k H locs ls hP hO hl)

theorem r_iconst {M : MV} {X : XT} {own : String} {cc : ByteArray} {h : PH} {ce sl pc n : Nat} {L : List (Nat × Value)} {st : List Value} {v : Int} (x : Int32) (hc : Cx M X own cc) (hd : Dc cc pc (.iconst v) 1 n) (hv : Int32.ofInt v = x) (k : GG M X h ce sl n L (.int x :: st)) : GG M X h ce sl pc L (st) := by
  obtain ⟨p, l, e, R, s, m, args, below, meth, c, Q⟩ := M
  obtain ⟨hx, hb, hown, hts, hU, hBs, hOs⟩ := hc
  obtain ⟨hd, rfl⟩ := hd
  intro H locs ls hP hO hl
  exact lv_iconst hx hb hd hv (k H locs ls hP hO hl)

theorem r_bipush {M : MV} {X : XT} {own : String} {cc : ByteArray} {h : PH} {ce sl pc n : Nat} {L : List (Nat × Value)} {st : List Value} {v : Int} (x : Int32) (hc : Cx M X own cc) (hd : Dc cc pc (.bipush v) 2 n) (hv : (Int8.ofInt v).toInt32 = x) (k : GG M X h ce sl n L (.int x :: st)) : GG M X h ce sl pc L (st) := by
  obtain ⟨p, l, e, R, s, m, args, below, meth, c, Q⟩ := M
  obtain ⟨hx, hb, hown, hts, hU, hBs, hOs⟩ := hc
  obtain ⟨hd, rfl⟩ := hd
  intro H locs ls hP hO hl
  exact lv_bipush hx hb hd hv (k H locs ls hP hO hl)

theorem r_sipush {M : MV} {X : XT} {own : String} {cc : ByteArray} {h : PH} {ce sl pc n : Nat} {L : List (Nat × Value)} {st : List Value} {v : Int} (x : Int32) (hc : Cx M X own cc) (hd : Dc cc pc (.sipush v) 3 n) (hv : (Int16.ofInt v).toInt32 = x) (k : GG M X h ce sl n L (.int x :: st)) : GG M X h ce sl pc L (st) := by
  obtain ⟨p, l, e, R, s, m, args, below, meth, c, Q⟩ := M
  obtain ⟨hx, hb, hown, hts, hU, hBs, hOs⟩ := hc
  obtain ⟨hd, rfl⟩ := hd
  intro H locs ls hP hO hl
  exact lv_sipush hx hb hd hv (k H locs ls hP hO hl)

theorem r_lconst {M : MV} {X : XT} {own : String} {cc : ByteArray} {h : PH} {ce sl pc n : Nat} {L : List (Nat × Value)} {st : List Value} {v : Fin 2} (x : Int64) (hc : Cx M X own cc) (hd : Dc cc pc (.lconst v) 1 n) (hv : Int64.ofNat (v : Nat) = x) (k : GG M X h ce sl n L (.long x :: st)) : GG M X h ce sl pc L (st) := by
  obtain ⟨p, l, e, R, s, m, args, below, meth, c, Q⟩ := M
  obtain ⟨hx, hb, hown, hts, hU, hBs, hOs⟩ := hc
  obtain ⟨hd, rfl⟩ := hd
  intro H locs ls hP hO hl
  exact lv_lconst hx hb hd hv (k H locs ls hP hO hl)

theorem r_dup {M : MV} {X : XT} {own : String} {cc : ByteArray} {h : PH} {ce sl pc n : Nat} {L : List (Nat × Value)} {st : List Value} {v : Value} (hc : Cx M X own cc) (hd : Dc cc pc (.dup) 1 n) (hv : v.category = 1) (k : GG M X h ce sl n L (v :: v :: st)) : GG M X h ce sl pc L (v :: st) := by
  obtain ⟨p, l, e, R, s, m, args, below, meth, c, Q⟩ := M
  obtain ⟨hx, hb, hown, hts, hU, hBs, hOs⟩ := hc
  obtain ⟨hd, rfl⟩ := hd
  intro H locs ls hP hO hl
  exact lv_dup hx hb hd hv (k H locs ls hP hO hl)

theorem r_pop {M : MV} {X : XT} {own : String} {cc : ByteArray} {h : PH} {ce sl pc n : Nat} {L : List (Nat × Value)} {st : List Value} {v : Value} (hc : Cx M X own cc) (hd : Dc cc pc (.pop) 1 n) (hv : v.category = 1) (k : GG M X h ce sl n L (st)) : GG M X h ce sl pc L (v :: st) := by
  obtain ⟨p, l, e, R, s, m, args, below, meth, c, Q⟩ := M
  obtain ⟨hx, hb, hown, hts, hU, hBs, hOs⟩ := hc
  obtain ⟨hd, rfl⟩ := hd
  intro H locs ls hP hO hl
  exact lv_pop hx hb hd hv (k H locs ls hP hO hl)

theorem r_pop2 {M : MV} {X : XT} {own : String} {cc : ByteArray} {h : PH} {ce sl pc n : Nat} {L : List (Nat × Value)} {st : List Value} {v : Value} (hc : Cx M X own cc) (hd : Dc cc pc (.pop2) 1 n) (hv : v.category = 2) (k : GG M X h ce sl n L (st)) : GG M X h ce sl pc L (v :: st) := by
  obtain ⟨p, l, e, R, s, m, args, below, meth, c, Q⟩ := M
  obtain ⟨hx, hb, hown, hts, hU, hBs, hOs⟩ := hc
  obtain ⟨hd, rfl⟩ := hd
  intro H locs ls hP hO hl
  exact lv_pop2_2 hx hb hd hv (k H locs ls hP hO hl)

theorem r_dup2 {M : MV} {X : XT} {own : String} {cc : ByteArray} {h : PH} {ce sl pc n : Nat} {L : List (Nat × Value)} {st : List Value} {v w : Value} (hc : Cx M X own cc) (hd : Dc cc pc (.dup2) 1 n) (hv : v.category = 1) (hw : w.category = 1) (k : GG M X h ce sl n L (v :: w :: v :: w :: st)) : GG M X h ce sl pc L (v :: w :: st) := by
  obtain ⟨p, l, e, R, s, m, args, below, meth, c, Q⟩ := M
  obtain ⟨hx, hb, hown, hts, hU, hBs, hOs⟩ := hc
  obtain ⟨hd, rfl⟩ := hd
  intro H locs ls hP hO hl
  exact lv_dup2_11 hx hb hd hv hw (k H locs ls hP hO hl)

theorem r_dup2l {M : MV} {X : XT} {own : String} {cc : ByteArray} {h : PH} {ce sl pc n : Nat} {L : List (Nat × Value)} {st : List Value} {v : Value} (hc : Cx M X own cc) (hd : Dc cc pc (.dup2) 1 n) (hv : v.category = 2) (k : GG M X h ce sl n L (v :: v :: st)) : GG M X h ce sl pc L (v :: st) := by
  obtain ⟨p, l, e, R, s, m, args, below, meth, c, Q⟩ := M
  obtain ⟨hx, hb, hown, hts, hU, hBs, hOs⟩ := hc
  obtain ⟨hd, rfl⟩ := hd
  intro H locs ls hP hO hl
  exact lv_dup2_2 hx hb hd hv (k H locs ls hP hO hl)

theorem r_iload {M : MV} {X : XT} {own : String} {cc : ByteArray} {h : PH} {ce sl pc n : Nat} {L : List (Nat × Value)} {st : List Value} {i : Nat} {x : Int32} (hc : Cx M X own cc) (j : Nat) (hd : Dc cc pc (.iload i) 2 n) (hL : L[j]? = some (i, .int x)) (k : GG M X h ce sl n L (.int x :: st)) : GG M X h ce sl pc L st := by
  obtain ⟨p, l, e, R, s, m, args, below, meth, c, Q⟩ := M
  obtain ⟨hx, hb, hown, hts, hU, hBs, hOs⟩ := hc
  obtain ⟨hd, rfl⟩ := hd
  intro H locs ls hP hO hl
  exact lv_iload hx hb hd (lv_at hl j hL) (k H locs ls hP hO hl)

theorem r_iload_n {M : MV} {X : XT} {own : String} {cc : ByteArray} {h : PH} {ce sl pc n : Nat} {L : List (Nat × Value)} {st : List Value} {i : Fin 4} {q : Nat} {x : Int32} (hc : Cx M X own cc) (j : Nat) (hd : Dc cc pc (.iload_n i) 1 n) (hL : L[j]? = some (q, .int x)) (k : GG M X h ce sl n L (.int x :: st)) (hi : (i : Nat) = q := by rfl) : GG M X h ce sl pc L st := by
  obtain ⟨p, l, e, R, s, m, args, below, meth, c, Q⟩ := M
  obtain ⟨hx, hb, hown, hts, hU, hBs, hOs⟩ := hc
  obtain ⟨hd, rfl⟩ := hd
  intro H locs ls hP hO hl
  exact lv_iload_n hx hb hd hi (lv_at hl j hL) (k H locs ls hP hO hl)

theorem r_lload {M : MV} {X : XT} {own : String} {cc : ByteArray} {h : PH} {ce sl pc n : Nat} {L : List (Nat × Value)} {st : List Value} {i : Nat} {x : Int64} (hc : Cx M X own cc) (j : Nat) (hd : Dc cc pc (.lload i) 2 n) (hL : L[j]? = some (i, .long x)) (k : GG M X h ce sl n L (.long x :: st)) : GG M X h ce sl pc L st := by
  obtain ⟨p, l, e, R, s, m, args, below, meth, c, Q⟩ := M
  obtain ⟨hx, hb, hown, hts, hU, hBs, hOs⟩ := hc
  obtain ⟨hd, rfl⟩ := hd
  intro H locs ls hP hO hl
  exact lv_lload hx hb hd (lv_at hl j hL) (k H locs ls hP hO hl)

theorem r_lload_n {M : MV} {X : XT} {own : String} {cc : ByteArray} {h : PH} {ce sl pc n : Nat} {L : List (Nat × Value)} {st : List Value} {i : Fin 4} {q : Nat} {x : Int64} (hc : Cx M X own cc) (j : Nat) (hd : Dc cc pc (.lload_n i) 1 n) (hL : L[j]? = some (q, .long x)) (k : GG M X h ce sl n L (.long x :: st)) (hi : (i : Nat) = q := by rfl) : GG M X h ce sl pc L st := by
  obtain ⟨p, l, e, R, s, m, args, below, meth, c, Q⟩ := M
  obtain ⟨hx, hb, hown, hts, hU, hBs, hOs⟩ := hc
  obtain ⟨hd, rfl⟩ := hd
  intro H locs ls hP hO hl
  exact lv_lload_n hx hb hd hi (lv_at hl j hL) (k H locs ls hP hO hl)

theorem r_aload {M : MV} {X : XT} {own : String} {cc : ByteArray} {h : PH} {ce sl pc n : Nat} {L : List (Nat × Value)} {st : List Value} {i : Nat} {x : Nat} (hc : Cx M X own cc) (j : Nat) (hd : Dc cc pc (.aload i) 2 n) (hL : L[j]? = some (i, .ref x)) (k : GG M X h ce sl n L (.ref x :: st)) : GG M X h ce sl pc L st := by
  obtain ⟨p, l, e, R, s, m, args, below, meth, c, Q⟩ := M
  obtain ⟨hx, hb, hown, hts, hU, hBs, hOs⟩ := hc
  obtain ⟨hd, rfl⟩ := hd
  intro H locs ls hP hO hl
  exact lv_aload hx hb hd (lv_at hl j hL) (k H locs ls hP hO hl)

theorem r_aload_n {M : MV} {X : XT} {own : String} {cc : ByteArray} {h : PH} {ce sl pc n : Nat} {L : List (Nat × Value)} {st : List Value} {i : Fin 4} {q : Nat} {x : Nat} (hc : Cx M X own cc) (j : Nat) (hd : Dc cc pc (.aload_n i) 1 n) (hL : L[j]? = some (q, .ref x)) (k : GG M X h ce sl n L (.ref x :: st)) (hi : (i : Nat) = q := by rfl) : GG M X h ce sl pc L st := by
  obtain ⟨p, l, e, R, s, m, args, below, meth, c, Q⟩ := M
  obtain ⟨hx, hb, hown, hts, hU, hBs, hOs⟩ := hc
  obtain ⟨hd, rfl⟩ := hd
  intro H locs ls hP hO hl
  exact lv_aload_n hx hb hd hi (lv_at hl j hL) (k H locs ls hP hO hl)

theorem r_istore {M : MV} {X : XT} {own : String} {cc : ByteArray} {h : PH} {ce sl pc n : Nat} {L : List (Nat × Value)} {st : List Value} {i fr lo mc ms nL : Nat} {x : Int32} (L' : List (Nat × Value)) (hc : Cx M X own cc) (hr : Rx M fr lo mc ms nL) (hd : Dc cc pc (.istore i) 2 n) (hn : i < nL) (hL : (i, Value.int x) :: L.filter (fun q => !(q.1 == i) && !(q.1 + 1 == i && q.2.category == 2)) = L') (k : GG M X h ce sl n L' st) : GG M X h ce sl pc L (.int x :: st) := by
  obtain ⟨p, l, e, R, s, m, args, below, meth, c, Q⟩ := M
  obtain ⟨hx, hb, hown, hts, hU, hBs, hOs⟩ := hc
  obtain ⟨-, hnL⟩ := hr
  obtain ⟨hd, rfl⟩ := hd
  intro H locs ls hP hO hl
  exact lv_istore hx hb hd hl (by rw [hnL]; exact hn) hL (fun ls' hl' => k H locs ls' hP hO hl')

theorem r_istore_n {M : MV} {X : XT} {own : String} {cc : ByteArray} {h : PH} {ce sl pc n : Nat} {L : List (Nat × Value)} {st : List Value} {i : Fin 4} {q0 fr lo mc ms nL : Nat} {x : Int32} (L' : List (Nat × Value)) (hc : Cx M X own cc) (hr : Rx M fr lo mc ms nL) (hd : Dc cc pc (.istore_n i) 1 n) (hn : q0 < nL) (hL : (q0, Value.int x) :: L.filter (fun q => !(q.1 == q0) && !(q.1 + 1 == q0 && q.2.category == 2)) = L') (k : GG M X h ce sl n L' st) (hi : (i : Nat) = q0 := by rfl) : GG M X h ce sl pc L (.int x :: st) := by
  obtain ⟨p, l, e, R, s, m, args, below, meth, c, Q⟩ := M
  obtain ⟨hx, hb, hown, hts, hU, hBs, hOs⟩ := hc
  obtain ⟨-, hnL⟩ := hr
  obtain ⟨hd, rfl⟩ := hd
  intro H locs ls hP hO hl
  exact lv_istore_n hx hb hd hi hl (by rw [hnL]; exact hn) hL (fun ls' hl' => k H locs ls' hP hO hl')

theorem r_lstore {M : MV} {X : XT} {own : String} {cc : ByteArray} {h : PH} {ce sl pc n : Nat} {L : List (Nat × Value)} {st : List Value} {i fr lo mc ms nL : Nat} {x : Int64} (L' : List (Nat × Value)) (hc : Cx M X own cc) (hr : Rx M fr lo mc ms nL) (hd : Dc cc pc (.lstore i) 2 n) (hn : i + 1 < nL) (hL : (i, Value.long x) :: L.filter (fun q => !(q.1 == i) && (!(q.1 == i + 1) && !(q.1 + 1 == i && q.2.category == 2))) = L') (k : GG M X h ce sl n L' st) : GG M X h ce sl pc L (.long x :: st) := by
  obtain ⟨p, l, e, R, s, m, args, below, meth, c, Q⟩ := M
  obtain ⟨hx, hb, hown, hts, hU, hBs, hOs⟩ := hc
  obtain ⟨-, hnL⟩ := hr
  obtain ⟨hd, rfl⟩ := hd
  intro H locs ls hP hO hl
  exact lv_lstore hx hb hd hl (by rw [hnL]; exact hn) hL (fun ls' hl' => k H locs ls' hP hO hl')

theorem r_lstore_n {M : MV} {X : XT} {own : String} {cc : ByteArray} {h : PH} {ce sl pc n : Nat} {L : List (Nat × Value)} {st : List Value} {i : Fin 4} {q0 fr lo mc ms nL : Nat} {x : Int64} (L' : List (Nat × Value)) (hc : Cx M X own cc) (hr : Rx M fr lo mc ms nL) (hd : Dc cc pc (.lstore_n i) 1 n) (hn : q0 + 1 < nL) (hL : (q0, Value.long x) :: L.filter (fun q => !(q.1 == q0) && (!(q.1 == q0 + 1) && !(q.1 + 1 == q0 && q.2.category == 2))) = L') (k : GG M X h ce sl n L' st) (hi : (i : Nat) = q0 := by rfl) : GG M X h ce sl pc L (.long x :: st) := by
  obtain ⟨p, l, e, R, s, m, args, below, meth, c, Q⟩ := M
  obtain ⟨hx, hb, hown, hts, hU, hBs, hOs⟩ := hc
  obtain ⟨-, hnL⟩ := hr
  obtain ⟨hd, rfl⟩ := hd
  intro H locs ls hP hO hl
  exact lv_lstore_n hx hb hd hi hl (by rw [hnL]; exact hn) hL (fun ls' hl' => k H locs ls' hP hO hl')

theorem r_astore {M : MV} {X : XT} {own : String} {cc : ByteArray} {h : PH} {ce sl pc n : Nat} {L : List (Nat × Value)} {st : List Value} {i fr lo mc ms nL : Nat} {x : Nat} (L' : List (Nat × Value)) (hc : Cx M X own cc) (hr : Rx M fr lo mc ms nL) (hd : Dc cc pc (.astore i) 2 n) (hn : i < nL) (hL : (i, Value.ref x) :: L.filter (fun q => !(q.1 == i) && !(q.1 + 1 == i && q.2.category == 2)) = L') (k : GG M X h ce sl n L' st) : GG M X h ce sl pc L (.ref x :: st) := by
  obtain ⟨p, l, e, R, s, m, args, below, meth, c, Q⟩ := M
  obtain ⟨hx, hb, hown, hts, hU, hBs, hOs⟩ := hc
  obtain ⟨-, hnL⟩ := hr
  obtain ⟨hd, rfl⟩ := hd
  intro H locs ls hP hO hl
  exact lv_astore hx hb hd hl (by rw [hnL]; exact hn) hL (fun ls' hl' => k H locs ls' hP hO hl')

theorem r_astore_n {M : MV} {X : XT} {own : String} {cc : ByteArray} {h : PH} {ce sl pc n : Nat} {L : List (Nat × Value)} {st : List Value} {i : Fin 4} {q0 fr lo mc ms nL : Nat} {x : Nat} (L' : List (Nat × Value)) (hc : Cx M X own cc) (hr : Rx M fr lo mc ms nL) (hd : Dc cc pc (.astore_n i) 1 n) (hn : q0 < nL) (hL : (q0, Value.ref x) :: L.filter (fun q => !(q.1 == q0) && !(q.1 + 1 == q0 && q.2.category == 2)) = L') (k : GG M X h ce sl n L' st) (hi : (i : Nat) = q0 := by rfl) : GG M X h ce sl pc L (.ref x :: st) := by
  obtain ⟨p, l, e, R, s, m, args, below, meth, c, Q⟩ := M
  obtain ⟨hx, hb, hown, hts, hU, hBs, hOs⟩ := hc
  obtain ⟨-, hnL⟩ := hr
  obtain ⟨hd, rfl⟩ := hd
  intro H locs ls hP hO hl
  exact lv_astore_n hx hb hd hi hl (by rw [hnL]; exact hn) hL (fun ls' hl' => k H locs ls' hP hO hl')

theorem r_iinc {M : MV} {X : XT} {own : String} {cc : ByteArray} {h : PH} {ce sl pc n : Nat} {L : List (Nat × Value)} {st : List Value} {i fr lo mc ms nL : Nat} {v : Int} {x y : Int32} (j : Nat) (L' : List (Nat × Value)) (hc : Cx M X own cc) (hr : Rx M fr lo mc ms nL) (hd : Dc cc pc (.iinc i v) 3 n) (hj : L[j]? = some (i, .int x)) (hv : x + Int32.ofInt v = y) (hn : i < nL) (hL : (i, Value.int y) :: L.filter (fun q => !(q.1 == i) && !(q.1 + 1 == i && q.2.category == 2)) = L') (k : GG M X h ce sl n L' st) : GG M X h ce sl pc L st := by
  obtain ⟨p, l, e, R, s, m, args, below, meth, c, Q⟩ := M
  obtain ⟨hx, hb, hown, hts, hU, hBs, hOs⟩ := hc
  obtain ⟨-, hnL⟩ := hr
  obtain ⟨hd, rfl⟩ := hd
  intro H locs ls hP hO hl
  exact lv_iinc hx hb hd hl hj hv (by rw [hnL]; exact hn) hL (fun ls' hl' => k H locs ls' hP hO hl')

theorem r_idiv {M : MV} {X : XT} {own : String} {cc : ByteArray} {h : PH} {ce sl pc n : Nat} {L : List (Nat × Value)} {st : List Value} {x y : Int32} {α : Type} {A : Option α} {r : α} (hc : Cx M X own cc) (hd : Dc cc pc (.idiv) 1 n) (hf : (if y = 0 then none else A) = some r) (k : A = some r → GG M X h ce sl n L (.int (x / y) :: st)) : GG M X h ce sl pc L (.int y :: .int x :: st) := by
  obtain ⟨p, l, e, R, s, m, args, below, meth, c, Q⟩ := M
  obtain ⟨hx, hb, hown, hts, hU, hBs, hOs⟩ := hc
  obtain ⟨hd, rfl⟩ := hd
  by_cases hy : y = 0
  · rw [if_pos hy] at hf; cases hf
  rw [if_neg hy] at hf
  intro H locs ls hP hO hl
  exact lv_idiv hx hb hd hy (k hf H locs ls hP hO hl)

theorem r_irem {M : MV} {X : XT} {own : String} {cc : ByteArray} {h : PH} {ce sl pc n : Nat} {L : List (Nat × Value)} {st : List Value} {x y : Int32} {α : Type} {A : Option α} {r : α} (hc : Cx M X own cc) (hd : Dc cc pc (.irem) 1 n) (hf : (if y = 0 then none else A) = some r) (k : A = some r → GG M X h ce sl n L (.int (remI x y) :: st)) : GG M X h ce sl pc L (.int y :: .int x :: st) := by
  obtain ⟨p, l, e, R, s, m, args, below, meth, c, Q⟩ := M
  obtain ⟨hx, hb, hown, hts, hU, hBs, hOs⟩ := hc
  obtain ⟨hd, rfl⟩ := hd
  by_cases hy : y = 0
  · rw [if_pos hy] at hf; cases hf
  rw [if_neg hy] at hf
  intro H locs ls hP hO hl
  exact lv_irem hx hb hd hy (k hf H locs ls hP hO hl)

theorem r_ldiv {M : MV} {X : XT} {own : String} {cc : ByteArray} {h : PH} {ce sl pc n : Nat} {L : List (Nat × Value)} {st : List Value} {x y : Int64} {α : Type} {A : Option α} {r : α} (hc : Cx M X own cc) (hd : Dc cc pc (.ldiv) 1 n) (hf : (if y = 0 then none else A) = some r) (k : A = some r → GG M X h ce sl n L (.long (x / y) :: st)) : GG M X h ce sl pc L (.long y :: .long x :: st) := by
  obtain ⟨p, l, e, R, s, m, args, below, meth, c, Q⟩ := M
  obtain ⟨hx, hb, hown, hts, hU, hBs, hOs⟩ := hc
  obtain ⟨hd, rfl⟩ := hd
  by_cases hy : y = 0
  · rw [if_pos hy] at hf; cases hf
  rw [if_neg hy] at hf
  intro H locs ls hP hO hl
  exact lv_ldiv hx hb hd hy (k hf H locs ls hP hO hl)

theorem r_lrem {M : MV} {X : XT} {own : String} {cc : ByteArray} {h : PH} {ce sl pc n : Nat} {L : List (Nat × Value)} {st : List Value} {x y : Int64} {α : Type} {A : Option α} {r : α} (hc : Cx M X own cc) (hd : Dc cc pc (.lrem) 1 n) (hf : (if y = 0 then none else A) = some r) (k : A = some r → GG M X h ce sl n L (.long (remL x y) :: st)) : GG M X h ce sl pc L (.long y :: .long x :: st) := by
  obtain ⟨p, l, e, R, s, m, args, below, meth, c, Q⟩ := M
  obtain ⟨hx, hb, hown, hts, hU, hBs, hOs⟩ := hc
  obtain ⟨hd, rfl⟩ := hd
  by_cases hy : y = 0
  · rw [if_pos hy] at hf; cases hf
  rw [if_neg hy] at hf
  intro H locs ls hP hO hl
  exact lv_lrem hx hb hd hy (k hf H locs ls hP hO hl)

theorem r_icmp_eq {M : MV} {X : XT} {own : String} {cc : ByteArray} {h : PH} {ce sl pc n : Nat} {L : List (Nat × Value)} {st : List Value} {x y : Int32} {off : Int} {tgt : Nat} {α : Type} {A B : Option α} {r : α} (hc : Cx M X own cc) (hd : Dc cc pc (.if_icmp .eq off) 3 n) (ht : (pc : Int) + off = (tgt : Int)) (hf : (if x = y then A else B) = some r) (kt : A = some r → GG M X h ce sl tgt L st) (kf : B = some r → GG M X h ce sl n L st) : GG M X h ce sl pc L (.int y :: .int x :: st) := by
  obtain ⟨p, l, e, R, s, m, args, below, meth, c, Q⟩ := M
  obtain ⟨hx, hb, hown, hts, hU, hBs, hOs⟩ := hc
  obtain ⟨hd, rfl⟩ := hd
  intro H locs ls hP hO hl
  exact lv_icmp_eq hx hb hd ht (fun q => kt (by rw [if_pos q] at hf; exact hf) H locs ls hP hO hl) (fun q => kf (by rw [if_neg q] at hf; exact hf) H locs ls hP hO hl)

theorem r_if_eq {M : MV} {X : XT} {own : String} {cc : ByteArray} {h : PH} {ce sl pc n : Nat} {L : List (Nat × Value)} {st : List Value} {x : Int32} {off : Int} {tgt : Nat} {α : Type} {A B : Option α} {r : α} (hc : Cx M X own cc) (hd : Dc cc pc (.ifCond .eq off) 3 n) (ht : (pc : Int) + off = (tgt : Int)) (hf : (if x = 0 then A else B) = some r) (kt : A = some r → GG M X h ce sl tgt L st) (kf : B = some r → GG M X h ce sl n L st) : GG M X h ce sl pc L (.int x :: st) := by
  obtain ⟨p, l, e, R, s, m, args, below, meth, c, Q⟩ := M
  obtain ⟨hx, hb, hown, hts, hU, hBs, hOs⟩ := hc
  obtain ⟨hd, rfl⟩ := hd
  intro H locs ls hP hO hl
  exact lv_if_eq hx hb hd ht (fun q => kt (by rw [if_pos q] at hf; exact hf) H locs ls hP hO hl) (fun q => kf (by rw [if_neg q] at hf; exact hf) H locs ls hP hO hl)

theorem r_lcmp_eq {M : MV} {X : XT} {own : String} {cc : ByteArray} {h : PH} {ce sl pc n : Nat} {L : List (Nat × Value)} {st : List Value} {x y : Int64} {n1 : Nat} {off : Int} {tgt : Nat} {α : Type} {A B : Option α} {r : α} (hc : Cx M X own cc) (hd0 : Dc cc pc .lcmp 1 n1) (hd : Dc cc n1 (.ifCond .eq off) 3 n) (ht : (n1 : Int) + off = (tgt : Int)) (hf : (if x = y then A else B) = some r) (kt : A = some r → GG M X h ce sl tgt L st) (kf : B = some r → GG M X h ce sl n L st) : GG M X h ce sl pc L (.long y :: .long x :: st) := by
  obtain ⟨p, l, e, R, s, m, args, below, meth, c, Q⟩ := M
  obtain ⟨hx, hb, hown, hts, hU, hBs, hOs⟩ := hc
  obtain ⟨hd0, rfl⟩ := hd0
  obtain ⟨hd, rfl⟩ := hd
  intro H locs ls hP hO hl
  refine W.lcmp hx hb hd0 ?_
  exact lv_if_eq hx hb hd ht (fun q => kt (by rw [if_pos ((lg_cmp_eq x y).mp q)] at hf; exact hf) H locs ls hP hO hl) (fun q => kf (by rw [if_neg (fun z => q ((lg_cmp_eq x y).mpr z))] at hf; exact hf) H locs ls hP hO hl)

theorem r_icmp_ne {M : MV} {X : XT} {own : String} {cc : ByteArray} {h : PH} {ce sl pc n : Nat} {L : List (Nat × Value)} {st : List Value} {x y : Int32} {off : Int} {tgt : Nat} {α : Type} {A B : Option α} {r : α} (hc : Cx M X own cc) (hd : Dc cc pc (.if_icmp .ne off) 3 n) (ht : (pc : Int) + off = (tgt : Int)) (hf : (if x = y then B else A) = some r) (kt : A = some r → GG M X h ce sl tgt L st) (kf : B = some r → GG M X h ce sl n L st) : GG M X h ce sl pc L (.int y :: .int x :: st) := by
  obtain ⟨p, l, e, R, s, m, args, below, meth, c, Q⟩ := M
  obtain ⟨hx, hb, hown, hts, hU, hBs, hOs⟩ := hc
  obtain ⟨hd, rfl⟩ := hd
  intro H locs ls hP hO hl
  exact lv_icmp_ne hx hb hd ht (fun q => kt (by rw [if_neg q] at hf; exact hf) H locs ls hP hO hl) (fun q => kf (by rw [if_pos q] at hf; exact hf) H locs ls hP hO hl)

theorem r_if_ne {M : MV} {X : XT} {own : String} {cc : ByteArray} {h : PH} {ce sl pc n : Nat} {L : List (Nat × Value)} {st : List Value} {x : Int32} {off : Int} {tgt : Nat} {α : Type} {A B : Option α} {r : α} (hc : Cx M X own cc) (hd : Dc cc pc (.ifCond .ne off) 3 n) (ht : (pc : Int) + off = (tgt : Int)) (hf : (if x = 0 then B else A) = some r) (kt : A = some r → GG M X h ce sl tgt L st) (kf : B = some r → GG M X h ce sl n L st) : GG M X h ce sl pc L (.int x :: st) := by
  obtain ⟨p, l, e, R, s, m, args, below, meth, c, Q⟩ := M
  obtain ⟨hx, hb, hown, hts, hU, hBs, hOs⟩ := hc
  obtain ⟨hd, rfl⟩ := hd
  intro H locs ls hP hO hl
  exact lv_if_ne hx hb hd ht (fun q => kt (by rw [if_neg q] at hf; exact hf) H locs ls hP hO hl) (fun q => kf (by rw [if_pos q] at hf; exact hf) H locs ls hP hO hl)

theorem r_lcmp_ne {M : MV} {X : XT} {own : String} {cc : ByteArray} {h : PH} {ce sl pc n : Nat} {L : List (Nat × Value)} {st : List Value} {x y : Int64} {n1 : Nat} {off : Int} {tgt : Nat} {α : Type} {A B : Option α} {r : α} (hc : Cx M X own cc) (hd0 : Dc cc pc .lcmp 1 n1) (hd : Dc cc n1 (.ifCond .ne off) 3 n) (ht : (n1 : Int) + off = (tgt : Int)) (hf : (if x = y then B else A) = some r) (kt : A = some r → GG M X h ce sl tgt L st) (kf : B = some r → GG M X h ce sl n L st) : GG M X h ce sl pc L (.long y :: .long x :: st) := by
  obtain ⟨p, l, e, R, s, m, args, below, meth, c, Q⟩ := M
  obtain ⟨hx, hb, hown, hts, hU, hBs, hOs⟩ := hc
  obtain ⟨hd0, rfl⟩ := hd0
  obtain ⟨hd, rfl⟩ := hd
  intro H locs ls hP hO hl
  refine W.lcmp hx hb hd0 ?_
  exact lv_if_ne hx hb hd ht (fun q => kt (by rw [if_neg ((fun z => q ((lg_cmp_eq x y).mpr z)))] at hf; exact hf) H locs ls hP hO hl) (fun q => kf (by rw [if_pos ((lg_cmp_eq x y).mp q)] at hf; exact hf) H locs ls hP hO hl)

theorem r_icmp_lt {M : MV} {X : XT} {own : String} {cc : ByteArray} {h : PH} {ce sl pc n : Nat} {L : List (Nat × Value)} {st : List Value} {x y : Int32} {off : Int} {tgt : Nat} {α : Type} {A B : Option α} {r : α} (hc : Cx M X own cc) (hd : Dc cc pc (.if_icmp .lt off) 3 n) (ht : (pc : Int) + off = (tgt : Int)) (hf : (if x < y then A else B) = some r) (kt : A = some r → GG M X h ce sl tgt L st) (kf : B = some r → GG M X h ce sl n L st) : GG M X h ce sl pc L (.int y :: .int x :: st) := by
  obtain ⟨p, l, e, R, s, m, args, below, meth, c, Q⟩ := M
  obtain ⟨hx, hb, hown, hts, hU, hBs, hOs⟩ := hc
  obtain ⟨hd, rfl⟩ := hd
  intro H locs ls hP hO hl
  exact lv_icmp_lt hx hb hd ht (fun q => kt (by rw [if_pos q] at hf; exact hf) H locs ls hP hO hl) (fun q => kf (by rw [if_neg q] at hf; exact hf) H locs ls hP hO hl)

theorem r_if_lt {M : MV} {X : XT} {own : String} {cc : ByteArray} {h : PH} {ce sl pc n : Nat} {L : List (Nat × Value)} {st : List Value} {x : Int32} {off : Int} {tgt : Nat} {α : Type} {A B : Option α} {r : α} (hc : Cx M X own cc) (hd : Dc cc pc (.ifCond .lt off) 3 n) (ht : (pc : Int) + off = (tgt : Int)) (hf : (if x < 0 then A else B) = some r) (kt : A = some r → GG M X h ce sl tgt L st) (kf : B = some r → GG M X h ce sl n L st) : GG M X h ce sl pc L (.int x :: st) := by
  obtain ⟨p, l, e, R, s, m, args, below, meth, c, Q⟩ := M
  obtain ⟨hx, hb, hown, hts, hU, hBs, hOs⟩ := hc
  obtain ⟨hd, rfl⟩ := hd
  intro H locs ls hP hO hl
  exact lv_if_lt hx hb hd ht (fun q => kt (by rw [if_pos q] at hf; exact hf) H locs ls hP hO hl) (fun q => kf (by rw [if_neg q] at hf; exact hf) H locs ls hP hO hl)

theorem r_lcmp_lt {M : MV} {X : XT} {own : String} {cc : ByteArray} {h : PH} {ce sl pc n : Nat} {L : List (Nat × Value)} {st : List Value} {x y : Int64} {n1 : Nat} {off : Int} {tgt : Nat} {α : Type} {A B : Option α} {r : α} (hc : Cx M X own cc) (hd0 : Dc cc pc .lcmp 1 n1) (hd : Dc cc n1 (.ifCond .lt off) 3 n) (ht : (n1 : Int) + off = (tgt : Int)) (hf : (if x < y then A else B) = some r) (kt : A = some r → GG M X h ce sl tgt L st) (kf : B = some r → GG M X h ce sl n L st) : GG M X h ce sl pc L (.long y :: .long x :: st) := by
  obtain ⟨p, l, e, R, s, m, args, below, meth, c, Q⟩ := M
  obtain ⟨hx, hb, hown, hts, hU, hBs, hOs⟩ := hc
  obtain ⟨hd0, rfl⟩ := hd0
  obtain ⟨hd, rfl⟩ := hd
  intro H locs ls hP hO hl
  refine W.lcmp hx hb hd0 ?_
  exact lv_if_lt hx hb hd ht (fun q => kt (by rw [if_pos ((lg_cmp_lt x y).mp q)] at hf; exact hf) H locs ls hP hO hl) (fun q => kf (by rw [if_neg (fun z => q ((lg_cmp_lt x y).mpr z))] at hf; exact hf) H locs ls hP hO hl)

theorem r_icmp_ge {M : MV} {X : XT} {own : String} {cc : ByteArray} {h : PH} {ce sl pc n : Nat} {L : List (Nat × Value)} {st : List Value} {x y : Int32} {off : Int} {tgt : Nat} {α : Type} {A B : Option α} {r : α} (hc : Cx M X own cc) (hd : Dc cc pc (.if_icmp .ge off) 3 n) (ht : (pc : Int) + off = (tgt : Int)) (hf : (if y ≤ x then A else B) = some r) (kt : A = some r → GG M X h ce sl tgt L st) (kf : B = some r → GG M X h ce sl n L st) : GG M X h ce sl pc L (.int y :: .int x :: st) := by
  obtain ⟨p, l, e, R, s, m, args, below, meth, c, Q⟩ := M
  obtain ⟨hx, hb, hown, hts, hU, hBs, hOs⟩ := hc
  obtain ⟨hd, rfl⟩ := hd
  intro H locs ls hP hO hl
  exact lv_icmp_ge hx hb hd ht (fun q => kt (by rw [if_pos q] at hf; exact hf) H locs ls hP hO hl) (fun q => kf (by rw [if_neg q] at hf; exact hf) H locs ls hP hO hl)

theorem r_if_ge {M : MV} {X : XT} {own : String} {cc : ByteArray} {h : PH} {ce sl pc n : Nat} {L : List (Nat × Value)} {st : List Value} {x : Int32} {off : Int} {tgt : Nat} {α : Type} {A B : Option α} {r : α} (hc : Cx M X own cc) (hd : Dc cc pc (.ifCond .ge off) 3 n) (ht : (pc : Int) + off = (tgt : Int)) (hf : (if 0 ≤ x then A else B) = some r) (kt : A = some r → GG M X h ce sl tgt L st) (kf : B = some r → GG M X h ce sl n L st) : GG M X h ce sl pc L (.int x :: st) := by
  obtain ⟨p, l, e, R, s, m, args, below, meth, c, Q⟩ := M
  obtain ⟨hx, hb, hown, hts, hU, hBs, hOs⟩ := hc
  obtain ⟨hd, rfl⟩ := hd
  intro H locs ls hP hO hl
  exact lv_if_ge hx hb hd ht (fun q => kt (by rw [if_pos q] at hf; exact hf) H locs ls hP hO hl) (fun q => kf (by rw [if_neg q] at hf; exact hf) H locs ls hP hO hl)

theorem r_lcmp_ge {M : MV} {X : XT} {own : String} {cc : ByteArray} {h : PH} {ce sl pc n : Nat} {L : List (Nat × Value)} {st : List Value} {x y : Int64} {n1 : Nat} {off : Int} {tgt : Nat} {α : Type} {A B : Option α} {r : α} (hc : Cx M X own cc) (hd0 : Dc cc pc .lcmp 1 n1) (hd : Dc cc n1 (.ifCond .ge off) 3 n) (ht : (n1 : Int) + off = (tgt : Int)) (hf : (if y ≤ x then A else B) = some r) (kt : A = some r → GG M X h ce sl tgt L st) (kf : B = some r → GG M X h ce sl n L st) : GG M X h ce sl pc L (.long y :: .long x :: st) := by
  obtain ⟨p, l, e, R, s, m, args, below, meth, c, Q⟩ := M
  obtain ⟨hx, hb, hown, hts, hU, hBs, hOs⟩ := hc
  obtain ⟨hd0, rfl⟩ := hd0
  obtain ⟨hd, rfl⟩ := hd
  intro H locs ls hP hO hl
  refine W.lcmp hx hb hd0 ?_
  exact lv_if_ge hx hb hd ht (fun q => kt (by rw [if_pos ((lg_cmp_ge x y).mp q)] at hf; exact hf) H locs ls hP hO hl) (fun q => kf (by rw [if_neg (fun z => q ((lg_cmp_ge x y).mpr z))] at hf; exact hf) H locs ls hP hO hl)

theorem r_icmp_gt {M : MV} {X : XT} {own : String} {cc : ByteArray} {h : PH} {ce sl pc n : Nat} {L : List (Nat × Value)} {st : List Value} {x y : Int32} {off : Int} {tgt : Nat} {α : Type} {A B : Option α} {r : α} (hc : Cx M X own cc) (hd : Dc cc pc (.if_icmp .gt off) 3 n) (ht : (pc : Int) + off = (tgt : Int)) (hf : (if y < x then A else B) = some r) (kt : A = some r → GG M X h ce sl tgt L st) (kf : B = some r → GG M X h ce sl n L st) : GG M X h ce sl pc L (.int y :: .int x :: st) := by
  obtain ⟨p, l, e, R, s, m, args, below, meth, c, Q⟩ := M
  obtain ⟨hx, hb, hown, hts, hU, hBs, hOs⟩ := hc
  obtain ⟨hd, rfl⟩ := hd
  intro H locs ls hP hO hl
  exact lv_icmp_gt hx hb hd ht (fun q => kt (by rw [if_pos q] at hf; exact hf) H locs ls hP hO hl) (fun q => kf (by rw [if_neg q] at hf; exact hf) H locs ls hP hO hl)

theorem r_if_gt {M : MV} {X : XT} {own : String} {cc : ByteArray} {h : PH} {ce sl pc n : Nat} {L : List (Nat × Value)} {st : List Value} {x : Int32} {off : Int} {tgt : Nat} {α : Type} {A B : Option α} {r : α} (hc : Cx M X own cc) (hd : Dc cc pc (.ifCond .gt off) 3 n) (ht : (pc : Int) + off = (tgt : Int)) (hf : (if 0 < x then A else B) = some r) (kt : A = some r → GG M X h ce sl tgt L st) (kf : B = some r → GG M X h ce sl n L st) : GG M X h ce sl pc L (.int x :: st) := by
  obtain ⟨p, l, e, R, s, m, args, below, meth, c, Q⟩ := M
  obtain ⟨hx, hb, hown, hts, hU, hBs, hOs⟩ := hc
  obtain ⟨hd, rfl⟩ := hd
  intro H locs ls hP hO hl
  exact lv_if_gt hx hb hd ht (fun q => kt (by rw [if_pos q] at hf; exact hf) H locs ls hP hO hl) (fun q => kf (by rw [if_neg q] at hf; exact hf) H locs ls hP hO hl)

theorem r_lcmp_gt {M : MV} {X : XT} {own : String} {cc : ByteArray} {h : PH} {ce sl pc n : Nat} {L : List (Nat × Value)} {st : List Value} {x y : Int64} {n1 : Nat} {off : Int} {tgt : Nat} {α : Type} {A B : Option α} {r : α} (hc : Cx M X own cc) (hd0 : Dc cc pc .lcmp 1 n1) (hd : Dc cc n1 (.ifCond .gt off) 3 n) (ht : (n1 : Int) + off = (tgt : Int)) (hf : (if y < x then A else B) = some r) (kt : A = some r → GG M X h ce sl tgt L st) (kf : B = some r → GG M X h ce sl n L st) : GG M X h ce sl pc L (.long y :: .long x :: st) := by
  obtain ⟨p, l, e, R, s, m, args, below, meth, c, Q⟩ := M
  obtain ⟨hx, hb, hown, hts, hU, hBs, hOs⟩ := hc
  obtain ⟨hd0, rfl⟩ := hd0
  obtain ⟨hd, rfl⟩ := hd
  intro H locs ls hP hO hl
  refine W.lcmp hx hb hd0 ?_
  exact lv_if_gt hx hb hd ht (fun q => kt (by rw [if_pos ((lg_cmp_gt x y).mp q)] at hf; exact hf) H locs ls hP hO hl) (fun q => kf (by rw [if_neg (fun z => q ((lg_cmp_gt x y).mpr z))] at hf; exact hf) H locs ls hP hO hl)

theorem r_icmp_le {M : MV} {X : XT} {own : String} {cc : ByteArray} {h : PH} {ce sl pc n : Nat} {L : List (Nat × Value)} {st : List Value} {x y : Int32} {off : Int} {tgt : Nat} {α : Type} {A B : Option α} {r : α} (hc : Cx M X own cc) (hd : Dc cc pc (.if_icmp .le off) 3 n) (ht : (pc : Int) + off = (tgt : Int)) (hf : (if x ≤ y then A else B) = some r) (kt : A = some r → GG M X h ce sl tgt L st) (kf : B = some r → GG M X h ce sl n L st) : GG M X h ce sl pc L (.int y :: .int x :: st) := by
  obtain ⟨p, l, e, R, s, m, args, below, meth, c, Q⟩ := M
  obtain ⟨hx, hb, hown, hts, hU, hBs, hOs⟩ := hc
  obtain ⟨hd, rfl⟩ := hd
  intro H locs ls hP hO hl
  exact lv_icmp_le hx hb hd ht (fun q => kt (by rw [if_pos q] at hf; exact hf) H locs ls hP hO hl) (fun q => kf (by rw [if_neg q] at hf; exact hf) H locs ls hP hO hl)

theorem r_if_le {M : MV} {X : XT} {own : String} {cc : ByteArray} {h : PH} {ce sl pc n : Nat} {L : List (Nat × Value)} {st : List Value} {x : Int32} {off : Int} {tgt : Nat} {α : Type} {A B : Option α} {r : α} (hc : Cx M X own cc) (hd : Dc cc pc (.ifCond .le off) 3 n) (ht : (pc : Int) + off = (tgt : Int)) (hf : (if x ≤ 0 then A else B) = some r) (kt : A = some r → GG M X h ce sl tgt L st) (kf : B = some r → GG M X h ce sl n L st) : GG M X h ce sl pc L (.int x :: st) := by
  obtain ⟨p, l, e, R, s, m, args, below, meth, c, Q⟩ := M
  obtain ⟨hx, hb, hown, hts, hU, hBs, hOs⟩ := hc
  obtain ⟨hd, rfl⟩ := hd
  intro H locs ls hP hO hl
  exact lv_if_le hx hb hd ht (fun q => kt (by rw [if_pos q] at hf; exact hf) H locs ls hP hO hl) (fun q => kf (by rw [if_neg q] at hf; exact hf) H locs ls hP hO hl)

theorem r_lcmp_le {M : MV} {X : XT} {own : String} {cc : ByteArray} {h : PH} {ce sl pc n : Nat} {L : List (Nat × Value)} {st : List Value} {x y : Int64} {n1 : Nat} {off : Int} {tgt : Nat} {α : Type} {A B : Option α} {r : α} (hc : Cx M X own cc) (hd0 : Dc cc pc .lcmp 1 n1) (hd : Dc cc n1 (.ifCond .le off) 3 n) (ht : (n1 : Int) + off = (tgt : Int)) (hf : (if x ≤ y then A else B) = some r) (kt : A = some r → GG M X h ce sl tgt L st) (kf : B = some r → GG M X h ce sl n L st) : GG M X h ce sl pc L (.long y :: .long x :: st) := by
  obtain ⟨p, l, e, R, s, m, args, below, meth, c, Q⟩ := M
  obtain ⟨hx, hb, hown, hts, hU, hBs, hOs⟩ := hc
  obtain ⟨hd0, rfl⟩ := hd0
  obtain ⟨hd, rfl⟩ := hd
  intro H locs ls hP hO hl
  refine W.lcmp hx hb hd0 ?_
  exact lv_if_le hx hb hd ht (fun q => kt (by rw [if_pos ((lg_cmp_le x y).mp q)] at hf; exact hf) H locs ls hP hO hl) (fun q => kf (by rw [if_neg (fun z => q ((lg_cmp_le x y).mpr z))] at hf; exact hf) H locs ls hP hO hl)

theorem r_goto {M : MV} {X : XT} {own : String} {cc : ByteArray} {h : PH} {ce sl pc n : Nat} {L : List (Nat × Value)} {st : List Value} {off : Int} {tgt : Nat} (hc : Cx M X own cc) (hd : Dc cc pc (.goto off) 3 n) (ht : (pc : Int) + off = (tgt : Int)) (k : GG M X h ce sl tgt L st) : GG M X h ce sl pc L st := by
  obtain ⟨p, l, e, R, s, m, args, below, meth, c, Q⟩ := M
  obtain ⟨hx, hb, hown, hts, hU, hBs, hOs⟩ := hc
  obtain ⟨hd, rfl⟩ := hd
  intro H locs ls hP hO hl
  exact lv_goto hx hb hd ht (k H locs ls hP hO hl)

theorem r_ldc {M : MV} {X : XT} {own : String} {cc : ByteArray} {h : PH} {ce sl pc n : Nat} {L : List (Nat × Value)} {st : List Value} {idx : Nat} {v : Int32} (hc : Cx M X own cc) (hd : Dc cc pc (.ldc idx) 2 n) (hw : Cond.constant own idx v ∈ lw_k) (k : GG M X h ce sl n L (.int v :: st)) : GG M X h ce sl pc L st := by
  obtain ⟨p, l, e, R, s, m, args, below, meth, c, Q⟩ := M
  obtain ⟨hx, hb, hown, hts, hU, hBs, hOs⟩ := hc
  obtain ⟨hd, rfl⟩ := hd
  intro H locs ls hP hO hl
  exact lv_ldc hx hb hown (hts _ hw) hd (k H locs ls hP hO hl)

theorem r_ldcw {M : MV} {X : XT} {own : String} {cc : ByteArray} {h : PH} {ce sl pc n : Nat} {L : List (Nat × Value)} {st : List Value} {idx : Nat} {v : Int32} (hc : Cx M X own cc) (hd : Dc cc pc (.ldc_w idx) 3 n) (hw : Cond.constant own idx v ∈ lw_k) (k : GG M X h ce sl n L (.int v :: st)) : GG M X h ce sl pc L st := by
  obtain ⟨p, l, e, R, s, m, args, below, meth, c, Q⟩ := M
  obtain ⟨hx, hb, hown, hts, hU, hBs, hOs⟩ := hc
  obtain ⟨hd, rfl⟩ := hd
  intro H locs ls hP hO hl
  exact lv_ldcw hx hb hown (hts _ hw) hd (k H locs ls hP hO hl)

theorem r_ldc2 {M : MV} {X : XT} {own : String} {cc : ByteArray} {h : PH} {ce sl pc n : Nat} {L : List (Nat × Value)} {st : List Value} {idx : Nat} {v : Int64} (hc : Cx M X own cc) (hd : Dc cc pc (.ldc2_w idx) 3 n) (hw : Cond.constantLong own idx v ∈ lw_k) (k : GG M X h ce sl n L (.long v :: st)) : GG M X h ce sl pc L st := by
  obtain ⟨p, l, e, R, s, m, args, below, meth, c, Q⟩ := M
  obtain ⟨hx, hb, hown, hts, hU, hBs, hOs⟩ := hc
  obtain ⟨hd, rfl⟩ := hd
  intro H locs ls hP hO hl
  exact lv_ldc2 hx hb hown (hts _ hw) hd (k H locs ls hP hO hl)

theorem r_ldcS {M : MV} {X : XT} {own : String} {cc : ByteArray} {h : PH} {ce sl pc n : Nat} {L : List (Nat × Value)} {st : List Value} {idx : Nat} (j : Nat) (hc : Cx M X own cc) (hd : Dc cc pc (.ldc idx) 2 n) (hj : j < 10) (ho : sOwn j = own) (hi : sIdx j = idx) (k : GG M X h ce sl n L (.ref (X.2.2.2.2.1 j) :: st)) : GG M X h ce sl pc L st := by
  obtain ⟨p, l, e, R, s, m, args, below, meth, c, Q⟩ := M
  obtain ⟨hx, hb, hown, hts, hU, hBs, hOs⟩ := hc
  obtain ⟨hd, rfl⟩ := hd
  subst ho; subst hi
  intro H locs ls hP hO hl
  exact va_ldcS hx hb hown (hU.2.1 j hj) hd (k H locs ls hP hO hl)

theorem r_ifnonnull {M : MV} {X : XT} {own : String} {cc : ByteArray} {h : PH} {ce sl pc n : Nat} {L : List (Nat × Value)} {st : List Value} {q : Option Nat} {off : Int} {tgt : Nat} {α : Type} {A B : Option α} {r : α} (hc : Cx M X own cc) (hd : Dc cc pc (.ifnonnull off) 3 n) (ht : (pc : Int) + off = (tgt : Int)) (hf : (if q = none then B else A) = some r) (kt : A = some r → GG M X h ce sl tgt L st) (kf : B = some r → q = none → GG M X h ce sl n L st) : GG M X h ce sl pc L (va_rf (q.map (fun k => X.1 + k)) :: st) := by
  obtain ⟨p, l, e, R, s, m, args, below, meth, c, Q⟩ := M
  obtain ⟨hx, hb, hown, hts, hU, hBs, hOs⟩ := hc
  obtain ⟨hd, rfl⟩ := hd
  intro H locs ls hP hO hl
  cases q with
  | none =>
    rw [if_pos rfl] at hf
    exact lv_ifnonnullN hx hb hd (kf hf rfl H locs ls hP hO hl)
  | some q =>
    rw [if_neg (fun z => by cases z)] at hf
    exact lv_ifnonnull hx hb hd ht (kt hf H locs ls hP hO hl)

theorem gg_sub {M : MV} {X : XT} {h : PH} {ce sl pc : Nat} {L L' : List (Nat × Value)} {st : List Value} (ks : List Nat) (hl : lv_pick L ks = L') (k : GG M X h ce sl pc L' st) : GG M X h ce sl pc L st := by
  obtain ⟨p, l, e, R, s, m, args, below, meth, c, Q⟩ := M
  intro H locs ls hP hO h1
  exact k H locs ls hP hO (lv_sub h1 ks hl)
theorem sw_cases {α : Type} {x : Int32} {lo : Int} {l : List (Option α)} {D : Option α} {r : α} (hf : swN x lo l D = some r) : (∃ i : Nat, i < l.length ∧ x.toInt = lo + i ∧ l.getD i D = some r) ∨ ((x.toInt < lo ∨ lo + l.length ≤ x.toInt) ∧ D = some r) := by
  unfold swN at hf
  by_cases h1 : lo ≤ x.toInt
  · rw [if_pos h1] at hf
    by_cases h2 : x.toInt < lo + l.length
    · exact Or.inl ⟨(x.toInt - lo).toNat, by omega, by omega, hf⟩
    · refine Or.inr ⟨Or.inr (by omega), ?_⟩
      rw [List.getD_eq_getElem?_getD, List.getElem?_eq_none (by omega)] at hf
      exact hf
  · rw [if_neg h1] at hf
    exact Or.inr ⟨Or.inl (by omega), hf⟩

theorem r_tableIn {M : MV} {X : XT} {own : String} {cc : ByteArray} {h : PH} {ce sl pc n : Nat} {L : List (Nat × Value)} {st : List Value} {x : Int32} {dflt lo hi : Int} {offs : Array Int} {len tgt : Nat} {off : Int} (i : Nat) (hc : Cx M X own cc) (hd : Dc cc pc (.tableswitch dflt lo hi offs) len n) (h1 : x.toInt = lo + (i : Int)) (h2 : offs[i]? = some off) (h3 : lo + (i : Int) ≤ hi) (ht : (pc : Int) + off = (tgt : Int)) (k : GG M X h ce sl tgt L st) : GG M X h ce sl pc L (.int x :: st) := by
  obtain ⟨p, l, e, R, s, m, args, below, meth, c, Q⟩ := M
  obtain ⟨hx, hb, hown, hts, hU, hBs, hOs⟩ := hc
  obtain ⟨hd, rfl⟩ := hd
  intro H locs ls hP hO hl
  exact lv_tableIn hx hb hd (by omega) (by omega) (by rw [show (x.toInt - lo).toNat = i by omega]; exact h2) ht (k H locs ls hP hO hl)

theorem r_tableOut {M : MV} {X : XT} {own : String} {cc : ByteArray} {h : PH} {ce sl pc n : Nat} {L : List (Nat × Value)} {st : List Value} {x : Int32} {dflt lo hi : Int} {offs : Array Int} {len tgt : Nat}  (i : Nat) (hc : Cx M X own cc) (hd : Dc cc pc (.tableswitch dflt lo hi offs) len n) (h1 : x.toInt < lo ∨ lo + (i : Int) ≤ x.toInt) (h2 : lo + (i : Int) = hi + 1) (ht : (pc : Int) + dflt = (tgt : Int)) (k : GG M X h ce sl tgt L st) : GG M X h ce sl pc L (.int x :: st) := by
  obtain ⟨p, l, e, R, s, m, args, below, meth, c, Q⟩ := M
  obtain ⟨hx, hb, hown, hts, hU, hBs, hOs⟩ := hc
  obtain ⟨hd, rfl⟩ := hd
  intro H locs ls hP hO hl
  exact lv_tableOut hx hb hd (by omega) ht (k H locs ls hP hO hl)

theorem r_lookup {M : MV} {X : XT} {own : String} {cc : ByteArray} {h : PH} {ce sl pc n : Nat} {L : List (Nat × Value)} {st : List Value} {x : Int32} {dflt off : Int} {ps : Array (Int × Int)} {len tgt : Nat} (hc : Cx M X own cc) (hd : Dc cc pc (.lookupswitch dflt ps) len n) (hp : (ps.toList.zip (ps.toList.drop 1)).all (fun (a, next) => a.1 < next.1) = true) (ho : Op.lookupswitch.offset ps.toList dflt x.toInt = off) (ht : (pc : Int) + off = (tgt : Int)) (k : GG M X h ce sl tgt L st) : GG M X h ce sl pc L (.int x :: st) := by
  obtain ⟨p, l, e, R, s, m, args, below, meth, c, Q⟩ := M
  obtain ⟨hx, hb, hown, hts, hU, hBs, hOs⟩ := hc
  obtain ⟨hd, rfl⟩ := hd
  intro H locs ls hP hO hl
  exact lv_lookup hx hb hd hp ho ht (k H locs ls hP hO hl)

theorem r_nm {M : MV} {X : XT} {h : PH} {ce sl pc : Nat} {L : List (Nat × Value)} {st : List Value} {τ α : Type} {e : τ} {mk : τ → Value} {f : τ → Option α} {r : α} (hf : bindv0 e f = some r) (k : ∀ x, f x = some r → GG M X h ce sl pc L (mk x :: st)) : GG M X h ce sl pc L (mk e :: st) := k e hf
