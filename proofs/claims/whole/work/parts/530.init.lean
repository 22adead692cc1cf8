/-! the start: both are made -/
def mZ : Mem := (fun _ _ => 0, fun _ _ => 0, fun _ _ => none)
def mN9 : Mem := wR (wR (wR (wL (wL (wR (wL (wL (wR (wR (wR (wI (wR (wR (wR (wR (wR (wR (wR (wR (wR (wR (wR (wR (wR (wR (wI (wI (wI (wI (wI (wR mZ 0 0 (some 1)) 0 1 (0 : Int32)) 0 2 (0 : Int32)) 0 3 (-1 : Int32)) 2 0 (4 : Int32)) 2 5 (1 : Int32)) 2 7 (some 3)) 2 8 (some 4)) 2 10 (some 5)) 2 11 (some 6)) 2 12 (some 7)) 2 13 (some 8)) 2 14 (some 9)) 2 16 (some 10)) 2 17 (some 11)) 0 4 (some 2)) 0 6 (some 12)) 0 7 (some 13)) 0 8 (some 14)) 0 9 (some 15)) 0 10 (0 : Int32)) 16 2 (some 17)) 16 3 (some 18)) 0 11 (some 16)) 19 0 (0 : Int64)) 19 1 (1 : Int64)) 0 12 (some 19)) 20 0 (0 : Int64)) 20 1 (1 : Int64)) 0 13 (some 20)) 0 14 (some 21)) 0 15 (some 22)
def mN10 : Mem := wR (wR (wR (wI (wI (wI (wI (wR (wR (wR (wR (wR (wR (wR (wR (wR (wR (wR (wR (wR (wR (wR (wR (wR (wR (wR (wR (wR (wR (wI (wR (wR (wR (wR mN9 23 1 (some 24)) 23 2 (some 25)) 23 3 (some 26)) 23 4 (some 27)) 23 14 (-1 : Int32)) 23 19 (some 28)) 23 20 (some 29)) 23 23 (some 30)) 23 24 (some 31)) 23 25 (some 32)) 23 26 (some 33)) 23 27 (some 34)) 23 28 (some 35)) 23 30 (some 36)) 23 31 (some 37)) 23 32 (some 38)) 23 36 (some 39)) 23 37 (some 40)) 23 38 (some 41)) 23 41 (some 42)) 23 42 (some 43)) 23 43 (some 44)) 23 44 (some 45)) 23 45 (some 46)) 23 48 (some 47)) 23 49 (some 48)) 23 50 (some 49)) 50 0 (-1 : Int32)) 50 1 (-1 : Int32)) 50 2 (-1 : Int32)) 50 3 (-1 : Int32)) 23 52 (some 50)) 23 53 (some 51)) 23 54 (some 52)
def sN9 : List Sh := sB.take 23
theorem gsZ (s : List Sh) : GS s mZ := ⟨⟨fun a c k b _ _ hb => (by cases hb), fun a t n i b _ _ hb => (by cases hb)⟩, fun a _ => ⟨fun _ => rfl, fun _ => rfl, fun _ => rfl⟩⟩
set_option maxRecDepth 20000 in
theorem new9 : n_X9_init [.inl 9] mZ 0 = some ((), sN9, mN9) := by
  unfold n_X9_init nb_X9_init_0 n_X0_init nb_X0_init_0 n_X4_init nb_X4_init_0 n_X2_init nb_X2_init_0
  simp only [bindv, bindv0, bind3_s, List.length_append, List.length_cons, List.length_nil, List.append_assoc, List.cons_append, List.nil_append, Nat.add_assoc, Nat.zero_add, Nat.reduceAdd]
  rfl
set_option maxRecDepth 20000 in
theorem new10 {F : Nat} : n_X10_init F (sN9 ++ [.inl 10]) mN9 23 = bind2 (n_X10_plain F sB mN10 24) fun _ m95 => some ((), sB, m95) := by
  unfold n_X10_init nb_X10_init_0 sN9
  rfl
