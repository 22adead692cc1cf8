/-! String constants: length() and charAt() as the JDK's code; Math.min, Math.abs -/
theorem gd_at {α : Type} {l : List (Option α)} {i : Nat} {D A : Option α} {r : α} (h : l.getD i D = some r) (hl : l[i]? = some A) : A = some r := by
  rw [List.getD_eq_getElem?_getD, hl] at h
  exact h
theorem lk_ne {x : Int32} {k : Int} {y : Int32} (hy : y.toInt = k) (h : ¬ x = y) : k ≠ x.toInt := fun q => h (Int32.toInt_inj.mp (q.symm.trans hy.symm))
theorem lk_dflt {ps : List (Int × Int)} {d x : Int} (h : ∀ q ∈ ps, q.1 ≠ x) : Op.lookupswitch.offset ps d x = d := by
  induction ps with
  | nil => rfl
  | cons a t ih =>
    obtain ⟨k, o⟩ := a
    have h1 := h (k, o) List.mem_cons_self
    unfold Op.lookupswitch.offset
    first
      | (rw [if_neg h1]; exact ih (fun q hq => h q (List.mem_cons_of_mem _ hq)))
      | (rw [if_neg (fun z => h1 z.symm)]; exact ih (fun q hq => h q (List.mem_cons_of_mem _ hq)))
      | (simp [h1]; exact ih (fun q hq => h q (List.mem_cons_of_mem _ hq)))
def jmin (x y : Int32) : Int32 := if y < x then y else x
def jabsL (x : Int64) : Int64 := if 0 < x then x else -x
def sLenF (j : Nat) : Option Int32 := if j < 10 then some (Int32.ofNat (sLen.getD j 0)) else none
def sChrF (j : Nat) (i : Int32) : Option Int32 := if j < 10 ∧ 0 ≤ i ∧ i.toNatClampNeg < sLen.getD j 0 then some ((sByt.getD j []).getD i.toNatClampNeg 0) else none
section RS
variable {M : MV} {X : XT} {own : String} {cc : ByteArray} {h : PH} {ce sl pc n : Nat} {L : List (Nat × Value)} {st : List Value} {idx : Nat} {fr lo mc ms nL : Nat}
theorem r_mmin {x y : Int32} (hc : Cx M X own cc) (hr : Rx M fr lo mc ms nL) (hd : Dc cc pc (.invokestatic idx) 3 n) (hlk : Cond.methodLink own idx yJ9_min_7cf53 ∈ lw_k) (hy : MV0 yJ9_min_7cf53 cJ9_min_7cf53 2 (some .int) 2) (hv : Cond.static yJ9_min_7cf53 ∈ lw_k) (hfr : 1 ≤ fr) (hlo : (st.map fun v => v.category).sum + 13 ≤ lo) (hm : ce ≤ mc) (hs : sl ≤ ms) (k : GG M X h ce sl n L (.int (jmin x y) :: st)) : GG M X h ce sl pc L (.int y :: .int x :: st) := by
  obtain ⟨p, l, e, R, s, m, args, below, meth, c, Q⟩ := M
  obtain ⟨hx, hb, hown, hts, hU, hBs, hOs⟩ := hc
  obtain ⟨hR, hnL⟩ := hr
  obtain ⟨hd, rfl⟩ := hd
  intro H locs ls hP hO hl
  exact va_mmin hx hb hl.1.symm hown (hts _ hlk) (hts _ hv) (hts _ hy.2.1) (hts _ hy.1) (by rw [hR]; exact hfr) (by rw [hR]; exact hlo) (by rw [hR]; exact hm) (by rw [hR]; exact hs) hd (k H locs ls hP hO hl)
theorem r_mabsL {x : Int64} (hc : Cx M X own cc) (hr : Rx M fr lo mc ms nL) (hd : Dc cc pc (.invokestatic idx) 3 n) (hlk : Cond.methodLink own idx yJ9_abs_067f4 ∈ lw_k) (hy : MV0 yJ9_abs_067f4 cJ9_abs_067f4 2 (some .long) 1) (hv : Cond.static yJ9_abs_067f4 ∈ lw_k) (hfr : 1 ≤ fr) (hlo : (st.map fun v => v.category).sum + 13 ≤ lo) (hm : ce ≤ mc) (hs : sl ≤ ms) (k : GG M X h ce sl n L (.long (jabsL x) :: st)) : GG M X h ce sl pc L (.long x :: st) := by
  obtain ⟨p, l, e, R, s, m, args, below, meth, c, Q⟩ := M
  obtain ⟨hx, hb, hown, hts, hU, hBs, hOs⟩ := hc
  obtain ⟨hR, hnL⟩ := hr
  obtain ⟨hd, rfl⟩ := hd
  intro H locs ls hP hO hl
  exact va_mabs_long hx hb hl.1.symm hown (hts _ hlk) (hts _ hv) (hts _ hy.2.1) (hts _ hy.1) (by rw [hR]; exact hfr) (by rw [hR]; exact hlo) (by rw [hR]; exact hm) (by rw [hR]; exact hs) hd (k H locs ls hP hO hl)
theorem r_getsC (hc : Cx M X own cc) (hd : Dc cc pc (.getstatic idx) 3 n) (hlk : Cond.fieldLink own idx "java/lang/String" "COMPACT_STRINGS" "Z" ∈ lw_k) (k : GG M X h ce sl n L (.int 1 :: st)) : GG M X h ce sl pc L st := by
  obtain ⟨p, l, e, R, s, m, args, below, meth, c, Q⟩ := M
  obtain ⟨hx, hb, hown, hts, hU, hBs, hOs⟩ := hc
  obtain ⟨hd, rfl⟩ := hd
  intro H locs ls hP hO hl
  obtain ⟨cf, kf, fi, f, a, cell, h1, h2, h3, h4, h5, h6, h7, h8⟩ := hU.2.2.2.1
  exact W.gets hx hb hown (hts _ hlk) h1 h2 h3 h4 (by rw [hP.2.2.1 a (Nat.not_le.mp h8)]; exact h5) (fun e => by rw [e] at h6; cases h6) h7 rfl hd (k H locs ls hP hO hl)
theorem r_getsF (hc : Cx M X own cc) (hd : Dc cc pc (.getstatic idx) 3 n) (hlk : Cond.fieldLink own idx "jdk/internal/util/Preconditions" "SIOOBE_FORMATTER" "Ljava/util/function/BiFunction;" ∈ lw_k) (k : ∀ v : Value, (v = .null ∨ ∃ t : Nat, v = .ref t) → GG M X h ce sl n L (v :: st)) : GG M X h ce sl pc L st := by
  obtain ⟨p, l, e, R, s, m, args, below, meth, c, Q⟩ := M
  obtain ⟨hx, hb, hown, hts, hU, hBs, hOs⟩ := hc
  obtain ⟨hd, rfl⟩ := hd
  intro H locs ls hP hO hl
  have go : ∀ v : Value, (v = .null ∨ ∃ t : Nat, v = .ref t) → va_Z "jdk/internal/util/Preconditions" "SIOOBE_FORMATTER" "Ljava/util/function/BiFunction;" v (fun q => X.1 ≤ q) s X.2.2.2.1 → W p l e R s m args below meth c H locs ce sl Q (F0 m pc ls st) := fun v hv hZ => by
    obtain ⟨cf, kf, fi, f, a, cell, h1, h2, h3, h4, h5, h6, h7, h8⟩ := hZ
    exact W.gets hx hb hown (hts _ hlk) h1 h2 h3 h4 (by rw [hP.2.2.1 a (Nat.not_le.mp h8)]; exact h5) (fun e => by rw [e] at h6; cases h6) h7 rfl hd (k v hv H locs ls hP hO hl)
  rcases hU.2.2.2.2.1 with hZ | ⟨t, hZ⟩
  · exact go .null (Or.inl rfl) hZ
  · exact go (.ref t) (Or.inr ⟨t, rfl⟩) hZ
theorem r_sgetf {j : Nat} {nm ds : String} {v : Value} (hj : j < 10) (hc : Cx M X own cc) (hd : Dc cc pc (.getfield idx) 3 n) (hlk : Cond.fieldLink own idx "java/lang/String" nm ds ∈ lw_k) (hv : ∀ U : State, UX X U → va_OF "java/lang/String" nm ds v (X.2.2.2.2.1 j) (fun q => X.1 ≤ q) U X.2.2.2.1) (k : GG M X h ce sl n L (v :: st)) : GG M X h ce sl pc L (.ref (X.2.2.2.2.1 j) :: st) := by
  obtain ⟨p, l, e, R, s, m, args, below, meth, c, Q⟩ := M
  obtain ⟨hx, hb, hown, hts, hU, hBs, hOs⟩ := hc
  obtain ⟨hd, rfl⟩ := hd
  intro H locs ls hP hO hl
  obtain ⟨cf, kf, fi, f, cell, h1, h2, h3, h4, h5, h6⟩ := hv s hU
  exact W.getf hx hb hown (hts _ hlk) h1 h2 (by rw [hP.2.2.1 _ (Nat.not_le.mp h6)]; exact h3) h4 (v := v) h5 rfl rfl hd (k H locs ls hP hO hl)
theorem r_stlen {j : Nat} (hj : j < 10) (hc : Cx M X own cc) (hd : Dc cc pc .arraylength 1 n) (k : GG M X h ce sl n L (.int (Int32.ofNat (sLen.getD j 0)) :: st)) : GG M X h ce sl pc L (.ref (X.2.2.2.2.2 j) :: st) := by
  obtain ⟨p, l, e, R, s, m, args, below, meth, c, Q⟩ := M
  obtain ⟨hx, hb, hown, hts, hU, hBs, hOs⟩ := hc
  obtain ⟨hd, rfl⟩ := hd
  intro H locs ls hP hO hl
  obtain ⟨cell, h1, h2, h3, h4, h5, h6, h7⟩ := (hU.2.2.1.1 j hj).2.2.2
  exact W.alen hx hb (by rw [hP.2.2.1 _ (Nat.not_le.mp h7)]; exact h1) h2 h5 rfl rfl hd (k H locs ls hP hO hl)
theorem r_stb {j : Nat} {i : Int32} (hj : j < 10) (hi : 0 ≤ i ∧ i.toNatClampNeg < sLen.getD j 0) (hc : Cx M X own cc) (hd : Dc cc pc .baload 1 n) (k : GG M X h ce sl n L (.int ((sByt.getD j []).getD i.toNatClampNeg 0) :: st)) : GG M X h ce sl pc L (.int i :: .ref (X.2.2.2.2.2 j) :: st) := by
  obtain ⟨p, l, e, R, s, m, args, below, meth, c, Q⟩ := M
  obtain ⟨hx, hb, hown, hts, hU, hBs, hOs⟩ := hc
  obtain ⟨hd, rfl⟩ := hd
  intro H locs ls hP hO hl
  obtain ⟨cell, h1, h2, h3, h4, h5, h6, h7⟩ := (hU.2.2.1.1 j hj).2.2.2
  have hin := vin_of hi
  have hin' : ¬ (i < 0 ∨ cell.slots.size ≤ i.toNatClampNeg) := by
    rintro (q | q)
    · exact hin (Or.inl q)
    · omega
  exact W.bald hx hb (by rw [hP.2.2.1 _ (Nat.not_le.mp h7)]; exact h1) h2 h3 hin' (h6 _ hi.2) rfl rfl hd (k H locs ls hP hO hl)
theorem r_i2c {x y : Int32} (hc : Cx M X own cc) (hd : Dc cc pc .i2c 1 n) (hv : (x.toUInt32 % 65536).toInt32 = y) (k : GG M X h ce sl n L (.int y :: st)) : GG M X h ce sl pc L (.int x :: st) := by
  obtain ⟨p, l, e, R, s, m, args, below, meth, c, Q⟩ := M
  obtain ⟨hx, hb, hown, hts, hU, hBs, hOs⟩ := hc
  obtain ⟨hd, rfl⟩ := hd
  intro H locs ls hP hO hl
  exact lv_i2c hx hb hd hv (k H locs ls hP hO hl)
theorem r_tret {x : Int32} {ty : FieldType} {nm : String} (hc : Cx M X own cc) (he : Ex M X (some ty) nm (some (.int x)) h mc ms) (hn : narrow ty (.int x) = .int x) (hm : ce ≤ mc) (hs : sl ≤ ms) (hd : Dc cc pc .ireturn 1 n) : GG M X h ce sl pc L [.int x] := by
  obtain ⟨p, l, e, R, s, m, args, below, meth, c, Q⟩ := M
  obtain ⟨hx, hb, hown, hts, hU, hBs, hOs⟩ := hc
  obtain ⟨rfl, hlocks, hret, -⟩ := he
  obtain ⟨hd, -⟩ := hd
  intro H locs ls hP hO hl
  exact W.widen hm hs (W.zret hx hb hret hn (fun t ht _ => ⟨rfl, by rw [ht]; exact hP⟩) hO hd hlocks)
theorem r_callStr {y : MethodName} {cc' : ByteArray} {nL' np fr' lo' j : Nat} {ret : Option FieldType} {As : List Value} {x : Int32} (hj : j < 10) (hc : Cx M X own cc) (hr : Rx M fr lo mc ms nL) (hd : Dc cc pc (.invokevirtual idx) 3 n) (hlk : Cond.methodLink own idx y ∈ lw_k) (hy : MV0 y cc' nL' ret np) (hv : Cond.instanceMethod y ∈ lw_k ∧ Cond.selects "java/lang/String" y y ∈ lw_k) (hn : As.length = np)
    (hM : MT M.2.1 X y cc' nL' ret fr' lo' 0 0 (.ref (X.2.2.2.2.1 j) :: As) h (some (.int x)) h) (hfr : fr' + 1 ≤ fr) (hlo : 8 + (nL' + 11) + lo' ≤ lo) (hst : (st.map fun v => v.category).sum ≤ 8) (hmc : ce ≤ mc) (hms : sl ≤ ms) (k : GG M X h ce sl n L (.int x :: st)) : GG M X h ce sl pc L (As.reverse ++ .ref (X.2.2.2.2.1 j) :: st) := by
  obtain ⟨p, l, e, R, s, m, args, below, meth, c, Q⟩ := M
  obtain ⟨hx, hb, hown, hts, hU, hBs, hOs⟩ := hc
  obtain ⟨hR, hnL⟩ := hr
  obtain ⟨hd, rfl⟩ := hd
  intro H locs ls hP hO hl
  obtain ⟨cell, g1, g2, g3, g4⟩ := (hU.2.2.1.1 j hj).1
  have hrec : ∃ cellB : Cell, H[X.2.2.2.2.1 j]? = some cellB ∧ cellB.vm.isStatics = false ∧ s.vm.findClass "java/lang/String" = some cellB.cls := ⟨cell, by rw [hP.2.2.1 _ (Nat.not_le.mp g4)]; exact g1, g2, g3⟩
  have cB := callB_of (R := R) (rm := { frames := fr', cells := 0, slots := 0, locals := lo' }) (own := own) (index := idx) np hts (lw_goodIn hy.1) rfl rfl rfl (hts _ hy.2.1) (hts _ hlk) hy.2.2 ⟨by rw [hR]; exact hfr, by rw [hR]; exact hlo⟩
  exact r_back (W.runV (Ts := lw_k) ⟨hx, hb, hnL, hown, hts⟩ hM ⟨cB, hts _ hv.1, hts _ hv.2⟩ ⟨pc_blind, hrec, fun U hU2 hW => ⟨rfl, hU.warm hW, by rw [hU2]; exact hP⟩⟩ rfl hn (by rw [← hnL]; exact hl.1) rfl (lv_room hst) hd ⟨by rw [hR]; exact hmc, by rw [hR]; exact hms⟩) hO hl k
end RS
-- STRFACTS
def lJ0_coder_7d493L : List (Nat × Instr × Nat × Nat) := [(0, .getstatic 38, 3, 3), (3, .ifCond .eq 10, 3, 6), (6, .aload_n 0, 1, 7), (7, .getfield 15, 3, 10), (10, .goto 4, 3, 13), (13, .iconst 1, 1, 14), (14, .ireturn, 1, 15)]
theorem dJ0_coder_7d493 : dcL cJ0_coder_7d493 lJ0_coder_7d493L = true := by decide +kernel
def lJ0_isLatin1_aae02L : List (Nat × Instr × Nat × Nat) := [(0, .getstatic 38, 3, 3), (3, .ifCond .eq 14, 3, 6), (6, .aload_n 0, 1, 7), (7, .getfield 15, 3, 10), (10, .ifCond .ne 7, 3, 13), (13, .iconst 1, 1, 14), (14, .goto 4, 3, 17), (17, .iconst 0, 1, 18), (18, .ireturn, 1, 19)]
theorem dJ0_isLatin1_aae02 : dcL cJ0_isLatin1_aae02 lJ0_isLatin1_aae02L = true := by decide +kernel
def lJ3_checkIndex_8e157L : List (Nat × Instr × Nat × Nat) := [(0, .iload_n 0, 1, 1), (1, .ifCond .lt 8, 3, 4), (4, .iload_n 0, 1, 5), (5, .iload_n 1, 1, 6), (6, .if_icmp .lt 10, 3, 9), (9, .aload_n 2, 1, 10), (10, .iload_n 0, 1, 11), (11, .iload_n 1, 1, 12), (12, .invokestatic 95, 3, 15), (15, .athrow, 1, 16), (16, .iload_n 0, 1, 17), (17, .ireturn, 1, 18)]
theorem dJ3_checkIndex_8e157 : dcL cJ3_checkIndex_8e157 lJ3_checkIndex_8e157L = true := by decide +kernel
def lJ0_checkIndex_df160L : List (Nat × Instr × Nat × Nat) := [(0, .iload_n 0, 1, 1), (1, .iload_n 1, 1, 2), (2, .getstatic 1053, 3, 5), (5, .invokestatic 1059, 3, 8), (8, .pop, 1, 9), (9, .return_, 1, 10)]
theorem dJ0_checkIndex_df160 : dcL cJ0_checkIndex_df160 lJ0_checkIndex_df160L = true := by decide +kernel
def lJ1_charAt_3b067L : List (Nat × Instr × Nat × Nat) := [(0, .iload_n 1, 1, 1), (1, .aload_n 0, 1, 2), (2, .arraylength, 1, 3), (3, .invokestatic 9, 3, 6), (6, .aload_n 0, 1, 7), (7, .iload_n 1, 1, 8), (8, .baload, 1, 9), (9, .sipush 255, 3, 12), (12, .iand, 1, 13), (13, .i2c, 1, 14), (14, .ireturn, 1, 15)]
theorem dJ1_charAt_3b067 : dcL cJ1_charAt_3b067 lJ1_charAt_3b067L = true := by decide +kernel
def lJ0_length_8abf5L : List (Nat × Instr × Nat × Nat) := [(0, .aload_n 0, 1, 1), (1, .getfield 9, 3, 4), (4, .arraylength, 1, 5), (5, .aload_n 0, 1, 6), (6, .invokevirtual 335, 3, 9), (9, .ishr, 1, 10), (10, .ireturn, 1, 11)]
theorem dJ0_length_8abf5 : dcL cJ0_length_8abf5 lJ0_length_8abf5L = true := by decide +kernel
def lJ0_charAt_5068eL : List (Nat × Instr × Nat × Nat) := [(0, .aload_n 0, 1, 1), (1, .invokevirtual 492, 3, 4), (4, .ifCond .eq 12, 3, 7), (7, .aload_n 0, 1, 8), (8, .getfield 9, 3, 11), (11, .iload_n 1, 1, 12), (12, .invokestatic 495, 3, 15), (15, .ireturn, 1, 16), (16, .aload_n 0, 1, 17), (17, .getfield 9, 3, 20), (20, .iload_n 1, 1, 21), (21, .invokestatic 498, 3, 24), (24, .ireturn, 1, 25)]
theorem dJ0_charAt_5068e : dcL cJ0_charAt_5068e lJ0_charAt_5068eL = true := by decide +kernel
theorem sw_f38 : Cond.fieldLink RJ0 38 "java/lang/String" "COMPACT_STRINGS" "Z" ∈ lw_k := mk_k (List.mem_of_getElem? (i := 511) (by decide +kernel)) rfl
theorem sw_f1053 : Cond.fieldLink RJ0 1053 "jdk/internal/util/Preconditions" "SIOOBE_FORMATTER" "Ljava/util/function/BiFunction;" ∈ lw_k := mk_k (List.mem_of_getElem? (i := 527) (by decide +kernel)) rfl
theorem sw_f9 : Cond.fieldLink RJ0 9 "java/lang/String" "value" "[B" ∈ lw_k := mk_k (List.mem_of_getElem? (i := 2001) (by decide +kernel)) rfl
theorem sw_f15 : Cond.fieldLink RJ0 15 "java/lang/String" "coder" "B" ∈ lw_k := mk_k (List.mem_of_getElem? (i := 2002) (by decide +kernel)) rfl
theorem sw_m335 : Cond.methodLink RJ0 335 yJ0_coder_7d493 ∈ lw_k := mk_k (List.mem_of_getElem? (i := 507) (by decide +kernel)) rfl
theorem sw_m492 : Cond.methodLink RJ0 492 yJ0_isLatin1_aae02 ∈ lw_k := mk_k (List.mem_of_getElem? (i := 517) (by decide +kernel)) rfl
theorem sw_m495 : Cond.methodLink RJ0 495 yJ1_charAt_3b067 ∈ lw_k := mk_k (List.mem_of_getElem? (i := 521) (by decide +kernel)) rfl
theorem sw_m9 : Cond.methodLink RJ1 9 yJ0_checkIndex_df160 ∈ lw_k := mk_k (List.mem_of_getElem? (i := 524) (by decide +kernel)) rfl
theorem sw_m1059 : Cond.methodLink RJ0 1059 yJ3_checkIndex_8e157 ∈ lw_k := mk_k (List.mem_of_getElem? (i := 529) (by decide +kernel)) rfl
theorem mv_J0_coder_7d493 : MV0 yJ0_coder_7d493 cJ0_coder_7d493 1 (some .byte) 0 := ⟨mk_k (List.mem_of_getElem? (i := 510) (by decide +kernel)) rfl, mk_k (List.mem_of_getElem? (i := 137) (by decide +kernel)) rfl, by decide +kernel, by decide +kernel, by decide +kernel⟩
theorem vi_J0_coder_7d493 : Cond.instanceMethod yJ0_coder_7d493 ∈ lw_k ∧ Cond.selects "java/lang/String" yJ0_coder_7d493 yJ0_coder_7d493 ∈ lw_k := ⟨mk_k (List.mem_of_getElem? (i := 508) (by decide +kernel)) rfl, mk_k (List.mem_of_getElem? (i := 509) (by decide +kernel)) rfl⟩
theorem mv_J0_isLatin1_aae02 : MV0 yJ0_isLatin1_aae02 cJ0_isLatin1_aae02 1 (some .boolean) 0 := ⟨mk_k (List.mem_of_getElem? (i := 520) (by decide +kernel)) rfl, mk_k (List.mem_of_getElem? (i := 137) (by decide +kernel)) rfl, by decide +kernel, by decide +kernel, by decide +kernel⟩
theorem vi_J0_isLatin1_aae02 : Cond.instanceMethod yJ0_isLatin1_aae02 ∈ lw_k ∧ Cond.selects "java/lang/String" yJ0_isLatin1_aae02 yJ0_isLatin1_aae02 ∈ lw_k := ⟨mk_k (List.mem_of_getElem? (i := 518) (by decide +kernel)) rfl, mk_k (List.mem_of_getElem? (i := 519) (by decide +kernel)) rfl⟩
theorem mv_J3_checkIndex_8e157 : MV0 yJ3_checkIndex_8e157 cJ3_checkIndex_8e157 3 (some .int) 3 := ⟨mk_k (List.mem_of_getElem? (i := 531) (by decide +kernel)) rfl, mk_k (List.mem_of_getElem? (i := 139) (by decide +kernel)) rfl, by decide +kernel, by decide +kernel, by decide +kernel⟩
theorem st_J3_checkIndex_8e157 : Cond.static yJ3_checkIndex_8e157 ∈ lw_k := mk_k (List.mem_of_getElem? (i := 530) (by decide +kernel)) rfl
theorem mv_J0_checkIndex_df160 : MV0 yJ0_checkIndex_df160 cJ0_checkIndex_df160 2 none 2 := ⟨mk_k (List.mem_of_getElem? (i := 526) (by decide +kernel)) rfl, mk_k (List.mem_of_getElem? (i := 137) (by decide +kernel)) rfl, by decide +kernel, by decide +kernel, by decide +kernel⟩
theorem st_J0_checkIndex_df160 : Cond.static yJ0_checkIndex_df160 ∈ lw_k := mk_k (List.mem_of_getElem? (i := 525) (by decide +kernel)) rfl
theorem mv_J1_charAt_3b067 : MV0 yJ1_charAt_3b067 cJ1_charAt_3b067 2 (some .char) 2 := ⟨mk_k (List.mem_of_getElem? (i := 523) (by decide +kernel)) rfl, mk_k (List.mem_of_getElem? (i := 138) (by decide +kernel)) rfl, by decide +kernel, by decide +kernel, by decide +kernel⟩
theorem st_J1_charAt_3b067 : Cond.static yJ1_charAt_3b067 ∈ lw_k := mk_k (List.mem_of_getElem? (i := 522) (by decide +kernel)) rfl
theorem mv_J0_length_8abf5 : MV0 yJ0_length_8abf5 cJ0_length_8abf5 1 (some .int) 0 := ⟨mk_k (List.mem_of_getElem? (i := 506) (by decide +kernel)) rfl, mk_k (List.mem_of_getElem? (i := 137) (by decide +kernel)) rfl, by decide +kernel, by decide +kernel, by decide +kernel⟩
theorem vi_J0_length_8abf5 : Cond.instanceMethod yJ0_length_8abf5 ∈ lw_k ∧ Cond.selects "java/lang/String" yJ0_length_8abf5 yJ0_length_8abf5 ∈ lw_k := ⟨mk_k (List.mem_of_getElem? (i := 504) (by decide +kernel)) rfl, mk_k (List.mem_of_getElem? (i := 505) (by decide +kernel)) rfl⟩
theorem mv_J0_charAt_5068e : MV0 yJ0_charAt_5068e cJ0_charAt_5068e 2 (some .char) 1 := ⟨mk_k (List.mem_of_getElem? (i := 516) (by decide +kernel)) rfl, mk_k (List.mem_of_getElem? (i := 137) (by decide +kernel)) rfl, by decide +kernel, by decide +kernel, by decide +kernel⟩
theorem vi_J0_charAt_5068e : Cond.instanceMethod yJ0_charAt_5068e ∈ lw_k ∧ Cond.selects "java/lang/String" yJ0_charAt_5068e yJ0_charAt_5068e ∈ lw_k := ⟨mk_k (List.mem_of_getElem? (i := 514) (by decide +kernel)) rfl, mk_k (List.mem_of_getElem? (i := 515) (by decide +kernel)) rfl⟩
theorem mt_coder {l : Launch} {X : XT} {h : PH} {j : Nat} (hj : j < 10) : MT l X yJ0_coder_7d493 cJ0_coder_7d493 1 (some .byte) 1 60 0 0 [.ref (X.2.2.2.2.1 j)] h (some (.int 0)) h := MT.of (by decide) (Nat.le_of_ble_eq_true rfl) fun M hl hc hr he => by
  subst hl
  refine r_getsC hc (dc_at dJ0_coder_7d493 0 rfl) sw_f38 ?_
  refine r_if_eq (A := none) (B := some 0) (r := 0) (tgt := 13) hc (dc_at dJ0_coder_7d493 1 rfl) (by decide) rfl (fun hf => by cases hf) (fun _ => ?_)
  refine r_aload_n hc 0 (dc_at dJ0_coder_7d493 2 rfl) rfl ?_
  refine r_sgetf hj hc (dc_at dJ0_coder_7d493 3 rfl) sw_f15 (fun U hU => (hU.2.2.1.1 j hj).2.1) ?_
  refine r_goto (tgt := 14) hc (dc_at dJ0_coder_7d493 4 rfl) (by decide) ?_
  exact r_tret hc he rfl (Nat.le_refl _) (Nat.le_refl _) (dc_at dJ0_coder_7d493 6 rfl)
theorem mt_isLatin1 {l : Launch} {X : XT} {h : PH} {j : Nat} (hj : j < 10) : MT l X yJ0_isLatin1_aae02 cJ0_isLatin1_aae02 1 (some .boolean) 1 60 0 0 [.ref (X.2.2.2.2.1 j)] h (some (.int 1)) h := MT.of (by decide) (Nat.le_of_ble_eq_true rfl) fun M hl hc hr he => by
  subst hl
  refine r_getsC hc (dc_at dJ0_isLatin1_aae02 0 rfl) sw_f38 ?_
  refine r_if_eq (A := none) (B := some 0) (r := 0) (tgt := 17) hc (dc_at dJ0_isLatin1_aae02 1 rfl) (by decide) rfl (fun hf => by cases hf) (fun _ => ?_)
  refine r_aload_n hc 0 (dc_at dJ0_isLatin1_aae02 2 rfl) rfl ?_
  refine r_sgetf hj hc (dc_at dJ0_isLatin1_aae02 3 rfl) sw_f15 (fun U hU => (hU.2.2.1.1 j hj).2.1) ?_
  refine r_if_ne (A := none) (B := some 0) (r := 0) (tgt := 17) hc (dc_at dJ0_isLatin1_aae02 4 rfl) (by decide) rfl (fun hf => by cases hf) (fun _ => ?_)
  refine r_iconst (1 : Int32) hc (dc_at dJ0_isLatin1_aae02 5 rfl) (by decide) ?_
  refine r_goto (tgt := 18) hc (dc_at dJ0_isLatin1_aae02 6 rfl) (by decide) ?_
  exact r_tret hc he rfl (Nat.le_refl _) (Nat.le_refl _) (dc_at dJ0_isLatin1_aae02 8 rfl)
theorem mt_pcheck {l : Launch} {X : XT} {h : PH} {i k : Int32} {v : Value} (h1 : ¬ i < 0) (h2 : i < k) (hlen : (lg_sl [Value.int i, .int k, v]).length ≤ 3) (eL : lv_args 0 [Value.int i, .int k, v] = [(0, .int i), (1, .int k), (2, v)]) : MT l X yJ3_checkIndex_8e157 cJ3_checkIndex_8e157 3 (some .int) 1 60 0 0 [.int i, .int k, v] h (some (.int i)) h := MT.of (by decide) hlen fun M hl hc hr he => by
  subst hl
  rw [eL]
  refine r_iload_n hc 0 (dc_at dJ3_checkIndex_8e157 0 rfl) rfl ?_
  refine r_if_lt (A := none) (B := some 0) (r := 0) (tgt := 9) hc (dc_at dJ3_checkIndex_8e157 1 rfl) (by decide) (if_neg h1) (fun hf => by cases hf) (fun _ => ?_)
  refine r_iload_n hc 0 (dc_at dJ3_checkIndex_8e157 2 rfl) rfl ?_
  refine r_iload_n hc 1 (dc_at dJ3_checkIndex_8e157 3 rfl) rfl ?_
  refine r_icmp_lt (A := some 0) (B := none) (r := 0) (tgt := 16) hc (dc_at dJ3_checkIndex_8e157 4 rfl) (by decide) (if_pos h2) (fun _ => ?_) (fun hf => by cases hf)
  refine r_iload_n hc 0 (dc_at dJ3_checkIndex_8e157 10 rfl) rfl ?_
  exact r_tret hc he rfl (Nat.le_refl _) (Nat.le_refl _) (dc_at dJ3_checkIndex_8e157 11 rfl)
theorem mt_scheck {l : Launch} {X : XT} {h : PH} {i k : Int32} (h1 : ¬ i < 0) (h2 : i < k) : MT l X yJ0_checkIndex_df160 cJ0_checkIndex_df160 2 none 2 120 0 0 [.int i, .int k] h none h := MT.of (by decide) (Nat.le_of_ble_eq_true rfl) fun M hl hc hr he => by
  subst hl
  refine r_iload_n hc 0 (dc_at dJ0_checkIndex_df160 0 rfl) rfl ?_
  refine r_iload_n hc 1 (dc_at dJ0_checkIndex_df160 1 rfl) rfl ?_
  refine r_getsF hc (dc_at dJ0_checkIndex_df160 2 rfl) sw_f1053 fun v hv => ?_
  have hM : MT M.2.1 X yJ3_checkIndex_8e157 cJ3_checkIndex_8e157 3 (some .int) 1 60 0 0 [.int i, .int k, v] h (some (.int i)) h := by rcases hv with rfl | ⟨t, rfl⟩ <;> exact mt_pcheck h1 h2 (Nat.le_of_ble_eq_true rfl) rfl
  refine r_callSi (As := [.int i, .int k, v]) hc hr (dc_at dJ0_checkIndex_df160 3 rfl) sw_m1059 mv_J3_checkIndex_8e157 st_J3_checkIndex_8e157 rfl hM (by decide) (by decide) (Nat.le_of_ble_eq_true rfl) (Nat.le_refl _) (Nat.le_refl _) ?_
  refine r_pop hc (dc_at dJ0_checkIndex_df160 4 rfl) rfl ?_
  exact r_vret hc he (Nat.le_refl _) (Nat.le_refl _) (dc_at dJ0_checkIndex_df160 5 rfl) (u := ()) rfl
theorem sb_fits : ∀ j, j < 10 → ∀ i, i < sLen.getD j 0 → ((((sByt.getD j []).getD i 0 &&& 255).toUInt32 % 65536).toInt32 = (sByt.getD j []).getD i 0 ∧ narrow .char (.int ((sByt.getD j []).getD i 0)) = .int ((sByt.getD j []).getD i 0)) := by decide +kernel
theorem sl_lt {i : Int32} {n : Nat} (hn : n < 1000) (h0 : 0 ≤ i) (h : i.toNatClampNeg < n) : i < Int32.ofNat n := by
  have hz : i.toInt = (i.toNatClampNeg : Int) := by
    have := Int32.le_iff_toInt_le.mp h0
    show i.toInt = ((i.toInt.toNat : Nat) : Int)
    have h2 : (0 : Int32).toInt = 0 := by decide
    omega
  have e : (Int32.ofNat n).toInt = n := nI_toInt (by omega)
  exact Int32.lt_iff_toInt_lt.mpr (by rw [hz, e]; omega)
theorem sl_1000 : ∀ j, j < 10 → sLen.getD j 0 < 1000 := by decide
theorem mt_l1charAt {l : Launch} {X : XT} {h : PH} {j : Nat} {i : Int32} (hj : j < 10) (hi : 0 ≤ i ∧ i.toNatClampNeg < sLen.getD j 0) : MT l X yJ1_charAt_3b067 cJ1_charAt_3b067 2 (some .char) 3 180 0 0 [.ref (X.2.2.2.2.2 j), .int i] h (some (.int ((sByt.getD j []).getD i.toNatClampNeg 0))) h := MT.of (by decide) (Nat.le_of_ble_eq_true rfl) fun M hl hc hr he => by
  subst hl
  have hf := sb_fits j hj _ hi.2
  refine r_iload_n hc 1 (dc_at dJ1_charAt_3b067 0 rfl) rfl ?_
  refine r_aload_n hc 0 (dc_at dJ1_charAt_3b067 1 rfl) rfl ?_
  refine r_stlen hj hc (dc_at dJ1_charAt_3b067 2 rfl) ?_
  refine r_callSv (As := [.int i, .int (Int32.ofNat (sLen.getD j 0))]) hc hr (dc_at dJ1_charAt_3b067 3 rfl) sw_m9 mv_J0_checkIndex_df160 st_J0_checkIndex_df160 rfl (mt_scheck (Int32.not_lt.mpr hi.1) (sl_lt (sl_1000 j hj) hi.1 hi.2)) (by decide) (by decide) (Nat.le_of_ble_eq_true rfl) (Nat.le_refl _) (Nat.le_refl _) ?_
  refine r_aload_n hc 0 (dc_at dJ1_charAt_3b067 4 rfl) rfl ?_
  refine r_iload_n hc 1 (dc_at dJ1_charAt_3b067 5 rfl) rfl ?_
  refine r_stb hj hi hc (dc_at dJ1_charAt_3b067 6 rfl) ?_
  refine r_sipush (255 : Int32) hc (dc_at dJ1_charAt_3b067 7 rfl) (by decide) ?_
  refine r_iand hc (dc_at dJ1_charAt_3b067 8 rfl) ?_
  refine r_i2c hc (dc_at dJ1_charAt_3b067 9 rfl) hf.1 ?_
  exact r_tret hc he hf.2 (Nat.le_refl _) (Nat.le_refl _) (dc_at dJ1_charAt_3b067 10 rfl)
theorem sfl_J0_length_8abf5 {j : Nat} {x : Int32} (ex : sLenF j = some x) : j < 10 := Classical.byContradiction fun q => by
  unfold sLenF at ex
  rw [if_neg q] at ex
  cases ex
theorem sfl_J0_charAt_5068e {j : Nat} {i x : Int32} (ex : sChrF j i = some x) : j < 10 := Classical.byContradiction fun q => by
  unfold sChrF at ex
  rw [if_neg (fun z => q z.1)] at ex
  cases ex
theorem mt_J0_length_8abf5 {l : Launch} {X : XT} {h : PH} {j : Nat} {x : Int32} (ex : sLenF j = some x) : MT l X yJ0_length_8abf5 cJ0_length_8abf5 1 (some .int) 8 464 0 0 [.ref (X.2.2.2.2.1 j)] h (some (.int x)) h := MT.of (by decide) (Nat.le_of_ble_eq_true rfl) fun M hl hc hr he => by
  subst hl
  have hj := sfl_J0_length_8abf5 ex
  unfold sLenF at ex
  rw [if_pos hj] at ex
  cases ex
  refine r_aload_n hc 0 (dc_at dJ0_length_8abf5 0 rfl) rfl ?_
  refine r_sgetf hj hc (dc_at dJ0_length_8abf5 1 rfl) sw_f9 (fun U hU => (hU.2.2.1.1 j hj).2.2.1) ?_
  refine r_stlen hj hc (dc_at dJ0_length_8abf5 2 rfl) ?_
  refine r_aload_n hc 0 (dc_at dJ0_length_8abf5 3 rfl) rfl ?_
  refine r_callStr (As := []) hj hc hr (dc_at dJ0_length_8abf5 4 rfl) sw_m335 mv_J0_coder_7d493 vi_J0_coder_7d493 rfl (mt_coder hj) (by decide) (by decide) (Nat.le_of_ble_eq_true rfl) (Nat.le_refl _) (Nat.le_refl _) ?_
  refine r_ishr hc (dc_at dJ0_length_8abf5 5 rfl) ?_
  rw [sb_shr0]
  exact r_tret hc he rfl (Nat.le_refl _) (Nat.le_refl _) (dc_at dJ0_length_8abf5 6 rfl)
theorem mt_J0_charAt_5068e {l : Launch} {X : XT} {h : PH} {j : Nat} {i x : Int32} (ex : sChrF j i = some x) : MT l X yJ0_charAt_5068e cJ0_charAt_5068e 2 (some .char) 8 464 0 0 [.ref (X.2.2.2.2.1 j), .int i] h (some (.int x)) h := MT.of (by decide) (Nat.le_of_ble_eq_true rfl) fun M hl hc hr he => by
  subst hl
  have hj : j < 10 ∧ 0 ≤ i ∧ i.toNatClampNeg < sLen.getD j 0 := Classical.byContradiction fun q => by
    unfold sChrF at ex
    rw [if_neg q] at ex
    cases ex
  unfold sChrF at ex
  rw [if_pos hj] at ex
  cases ex
  obtain ⟨hj, hi⟩ := hj
  refine r_aload_n hc 0 (dc_at dJ0_charAt_5068e 0 rfl) rfl ?_
  refine r_callStr (As := []) hj hc hr (dc_at dJ0_charAt_5068e 1 rfl) sw_m492 mv_J0_isLatin1_aae02 vi_J0_isLatin1_aae02 rfl (mt_isLatin1 hj) (by decide) (by decide) (Nat.le_of_ble_eq_true rfl) (Nat.le_refl _) (Nat.le_refl _) ?_
  refine r_if_eq (A := none) (B := some 0) (r := 0) (tgt := 16) hc (dc_at dJ0_charAt_5068e 2 rfl) (by decide) rfl (fun hf => by cases hf) (fun _ => ?_)
  refine r_aload_n hc 0 (dc_at dJ0_charAt_5068e 3 rfl) rfl ?_
  refine r_sgetf hj hc (dc_at dJ0_charAt_5068e 4 rfl) sw_f9 (fun U hU => (hU.2.2.1.1 j hj).2.2.1) ?_
  refine r_iload_n hc 1 (dc_at dJ0_charAt_5068e 5 rfl) rfl ?_
  refine r_callSi (As := [.ref (X.2.2.2.2.2 j), .int i]) hc hr (dc_at dJ0_charAt_5068e 6 rfl) sw_m495 mv_J1_charAt_3b067 st_J1_charAt_3b067 rfl (mt_l1charAt hj hi) (by decide) (by decide) (Nat.le_of_ble_eq_true rfl) (Nat.le_refl _) (Nat.le_refl _) ?_
  exact r_tret hc he (sb_fits j hj _ hi.2).2 (Nat.le_refl _) (Nat.le_refl _) (dc_at dJ0_charAt_5068e 7 rfl)
