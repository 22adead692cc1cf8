/-! what holds at the start -/
theorem init_ST {m : Mem} (e2 : m.2 = mN10.2) (e1 : ∀ b k, b ≠ 24 ∨ 999 ≤ k → m.1 b k = mN10.1 b k) (e24 : ∀ k, k < 999 → m.1 24 k = if k = 1 then q32 4 else if k = 8 then q32 1 else q32 0) : ST sB m (fun a => if 2 ≤ a ∧ a < 12 then 2 else 0) 2 := by
  have eR : m.2.2 = mN10.2.2 := by rw [e2]
  have rf : ∀ q ∈ rfB, mN10.2.2 q.1 q.2.1 = some q.2.2 := by decide
  have none12 : ∀ i, mN10.2.2 12 i = none := fun i => rfl
  have none13 : ∀ i, mN10.2.2 13 i = none := fun i => rfl
  have h2 : ∀ k, m.1 2 k = mN10.1 2 k := fun k => e1 2 k (by omega)
  have h0 : ∀ k, m.1 0 k = mN10.1 0 k := fun k => e1 0 k (by omega)
  have h23 : ∀ k, m.1 23 k = mN10.1 23 k := fun k => e1 23 k (by omega)
  refine ⟨⟨⟨[], (List.append_nil _).symm⟩, fun q hq => by rw [eR]; exact rf q hq, by rw [eR]; rfl, ?_, fun j hj => if_pos (by omega), fun r hr => ?_, fun q hq => ?_, fun w hw => ?_, fun i n hi hn => ?_, fun n hn => ?_, fun i t hi ht => ?_, fun i j t hi hj h1 h2 => ?_⟩, ?_, ⟨?_, ?_⟩, fun i hi => ?_, fun i hi => ?_⟩
  · refine ⟨Or.inl rfl, ok_i rfl (by decide), ?_, rfl, rfl, rfl, rfl, rfl, rfl, rfl, rfl, rfl⟩
    rw [eR]
    exact ⟨rfl, rfl, rfl, rfl, rfl, rfl, rfl, rfl, rfl⟩
  · rw [eR] at hr
    cases hr
  · rw [eR] at hq
    cases hq
  · rw [eR] at hw
    cases hw
  · rw [eR, none12] at hn
    cases hn
  · rw [eR, none12] at hn
    cases hn
  · rw [eR, none13] at ht
    cases ht
  · rw [eR, none13] at h1
    cases h1
  · refine ⟨4, 0, 0, 0, 0, 0, 0, 1, fun _ => 0, fun _ => 0, fun _ => 0, fun _ => 0, fun _ => 0, fun _ _ => 0, fun _ => 0, by decide, ⟨?_, ?_, ?_, ?_, ?_, ?_, ?_, ?_⟩, ⟨?_, ?_, ?_, ?_, ?_, ?_, ?_, ?_, ?_⟩, ⟨by decide, by decide, by decide, by decide, by decide, by decide⟩, ⟨rfl, fun b hb => absurd hb (Nat.not_lt_zero _), by decide, fun b _ h0 => absurd h0 (Nat.not_lt_zero _), fun b hb => absurd hb (Nat.not_lt_zero _), fun b hb => absurd hb (Nat.not_lt_zero _), fun b hb => absurd hb (Nat.not_lt_zero _)⟩, fun b hb => absurd hb (Nat.not_lt_zero _), ⟨fun b hb => absurd hb (Nat.not_lt_zero _), fun i j _ hb => absurd hb (Nat.not_lt_zero _)⟩, fun b hb => absurd hb (Nat.not_lt_zero _)⟩
    · rw [h2]; rfl
    · rw [h2]; rfl
    · rw [h2]; rfl
    · rw [h2]; rfl
    · rw [h2]; rfl
    · rw [h2]; rfl
    · rw [h2]; rfl
    · rw [h2]; rfl
    · rw [e24 0 (by omega)]; rfl
    · rw [e24 1 (by omega)]; rfl
    · rw [e24 2 (by omega)]; rfl
    · rw [e24 3 (by omega)]; rfl
    · rw [e24 4 (by omega)]; rfl
    · rw [e24 5 (by omega)]; rfl
    · rw [e24 6 (by omega), h2]; rfl
    · rw [e24 7 (by omega)]; rfl
    · rw [e24 8 (by omega)]; rfl
  · exact ⟨0, by decide, rfl, by rw [h0]; rfl, by rw [h23]; rfl, fun k hk => absurd hk (Nat.not_lt_zero _), by rw [h23, h0]; rfl, by rw [h23, h0]; rfl⟩
  · exact ⟨0, by decide, by rw [h0]; rfl, by rw [e24 73 (by omega)]; rfl, fun k hk => absurd hk (Nat.not_lt_zero _)⟩
  · refine Or.inl ⟨by rw [eR]; exact none12 i, ?_⟩
    rw [e1 25 i (by omega)]
    rfl
  · refine Or.inl ⟨by rw [eR]; exact none13 i, ?_⟩
    rw [e1 50 i (by omega)]
    rcases (show i = 0 ∨ i = 1 ∨ i = 2 ∨ i = 3 by omega) with rfl | rfl | rfl | rfl <;> rfl
theorem lawS_1 {F : Nat} (hF : 3000000 ≤ F) {xs : Nat → Int32} {L : Nat} (hL : L ≤ 3072) : lawS F xs L = some 1 := by
  have b0 : [.inr (9, df9)] = bl [.inl 9] mZ := by
    have := bl_push (s := []) (m := mZ) (sh := .inl 9) (e := .inr (9, df9)) (by rw [cell_new (gsZ [])]; rfl)
    exact this
  have u9 := un_X9_init (gsZ [.inl 9]) (ok_i rfl (by decide)) new9
  have b1 : bl sN9 mN9 ++ [.inr (10, df10)] = bl (sN9 ++ [.inl 10]) mN9 := bl_push (by rw [cell_new u9.2.1]; rfl)
  obtain ⟨m, p1, p2, p3, p4⟩ := plaL10 (F := F) (s := sB) (a := 24) (by decide) 999 0 F (by omega) (by omega) mN10
  have e10 : n_X10_init F (sN9 ++ [.inl 10]) mN9 23 = some ((), sB, m) := by
    have p1' : n_X10_plain F sB mN10 24 = some ((), m) := p1
    rw [new10, p1', bind2_s]
  have u10 := un_X10_init (gs_push u9.2.1 (.inl 10)) (ok_i rfl (by decide)) e10
  have inv : INV sB m := ⟨u10.2.1, _, 2, init_ST p2 p3 (fun k hk => by
    rw [p4 k hk]
    by_cases e1 : k = 1
    · rw [if_pos e1, if_pos e1]
    rw [if_neg e1, if_neg e1]
    by_cases e8 : k = 8
    · rw [if_pos e8, if_pos e8]
    rw [if_neg e8, if_neg e8, if_pos (by omega)])⟩
  have ll : (bl sN9 mN9).length = 23 := by rw [bl_len]; rfl
  have bg : BG (53, 79579) 512 m := by
    unfold BG rq
    split
    · exact ⟨by decide, by decide⟩
    · exact ⟨by decide, by decide⟩
  unfold lawS
  rw [b0, u9.1, bind2_s, bindv, bindv0, ll, bindv, bindv0, b1, u10.1, bind2_s]
  exact law_go hF hL 512 F 0 (53, 79579) sB m (by omega) (by omega) (by omega) inv bg
