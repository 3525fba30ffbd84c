set_option maxHeartbeats 1000000 in
set_option maxRecDepth 100000 in
theorem bl10_w {ca : Nat → ClassId} {h0 : Nat} {w : va_W} (h : Bl_10 ca h0 w) : ∃ ad : Nat → Nat, ad 0 = h0 ∧ rf_w ca ad ly1 st1 = w := by
  obtain ⟨a0, a1, a2, a3, a4, a5, a6, a7, a8, a9, a10, a11, a12, a13, a14, a15, a16, a17, rfl⟩ := h
  obtain ⟨L, hL⟩ : ∃ L : List Nat, L = [h0, a0, a1, a2, a3, a4, a5, a6, a7, a8, a9, a10, a11, a12, a13, a14, a15, a16, a17] := ⟨_, rfl⟩
  refine ⟨adF L, by rw [hL]; rfl, ?_⟩
  show List.mapIdx _ ly1 = _
  simp only [ly1, List.mapIdx_cons, List.mapIdx_nil, rf_ce, Nat.reduceAdd, Nat.reduceLT, if_true, if_false]
  rw [hL]
  rfl
