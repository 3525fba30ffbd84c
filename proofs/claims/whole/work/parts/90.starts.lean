/-! ===== the two starts ===== -/
def st0 : rf_S := (fun c => match c with
  | 9 => fun j => if j < 6 then -1 else 0
  | 16 => fun j => if j < 4 then -1 else 0
  | 44 => fun j => if j < 3 then -1 else 0
  | _ => fun _ => 0, fun c j => if c = 53 ∧ j = 1 then 1 else 0)
def st1 : rf_S := (fun c => match c with
  | 1 => fun j => if j < 6 then -1 else 0
  | 3 => fun j => if j < 4 then -1 else 0
  | 17 => fun j => if j < 3 then -1 else 0
  | _ => fun _ => 0, fun c j => if c = 0 ∧ j = 8 then 1 else 0)
def adF (L : List Nat) (c : Nat) : Nat := L.getD c 0
theorem adQ (L : List Nat) (c q N : Nat) (h : ∀ j, j < N → adF L (c + j) = q + 1 + j) (R : List Nat) (hR : R = (List.range N).map (fun j => c + j)) : (fun j : Nat => (R[j]?).map (adF L)) = fun j => if j < N then some (q + 1 + j) else none := by
  subst hR
  funext j
  rw [List.getElem?_map]
  by_cases e : j < N
  · rw [List.getElem?_range e, if_pos e]
    simp only [Option.map_some]
    rw [h j e]
  · rw [List.getElem?_eq_none (by rw [List.length_range]; omega), if_neg e]
    rfl
set_option maxHeartbeats 1000000 in
set_option maxRecDepth 100000 in
theorem bl9_w {ca : Nat → ClassId} {h0 : Nat} {w : va_W} (h : Bl_9 ca h0 w) : ∃ ad : Nat → Nat, ad 0 = h0 ∧ rf_w ca ad ly0 st0 = w := by
  obtain ⟨a0, w0, hB0, a1, w1, hB1, a2, w2, hB2, a3, w3, hB3, a4, w4, hB4, a5, w5, hB5, a6, w6, hB6, a7, w7, hB7, a8, rfl⟩ := h
  obtain ⟨r0, r1, rfl⟩ := hB0
  obtain ⟨x0, x1, rfl⟩ := hB1
  obtain ⟨pl, wp, hp, rfl⟩ := hB2
  obtain ⟨p0, p1, p2, p3, p4, p5, rfl⟩ := hp
  obtain ⟨tl, wt, ht, u0, u1, u2, u3, u4, rfl⟩ := hB3
  obtain ⟨t0, t1, t2, t3, t4, t5, rfl⟩ := ht
  obtain ⟨d0, d1, d2, rfl⟩ := hB4
  obtain ⟨s0, s1, s2, s3, rfl⟩ := hB5
  obtain ⟨v0, v1, rfl⟩ := hB6
  obtain rfl := hB7
  obtain ⟨L, hL⟩ : ∃ L : List Nat, L = [h0, a0, r0, r0 + 1 + 0, r0 + 1 + 1, r0 + 1 + 2, r0 + 1 + 3, r0 + 1 + 4, r0 + 1 + 5, r1, a1, x0, x0 + 1 + 0, x0 + 1 + 1, x0 + 1 + 2, x0 + 1 + 3, x1, a2, pl, p0, p1, p2, p3, p4, p5, a3, tl, t0, t1, t2, t3, t4, t5, u0, u1, u2, u3, u4, a4, d0, d1, d1 + 1 + 0, d1 + 1 + 1, d1 + 1 + 2, d2, a5, s0, s1, s2, s3, a6, v0, v1, a7, a8] := ⟨_, rfl⟩
  have e1 := adQ L 3 r0 6 (fun j hj => by rw [hL]; match j, hj with | 0, _ => rfl | 1, _ => rfl | 2, _ => rfl | 3, _ => rfl | 4, _ => rfl | 5, _ => rfl | j + 6, hj => exact absurd hj (by omega)) [3, 4, 5, 6, 7, 8] rfl
  have e2 := adQ L 12 x0 4 (fun j hj => by rw [hL]; match j, hj with | 0, _ => rfl | 1, _ => rfl | 2, _ => rfl | 3, _ => rfl | j + 4, hj => exact absurd hj (by omega)) [12, 13, 14, 15] rfl
  have e3 := adQ L 41 d1 3 (fun j hj => by rw [hL]; match j, hj with | 0, _ => rfl | 1, _ => rfl | 2, _ => rfl | j + 3, hj => exact absurd hj (by omega)) [41, 42, 43] rfl
  refine ⟨adF L, by rw [hL]; rfl, ?_⟩
  show List.mapIdx _ ly0 = _
  simp only [ly0, List.mapIdx_cons, List.mapIdx_nil, rf_ce, Nat.reduceAdd, Nat.reduceLT, if_true, if_false]
  rw [e1, e2, e3, hL]
  rfl
