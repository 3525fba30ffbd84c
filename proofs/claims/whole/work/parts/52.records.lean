/-! ===== records ===== -/
theorem rem2 {m : Nat} (hm : m ≤ 1000) : nI m - nI m / 2 * 2 = nI (m % 2) := by
  rw [show (2 : Int32) = nI 2 from rfl, pk_div (by omega) (by omega) (by omega), pk_mul, nat_sub (by omega)]
  exact congrArg nI (by omega)
def okP (F : Nat) (V : Nat → Int32) (k : Nat) : Bool := decide (0 ≤ V k) && decide (V k ≤ if k % 2 = 0 then nI F - 1 else 1)
theorem inb (x a b : Int32) (τ : rf_S) : f_X10_in x a b τ = some (if (decide (a ≤ x) && decide (x ≤ b)) = true then 1 else 0) := by
  unfold f_X10_in
  by_cases h1 : x < a
  · rw [if_pos h1, decide_eq_false (Int32.not_le.mpr h1)]
    rfl
  · rw [if_neg h1, decide_eq_true (Int32.not_lt.mp h1)]
    by_cases h2 : b < x
    · rw [if_pos h2, decide_eq_false (Int32.not_le.mpr h2)]
      rfl
    · rw [if_neg h2, decide_eq_true (Int32.not_lt.mp h2)]
      rfl
theorem mpairs_ok {τ : rf_S} {r m F : Nat} {V : Nat → Int32} (hr : r < 6) (hm : m ≤ 40) (hs : τ.1 1 r = nI m) (hV : ∀ i, i < 40 → τ.1 2 (40 * r + i) = V i) : rf_lp (f_X10_wrongPairs_b38 (nI r) (nI F - 1) τ) 5000 (1, 0) = some (if allB m (okP F V) = true then 1 else 0) := by
  refine lp_all m (okP F V) (by omega) ?_ ?_ ?_
  · intro k hk
    unfold f_X10_wrongPairs_b38 f_X10_wrongPairs_j78 f_X10_wrongPairs_j88 f_X10_wrongPairs_j89
    simp only
    rw [ck1_1, if_pos (in_ok hr (by decide)), nI_clamp (by omega), hs, if_neg (nI_ge hk (by omega)), if_neg n10, nI40, ck1_2, if_pos (in_ok (by omega) (by decide)), nI_clamp (by omega), hV k (by omega), rem2 (by omega), nI_1, inb, inb, Option.bind_some, Option.bind_some, b01, b01]
    unfold okP
    rcases (show k % 2 = 0 ∨ k % 2 = 1 by omega) with e | e
    · rw [e, if_neg (show ¬ nI 0 ≠ 0 from fun q => q rfl), if_pos rfl]
      cases (decide (0 ≤ V k) && decide (V k ≤ nI F - 1)) <;> rfl
    · rw [e, if_pos (show nI 1 ≠ 0 by decide), if_neg (show ¬ 1 = 0 by decide)]
      cases (decide (0 ≤ V k) && decide (V k ≤ 1)) <;> rfl
  · intro k hk
    unfold f_X10_wrongPairs_b38 f_X10_wrongPairs_j88 f_X10_wrongPairs_j89
    simp only
    rw [ck1_1, if_pos (in_ok hr (by decide)), nI_clamp (by omega), hs, if_neg (nI_ge hk (by omega)), if_pos trivial, nI_1]
  · intro x
    unfold f_X10_wrongPairs_b38
    simp only
    rw [ck1_1, if_pos (in_ok hr (by decide)), nI_clamp (by omega), hs, if_pos (nI_le (Nat.le_refl _) (by omega))]
theorem ltF {F : Nat} (hF : F ≤ 100) (x : Int32) : x ≤ nI F - 1 ↔ ¬ nI F ≤ x := by
  rw [← sub1_lt (by omega) x]
  exact Int32.not_lt.symm
theorem cpairs_ok {σ : rf_S} {r m F : Nat} (hr : r < 6) (hm : 2 * m ≤ 40) (hF : F ≤ 100) (hs : σ.1 9 r = nI (2 * m)) : f_X4_arePairs (nI r) (nI F) σ = some (if allB (2 * m) (okP F (σ.1 (3 + r))) = true then 1 else 0) := by
  unfold f_X4_arePairs
  obtain ⟨e, l1, l2⟩ := lp_inv (b := f_X4_arePairs_b2 (nI r) (nI F) σ) (fun j s => s = nI (2 * j) ∧ allB (2 * j) (okP F (σ.1 (3 + r))) = true) m (K := fun e => (e = Sum.inl () ∧ allB (2 * m) (okP F (σ.1 (3 + r))) = true) ∨ (e = Sum.inr 0 ∧ allB (2 * m) (okP F (σ.1 (3 + r))) = false)) (N := 5000) (fun j s hj hI => by
      obtain ⟨i1, i2⟩ := hI
      subst i1
      by_cases e : j = m
      · right
        subst e
        refine ⟨Sum.inl (), ?_, Or.inl ⟨rfl, i2⟩⟩
        unfold f_X4_arePairs_b2
        rw [ck0_9, if_pos (in_ok hr (by decide)), nI_clamp (by omega), hs, nI_1, if_pos (nI_le (by omega) (by omega))]
      · have hlt : j < m := by omega
        have bad : ∀ k, k < 2 * m → okP F (σ.1 (3 + r)) k = false → allB (2 * m) (okP F (σ.1 (3 + r))) = false := by
          intro k hk hb
          cases ea : allB (2 * m) (okP F (σ.1 (3 + r))) with
          | false => rfl
          | true =>
            have := allB_iff.mp ea k hk
            rw [hb] at this
            exact absurd this (by decide)
        have body : f_X4_arePairs_b2 (nI r) (nI F) σ (nI (2 * j)) = if σ.1 (3 + r) (2 * j) < 0 then some (.inr (.inr 0)) else if nI F ≤ σ.1 (3 + r) (2 * j) then some (.inr (.inr 0)) else if σ.1 (3 + r) (2 * j + 1) < 0 then some (.inr (.inr 0)) else if σ.1 (3 + r) (2 * j + 1) ≤ 1 then some (.inl (nI (2 * j) + 2)) else some (.inr (.inr 0)) := by
          unfold f_X4_arePairs_b2
          rw [ck0_9, if_pos (in_ok hr (by decide)), nI_clamp (by omega), hs, nI_1, if_neg (nI_ge (by omega) (by omega)), rk2, if_pos (in_ok hr (by decide)), ra2 r hr, ck3 r hr, if_pos (in_ok (by omega) (by decide)), if_pos (in_ok hr (by decide)), ck3 r hr, if_pos (in_ok (by omega) (by decide)), nI_clamp (by omega), nI_clamp (by omega)]
        have p0 : (2 * j) % 2 = 0 := by omega
        have p1 : ¬ (2 * j + 1) % 2 = 0 := by omega
        rw [body]
        by_cases c1 : σ.1 (3 + r) (2 * j) < 0
        · right
          rw [if_pos c1]
          refine ⟨Sum.inr 0, rfl, Or.inr ⟨rfl, bad (2 * j) (by omega) ?_⟩⟩
          unfold okP
          rw [decide_eq_false (Int32.not_le.mpr c1)]
          rfl
        rw [if_neg c1]
        by_cases c2 : nI F ≤ σ.1 (3 + r) (2 * j)
        · right
          rw [if_pos c2]
          refine ⟨Sum.inr 0, rfl, Or.inr ⟨rfl, bad (2 * j) (by omega) ?_⟩⟩
          unfold okP
          rw [if_pos p0, decide_eq_false (fun q => (ltF hF _).mp q c2), Bool.and_false]
        rw [if_neg c2]
        by_cases c3 : σ.1 (3 + r) (2 * j + 1) < 0
        · right
          rw [if_pos c3]
          refine ⟨Sum.inr 0, rfl, Or.inr ⟨rfl, bad (2 * j + 1) (by omega) ?_⟩⟩
          unfold okP
          rw [decide_eq_false (Int32.not_le.mpr c3)]
          rfl
        rw [if_neg c3]
        by_cases c4 : σ.1 (3 + r) (2 * j + 1) ≤ 1
        · left
          rw [if_pos c4]
          refine ⟨nI (2 * (j + 1)), hlt, ?_, rfl, ?_⟩
          · rw [show nI (2 * j) + 2 = nI (2 * j + 2) from nI_add (2 * j) 2]
            rfl
          · show allB (2 * j + 1 + 1) (okP F (σ.1 (3 + r))) = true
            rw [allB, allB, i2]
            unfold okP
            rw [if_pos p0, if_neg p1, decide_eq_true (Int32.not_lt.mp c1), decide_eq_true ((ltF hF _).mpr c2), decide_eq_true (Int32.not_lt.mp c3), decide_eq_true c4]
            rfl
        · right
          rw [if_neg c4]
          refine ⟨Sum.inr 0, rfl, Or.inr ⟨rfl, bad (2 * j + 1) (by omega) ?_⟩⟩
          unfold okP
          rw [if_neg p1, decide_eq_false c4, Bool.and_false]) (by omega) (s := (0 : Int32)) ⟨rfl, rfl⟩
  rw [l1, Option.bind_some]
  rcases l2 with ⟨rfl, l3⟩ | ⟨rfl, l3⟩
  · rw [l3]
    rfl
  · rw [l3]
    rfl
/-- a row of m pairs: of numbers below F, and yes or no -/
def Prs (V : Nat → Int32) (m F : Nat) (A : Nat → Nat) (B : Nat → Bool) : Prop := ∀ j, j < m → A j < F ∧ V (2 * j) = nI (A j) ∧ V (2 * j + 1) = if B j = true then 1 else 0
theorem Prs_of {V : Nat → Int32} {m F : Nat} (hF : F ≤ 100) (h : allB (2 * m) (okP F V) = true) : ∃ A B, Prs V m F A B := by
  refine ⟨fun j => (V (2 * j)).toNatClampNeg, fun j => decide (V (2 * j + 1) = 1), fun j hj => ?_⟩
  have h1 := allB_iff.mp h (2 * j) (by omega)
  have h2 := allB_iff.mp h (2 * j + 1) (by omega)
  unfold okP at h1 h2
  rw [if_pos (show (2 * j) % 2 = 0 by omega), Bool.and_eq_true, decide_eq_true_eq, decide_eq_true_eq, ltF hF] at h1
  rw [if_neg (show ¬ (2 * j + 1) % 2 = 0 by omega), Bool.and_eq_true, decide_eq_true_eq, decide_eq_true_eq] at h2
  rcases pk_ix (V (2 * j)) (show F < 2 ^ 31 by omega) with q | q | ⟨k, q1, q2⟩
  · exact absurd q (Int32.not_lt.mpr h1.1)
  · exact absurd q h1.2
  · obtain ⟨w, w1, w2⟩ := nI_of2 (M := 1) (n := 1) rfl (Int32.not_lt.mpr h2.1) h2.2
    simp only
    rw [q2, nI_clamp (by omega)]
    refine ⟨q1, rfl, ?_⟩
    rcases (show w = 0 ∨ w = 1 by omega) with rfl | rfl
    · have w3 : V (2 * j + 1) = 0 := w2
      simp [w3]
    · have w3 : V (2 * j + 1) = 1 := w2
      simp [w3]
theorem pairs_cases {σ τ : rf_S} (h : Sim σ τ) {r F : Nat} (hr : r < 6) (hF : F ≤ 100) : (∃ v σ1 τ1, v ≠ 0 ∧ f_X9_refusedPairs (nI r) (nI F) σ = some (v, σ1) ∧ f_X10_wrongPairs (nI r) (nI F - 1) τ = some (v, τ1) ∧ Sim σ1 τ1) ∨ ∃ m A B, 2 * m ≤ 40 ∧ σ.1 9 r = nI (2 * m) ∧ τ.1 1 r = nI (2 * m) ∧ Prs (σ.1 (3 + r)) m F A B ∧ f_X9_refusedPairs (nI r) (nI F) σ = some (0, σ) ∧ f_X10_wrongPairs (nI r) (nI F - 1) τ = some (0, τ) := by
  obtain ⟨a1, a2, a3⟩ := h.2.1 r hr
  unfold f_X9_refusedPairs f_X10_wrongPairs f_X4_isMissing f_X4_sizeOf
  rw [ck0_9, ck1_1]
  simp only [if_pos (in_ok (i := r) (n := 6) hr (by decide))]
  rw [nI_clamp (by omega), a1]
  rcases a2 with a2 | ⟨n, hn, a2⟩
  · left
    rw [a2, if_neg neg1_lt, if_neg neg1_lt]
    obtain ⟨v, σ1, τ1, b1, b2, b3⟩ := Both_find (f := 1) (by decide) h
    refine ⟨-3, cFind σ 1, mFind τ 1, by decide, ?_, ?_, Sim_find (by decide) h⟩
    · rw [Option.bind_some, if_neg n10, show (1 : Int32) = nI 1 from rfl, find_ok (by decide)]
      rfl
    · rw [show (1 : Int32) = nI 1 from rfl, finds_ok (by decide)]
      rfl
  · rw [a2, if_pos (nI_pos' (by omega)), if_pos (nI_pos' (by omega))]
    simp only [Option.bind_some, if_true, rem2 (show n ≤ 1000 by omega)]
    rcases (show n % 2 = 1 ∨ n % 2 = 0 by omega) with e | e
    · left
      rw [e, if_neg (show ¬ nI 1 = 0 by decide), if_neg (show ¬ nI 1 ≠ 1 from fun q => q rfl)]
      refine ⟨-3, cFind σ 5, mFind τ 5, by decide, ?_, ?_, Sim_find (by decide) h⟩
      · rw [show (5 : Int32) = nI 5 from rfl, find_ok (by decide)]
        rfl
      · rw [show (5 : Int32) = nI 5 from rfl, finds_ok (by decide)]
        rfl
    · obtain ⟨m, rfl⟩ : ∃ m, n = 2 * m := ⟨n / 2, by omega⟩
      rw [e, if_pos (show nI 0 = 0 from rfl), if_pos (show nI 0 ≠ 1 by decide), cpairs_ok hr (by omega) hF a2, mpairs_ok hr hn (by rw [a1, a2]) a3, Option.bind_some, Option.bind_some, b01, b01]
      cases ea : allB (2 * m) (okP F (σ.1 (3 + r))) with
      | false =>
        left
        refine ⟨-3, cFind σ 3, mFind τ 3, by decide, ?_, ?_, Sim_find (by decide) h⟩
        · rw [if_neg (by decide), show (3 : Int32) = nI 3 from rfl, find_ok (by decide)]
          rfl
        · rw [if_neg (by decide), show (3 : Int32) = nI 3 from rfl, finds_ok (by decide)]
          rfl
      | true =>
        right
        obtain ⟨A, B, hAB⟩ := Prs_of hF ea
        exact ⟨m, A, B, hn, rfl, rfl, hAB, if_pos rfl, if_pos rfl⟩
