/-! ===== keep, on ===== -/
theorem kept_cases (x : Int32) : (∀ σ τ, f_X9_isKept x σ = some 0 ∧ f_X10_in x 0 2 τ = some 0) ∨ ∃ k, k < 3 ∧ x = nI k ∧ ∀ σ τ, f_X9_isKept x σ = some 1 ∧ f_X10_in x 0 2 τ = some 1 := by
  unfold f_X9_isKept f_X10_in
  rcases pk_ix x (show 3 < 2 ^ 31 by decide) with h | h | ⟨k, h1, h2⟩
  · left
    intro _ _
    rw [if_pos h, if_pos h]
    exact ⟨rfl, rfl⟩
  · left
    intro _ _
    by_cases h0 : x < 0
    · rw [if_pos h0, if_pos h0]
      exact ⟨rfl, rfl⟩
    · rw [if_neg h0, if_neg h0, if_pos (show (3 : Int32) ≤ x from h), if_pos (show (2 : Int32) < x from Int32.lt_of_lt_of_le (by decide) h)]
      exact ⟨rfl, rfl⟩
  · right
    refine ⟨k, h1, h2, ?_⟩
    subst h2
    intro _ _
    rw [if_neg (nI_pos (by omega)), if_neg (nI_pos (by omega)), if_neg (show ¬ (3 : Int32) ≤ nI k from nI_ge h1 (by decide)), if_neg (show ¬ (2 : Int32) < nI k from fun q => by have := (lt_nI (a := 2) (b := k) (by decide) (by omega)).mp q; omega)]
    exact ⟨rfl, rfl⟩
theorem cp_k {k n : Nat} (hk : k < 3) (hn : n ≤ 40) : rf_cp ly0 39 0 (41 + k) 0 (nI n) = true ∧ rf_cp ly0 (41 + k) 0 39 0 (nI n) = true := by
  have h : ∀ k, k < 3 → rf_kd ly0 0 (41 + k) = true ∧ rf_len ly0 (41 + k) = 40 := by decide
  unfold rf_cp
  rw [(h k hk).1, (h k hk).2, show rf_kd ly0 0 39 = true from rfl, show rf_len ly0 39 = 40 from rfl, show (0 : Int32).toNatClampNeg = 0 from rfl, nI_clamp (by omega)]
  simp [nI_pos (n := n) (by omega), hn]
theorem store_ok {σ : rf_S} {n k : Nat} (h : σ.1 38 3 = nI n) (hn : n ≤ 40) (hk : k < 3) : f_X1_store (nI k) σ = some (rf_sI (rf_sA σ (41 + k) (va_cpy (σ.1 39) (σ.1 (41 + k)) 0 0 n)) 44 k (nI n)) := by
  unfold f_X1_store
  rw [rk40, if_pos (in_ok hk (by decide)), nI_clamp (by omega), ra40 k hk, h, if_pos (cp_k hk hn).1, nI_clamp (by omega), show (0 : Int32).toNatClampNeg = 0 from rfl, Option.bind_some, ck0_44, if_pos (in_ok hk (by decide)), sA_at, if_neg (by omega), h]
theorem sim_keep {σ τ : rf_S} (h : Sim σ τ) (x : Int32) : Both (f_X9_keep x σ) (f_X10_keep x τ) := by
  obtain ⟨hF, hR, hT, t0, n, H, E, w1, w2, w3, w4, ⟨d1, d2, d3, d4, d5, d6, d7, d8⟩, w5, w6⟩ := id h
  have hall := Hs_all d4 w1
  have hM := w1.2.1
  unfold f_X9_keep f_X10_keep f_X8_isEmpty
  rcases kept_cases x with h1 | ⟨k, hk, rfl, h1⟩
  · rw [(h1 σ τ).1, (h1 σ τ).2]
    exact Both_same h
  rw [(h1 σ τ).1, (h1 σ τ).2]
  simp only [Option.bind_some]
  rw [if_pos n10, if_pos n10, w2.2.1, w4.2.1]
  by_cases e : tM t0 = 0
  · rw [e, if_neg (show ¬ nI 0 ≠ 0 from fun q => q rfl), if_neg (show ¬ nI 0 ≠ 0 from fun q => q rfl)]
    simp only [Option.bind_some]
    exact Both_same h
  rw [if_pos (show nI (tM t0) ≠ 0 from nI_ne0 (by omega) (by omega)), if_pos (show nI (tM t0) ≠ 0 from nI_ne0 (by omega) (by omega))]
  simp only [Option.bind_some, if_true]
  rw [store_ok d2 d1 hk, Option.bind_some, show (0 : Int32) = nI 0 from rfl, i25, show (25 : Int32) = nI 25 from rfl, bring_ok ck1_12 ck1_15 (by decide) (by omega) (by omega) (by omega) (by omega), Option.bind_some, show (1000 : Int32) * nI k = nI (1000 * k) from pk_mul 1000 k, show (1000 : Int32) = nI 1000 from rfl, bring_ok ck1_14 ck1_16 (by decide) (by omega) (by omega) (by omega) (by omega), Option.bind_some, ck1_17, if_pos (in_ok hk (by decide)), nI_clamp (by omega)]
  obtain ⟨σ', eσ⟩ : ∃ σ', σ' = rf_sI (rf_sA σ (41 + k) (va_cpy (σ.1 39) (σ.1 (41 + k)) 0 0 n)) 44 k (nI n) := ⟨_, rfl⟩
  obtain ⟨τ1, e1⟩ : ∃ τ1, τ1 = rf_sA τ 15 (fun q => if 25 * k ≤ q ∧ q < 25 * k + 25 then τ.1 12 (0 + (q - 25 * k)) else τ.1 15 q) := ⟨_, rfl⟩
  obtain ⟨τ2, e2⟩ : ∃ τ2, τ2 = rf_sA τ1 16 (fun q => if 1000 * k ≤ q ∧ q < 1000 * k + 1000 then τ1.1 14 (0 + (q - 1000 * k)) else τ1.1 16 q) := ⟨_, rfl⟩
  rw [← eσ, ← e1, ← e2]
  have t25 : τ2.1 0 25 = nI n := by rw [e2, sA_at, if_neg (by decide), e1, sA_at, if_neg (by decide), d3]
  rw [t25]
  have c1 : ∀ c, c ≠ 44 → c ≠ 41 + k → σ'.1 c = σ.1 c := by
    intro c a b
    rw [eσ, sI_1, if_neg a, sA_1, if_neg b]
  have m1 : ∀ c, c ≠ 15 → c ≠ 16 → c ≠ 17 → (rf_sI τ2 17 k (nI n)).1 c = τ.1 c := by
    intro c a b d
    rw [sI_1, if_neg d, e2, sA_1, if_neg b, e1, sA_1, if_neg a]
  have m15 : ∀ q, (rf_sI τ2 17 k (nI n)).1 15 q = if 25 * k ≤ q ∧ q < 25 * k + 25 then τ.1 12 (0 + (q - 25 * k)) else τ.1 15 q := by
    intro q
    rw [sI_at, if_neg (by decide), e2, sA_at, if_neg (by decide), e1, sA_at, if_pos rfl]
  have m16 : ∀ q, (rf_sI τ2 17 k (nI n)).1 16 q = if 1000 * k ≤ q ∧ q < 1000 * k + 1000 then τ.1 14 (0 + (q - 1000 * k)) else τ.1 16 q := by
    intro q
    rw [sI_at, if_neg (by decide), e2, sA_at, if_pos rfl, e1, sA_at, if_neg (show ¬ 14 = 15 by decide), sA_at, if_neg (show ¬ 16 = 15 by decide)]
  have m17 : ∀ q, (rf_sI τ2 17 k (nI n)).1 17 q = if q = k then nI n else τ.1 17 q := by
    intro q
    rw [sI_at, if_pos rfl, e2, sA_at, if_neg (show ¬ 17 = 16 by decide), e1, sA_at, if_neg (show ¬ 17 = 15 by decide)]
  have a38 : σ'.1 38 3 = nI n := by rw [c1 38 (by omega) (by omega), d2]
  have a25 : (rf_sI τ2 17 k (nI n)).1 0 25 = nI n := by rw [m1 0 (by omega) (by omega) (by omega), d3]
  rw [a38, a25]
  refine ⟨_, _, _, rfl, rfl, Sim_W h (fun c hc => c1 c (by omega) (by omega)) (fun c _ _ => m1 c (by omega) (by omega) (by omega)) (fun j hj => by rw [m1 0 (by omega) (by omega) (by omega)]) (by rw [eσ]; rfl) (by show τ2.2 = τ.2; rw [e2, e1]; rfl) ⟨t0, n, H, E, w1, ?_, ?_, ?_, ⟨d1, a38, a25, d4, ?_, ?_, ?_, ?_⟩, w5, ?_⟩⟩
  · unfold cC at *
    rw [c1 26 (by omega) (by omega), c1 28 (by omega) (by omega), c1 29 (by omega) (by omega), c1 30 (by omega) (by omega), c1 31 (by omega) (by omega)]
    exact w2
  · unfold cP at *
    rw [c1 27 (by omega) (by omega), c1 32 (by omega) (by omega)]
    exact w3
  · unfold mC at *
    rw [m1 0 (by decide) (by decide) (by decide), m1 8 (by decide) (by decide) (by decide), m1 9 (by decide) (by decide) (by decide), m1 10 (by decide) (by decide) (by decide), m1 11 (by decide) (by decide) (by decide)]
    exact w4
  · rw [c1 39 (by omega) (by omega)]
    exact d5
  · unfold cS at *
    rw [c1 25 (by omega) (by omega), c1 33 (by omega) (by omega), c1 34 (by omega) (by omega), c1 35 (by omega) (by omega), c1 36 (by omega) (by omega)]
    exact d6
  · rw [m1 12 (by decide) (by decide) (by decide)]
    exact d7
  · rw [m1 14 (by decide) (by decide) (by decide)]
    exact d8
  · intro k' hk'
    by_cases ek : k' = k
    · subst ek
      right
      refine ⟨n, H, E, w5, d1, ?_, ?_, d4, ?_, ?_, ?_⟩
      · rw [eσ, sI_at, if_pos rfl, if_pos rfl]
      · rw [m17, if_pos rfl]
      · intro j hj
        rw [eσ, sI_at, if_neg (by omega), sA_at, if_pos rfl, cpy_at, if_pos (by omega), ← d5 j hj]
        exact congrArg (σ.1 39) (by omega)
      · obtain ⟨b1, b2⟩ := hall n (by omega)
        refine mV_congr b1.2.1 b1.1 d7 (fun j hj => ?_)
        rw [m15, if_pos (by omega)]
        exact congrArg (τ.1 12) (by omega)
      · intro i hi
        obtain ⟨b1, b2⟩ := hall i (by omega)
        refine mV_congr b1.2.1 b1.1 (d8 i hi) (fun j hj => ?_)
        rw [m16, if_pos (by omega)]
        exact congrArg (τ.1 14) (by omega)
    · have e44 : σ'.1 44 k' = σ.1 44 k' := by
        rw [eσ, sI_at, if_pos rfl, if_neg ek, sA_at, if_neg (by omega)]
      rcases w6 k' hk' with ⟨a, b⟩ | ⟨n', H', E', q0, q1, q2, q3, q4, q5, q6, q7⟩
      · left
        rw [e44, m17, if_neg ek]
        exact ⟨a, b⟩
      · right
        have hall' := Hs_all q4 w1
        refine ⟨n', H', E', q0, q1, ?_, ?_, q4, ?_, ?_, ?_⟩
        · rw [e44]
          exact q2
        · rw [m17, if_neg ek]
          exact q3
        · rw [c1 (41 + k') (by omega) (by omega)]
          exact q5
        · obtain ⟨b1, b2⟩ := hall' n' (by omega)
          refine mV_congr b1.2.1 b1.1 q6 (fun j hj => ?_)
          rw [m15, if_neg (by omega)]
        · intro i hi
          obtain ⟨b1, b2⟩ := hall' i (by omega)
          refine mV_congr b1.2.1 b1.1 (q7 i hi) (fun j hj => ?_)
          rw [m16, if_neg (by omega)]
theorem sim_on {σ τ : rf_S} (h : Sim σ τ) (x : Int32) : Both (f_X9_on x σ) (f_X10_on x τ) := by
  obtain ⟨hF, hR, hT, t0, n, H, E, w1, w2, w3, w4, ⟨d1, d2, d3, d4, d5, d6, d7, d8⟩, w5, w6⟩ := id h
  unfold f_X9_on f_X10_on
  rcases kept_cases x with h1 | ⟨k, hk, rfl, h1⟩
  · rw [(h1 σ τ).1, (h1 σ τ).2]
    exact Both_same h
  rw [(h1 σ τ).1, (h1 σ τ).2]
  simp only [Option.bind_some]
  rw [if_pos n10, if_pos n10, ck0_44, ck1_17, if_pos (in_ok hk (by decide)), if_pos (in_ok hk (by decide)), nI_clamp (by omega)]
  rcases w6 k hk with ⟨a, b⟩ | ⟨n', H', E', q0, q1, q2, q3, q4, q5, q6, q7⟩
  · rw [a, b, if_neg neg1_lt, if_neg neg1_lt]
    exact Both_find (f := 1) (by decide) h
  have hall := Hs_all q4 w1
  rw [q2, q3, if_pos (nI_pos' (by omega)), if_pos (nI_pos' (by omega))]
  obtain ⟨σ1, es⟩ : ∃ σ1, σ1 = rf_sA σ 39 (va_cpy (σ.1 (41 + k)) (σ.1 39) 0 0 n') := ⟨_, rfl⟩
  have c1 : ∀ c, c ≠ 39 → σ1.1 c = σ.1 c := by
    intro c a
    rw [es, sA_1, if_neg a]
  have hC1 : cC σ1 t0 := by
    unfold cC at *
    rw [c1 26 (by omega), c1 28 (by omega), c1 29 (by omega), c1 30 (by omega), c1 31 (by omega)]
    exact w2
  have hP1 : cP σ1 t0 := by
    unfold cP at *
    rw [c1 27 (by omega), c1 32 (by omega)]
    exact w3
  have hE1 : ∀ j, j < n' → σ1.1 39 j = enc (E' j) := by
    intro j hj
    rw [es, sA_at, if_pos rfl, cpy_at, if_pos (by omega), ← q5 j hj]
    exact congrArg (σ.1 (41 + k)) (by omega)
  obtain ⟨σ', a1, a2, a3, a4⟩ := goBack_ok w1 hC1 hP1 q4 (Nat.le_refl n') q1 hE1
  have hres : f_X1_resume (nI k) σ = some σ' := by
    unfold f_X1_resume
    rw [rk40, if_pos (in_ok hk (by decide)), ck0_44, if_pos (in_ok hk (by decide)), nI_clamp (by omega), ra40 k hk, q2, if_pos (cp_k hk q1).2, nI_clamp (by omega), show (0 : Int32).toNatClampNeg = 0 from rfl, ← es, Option.bind_some, if_pos (in_ok hk (by decide)), c1 44 (by omega), q2, a1]
    rfl
  rw [hres, Option.bind_some, a3, show (0 : Int32) = nI 0 from rfl, i25, show (25 : Int32) = nI 25 from rfl, bring_ok ck1_15 ck1_12 (by decide) (by omega) (by omega) (by omega) (by omega), Option.bind_some, show (1000 : Int32) * nI k = nI (1000 * k) from pk_mul 1000 k, show (1000 : Int32) = nI 1000 from rfl, bring_ok ck1_16 ck1_14 (by decide) (by omega) (by omega) (by omega) (by omega), Option.bind_some, if_pos (in_ok hk (by decide))]
  obtain ⟨τ1, e1⟩ : ∃ τ1, τ1 = rf_sA τ 12 (fun q => if 0 ≤ q ∧ q < 0 + 25 then τ.1 15 (25 * k + (q - 0)) else τ.1 12 q) := ⟨_, rfl⟩
  obtain ⟨τ2, e2⟩ : ∃ τ2, τ2 = rf_sA τ1 14 (fun q => if 0 ≤ q ∧ q < 0 + 1000 then τ1.1 16 (1000 * k + (q - 0)) else τ1.1 14 q) := ⟨_, rfl⟩
  rw [← e1, ← e2]
  have t17 : τ2.1 17 k = nI n' := by rw [e2, sA_at, if_neg (by decide), e1, sA_at, if_neg (by decide), q3]
  rw [t17]
  have m1 : ∀ c, c ≠ 0 → c ≠ 12 → c ≠ 14 → (rf_sI τ2 0 25 (nI n')).1 c = τ.1 c := by
    intro c a b d
    rw [sI_1, if_neg a, e2, sA_1, if_neg d, e1, sA_1, if_neg b]
  have m0 : ∀ j, j ≠ 25 → (rf_sI τ2 0 25 (nI n')).1 0 j = τ.1 0 j := by
    intro j a
    rw [sI_at, if_pos rfl, if_neg a, e2, sA_at, if_neg (by decide), e1, sA_at, if_neg (by decide)]
  have m25 : (rf_sI τ2 0 25 (nI n')).1 0 25 = nI n' := by rw [sI_at, if_pos rfl, if_pos rfl]
  have m12 : ∀ q, (rf_sI τ2 0 25 (nI n')).1 12 q = if 0 ≤ q ∧ q < 0 + 25 then τ.1 15 (25 * k + (q - 0)) else τ.1 12 q := by
    intro q
    rw [sI_at, if_neg (by decide), e2, sA_at, if_neg (by decide), e1, sA_at, if_pos rfl]
  have m14 : ∀ q, (rf_sI τ2 0 25 (nI n')).1 14 q = if 0 ≤ q ∧ q < 0 + 1000 then τ.1 16 (1000 * k + (q - 0)) else τ.1 14 q := by
    intro q
    rw [sI_at, if_neg (by decide), e2, sA_at, if_pos rfl, e1, sA_at, if_neg (show ¬ 16 = 12 by decide), sA_at, if_neg (show ¬ 14 = 12 by decide)]
  have f1 : ∀ c, c ∉ [25, 33, 34, 35, 36, 38, 39] → σ'.1 c = σ.1 c := by
    intro c hc
    rw [a4.1 c (fun q => hc (by revert q; simp only [List.mem_cons, List.not_mem_nil, or_false]; omega)), c1 c (fun q => hc (by rw [q]; decide))]
  rw [m25]
  refine ⟨_, _, _, rfl, rfl, Sim_W h (fun c hc => f1 c ?_) (fun c _ _ => m1 c (by omega) (by omega) (by omega)) (fun j hj => m0 j (by omega)) (by rw [a4.2, es]; rfl) (by show τ2.2 = τ.2; rw [e2, e1]; rfl) ⟨t0, n', H', E', w1, ?_, ?_, ?_, ⟨q1, a3, m25, q4, ?_, a2, ?_, ?_⟩, q0, ?_⟩⟩
  · simp only [List.mem_cons, List.not_mem_nil, or_false]
    omega
  · unfold cC at *
    rw [f1 26 (by decide), f1 28 (by decide), f1 29 (by decide), f1 30 (by decide), f1 31 (by decide)]
    exact w2
  · unfold cP at *
    rw [f1 27 (by decide), f1 32 (by decide)]
    exact w3
  · unfold mC at *
    rw [m0 16 (by decide), m0 17 (by decide), m1 8 (by decide) (by decide) (by decide), m1 9 (by decide) (by decide) (by decide), m1 10 (by decide) (by decide) (by decide), m1 11 (by decide) (by decide) (by decide)]
    exact w4
  · intro j hj
    rw [a4.1 39 (by decide)]
    exact hE1 j hj
  · obtain ⟨b1, b2⟩ := hall n' (by omega)
    refine mV_congr b1.2.1 b1.1 q6 (fun j hj => ?_)
    rw [m12, if_pos (by omega)]
    exact congrArg (τ.1 15) (by omega)
  · intro i hi
    obtain ⟨b1, b2⟩ := hall i (by omega)
    refine mV_congr b1.2.1 b1.1 (q7 i hi) (fun j hj => ?_)
    rw [m14, if_pos (by omega)]
    exact congrArg (τ.1 16) (by omega)
  · intro k' hk'
    have := w6 k' hk'
    unfold SimK at *
    rw [f1 44 (by decide), f1 (41 + k') (by simp only [List.mem_cons, List.not_mem_nil, or_false]; omega), m1 17 (by decide) (by decide) (by decide), m1 15 (by decide) (by decide) (by decide), m1 16 (by decide) (by decide) (by decide)]
    exact this
