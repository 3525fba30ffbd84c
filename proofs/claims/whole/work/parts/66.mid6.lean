/-! ===== odds, mid ===== -/
theorem sim_weigh {σ τ : rf_S} (h : Sim σ τ) (x y : Int32) {mn : Nat} (hmn : mn ≤ 1) : Both (f_X9_weighed x y (nI mn) σ) (f_X10_seems x y (nI mn) τ) := by
  obtain ⟨t, hσ, hτ⟩ := Sim_town h
  have hM := t_M (c_t hσ)
  have hR := t_R (c_t hσ)
  unfold f_X9_weighed f_X10_seems
  rcases room_cases hσ hτ x with ⟨h1, h2⟩ | ⟨r, hr, rfl, h1, h2⟩
  · rw [h1, h2]
    exact Both_same h
  rw [h1, h2]
  simp only [Option.bind_some]
  rw [if_neg n10, if_neg n10]
  unfold f_X10_in
  by_cases e1 : y < 0
  · rw [if_pos e1, if_pos e1]
    exact Both_same h
  rw [if_neg e1, if_neg e1]
  by_cases e2 : 12 < y
  · rw [if_pos e2, if_neg (Int32.not_le.mpr e2)]
    exact Both_same h
  rw [if_neg e2, if_pos (Int32.not_lt.mp e2)]
  simp only [Option.bind_some]
  obtain ⟨p, hp, rfl⟩ := nI_of2 (M := 12) (n := 12) rfl e1 (Int32.not_lt.mp e2)
  have hpw := pow6 (tM t) (by omega)
  obtain ⟨q, hq, eq⟩ := bs_nat (tM t) (fun i => decide (tL t i = r)) hM
  obtain ⟨δ, hδ, eδ⟩ := bs_nat (tM t) (fun i => bt (nI q) i && ds t i (tD t (tL t i))) hM
  have hqb : ∀ i, i < 32 → bt (nI q) i = (decide (i < tM t) && decide (tL t i = r)) := fun i hi => by rw [← eq, b_bs _ (by omega) hi]
  have hδb : ∀ i, i < 32 → bt (nI δ) i = (decide (i < tM t) && (bt (nI q) i && ds t i (tD t (tL t i)))) := fun i hi => by rw [← eδ, b_bs _ (by omega) hi]
  have hD : nI q &&& bs (tM t) (fun i => ds t i (tD t (tL t i))) = nI δ := by
    rw [← eδ]
    apply b_ext
    intro i hi
    rw [b_and, b_bs _ (by omega) hi, b_bs _ (by omega) hi]
    cases bt (nI q) i <;> cases ds t i (tD t (tL t i)) <;> simp
  have hδ1 : ∀ i, i < tM t → bt (nI δ) i = (bt (nI q) i && ds t i (tD t r)) := fun i hi => by
    rw [hδb i (by omega), decide_eq_true hi, Bool.true_and]
    by_cases e : tL t i = r
    · rw [e]
    · rw [hqb i (by omega), decide_eq_false e, Bool.and_false, Bool.false_and, Bool.false_and]
  have hδ2 : ∀ i, i < 32 → bt (nI δ) i = true → bt (nI q) i = true := fun i hi hb => by
    rw [hδb i hi] at hb
    cases e : bt (nI q) i with
    | true => rfl
    | false => rw [e] at hb; simp at hb
  have hqM : ∀ i, tM t ≤ i → i < 32 → bt (nI q) i = false := fun i a b => by rw [hqb i b, decide_eq_false (by omega), Bool.false_and]
  have sC := csum2_ok (mn := mn) hσ hr (show q < 64 by omega) hp hmn
  have hT0 : ∀ k, q < k → k < 64 → subS q k = false := fun k a b => by
    cases e : subS q k with
    | false => rfl
    | true =>
      have := sub_le q (by omega) k b e
      omega
  have eC : sumN (trm t q (tD t r) p mn) 64 = sumN (trm t q (tD t r) p mn) (q + 1) := sumN_pad (by omega) fun k a b => by
    unfold trm
    rw [hT0 k (by omega) b, if_neg (by decide)]
  have eM : sumN (fun k => trm t q (tD t r) p mn (k ^^^ δ)) 64 = sumN (fun k => trm t q (tD t r) p mn (k ^^^ δ)) (2 ^ tM t) := sumN_pad (by omega) fun k a b => by
    unfold trm
    rw [sub_x hδ2, hT0 k (by omega) b, if_neg (by decide)]
  have eS : sumN (fun k => trm t q (tD t r) p mn (k ^^^ δ)) (2 ^ tM t) = sumN (trm t q (tD t r) p mn) (q + 1) := by rw [← eM, ← eC, sumx _ δ (by omega)]
  obtain ⟨S, hS⟩ : ∃ S, S = sumN (trm t q (tD t r) p mn) (q + 1) := ⟨_, rfl⟩
  have hSl : S ≤ 64 * 92565504 := by
    rw [hS, ← eC]
    exact sumN_le (fun k => trm_le t q (tD t r) p mn k hp) 64
  obtain ⟨c, hc⟩ : ∃ c, cnt (tM t) (fun i => decide (tL t i = r)) = c := ⟨_, rfl⟩
  have hcl : c ≤ 6 := by
    have := cnt_le (tM t) (fun i => decide (tL t i = r))
    omega
  have hc12 : 12 ^ c ≤ 12 ^ 6 := Nat.pow_le_pow_right (by omega) hcl
  obtain ⟨u, v, u1, u2⟩ := low_ok (a := S) (b := 12 ^ c) (by omega) (by omega) (Nat.pow_pos (by omega)) σ τ
  have pC := cpow_ok σ (lN S) (fun i => decide (tL t i = r)) (show tM t ≤ 31 by omega) hc
  have pM := mpow_ok τ (nI p) (nI mn) 0 (fun i => decide (tL t i = r)) (show tM t ≤ 31 by omega) hc
  rw [eq] at pC pM
  unfold f_X0_weigh
  rw [if_pos n10, there_ok hσ (by omega), thereIn_ok hτ (by omega), eq, Option.bind_some, Option.bind_some, sC, ← hS, Option.bind_some, pC, Option.bind_some, u1, pM, Option.bind_some, Option.bind_some, Option.bind_some, msum2_ok (g := tD t r) hτ hp hmn hD hδ1 hδ2 hqM, eS, ← hS, Option.bind_some, u2]
  exact ⟨_, _, _, rfl, rfl, Sim_long h u v⟩
theorem bothId {A B : Option (Int32 × rf_S)} (h : Both A B) : Both (A.bind (fun q => some (q.1, q.2))) (B.bind (fun q => some (q.1, q.2))) := by
  obtain ⟨v, σ, τ, rfl, rfl, h⟩ := h
  exact ⟨v, σ, τ, rfl, rfl, h⟩
theorem sim_odds {σ τ : rf_S} (h : Sim σ τ) (x y : Int32) : Both (f_X9_odds x y σ) (f_X10_odds x y τ) := bothId (sim_weigh h x y (mn := 0) (by omega))
theorem sim_mid {σ τ : rf_S} (h : Sim σ τ) (x y : Int32) : Both (f_X9_mid x y σ) (f_X10_mid x y τ) := bothId (sim_weigh h x y (mn := 1) (by omega))
