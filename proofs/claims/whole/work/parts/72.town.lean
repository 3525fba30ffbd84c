/-! ===== a town out of a text ===== -/
def pT (σ : rf_S) (R M : Nat) : TT := (fun a b => if a = 0 then (if b = 0 then R else if b = 1 then M else 0) else if a = 1 then (σ.1 20 b).toNatClampNeg else if a = 2 then (σ.1 21 b).toNatClampNeg else if a = 3 then (σ.1 22 b).toNatClampNeg else if a = 4 then (σ.1 23 b).toNatClampNeg else if a = 5 then (σ.1 19 b).toNatClampNeg else if a = 6 then (σ.1 24 b).toNatClampNeg else 0, fun _ => 0)
theorem pT_tok {σ τ : rf_S} {R M : Nat} (h : Pl σ τ R M) (hM : 0 < M) : tok 0 (pT σ R M) := by
  obtain ⟨p1, p2, p3, p4, p5, p6, p7, p8, p9⟩ := h
  refine ⟨p5, p6, fun _ => p7 hM, fun q => absurd q (by show ¬ M = 0; omega), ?_, ?_, Nat.le_refl 0, Nat.zero_le 3, Nat.le_refl 0⟩
  · intro r hr
    obtain ⟨a, b, h1, h2, h3, h4, h5, h6, h7⟩ := p8 r hr
    show 1 ≤ (σ.1 20 r).toNatClampNeg ∧ (σ.1 20 r).toNatClampNeg ≤ 31 ∧ (σ.1 19 r).toNatClampNeg ≤ 30
    rw [h4, h6, nI_clamp (by omega), nI_clamp (by omega)]
    omega
  · intro i hi
    obtain ⟨k, a, w, l, h1, h2, h3, h4, h5, h6, h7, h8⟩ := p9 i hi
    show (σ.1 21 i).toNatClampNeg < 6 ∧ (σ.1 22 i).toNatClampNeg ≤ 30 ∧ (σ.1 23 i).toNatClampNeg ≤ 9 ∧ (σ.1 24 i).toNatClampNeg < R ∧ 0 ≤ 2 ∧ (-5 : Int) ≤ 0 ∧ (0 : Int) ≤ 5
    rw [h5.1, h6.1, h7.1, h8.1, nI_clamp (by omega), nI_clamp (by omega), nI_clamp (by omega), nI_clamp (by omega)]
    omega
theorem back_cl {x : Int32} {k : Nat} (h : x = nI k) (hk : k < 2 ^ 31) : x = nI x.toNatClampNeg := by
  rw [h, nI_clamp hk]
theorem take_ok {σ τ : rf_S} {R M : Nat} (h : Pl σ τ R M) : ∃ σ', f_X2_takeFrom σ = some σ' ∧ cC σ' (pT σ R M) ∧ cP σ' (pT σ R M) ∧ fr [26, 27, 28, 29, 30, 31, 32] σ σ' := by
  obtain ⟨p1, p2, p3, p4, p5, p6, p7, p8, p9⟩ := h
  obtain ⟨σ0, e0⟩ : ∃ s, s = rf_sI (rf_sI σ 26 6 (nI R)) 26 7 (nI M) := ⟨_, rfl⟩
  obtain ⟨σ1, e1⟩ : ∃ s, s = rf_sA σ0 27 (va_cpy (σ0.1 19) (σ0.1 27) 0 0 4) := ⟨_, rfl⟩
  obtain ⟨σ2, e2⟩ : ∃ s, s = rf_sA σ1 28 (va_cpy (σ1.1 20) (σ1.1 28) 0 0 4) := ⟨_, rfl⟩
  obtain ⟨σ3, e3⟩ : ∃ s, s = rf_sA σ2 29 (va_cpy (σ2.1 21) (σ2.1 29) 0 0 6) := ⟨_, rfl⟩
  obtain ⟨σ4, e4⟩ : ∃ s, s = rf_sA σ3 30 (va_cpy (σ3.1 22) (σ3.1 30) 0 0 6) := ⟨_, rfl⟩
  obtain ⟨σ5, e5⟩ : ∃ s, s = rf_sA σ4 31 (va_cpy (σ4.1 23) (σ4.1 31) 0 0 6) := ⟨_, rfl⟩
  obtain ⟨σ6, e6⟩ : ∃ s, s = rf_sA σ5 32 (va_cpy (σ5.1 24) (σ5.1 32) 0 0 6) := ⟨_, rfl⟩
  have hf0 : fr [26, 27, 28, 29, 30, 31, 32] σ σ0 := by
    rw [e0]
    exact fr_sI (fr_sI (fr_refl σ) (by decide) _ _) (by decide) _ _
  have hf1 : fr [26, 27, 28, 29, 30, 31, 32] σ σ1 := by
    rw [e1]
    exact fr_sA hf0 (by decide) _
  have hf2 : fr [26, 27, 28, 29, 30, 31, 32] σ σ2 := by
    rw [e2]
    exact fr_sA hf1 (by decide) _
  have hf3 : fr [26, 27, 28, 29, 30, 31, 32] σ σ3 := by
    rw [e3]
    exact fr_sA hf2 (by decide) _
  have hf4 : fr [26, 27, 28, 29, 30, 31, 32] σ σ4 := by
    rw [e4]
    exact fr_sA hf3 (by decide) _
  have hf5 : fr [26, 27, 28, 29, 30, 31, 32] σ σ5 := by
    rw [e5]
    exact fr_sA hf4 (by decide) _
  have hf6 : fr [26, 27, 28, 29, 30, 31, 32] σ σ6 := by
    rw [e6]
    exact fr_sA hf5 (by decide) _
  have w26 : ∀ j, σ6.1 26 j = σ0.1 26 j := fun j => by
    rw [e6, sA_1, if_neg (by decide), e5, sA_1, if_neg (by decide), e4, sA_1, if_neg (by decide), e3, sA_1, if_neg (by decide), e2, sA_1, if_neg (by decide), e1, sA_1, if_neg (by decide)]
  have w27 : ∀ j, j < 4 → σ6.1 27 j = σ.1 19 j := fun j hj => by
    rw [e6, sA_1, if_neg (by decide), e5, sA_1, if_neg (by decide), e4, sA_1, if_neg (by decide), e3, sA_1, if_neg (by decide), e2, sA_1, if_neg (by decide), e1, sA_1, if_pos rfl, cpy_at, if_pos (by omega), hf0.1 19 (by decide)]
    exact congrArg (σ.1 19) (by omega)
  have w28 : ∀ j, j < 4 → σ6.1 28 j = σ.1 20 j := fun j hj => by
    rw [e6, sA_1, if_neg (by decide), e5, sA_1, if_neg (by decide), e4, sA_1, if_neg (by decide), e3, sA_1, if_neg (by decide), e2, sA_1, if_pos rfl, cpy_at, if_pos (by omega), hf1.1 20 (by decide)]
    exact congrArg (σ.1 20) (by omega)
  have w29 : ∀ j, j < 6 → σ6.1 29 j = σ.1 21 j := fun j hj => by
    rw [e6, sA_1, if_neg (by decide), e5, sA_1, if_neg (by decide), e4, sA_1, if_neg (by decide), e3, sA_1, if_pos rfl, cpy_at, if_pos (by omega), hf2.1 21 (by decide)]
    exact congrArg (σ.1 21) (by omega)
  have w30 : ∀ j, j < 6 → σ6.1 30 j = σ.1 22 j := fun j hj => by
    rw [e6, sA_1, if_neg (by decide), e5, sA_1, if_neg (by decide), e4, sA_1, if_pos rfl, cpy_at, if_pos (by omega), hf3.1 22 (by decide)]
    exact congrArg (σ.1 22) (by omega)
  have w31 : ∀ j, j < 6 → σ6.1 31 j = σ.1 23 j := fun j hj => by
    rw [e6, sA_1, if_neg (by decide), e5, sA_1, if_pos rfl, cpy_at, if_pos (by omega), hf4.1 23 (by decide)]
    exact congrArg (σ.1 23) (by omega)
  have w32 : ∀ j, j < 6 → σ6.1 32 j = σ.1 24 j := fun j hj => by
    rw [e6, sA_1, if_pos rfl, cpy_at, if_pos (by omega), hf5.1 24 (by decide)]
    exact congrArg (σ.1 24) (by omega)
  refine ⟨σ6, ?_, ⟨?_, ?_, ?_, ?_⟩, ⟨?_, ?_, fun i => ⟨rfl, rfl⟩, rfl, rfl, rfl⟩, hf6⟩
  · unfold f_X2_takeFrom
    rw [p1, sI_1, if_neg (show ¬ 18 = 26 by decide), p2, Option.bind_some, ← e0, if_pos (show rf_cp ly0 19 0 27 0 4 = true from rfl), show (0 : Int32).toNatClampNeg = 0 from rfl, show (4 : Int32).toNatClampNeg = 4 from rfl, show (6 : Int32).toNatClampNeg = 6 from rfl, ← e1, Option.bind_some, if_pos (show rf_cp ly0 20 0 28 0 4 = true from rfl), ← e2, Option.bind_some, if_pos (show rf_cp ly0 21 0 29 0 6 = true from rfl), ← e3, Option.bind_some, if_pos (show rf_cp ly0 22 0 30 0 6 = true from rfl), ← e4, Option.bind_some, if_pos (show rf_cp ly0 23 0 31 0 6 = true from rfl), ← e5, Option.bind_some, if_pos (show rf_cp ly0 24 0 32 0 6 = true from rfl), ← e6, Option.bind_some]
  · rw [w26, e0, sI_at, if_pos rfl, if_neg (by decide), sI_at, if_pos rfl, if_pos rfl]
    rfl
  · rw [w26, e0, sI_at, if_pos rfl, if_pos rfl]
    rfl
  · intro r hr
    have hr' : r < R := hr
    obtain ⟨a, b, h1, h2, h3, h4, h5, h6, h7⟩ := p8 r hr'
    rw [w28 r (by omega)]
    exact back_cl h6 (by omega)
  · intro i hi
    have hi' : i < M := hi
    obtain ⟨k, a, w, l, h1, h2, h3, h4, h5, h6, h7, h8⟩ := p9 i hi'
    rw [w29 i (by omega), w30 i (by omega), w31 i (by omega)]
    exact ⟨back_cl h5.1 (by omega), back_cl h6.1 (by omega), back_cl h7.1 (by omega)⟩
  · intro r hr
    have hr' : r < R := hr
    obtain ⟨a, b, h1, h2, h3, h4, h5, h6, h7⟩ := p8 r hr'
    rw [w27 r (by omega)]
    exact back_cl h4 (by omega)
  · intro i hi
    have hi' : i < M := hi
    obtain ⟨k, a, w, l, h1, h2, h3, h4, h5, h6, h7, h8⟩ := p9 i hi'
    rw [w32 i (by omega)]
    exact back_cl h8.1 (by omega)
theorem tz_lp (τ : rf_S) : ∃ e, rf_lp f_X10_town_b41 5000 (0, τ) = some e ∧ fr [12] τ e ∧ ∀ j, j < 25 → e.1 12 j = 0 := by
  refine lp_inv (N := 5000) (fun k (s : Int32 × rf_S) => s.1 = nI k ∧ fr [12] τ s.2 ∧ ∀ j, j < k → s.2.1 12 j = 0) 25 ?_ (by omega) ⟨rfl, fr_refl τ, fun j hj => by omega⟩
  rintro k ⟨x, s⟩ hk ⟨h1, h2, h3⟩
  simp only at h1 h2 h3
  subst h1
  unfold f_X10_town_b41
  simp only
  by_cases e : k = 25
  · right
    subst e
    refine ⟨s, ?_, h2, h3⟩
    rw [if_pos (by decide)]
  · left
    refine ⟨(nI (k + 1), rf_sI s 12 k 0), by omega, ?_, rfl, fr_sI h2 (by decide) _ _, fun j hj => ?_⟩
    · rw [if_neg (show ¬ (25 : Int32) ≤ nI k from nI_ge (b := 25) (by omega) (by omega)), ck1_12, if_pos (in_ok (by omega) (by decide)), nI_clamp (by omega), nI_1]
    · rw [sI_at, if_pos rfl]
      by_cases e2 : j = k
      · rw [if_pos e2]
      · rw [if_neg e2]
        exact h3 j (by omega)
theorem tr_lp {τ : rf_S} {R : Nat} (hR : R ≤ 4) (e16 : τ.1 0 16 = nI R) : ∃ e, rf_lp f_X10_town_b78 5000 (0, τ) = some e ∧ fr [8, 12] τ e ∧ (∀ j, j < R → e.1 12 j = τ.1 6 (2 * j) ∧ e.1 8 j = τ.1 6 (2 * j + 1)) ∧ ∀ j, R ≤ j → e.1 12 j = τ.1 12 j := by
  refine lp_inv (N := 5000) (fun k (s : Int32 × rf_S) => s.1 = nI k ∧ fr [8, 12] τ s.2 ∧ (∀ j, j < k → s.2.1 12 j = τ.1 6 (2 * j) ∧ s.2.1 8 j = τ.1 6 (2 * j + 1)) ∧ ∀ j, k ≤ j → s.2.1 12 j = τ.1 12 j) R ?_ (by omega) ⟨rfl, fr_refl τ, fun j hj => by omega, fun j _ => rfl⟩
  rintro k ⟨x, s⟩ hk ⟨h1, h2, h3, h4⟩
  simp only at h1 h2 h3 h4
  subst h1
  have e16' : s.1 0 16 = nI R := by rw [h2.1 0 (by decide), e16]
  unfold f_X10_town_b78
  simp only
  rw [e16']
  by_cases e : k = R
  · right
    subst e
    refine ⟨s, ?_, h2, h3, h4⟩
    rw [if_pos (nI_le (Nat.le_refl k) (by omega))]
  · left
    refine ⟨(nI (k + 1), rf_sI (rf_sI s 12 k (s.1 6 (2 * k))) 8 k (s.1 6 (2 * k + 1))), by omega, ?_, rfl, fr_sI (fr_sI h2 (by decide) _ _) (by decide) _ _, fun j hj => ?_, fun j hj => ?_⟩
    · rw [if_neg (nI_ge (show k < R by omega) (by omega)), show (2 : Int32) * nI k = nI (2 * k) from pk_mul 2 k, nI_1, ck1_6, if_pos (in_ok (by omega) (by decide)), ck1_12, if_pos (in_ok (by omega) (by decide)), nI_clamp (by omega), nI_clamp (by omega), Option.bind_some, ck1_6, if_pos (in_ok (by omega) (by decide)), ck1_8, if_pos (in_ok (by omega) (by decide)), nI_clamp (by omega), sI_1 s, if_neg (show ¬ 6 = 12 by decide), Option.bind_some, nI_1]
    · simp only
      rw [sI_1, if_neg (show ¬ 12 = 8 by decide), sI_at, if_pos rfl, sI_at, if_pos rfl, sI_1, if_neg (show ¬ 8 = 12 by decide), h2.1 6 (by decide)]
      by_cases e2 : j = k
      · rw [if_pos e2, if_pos e2, e2]
        exact ⟨rfl, rfl⟩
      · rw [if_neg e2, if_neg e2]
        exact h3 j (by omega)
    · simp only
      rw [sI_1, if_neg (show ¬ 12 = 8 by decide), sI_at, if_pos rfl, if_neg (show ¬ j = k by omega)]
      exact h4 j (by omega)
theorem tm_lp {τ : rf_S} {M : Nat} (hM : M ≤ 6) (e17 : τ.1 0 17 = nI M) : ∃ e, rf_lp f_X10_town_b124 5000 (0, τ) = some e ∧ fr [9, 10, 11, 12] τ e ∧ (∀ j, j < M → e.1 9 j = τ.1 7 (4 * j) ∧ e.1 10 j = τ.1 7 (4 * j + 1) ∧ e.1 11 j = τ.1 7 (4 * j + 2) ∧ e.1 12 (4 + j) = τ.1 7 (4 * j + 3)) ∧ ∀ j, j < 4 ∨ 4 + M ≤ j → e.1 12 j = τ.1 12 j := by
  refine lp_inv (N := 5000) (fun k (s : Int32 × rf_S) => s.1 = nI k ∧ fr [9, 10, 11, 12] τ s.2 ∧ (∀ j, j < k → s.2.1 9 j = τ.1 7 (4 * j) ∧ s.2.1 10 j = τ.1 7 (4 * j + 1) ∧ s.2.1 11 j = τ.1 7 (4 * j + 2) ∧ s.2.1 12 (4 + j) = τ.1 7 (4 * j + 3)) ∧ ∀ j, j < 4 ∨ 4 + k ≤ j → s.2.1 12 j = τ.1 12 j) M ?_ (by omega) ⟨rfl, fr_refl τ, fun j hj => by omega, fun j _ => rfl⟩
  rintro k ⟨x, s⟩ hk ⟨h1, h2, h3, h4⟩
  simp only at h1 h2 h3 h4
  subst h1
  have e17' : s.1 0 17 = nI M := by rw [h2.1 0 (by decide), e17]
  unfold f_X10_town_b124
  simp only
  rw [e17']
  by_cases e : k = M
  · right
    subst e
    refine ⟨s, ?_, h2, h3, h4⟩
    rw [if_pos (nI_le (Nat.le_refl k) (by omega))]
  · left
    refine ⟨(nI (k + 1), rf_sI (rf_sI (rf_sI (rf_sI s 9 k (s.1 7 (4 * k))) 10 k (s.1 7 (4 * k + 1))) 11 k (s.1 7 (4 * k + 2))) 12 (4 + k) (s.1 7 (4 * k + 3))), by omega, ?_, rfl, fr_sI (fr_sI (fr_sI (fr_sI h2 (by decide) _ _) (by decide) _ _) (by decide) _ _) (by decide) _ _, fun j hj => ?_, fun j hj => ?_⟩
    · rw [if_neg (nI_ge (show k < M by omega) (by omega)), show (4 : Int32) * nI k = nI (4 * k) from pk_mul 4 k, nI_1, show nI (4 * k) + 2 = nI (4 * k + 2) from nI_add _ 2, show nI (4 * k) + 3 = nI (4 * k + 3) from nI_add _ 3, show (4 : Int32) + nI k = nI (4 + k) from nI_add 4 k, ck1_7, if_pos (in_ok (by omega) (by decide)), ck1_9, if_pos (in_ok (by omega) (by decide)), nI_clamp (show k < 2 ^ 31 by omega), nI_clamp (show 4 * k < 2 ^ 31 by omega), Option.bind_some, ck1_7, if_pos (in_ok (by omega) (by decide)), ck1_10, if_pos (in_ok (by omega) (by decide)), nI_clamp (show 4 * k + 1 < 2 ^ 31 by omega), Option.bind_some, ck1_7, if_pos (in_ok (by omega) (by decide)), ck1_11, if_pos (in_ok (by omega) (by decide)), nI_clamp (show 4 * k + 2 < 2 ^ 31 by omega), Option.bind_some, ck1_7, if_pos (in_ok (by omega) (by decide)), ck1_12, if_pos (in_ok (by omega) (by decide)), nI_clamp (show 4 * k + 3 < 2 ^ 31 by omega), nI_clamp (show 4 + k < 2 ^ 31 by omega), Option.bind_some, nI_1]
      rfl
    · simp only
      rw [sI_1, if_neg (show ¬ 9 = 12 by decide), sI_1, if_neg (show ¬ 9 = 11 by decide), sI_1, if_neg (show ¬ 9 = 10 by decide), sI_at, if_pos rfl, sI_1, if_neg (show ¬ 10 = 12 by decide), sI_1, if_neg (show ¬ 10 = 11 by decide), sI_at, if_pos rfl, sI_1, if_neg (show ¬ 10 = 9 by decide), sI_1, if_neg (show ¬ 11 = 12 by decide), sI_at, if_pos rfl, sI_1, if_neg (show ¬ 11 = 10 by decide), sI_1, if_neg (show ¬ 11 = 9 by decide), sI_at, if_pos rfl, sI_1, if_neg (show ¬ 12 = 11 by decide), sI_1, if_neg (show ¬ 12 = 10 by decide), sI_1, if_neg (show ¬ 12 = 9 by decide), h2.1 7 (by decide)]
      by_cases e2 : j = k
      · rw [if_pos e2, if_pos e2, if_pos e2, if_pos (by omega), e2]
        exact ⟨rfl, rfl, rfl, rfl⟩
      · rw [if_neg e2, if_neg e2, if_neg e2, if_neg (by omega)]
        exact h3 j (by omega)
    · simp only
      rw [sI_at, if_pos rfl, if_neg (show ¬ j = 4 + k by omega), sI_1, if_neg (show ¬ 12 = 11 by decide), sI_1, if_neg (show ¬ 12 = 10 by decide), sI_1, if_neg (show ¬ 12 = 9 by decide)]
      exact h4 j (by omega)
theorem tk_lp (τ : rf_S) : ∃ e, rf_lp f_X10_town_b209 5000 (0, τ) = some e ∧ fr [17] τ e ∧ ∀ j, j < 3 → e.1 17 j = -1 := by
  refine lp_inv (N := 5000) (fun k (s : Int32 × rf_S) => s.1 = nI k ∧ fr [17] τ s.2 ∧ ∀ j, j < k → s.2.1 17 j = -1) 3 ?_ (by omega) ⟨rfl, fr_refl τ, fun j hj => by omega⟩
  rintro k ⟨x, s⟩ hk ⟨h1, h2, h3⟩
  simp only at h1 h2 h3
  subst h1
  unfold f_X10_town_b209
  simp only
  by_cases e : k = 3
  · right
    subst e
    refine ⟨s, ?_, h2, h3⟩
    rw [if_pos (by decide)]
  · left
    refine ⟨(nI (k + 1), rf_sI s 17 k (-1)), by omega, ?_, rfl, fr_sI h2 (by decide) _ _, fun j hj => ?_⟩
    · rw [if_neg (show ¬ (3 : Int32) ≤ nI k from nI_ge (b := 3) (by omega) (by omega)), ck1_17, if_pos (in_ok (by omega) (by decide)), nI_clamp (by omega), nI_1]
    · rw [sI_at, if_pos rfl]
      by_cases e2 : j = k
      · rw [if_pos e2]
      · rw [if_neg e2]
        exact h3 j (by omega)
/-- PROMISE 11 -/
theorem sim_town {σ τ : rf_S} (h : Sim σ τ) (r : Int32) : Both (f_X9_town r σ) (f_X10_town r τ) := by
  unfold f_X9_town f_X10_town
  rw [in3]
  rcases text_cases h r with ⟨w, σ1, τ1, hv, e1, hs, ⟨e2, rfl, rfl⟩ | ⟨j, hj, rfl, e2, e3, rfl, rfl⟩⟩ | ⟨j, n, hj, rfl, hn, s1, s2, e2, e1⟩
  · rw [e1, e2]
    exact Both_no hs
  · rw [e1, e2]
    simp only [Option.bind_some]
    rw [if_neg hv, if_pos n10, ck1_3, if_pos (in_ok hj (by decide)), nI_clamp (by omega), e3, if_neg neg1_lt, show (1 : Int32) = nI 1 from rfl, finds_ok (by decide)]
    exact Both_no hs
  · rw [e1, e2]
    simp only [Option.bind_some, if_true]
    rw [if_pos n10, ck1_3, if_pos (in_ok hj (by decide)), nI_clamp (by omega), s2, if_pos (nI_pos' (by omega))]
    obtain ⟨v, σf, τf, i1, i2, hS, i3⟩ := read_ok h hj hn s1
    rw [i1, i2, Option.bind_some, Option.bind_some]
    simp only
    by_cases ev : v = -9
    rotate_left
    · rw [if_neg ev, if_neg ev]
      exact ⟨-4, σf, τf, rfl, rfl, hS⟩
    rw [if_pos ev, if_pos ev]
    obtain ⟨R, M, hM, hPl⟩ := i3 ev
    have ht := pT_tok hPl hM
    obtain ⟨p1, p2, p3, p4, p5, p6, p7, p8, p9⟩ := id hPl
    obtain ⟨σa, a1, a2, a3, a4⟩ := take_ok hPl
    obtain ⟨σb, b1, b2, b3⟩ := begin_ok ht a3
    have hforget : f_X1_forget σb = some (rf_sA (rf_sI σb 38 3 0) 44 (fun j => if j < 3 then -1 else (rf_sI σb 38 3 0).1 44 j)) := by
      unfold f_X1_forget
      rw [fillI_ok (c := 44) (n := 3) ck0_44 rfl rfl (by omega), Option.bind_some]
    have hset : f_X8_settle σf = some σb := by
      unfold f_X8_settle
      rw [a1, Option.bind_some, b1, Option.bind_some]
    rw [hset, Option.bind_some, hforget, Option.bind_some]
    have hcf : fr [25, 26, 27, 28, 29, 30, 31, 32, 33, 34, 35, 36, 38, 44] σf (rf_sA (rf_sI σb 38 3 0) 44 (fun j => if j < 3 then -1 else (rf_sI σb 38 3 0).1 44 j)) := fr_sA (fr_sI (fr_trans (fr_mono a4 (by decide)) (fr_mono b3 (by decide))) (by decide) _ _) (by decide) _
    have hkeep : ∀ c, c ∉ [38, 44] → (rf_sA (rf_sI σb 38 3 0) 44 (fun j => if j < 3 then -1 else (rf_sI σb 38 3 0).1 44 j)).1 c = σb.1 c := (fr_sA (fr_sI (fr_refl σb) (by decide) _ _) (by decide) _ : fr [38, 44] σb _).1
    have h38 : (rf_sA (rf_sI σb 38 3 0) 44 (fun j => if j < 3 then -1 else (rf_sI σb 38 3 0).1 44 j)).1 38 3 = nI 0 := by
      rw [sA_1, if_neg (by decide), sI_at, if_pos rfl, if_pos rfl]
      rfl
    have h44 : ∀ k, k < 3 → (rf_sA (rf_sI σb 38 3 0) 44 (fun j => if j < 3 then -1 else (rf_sI σb 38 3 0).1 44 j)).1 44 k = -1 := fun k hk => by
      rw [sA_1, if_pos rfl, if_pos hk]
    generalize rf_sA (rf_sI σb 38 3 0) 44 (fun j => if j < 3 then -1 else (rf_sI σb 38 3 0).1 44 j) = σc at hcf hkeep h38 h44 ⊢
    -- the reference
    obtain ⟨τa, c1, c2, c3⟩ := tz_lp τf
    have c6 : τa.1 6 = τf.1 6 := c2.1 6 (by decide)
    have c7 : τa.1 7 = τf.1 7 := c2.1 7 (by decide)
    have c12 : τa.1 0 12 = nI R := by rw [c2.1 0 (by decide), p3]
    have c13 : τa.1 0 13 = nI M := by rw [c2.1 0 (by decide), p4]
    rw [c1, Option.bind_some, c12, sI_at, if_pos rfl, if_neg (show ¬ 13 = 16 by decide), c13]
    have d2 : fr [0, 12] τf (rf_sI (rf_sI τa 0 16 (nI R)) 0 17 (nI M)) := fr_sI (fr_sI (fr_mono c2 (by decide)) (by decide) _ _) (by decide) _ _
    have d0 : ∀ j, (rf_sI (rf_sI τa 0 16 (nI R)) 0 17 (nI M)).1 0 j = if j = 17 then nI M else if j = 16 then nI R else τf.1 0 j := fun j => by
      rw [sI_at, if_pos rfl, sI_at, if_pos rfl, c2.1 0 (by decide)]
    have d12 : ∀ j, j < 25 → (rf_sI (rf_sI τa 0 16 (nI R)) 0 17 (nI M)).1 12 j = 0 := fun j hj => by
      rw [sI_1, if_neg (by decide), sI_1, if_neg (by decide)]
      exact c3 j hj
    generalize rf_sI (rf_sI τa 0 16 (nI R)) 0 17 (nI M) = τb at d2 d0 d12 ⊢
    obtain ⟨τc, f1, f2, f3, f4⟩ := tr_lp (τ := τb) p5 (by rw [d0, if_neg (by decide), if_pos rfl])
    rw [f1, Option.bind_some]
    obtain ⟨τd, g1, g2, g3, g4⟩ := tm_lp (τ := τc) p6 (by rw [f2.1 0 (by decide), d0, if_pos rfl])
    rw [g1, Option.bind_some]
    obtain ⟨τe, k1, k2, k3⟩ := tk_lp (rf_sI τd 0 25 0)
    rw [k1, Option.bind_some]
    have z0 : ∀ j, τe.1 0 j = if j = 25 then nI 0 else if j = 17 then nI M else if j = 16 then nI R else τf.1 0 j := fun j => by
      rw [k2.1 0 (by decide), sI_at, if_pos rfl, g2.1 0 (by decide), f2.1 0 (by decide), d0]
      rfl
    have zf : fr [0, 8, 9, 10, 11, 12, 17] τf τe := fr_trans (fr_sI (fr_trans (fr_trans (fr_mono d2 (by decide)) (fr_mono f2 (by decide))) (fr_mono g2 (by decide))) (by decide) _ _) (fr_mono k2 (by decide))
    have zk : ∀ c, c ∉ [0, 17] → τe.1 c = τd.1 c := (fr_trans (fr_sI (fr_refl τd) (by decide) _ _) (fr_mono k2 (by decide)) : fr [0, 17] τd τe).1
    have b6 : τb.1 6 = τf.1 6 := d2.1 6 (by decide)
    have b7 : τc.1 7 = τf.1 7 := by rw [f2.1 7 (by decide), d2.1 7 (by decide)]
    rw [show τe.1 0 17 = nI M by rw [z0, if_neg (by decide), if_pos rfl]]
    unfold f_X8_members
    have hC : cC σc (pT σf R M) := by
      unfold cC
      rw [hkeep 26 (by decide), hkeep 28 (by decide), hkeep 29 (by decide), hkeep 30 (by decide), hkeep 31 (by decide), b3.1 26 (by decide), b3.1 28 (by decide), b3.1 29 (by decide), b3.1 30 (by decide), b3.1 31 (by decide)]
      exact a2
    have hP : cP σc (pT σf R M) := by
      unfold cP
      rw [hkeep 27 (by decide), hkeep 32 (by decide), b3.1 27 (by decide), b3.1 32 (by decide)]
      exact a3
    have hSS : cS σc (pT σf R M) := by
      unfold cS
      rw [hkeep 33 (by decide), hkeep 34 (by decide), hkeep 35 (by decide), hkeep 36 (by decide), hkeep 25 (by decide)]
      exact b2
    refine ⟨nI M, σc, τe, ?_, rfl, Sim_W hS (fun c hc => hcf.1 c ?_) (fun c x y => zf.1 c ?_) (fun j hj => ?_) hcf.2 zf.2 ?_⟩
    · rw [hC.2.1]
      rfl
    · simp only [List.mem_cons, List.not_mem_nil, or_false]
      omega
    · simp only [List.mem_cons, List.not_mem_nil, or_false]
      omega
    · rw [z0, if_neg (by omega), if_neg (by omega), if_neg (by omega)]
    · refine ⟨pT σf R M, 0, fun _ => pT σf R M, fun _ => (0, 0, 0), ht, hC, hP, ⟨?_, ?_, ?_, ?_⟩, ⟨by omega, h38, ?_, ⟨rfl, fun k hk => by omega⟩, fun j hj => by omega, hSS, ⟨?_, ?_, ?_, ?_, ?_⟩, fun i hi => by omega⟩, fun _ => rfl, fun k hk => Or.inl ⟨h44 k hk, k3 k hk⟩⟩
      · rw [z0, if_neg (by decide), if_neg (by decide), if_pos rfl]
        rfl
      · rw [z0, if_neg (by decide), if_pos rfl]
        rfl
      · intro q hq
        have hq' : q < R := hq
        obtain ⟨a, b, h1, h2, h3, h4, h5, h6, h7⟩ := p8 q hq'
        rw [zk 8 (by decide), g2.1 8 (by decide), (f3 q hq').2, b6, h7]
        show nI b = nI (σf.1 20 q).toNatClampNeg
        rw [h6, nI_clamp (by omega)]
      · intro q hq
        have hq' : q < M := hq
        obtain ⟨k, a, w, l, h1, h2, h3, h4, h5, h6, h7, h8⟩ := p9 q hq'
        rw [zk 9 (by decide), zk 10 (by decide), zk 11 (by decide), (g3 q hq').1, (g3 q hq').2.1, (g3 q hq').2.2.1, b7, h5.2, h6.2, h7.2]
        show nI k = nI (σf.1 21 q).toNatClampNeg ∧ nI a = nI (σf.1 22 q).toNatClampNeg ∧ nI w = nI (σf.1 23 q).toNatClampNeg
        rw [h5.1, h6.1, h7.1, nI_clamp (by omega), nI_clamp (by omega), nI_clamp (by omega)]
        exact ⟨rfl, rfl, rfl⟩
      · rw [z0, if_pos rfl]
      · intro q hq
        have hq' : q < R := hq
        obtain ⟨a, b, h1, h2, h3, h4, h5, h6, h7⟩ := p8 q hq'
        rw [zk 12 (by decide), g4 q (by omega), (f3 q hq').1, b6, h5]
        show nI a = nI (σf.1 19 q).toNatClampNeg
        rw [h4, nI_clamp (by omega)]
      · intro q hq
        have hq' : q < M := hq
        obtain ⟨k, a, w, l, h1, h2, h3, h4, h5, h6, h7, h8⟩ := p9 q hq'
        rw [zk 12 (by decide), (g3 q hq').2.2.2, g4 (10 + q) (by omega), g4 (16 + q) (by omega), f4 (10 + q) (by omega), f4 (16 + q) (by omega), d12 _ (by omega), d12 _ (by omega), b7, h8.2]
        refine ⟨?_, rfl, rfl⟩
        show nI l = nI (σf.1 24 q).toNatClampNeg
        rw [h8.1, nI_clamp (by omega)]
      · rw [zk 12 (by decide), g4 22 (by omega), f4 22 (by omega), d12 _ (by omega)]
        rfl
      · rw [zk 12 (by decide), g4 23 (by omega), f4 23 (by omega), d12 _ (by omega)]
        rfl
      · rw [zk 12 (by decide), g4 24 (by omega), f4 24 (by omega), d12 _ (by omega)]
        rfl
