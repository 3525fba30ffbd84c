/-! ===== lowest terms ===== -/
theorem l0 {b : Nat} (hb : b < 2 ^ 62) (h : b ≠ 0) : ¬ lN b = 0 := fun q => h ((pk_lEQ (a := b) (b := 0) (by omega) (by omega)).mp q)
theorem cEu (x y : Int64) (σ : rf_S) : ∀ (m a b g k N : Nat), Eu m a b g → a < 2 ^ 62 → b < 2 ^ 62 → k + m < 64 → m < N → rf_lp (f_X0_reduce_b9 x y σ) N (lN a, lN b, nI k) = some (lN g)
  | 0, a, b, g, k, N, h, ha, hb, hk, hN => by
    obtain ⟨N, rfl⟩ : ∃ M, N = M + 1 := ⟨N - 1, by omega⟩
    obtain ⟨rfl, rfl⟩ := h
    have e : f_X0_reduce_b9 x y σ (lN g, lN 0, nI k) = some (.inr (lN g)) := by
      unfold f_X0_reduce_b9
      simp only
      rw [if_neg (show ¬ (64 : Int32) ≤ nI k from nI_ge (b := 64) (by omega) (by omega)), if_pos ((lg_cmp_eq (lN 0) 0).mpr rfl)]
    simp only [rf_lp, e, Option.bind_some]
  | m + 1, a, b, g, k, N, h, ha, hb, hk, hN => by
    obtain ⟨N, rfl⟩ : ∃ M, N = M + 1 := ⟨N - 1, by omega⟩
    obtain ⟨h1, h2⟩ := h
    have hm : a % b < b := Nat.mod_lt _ (by omega)
    have e : f_X0_reduce_b9 x y σ (lN a, lN b, nI k) = some (.inl (lN b, lN (a % b), nI (k + 1))) := by
      unfold f_X0_reduce_b9
      simp only
      rw [if_neg (show ¬ (64 : Int32) ≤ nI k from nI_ge (b := 64) (by omega) (by omega)), if_neg (fun q => l0 hb h1 ((lg_cmp_eq _ _).mp q)), if_neg (l0 hb h1), pk_lRem (by omega) (by omega) (by omega), nI_1]
    simp only [rf_lp, e, Option.bind_some]
    exact cEu x y σ m b (a % b) g (k + 1) N h2 hb (by omega) (by omega) (by omega)
theorem mEu (x y : Int64) (τ : rf_S) : ∀ (m a b g N : Nat), Eu m a b g → a < 2 ^ 62 → b < 2 ^ 62 → m < N → rf_lp (f_X10_tellsPart_b6 x y τ) N (lN a, lN b) = some (lN g)
  | 0, a, b, g, N, h, ha, hb, hN => by
    obtain ⟨N, rfl⟩ : ∃ M, N = M + 1 := ⟨N - 1, by omega⟩
    obtain ⟨rfl, rfl⟩ := h
    have e : f_X10_tellsPart_b6 x y τ (lN g, lN 0) = some (.inr (lN g)) := by
      unfold f_X10_tellsPart_b6
      simp only
      rw [if_pos ((lg_cmp_le _ _).mpr (show lN 0 ≤ 0 by decide))]
    simp only [rf_lp, e, Option.bind_some]
  | m + 1, a, b, g, N, h, ha, hb, hN => by
    obtain ⟨N, rfl⟩ : ∃ M, N = M + 1 := ⟨N - 1, by omega⟩
    obtain ⟨h1, h2⟩ := h
    have hm : a % b < b := Nat.mod_lt _ (by omega)
    have hle : ¬ lN b ≤ 0 := fun q => by
      have := (pk_lLE (a := b) (b := 0) (by omega) (by omega)).mp q
      omega
    have e : f_X10_tellsPart_b6 x y τ (lN a, lN b) = some (.inl (lN b, lN (a % b))) := by
      unfold f_X10_tellsPart_b6
      simp only
      rw [if_neg (fun q => hle ((lg_cmp_le _ _).mp q)), if_neg (l0 hb h1), pk_lRem (by omega) (by omega) (by omega)]
    simp only [rf_lp, e, Option.bind_some]
    exact mEu x y τ m b (a % b) g N h2 hb (by omega) (by omega)
theorem Eu_le : ∀ {m a b g : Nat}, Eu m a b g → g ≤ a + b
  | 0, a, b, g, h => by
    obtain ⟨h1, h2⟩ := h
    omega
  | m + 1, a, b, g, h => by
    have h1 := Eu_le h.2
    have h2 : a % b ≤ a := Nat.mod_le _ _
    omega
theorem low_ok {a b : Nat} (ha : a < 2 ^ 60) (hb : b < 2 ^ 30) (h0 : 0 < b) (σ τ : rf_S) : ∃ u v : Int64, f_X0_reduce (lN a) (lN b) σ = some (rf_sL (rf_sL σ 53 0 u) 53 1 v) ∧ f_X10_tellsPart (lN a) (lN b) τ = some (rf_sL (rf_sL τ 0 7 u) 0 8 v) := by
  obtain ⟨m, g, h1, h2⟩ := Eu_ex 30 a b hb
  have hg := Eu_pos h2 (Or.inr h0)
  have hg2 := Eu_le h2
  have hne : ¬ lN g = 0 := l0 (by omega) (by omega)
  refine ⟨lN a / lN g, lN b / lN g, ?_, ?_⟩
  · unfold f_X0_reduce
    rw [show (0 : Int32) = nI 0 from rfl, cEu (lN a) (lN b) σ m a b g 0 5000 h2 (by omega) (by omega) (by omega) (by omega), Option.bind_some]
    show (if lg_cmp (lN g) 0 = 0 then _ else _) = _
    rw [if_neg (fun q => hne ((lg_cmp_eq _ _).mp q)), if_neg hne, if_neg hne]
  · unfold f_X10_tellsPart
    rw [mEu (lN a) (lN b) τ m a b g 5000 h2 (by omega) (by omega) (by omega), Option.bind_some, if_neg hne, if_neg hne]
