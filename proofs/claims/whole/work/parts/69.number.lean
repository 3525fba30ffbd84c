/-! ===== reading: numbers ===== -/
/-- a number was read: both moved on by m, or failed: the class's answer is the reference's place -/
def NumOk (σ τ : rf_S) (r n p : Nat) (Z : Nat → Int32) (m least most : Nat) (A B : Option (Int32 × rf_S)) : Prop := ∃ σ' τ', mvC σ σ' ∧ mvM τ τ' ∧ ((∃ v, least ≤ v ∧ v ≤ most ∧ A = some (-9, σ') ∧ B = some (nI v, τ') ∧ σ'.1 17 2 = nI v ∧ p + m ≤ n ∧ σ'.1 17 1 = nI (p + m) ∧ τ'.1 0 9 = nI (p + m)) ∨ (∃ f, f ≤ n ∧ A = some (nI f, σ') ∧ B = some (-1, τ') ∧ τ'.1 0 9 = nI f))
theorem fig_sub {j : Nat} (hj : j ≤ 9) : nI (48 + j) - 48 = nI j ∧ ¬ nI (48 + j) - 48 < 0 ∧ nI (48 + j) - 48 ≤ 9 := by
  have e : nI (48 + j) - 48 = nI j := by
    rw [show (48 : Int32) = nI 48 from rfl, nat_sub (by omega)]
    exact congrArg nI (by omega)
  rw [e]
  exact ⟨rfl, nI_pos (by omega), nI_le (b := 9) hj (by omega)⟩
theorem fig_in {j : Nat} (hj : j ≤ 9) (τ : rf_S) : f_X10_in (nI (48 + j)) 48 57 τ = some 1 := by
  unfold f_X10_in
  rw [if_neg (show ¬ nI (48 + j) < 48 from nI_nlt (b := 48) (by omega) (by omega)), if_neg (show ¬ (57 : Int32) < nI (48 + j) from nI_nlt (a := 57) (by omega) (by omega))]
/-- one figure of the class: at the end, no figure, or a figure -/
theorem cfig {σ τ : rf_S} {r n p : Nat} {Z : Nat → Int32} (h : Rd σ τ r n p Z) {k m : Nat} (hk : k < m) (hm : m ≤ 2) (l4 l5 l6 : Int32) {σ' : rf_S} (hc : mvC σ σ') {j v : Nat} (hj : j ≤ n) (e1 : σ'.1 17 1 = nI j) (e2 : σ'.1 17 2 = nI v) : (j = n ∧ f_X3_readNumber_b14 (nI r) (nI m) l4 l5 l6 (nI k, σ') = some (.inr (.inr (nI n, σ')))) ∨ (j < n ∧ (∀ τ, f_X10_in (Z j) 48 57 τ = some 0) ∧ (Z j - 48 < 0 ∨ ¬ Z j - 48 ≤ 9) ∧ f_X3_readNumber_b14 (nI r) (nI m) l4 l5 l6 (nI k, σ') = some (.inr (.inr (nI j, σ')))) ∨ ∃ g, j < n ∧ g ≤ 9 ∧ Z j = nI (48 + g) ∧ f_X3_readNumber_b14 (nI r) (nI m) l4 l5 l6 (nI k, σ') = some (.inl (nI (k + 1), rf_sI (rf_sI σ' 17 2 (nI (10 * v + g))) 17 1 (nI (j + 1)))) := by
  obtain ⟨h1, h2, h3, h4, h5, h6, h7, h8, h9, h10⟩ := id h
  have e16 : σ'.1 16 r = nI n := by rw [hc.1 16 (by omega), h5]
  have eZ : ∀ i, i < 60 → σ'.1 (12 + r) i = Z i := fun i hi => by rw [hc.1 (12 + r) (by omega)]; exact (h8 i hi).1
  unfold f_X3_readNumber_b14 f_X3_readNumber_j64
  simp only
  rw [if_neg (nI_ge hk (by omega)), e1, thas_ok h2 e16, if_neg (nI_pos (by omega))]
  by_cases ej : j = n
  · left
    refine ⟨ej, ?_⟩
    unfold f_X7_sizeOf
    rw [ej, if_pos (nI_le (Nat.le_refl n) (by omega)), Option.bind_some, if_neg (show ¬ (0 : Int32) ≠ 0 from fun q => q rfl), ck0_16, if_pos (in_ok h2 (by decide)), nI_clamp (by omega), e16]
    rfl
  · right
    have hjn : j < n := by omega
    rw [if_neg (nI_ge hjn (by omega)), Option.bind_some, if_pos n10, tget_ok h2 (by omega), eZ j (by omega), Option.bind_some]
    rcases fig_cases (Z j) with ⟨g, g1, g2⟩ | ⟨g1, g2⟩
    · right
      obtain ⟨s1, s2, s3⟩ := fig_sub g1
      refine ⟨g, hjn, g1, g2, ?_⟩
      rw [g2, if_neg s2, if_pos s3, s1, e2, show (10 : Int32) * nI v = nI (10 * v) from pk_mul 10 v, nI_add, Option.bind_some, sI_at, if_pos rfl, if_neg (show ¬ 1 = 2 by decide), e1, nI_1, nI_1]
    · left
      refine ⟨hjn, g1, g2, ?_⟩
      rcases g2 with g2 | g2
      · rw [if_pos g2]
      · by_cases g3 : Z j - 48 < 0
        · rw [if_pos g3]
        · rw [if_neg g3, if_neg g2]
