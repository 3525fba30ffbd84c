/-! ===== odds, mid: the two operations ===== -/
theorem sub_le : ∀ q, q < 64 → ∀ k, k < 64 → subS q k = true → k ≤ q := by decide +kernel
theorem wy_le {F : Nat → Nat} (h : ∀ i, F i ≤ 12) : ∀ n, wy F n ≤ 12 ^ n
  | 0 => Nat.le_refl 1
  | n + 1 => by
    rw [wy, Nat.pow_succ]
    exact Nat.mul_le_mul (wy_le h n) (h n)
theorem trm_le (t : TT) (q g p mn k : Nat) (hp : p ≤ 12) : trm t q g p mn k ≤ 92565504 := by
  unfold trm
  split
  · have h1 : wy (wyF (nI q) (nI k) p) 6 ≤ 12 ^ 6 := wy_le (fun i => by unfold wyF; split <;> [split; skip] <;> omega) 6
    have h2 : nNum t q g mn k ≤ 31 := by
      have := cnt_le 31 (smP t (nI q) (nI k) g)
      unfold nNum
      split <;> omega
    exact Nat.mul_le_mul h1 h2
  · omega
theorem sumN_le {F : Nat → Nat} {B : Nat} (h : ∀ k, F k ≤ B) : ∀ n, sumN F n ≤ n * B
  | 0 => Nat.zero_le _
  | n + 1 => by
    have := sumN_le h n
    have := h n
    rw [sumN, Nat.succ_mul]
    omega
theorem Sim_long {σ τ : rf_S} (h : Sim σ τ) (u v : Int64) : Sim (rf_sL (rf_sL σ 53 0 u) 53 1 v) (rf_sL (rf_sL τ 0 7 u) 0 8 v) := by
  obtain ⟨⟨k1, k2, k3, k4, k5⟩, hR, hT, hW⟩ := h
  refine ⟨⟨k1, k2, k3, ?_, ?_⟩, hR, hT, hW⟩
  · simp only [sL_at, if_true, if_neg (show ¬ 7 = 8 by decide), if_neg (show ¬ 0 = 1 by decide)]
  · simp only [sL_at, if_true]
