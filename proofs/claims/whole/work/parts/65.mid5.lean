/-! ===== odds, mid: the two operations ===== -/
theorem sub_le : ∀ q, q < 64 → ∀ k, k < 64 → subS q k = true → k ≤ q := by decide +kernel
theorem wy_le {F : Nat → Nat} (h : ∀ i, F i ≤ 12) : ∀ n, wy F n ≤ 12 ^ n
  | 0 => Nat.le_refl 1
  | n + 1 => by
    rw [wy, Nat.pow_succ]
    exact Nat.mul_le_mul (wy_le h n) (h n)
theorem trm_le (t : TT) (q g p mn k : Nat) (hp : p ≤ 12) : trm t q g p mn k ≤ 92565504 := by
  unfold trm
  split
  · have h0 : ∀ i, wyF (nI q) (nI k) p i ≤ 12 := fun i => by
      unfold wyF
      cases bt (nI q) i <;> cases bt (nI k) i <;> simp <;> omega
    have h1 : wy (wyF (nI q) (nI k) p) 6 ≤ 12 ^ 6 := wy_le h0 6
    have h2 : nNum t q g mn k ≤ 31 := by
      have := cnt_le 31 (smP t (nI q) (nI k) g)
      unfold nNum
      split <;> omega
    exact Nat.mul_le_mul h1 h2
  · omega
theorem sumN_le {F : Nat → Nat} {B : Nat} (h : ∀ k, F k ≤ B) : ∀ n, sumN F n ≤ n * B
  | 0 => Nat.zero_le _
  | n + 1 => by
    have := sumN_le h n
    have := h n
    rw [sumN, Nat.succ_mul]
    omega
theorem Sim_long {σ τ : rf_S} (h : Sim σ τ) (u v : Int64) : Sim (rf_sL (rf_sL σ 53 0 u) 53 1 v) (rf_sL (rf_sL τ 0 7 u) 0 8 v) := by
  obtain ⟨⟨k1, k2, k3, k4, k5⟩, hR, hT, hW⟩ := h
  refine ⟨⟨k1, k2, k3, ?_, ?_⟩, hR, hT, hW⟩
  · simp only [sL_at, if_true, if_neg (show ¬ 7 = 8 by decide), if_neg (show ¬ 0 = 1 by decide)]
  · simp only [sL_at, if_true]
theorem cpow_ok (σ : rf_S) {n c : Nat} (x : Int64) (P : Nat → Bool) (hn : n ≤ 31) (hc : cnt n P = c) : rf_lp (f_X0_weigh_b87 (bs n P) x σ) 5000 (1, 0) = some (lN (12 ^ c)) := by
  have hl := cnt_le n P
  refine lp_for (N := 5000) (fun k => (lN (12 ^ k), nI k)) c (fun k hk => ?_) ?_ (by omega)
  · show f_X0_weigh_b87 (bs n P) x σ (lN (12 ^ k), nI k) = some (.inl (lN (12 ^ (k + 1)), nI (k + 1)))
    unfold f_X0_weigh_b87
    simp only
    rw [bc_bs P hn, Option.bind_some, hc, if_neg (nI_ge hk (by omega)), show (12 : Int64) = lN 12 from rfl, lN_mul, nI_1, Nat.pow_succ]
  · show f_X0_weigh_b87 (bs n P) x σ (_, nI c) = _
    unfold f_X0_weigh_b87
    simp only
    rw [bc_bs P hn, Option.bind_some, hc, if_pos (nI_le (Nat.le_refl _) (by omega))]
theorem mpow_ok (τ : rf_S) {n c : Nat} (x y : Int32) (z : Int64) (P : Nat → Bool) (hn : n ≤ 31) (hc : cnt n P = c) : rf_lp (f_X10_seems_b40 x y (bs n P) z τ) 5000 (1, 0) = some (lN (12 ^ c)) := by
  have hl := cnt_le n P
  refine lp_for (N := 5000) (fun k => (lN (12 ^ k), nI k)) c (fun k hk => ?_) ?_ (by omega)
  · show f_X10_seems_b40 x y (bs n P) z τ (lN (12 ^ k), nI k) = some (.inl (lN (12 ^ (k + 1)), nI (k + 1)))
    unfold f_X10_seems_b40
    simp only
    rw [mb_bs P hn, Option.bind_some, hc, if_neg (nI_ge hk (by omega)), show (12 : Int64) = lN 12 from rfl, lN_mul, nI_1, Nat.pow_succ]
  · show f_X10_seems_b40 x y (bs n P) z τ (_, nI c) = _
    unfold f_X10_seems_b40
    simp only
    rw [mb_bs P hn, Option.bind_some, hc, if_pos (nI_le (Nat.le_refl _) (by omega))]
