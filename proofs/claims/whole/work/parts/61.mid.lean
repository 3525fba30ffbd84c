/-! ===== the sums of odds and mid ===== -/
theorem wy_pad {F : Nat → Nat} {n m : Nat} (h : n ≤ m) (h1 : ∀ k, n ≤ k → k < m → F k = 1) : wy F m = wy F n := by
  obtain ⟨j, rfl⟩ : ∃ j, m = n + j := ⟨m - n, by omega⟩
  induction j with
  | zero => rfl
  | succ j ih =>
    show wy F (n + j) * F (n + j) = _
    rw [ih (by omega) (fun k a b => h1 k a (by omega)), h1 (n + j) (by omega) (by omega), Nat.mul_one]
theorem wy_congr {F G : Nat → Nat} {n : Nat} (h : ∀ k, k < n → F k = G k) : wy F n = wy G n := by
  induction n with
  | zero => rfl
  | succ n ih => rw [wy, wy, ih (fun k hk => h k (by omega)), h n (by omega)]
theorem mways_ok {τ : rf_S} {t : TT} (h : MT τ 12 t) (th f sm : Int32) (q l : Int64) (y : Int32) {p : Nat} (hp : p ≤ 12) : rf_lp (f_X10_seems_b110 (nI p) y th q l sm f τ) 5000 (1, 0) = some (lN (wy (wyF th f p) (tM t))) := by
  have hM := t_M (m_t h)
  refine lp_for (N := 5000) (fun k => (lN (wy (wyF th f p) k), nI k)) (tM t) (fun k hk => ?_) ?_ (by omega)
  · show f_X10_seems_b110 (nI p) y th q l sm f τ (lN (wy (wyF th f p) k), nI k) = some (.inl (lN (wy (wyF th f p) (k + 1)), nI (k + 1)))
    unfold f_X10_seems_b110 f_X10_seems_j155
    simp only
    rw [m_M h, if_neg (nI_ge hk (by omega)), has_ok _ (by omega), has_ok _ (by omega), Option.bind_some, Option.bind_some, b01, show (12 : Int32) - nI p = nI (12 - p) from nat_sub hp, nI_l (by omega), nI_l (by omega), show (1 : Int64) = lN 1 from rfl, lN_mul, lN_mul, lN_mul, nI_1, wy]
    unfold wyF
    cases bt th k with
    | false =>
      rw [if_neg (show ¬ false = true by decide), if_neg (show ¬ (0 : Int32) ≠ 0 from fun q => q rfl), if_neg (show ¬ false = true by decide)]
    | true =>
      rw [if_pos rfl, if_pos n10, if_pos rfl]
      cases bt f k <;> rfl
  · show f_X10_seems_b110 (nI p) y th q l sm f τ (_, nI (tM t)) = _
    unfold f_X10_seems_b110
    simp only
    rw [m_M h, if_pos (nI_le (Nat.le_refl _) (by omega))]
theorem mcount_ok {τ : rf_S} {t : TT} (h : MT τ 12 t) (th sm : Int32) (x y : Int32) (q l o : Int64) : rf_lp (f_X10_seems_b170 x y th q l sm o τ) 5000 (0, 0) = some (nI (cnt 31 (fun d => decide (bs (tM t) (dAt t th d) = sm)))) := by
  refine lp_cnt 31 (fun d => decide (bs (tM t) (dAt t th d) = sm)) (by omega) ?_ ?_
  · intro d z hd
    unfold f_X10_seems_b170 f_X10_seems_j197
    simp only
    rw [if_neg (show ¬ (31 : Int32) ≤ nI d from nI_ge hd (by decide)), doingAt_ok h th (by omega), Option.bind_some, nI_1, nI_a1, nI_a0]
    by_cases e : bs (tM t) (dAt t th d) = sm
    · rw [if_neg (show ¬ bs (tM t) (dAt t th d) ≠ sm from fun q => q e), if_pos (decide_eq_true e)]
    · rw [if_pos (show bs (tM t) (dAt t th d) ≠ sm from e), if_neg (by simp [e])]
  · intro z
    unfold f_X10_seems_b170
    simp only
    rw [if_pos (show (31 : Int32) ≤ nI 31 by decide)]
