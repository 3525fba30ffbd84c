/-! ===== odds, mid: together ===== -/
theorem msum2_ok {τ : rf_S} {t : TT} (h : MT τ 12 t) {q p mn δ g : Nat} {l : Int64} (hp : p ≤ 12) (hmn : mn ≤ 1) (hD : nI q &&& bs (tM t) (fun i => ds t i (tD t (tL t i))) = nI δ) (hδ : ∀ i, i < tM t → bt (nI δ) i = (bt (nI q) i && ds t i g)) (hδ2 : ∀ i, i < 32 → bt (nI δ) i = true → bt (nI q) i = true) (hqM : ∀ i, tM t ≤ i → i < 32 → bt (nI q) i = false) : rf_lp (f_X10_seems_b67 (nI p) (nI mn) (nI q) l τ) 5000 (0, 0) = some (lN (sumN (fun k => trm t q g p mn (k ^^^ δ)) (2 ^ tM t))) := by
  have hM := t_M (m_t h)
  have hpw := pow6 (tM t) (by omega)
  have hq2 := p2 (tM t) (by omega)
  refine lp_for (N := 5000) (fun k => (lN (sumN (fun k => trm t q g p mn (k ^^^ δ)) k), nI k)) (2 ^ tM t) (fun k hk => ?_) ?_ (by omega)
  · show f_X10_seems_b67 (nI p) (nI mn) (nI q) l τ (lN (sumN (fun k => trm t q g p mn (k ^^^ δ)) k), nI k) = some (.inl (lN (sumN (fun k => trm t q g p mn (k ^^^ δ)) (k + 1)), nI (k + 1)))
    have hc := cnt_le 31 (smP t (nI q) (nI (k ^^^ δ)) g)
    unfold f_X10_seems_b67 f_X10_seems_j232 f_X10_seems_j235
    simp only
    rw [m_M h, hq2.2, if_neg (nI_ge hk (by omega)), doing_ok h, Option.bind_some, hD, nx_xor, mways_ok h _ _ _ _ _ _ hp, Option.bind_some, mcount_ok h, Option.bind_some, nI_1, sumN]
    unfold trm
    rw [sub_x hδ2]
    by_cases e : subS q k = true
    · have e' : nI k &&& (nI q ^^^ (-1)) = 0 := of_decide_eq_true e
      have ec : cnt 31 (fun d => decide (bs (tM t) (dAt t (nI q) d) = nI k)) = cnt 31 (smP t (nI q) (nI (k ^^^ δ)) g) := cnt_congr fun d _ => seem_iff hM hk e hδ
      have ew : wy (wyF (nI q) (nI (k ^^^ δ)) p) 6 = wy (wyF (nI q) (nI (k ^^^ δ)) p) (tM t) := wy_pad hM fun i a b => by
        unfold wyF
        rw [hqM i a (by omega), if_neg (show ¬ false = true by decide)]
      rw [if_neg (show ¬ nI k &&& (nI q ^^^ (-1)) ≠ 0 from fun z => z e'), if_pos e, ec, ew]
      unfold nNum
      rcases (show mn = 0 ∨ mn = 1 by omega) with rfl | rfl
      · rw [if_pos (show nI 0 = 0 from rfl), if_pos rfl]
        by_cases z : 0 < cnt 31 (smP t (nI q) (nI (k ^^^ δ)) g)
        · rw [if_neg (nI_nle z (by omega)), Nat.min_eq_right (by omega), Nat.mul_one, lN_add]
        · rw [show cnt 31 (smP t (nI q) (nI (k ^^^ δ)) g) = 0 by omega, if_pos (show nI 0 ≤ 0 by decide), show (0 : Int64) = lN 0 from rfl, lN_add, Nat.min_eq_left (by omega), Nat.mul_zero]
      · rw [if_neg (show ¬ nI 1 = 0 by decide), if_neg (show ¬ 1 = 0 by decide), nI_l (by omega), lN_mul, lN_add]
    · have e' : ¬ nI k &&& (nI q ^^^ (-1)) = 0 := fun z => e (decide_eq_true z)
      rw [if_pos (show nI k &&& (nI q ^^^ (-1)) ≠ 0 from e'), if_neg e]
      rfl
  · show f_X10_seems_b67 (nI p) (nI mn) (nI q) l τ (_, nI (2 ^ tM t)) = _
    unfold f_X10_seems_b67
    simp only
    rw [m_M h, hq2.2, if_pos (nI_le (Nat.le_refl _) (by omega))]
