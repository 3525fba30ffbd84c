/-! ===== odds, mid: the class's sum ===== -/
def subS (q k : Nat) : Bool := decide (nI k &&& (nI q ^^^ (-1)) = 0)
theorem subS_iff {q k : Nat} : subS q k = true ↔ ∀ i, i < 32 → bt (nI k) i = true → bt (nI q) i = true := by
  unfold subS
  rw [decide_eq_true_eq]
  constructor
  · intro h i hi hb
    have := congrArg (fun x => bt x i) h
    simp only [b_and, b_not _ hi, b_0, hb, Bool.true_and] at this
    cases e : bt (nI q) i with
    | true => rfl
    | false => rw [e] at this; exact absurd this (by decide)
  · intro h
    apply b_ext
    intro i hi
    rw [b_and, b_not _ hi, b_0]
    cases e : bt (nI k) i with
    | false => rfl
    | true => rw [h i hi e]; rfl
def nNum (t : TT) (q g mn k : Nat) : Nat := if mn = 0 then min (cnt 31 (smP t (nI q) (nI k) g)) 1 else cnt 31 (smP t (nI q) (nI k) g)
def trm (t : TT) (q g p mn k : Nat) : Nat := if subS q k = true then wy (wyF (nI q) (nI k) p) 6 * nNum t q g mn k else 0
theorem csum2_ok {σ : rf_S} {t : TT} (h : CT σ t) {r q p mn : Nat} (hr : r < tR t) (hq : q < 64) (hp : p ≤ 12) (hmn : mn ≤ 1) : rf_lp (f_X0_weigh_b13 (nI r) (nI p) (nI mn) (nI q) σ) 5000 (0, 0) = some (lN (sumN (trm t q (tD t r) p mn) (q + 1))) := by
  refine lp_for (N := 5000) (fun k => (lN (sumN (trm t q (tD t r) p mn) k), nI k)) (q + 1) (fun k hk => ?_) ?_ (by omega)
  · show f_X0_weigh_b13 (nI r) (nI p) (nI mn) (nI q) σ (lN (sumN (trm t q (tD t r) p mn) k), nI k) = some (.inl (lN (sumN (trm t q (tD t r) p mn) (k + 1)), nI (k + 1)))
    have hc := cnt_le 31 (smP t (nI q) (nI k) (tD t r))
    unfold f_X0_weigh_b13 f_X0_weigh_j70 f_X0_weigh_j75
    simp only
    rw [if_neg (nI_nlt (show k ≤ q by omega) (by omega)), seeming_ok h hr, Option.bind_some, bc_bs _ (by decide), Option.bind_some, ways_ok _ _ hp, Option.bind_some, nI_1, sumN]
    unfold trm
    by_cases e : subS q k = true
    · have e' : nI k &&& (nI q ^^^ (-1)) = 0 := of_decide_eq_true e
      rw [if_neg (show ¬ nI k &&& (nI q ^^^ (-1)) ≠ 0 from fun z => z e'), if_pos e]
      unfold nNum
      rcases (show mn = 0 ∨ mn = 1 by omega) with rfl | rfl
      · rw [if_pos (show nI 0 = 0 from rfl), if_pos rfl]
        by_cases z : 1 < cnt 31 (smP t (nI q) (nI k) (tD t r))
        · rw [if_pos (show 1 < nI (cnt 31 (smP t (nI q) (nI k) (tD t r))) from nI_lt z (by omega)), Nat.min_eq_right (by omega), show (1 : Int32).toInt64 = lN 1 from rfl, lN_mul, lN_add]
        · rw [if_neg (show ¬ 1 < nI (cnt 31 (smP t (nI q) (nI k) (tD t r))) from nI_nlt (a := 1) (b := cnt 31 (smP t (nI q) (nI k) (tD t r))) (by omega) (by omega)), Nat.min_eq_left (by omega), nI_l (by omega), lN_mul, lN_add]
      · rw [if_neg (show ¬ nI 1 = 0 by decide), if_neg (by decide), nI_l (by omega), lN_mul, lN_add]
    · have e' : ¬ nI k &&& (nI q ^^^ (-1)) = 0 := fun z => e (decide_eq_true z)
      rw [if_pos (show nI k &&& (nI q ^^^ (-1)) ≠ 0 from e'), if_neg e]
      rfl
  · show f_X0_weigh_b13 (nI r) (nI p) (nI mn) (nI q) σ (_, nI (q + 1)) = _
    unfold f_X0_weigh_b13
    simp only
    rw [if_pos (nI_lt (by omega) (by omega))]
