/-! ===== odds, mid ===== -/
/-- the degrees by which all there would do as they seem to, if a set of them do it falsely -/
def smP (t : TT) (th f : Int32) (g d : Nat) : Bool := allB (tM t) (fun i => !bt th i || (ds t i d == (ds t i g ^^ bt f i)))
theorem b_eq (p q : Bool) : (if p = true then (1 : Int32) else 0) = (if q = true then 1 else 0) ↔ (p ^^ q) = false := by
  cases p <;> cases q <;> decide
theorem seeming_ok {σ : rf_S} {t : TT} (h : CT σ t) {r : Nat} (hr : r < tR t) (th f : Int32) : f_X0_seeming (nI r) th f σ = some (bs 31 (smP t th f (tD t r))) := by
  have hM := t_M (c_t h)
  have hR := t_R (c_t h)
  have hD := (t_r (c_t h) hr).2.2
  unfold f_X0_seeming
  rw [ALL_bs]
  have key : rf_lp (f_X0_seeming_b7 (nI r) th f σ) 5000 (bs 31 (fun _ => true), 0) = some (bs 31 (smP t th f (tD t r))) := by
    refine lp_for (N := 5000) (fun k => (bs 31 (fun d => allB k (fun i => !bt th i || (ds t i d == (ds t i (tD t r) ^^ bt f i)))), nI k)) (tM t) (fun k hk => ?_) ?_ (by omega)
    · show f_X0_seeming_b7 (nI r) th f σ (bs 31 (fun d => allB k (fun i => !bt th i || (ds t i d == (ds t i (tD t r) ^^ bt f i)))), nI k) = some (.inl (bs 31 (fun d => allB (k + 1) (fun i => !bt th i || (ds t i d == (ds t i (tD t r) ^^ bt f i)))), nI (k + 1)))
      have j59 : ∀ b : Bool, f_X0_seeming_j59 (nI r) th f (bs 31 (fun d => allB k (fun i => !bt th i || (ds t i d == (ds t i (tD t r) ^^ bt f i))))) (nI k) (bs 31 (ds t k)) (if b = true then 1 else 0) σ = some (.inl (bs 31 (fun d => allB k (fun i => !bt th i || (ds t i d == (ds t i (tD t r) ^^ bt f i))) && (ds t k d == b)), nI (k + 1))) := by
        intro b
        unfold f_X0_seeming_j59 f_X0_seeming_j73
        rw [seen_ok, Option.bind_some, and_bs _ _ (by decide) (by decide), nI_1]
        refine congrArg (fun x => some (Sum.inl (x, nI (k + 1)))) (bs_congr fun d hd => ?_)
        rw [decide_eq_true hd, Bool.true_and]
      have z0 := j59 false
      have z1 := j59 true
      rw [if_pos rfl] at z1
      rw [if_neg (show ¬ false = true by decide)] at z0
      unfold f_X0_seeming_b7 f_X8_members f_X0_seeming_j73
      simp only [Option.bind_some]
      rw [c_M h, if_neg (nI_ge hk (by omega)), bit1 th (by omega), does_ok h hk, Option.bind_some, ck0_33, if_pos (in_ok (by omega) (by decide)), nI_clamp (by omega), c_D h hr, bit1 _ (by omega), b_bs _ (by decide) (by omega), decide_eq_true (show tD t r < 31 by omega), Bool.true_and, bit1 f (by omega), z0, z1, nI_1]
      cases e : bt th k with
      | false =>
        rw [if_neg (show ¬ false = true by decide), if_pos (show (0 : Int32) ≠ 1 by decide)]
        refine congrArg (fun x => some (Sum.inl (x, nI (k + 1)))) (bs_congr fun d hd => ?_)
        rw [allB, e]
        simp
      | true =>
        rw [if_pos rfl, if_neg (show ¬ (1 : Int32) ≠ 1 from fun q => q rfl)]
        cases e2 : (ds t k (tD t r) ^^ bt f k) with
        | false =>
          rw [if_pos ((b_eq _ _).mpr e2)]
          refine congrArg (fun x => some (Sum.inl (x, nI (k + 1)))) (bs_congr fun d hd => ?_)
          rw [allB, e, e2]
          simp
        | true =>
          rw [if_neg (fun q => by rw [(b_eq _ _).mp q] at e2; exact absurd e2 (by decide))]
          refine congrArg (fun x => some (Sum.inl (x, nI (k + 1)))) (bs_congr fun d hd => ?_)
          rw [allB, e, e2]
          simp
    · show f_X0_seeming_b7 (nI r) th f σ (_, nI (tM t)) = _
      unfold f_X0_seeming_b7 f_X8_members
      simp only [Option.bind_some]
      rw [c_M h, if_pos (nI_le (Nat.le_refl _) (by omega))]
      rfl
  rw [key]
  rfl
/-- in how many ways: six factors -/
def wyF (th f : Int32) (p i : Nat) : Nat := if bt th i = true then (if bt f i = true then p else 12 - p) else 1
def wy (F : Nat → Nat) : Nat → Nat
  | 0 => 1
  | n + 1 => wy F n * F n
theorem ways_ok (th f : Int32) {p : Nat} (hp : p ≤ 12) (σ : rf_S) : f_X0_ways th f (nI p) σ = some (lN (wy (wyF th f p) 6)) := by
  unfold f_X0_ways
  have key : rf_lp (f_X0_ways_b5 th f (nI p) σ) 5000 (1, 0) = some (lN (wy (wyF th f p) 6)) := by
    refine lp_for (N := 5000) (fun k => (lN (wy (wyF th f p) k), nI k)) 6 (fun k hk => ?_) ?_ (by omega)
    · show f_X0_ways_b5 th f (nI p) σ (lN (wy (wyF th f p) k), nI k) = some (.inl (lN (wy (wyF th f p) (k + 1)), nI (k + 1)))
      unfold f_X0_ways_b5 f_X0_ways_j43 f_X0_ways_j45
      simp only
      rw [if_neg (show ¬ (6 : Int32) ≤ nI k from nI_ge hk (by decide)), bit1 _ (by omega), bit1 _ (by omega), show (12 : Int32) - nI p = nI (12 - p) from nat_sub hp, nI_l (by omega), nI_l (by omega), lN_mul, lN_mul, nI_1, wy]
      unfold wyF
      cases bt th k with
      | false =>
        rw [if_neg (show ¬ false = true by decide), if_pos (show (0 : Int32) ≠ 1 by decide), if_neg (show ¬ false = true by decide), Nat.mul_one]
      | true =>
        rw [if_pos rfl, if_neg (show ¬ (1 : Int32) ≠ 1 from fun q => q rfl), if_pos rfl]
        cases bt f k with
        | false => rw [if_neg (show ¬ false = true by decide), if_pos (show (0 : Int32) ≠ 1 by decide), if_neg (show ¬ false = true by decide)]
        | true => rw [if_pos rfl, if_neg (show ¬ (1 : Int32) ≠ 1 from fun q => q rfl), if_pos rfl]
    · show f_X0_ways_b5 th f (nI p) σ (_, nI 6) = _
      unfold f_X0_ways_b5
      simp only
      rw [if_pos (show (6 : Int32) ≤ nI 6 by decide)]
  rw [key]
  rfl
