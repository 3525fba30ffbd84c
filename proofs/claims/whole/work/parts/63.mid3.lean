/-! ===== odds, mid: the reference's sum ===== -/
theorem bx (k d : Nat) (i : Nat) : bt (nI (k ^^^ d)) i = (bt (nI k) i ^^ bt (nI d) i) := by rw [← nx_xor, b_xor]
theorem sub_x {q k d : Nat} (hd : ∀ i, i < 32 → bt (nI d) i = true → bt (nI q) i = true) : subS q (k ^^^ d) = subS q k := by
  have h : subS q (k ^^^ d) = true ↔ subS q k = true := by
    rw [subS_iff, subS_iff]
    constructor
    · intro h i hi hb
      cases e : bt (nI d) i with
      | true => exact hd i hi e
      | false => exact h i hi (by rw [bx, hb, e]; rfl)
    · intro h i hi hb
      rw [bx] at hb
      cases e : bt (nI d) i with
      | true => exact hd i hi e
      | false =>
        rw [e, Bool.xor_false] at hb
        exact h i hi hb
  cases e : subS q k with
  | true => exact h.mpr e
  | false =>
    cases e2 : subS q (k ^^^ d) with
    | false => rfl
    | true => rw [h.mp e2] at e; exact absurd e (by decide)
theorem seem_iff {t : TT} (hM : tM t ≤ 6) {q k δ g d : Nat} (hk : k < 2 ^ tM t) (hs : subS q k = true) (hδ : ∀ i, i < tM t → bt (nI δ) i = (bt (nI q) i && ds t i g)) : decide (bs (tM t) (dAt t (nI q) d) = nI k) = smP t (nI q) (nI (k ^^^ δ)) g d := by
  have hp := pow6 (tM t) (by omega)
  have h : bs (tM t) (dAt t (nI q) d) = nI k ↔ smP t (nI q) (nI (k ^^^ δ)) g d = true := by
    unfold smP
    rw [allB_iff]
    constructor
    · intro h i hi
      have h1 := congrArg (fun x => bt x i) h
      simp only [b_bs (dAt t (nI q) d) (show tM t ≤ 32 by omega) (show i < 32 by omega), decide_eq_true hi, Bool.true_and] at h1
      unfold dAt at h1
      rw [bx, hδ i hi, ← h1]
      cases bt (nI q) i <;> cases ds t i d <;> cases ds t i g <;> rfl
    · intro h
      apply b_ext
      intro i hi
      rw [b_bs _ (by omega) hi]
      by_cases e : i < tM t
      · have h1 := h i e
        rw [bx, hδ i e] at h1
        have h2 := subS_iff.mp hs i hi
        unfold dAt
        rw [decide_eq_true e, Bool.true_and]
        cases a1 : bt (nI q) i <;> cases a2 : ds t i d <;> cases a3 : ds t i g <;> cases a4 : bt (nI k) i <;> simp_all
      · rw [decide_eq_false e, Bool.false_and, b_nI hi, Nat.testBit_lt_two_pow (Nat.lt_of_lt_of_le hk (Nat.pow_le_pow_right (by omega) (by omega)))]
  cases e : smP t (nI q) (nI (k ^^^ δ)) g d with
  | true => exact decide_eq_true (h.mpr e)
  | false => exact decide_eq_false (fun z => by rw [h.mp z] at e; exact absurd e (by decide))
