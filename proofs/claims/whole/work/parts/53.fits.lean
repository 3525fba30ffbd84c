/-! ===== fits, tickled, shifts, kinds ===== -/
def fitP (t : TT) (A : Nat → Nat) (B T : Nat → Bool) (m d : Nat) : Bool := allB m (fun j => wd t (A j) d == (B j ^^ T j))
theorem nI_a2 (k : Nat) : nI (2 * k) + 2 = nI (2 * (k + 1)) := nI_add (2 * k) 2
theorem size_ok {σ : rf_S} {r : Nat} {x : Int32} (hr : r < 6) (h : σ.1 9 r = x) : f_X4_sizeOf (nI r) σ = some x := by
  unfold f_X4_sizeOf
  rw [ck0_9, if_pos (in_ok hr (by decide)), nI_clamp (by omega), h]
theorem fitting_ok {σ : rf_S} {t : TT} (hσ : CT σ t) {r m : Nat} {A : Nat → Nat} {B T : Nat → Bool} (hr : r < 6) (hm : 2 * m ≤ 40) (hs : σ.1 9 r = nI (2 * m)) (hP : Prs (σ.1 (3 + r)) m (tM t) A B) (p : Int32) (hT : ∀ j, j < m → (nI (2 * j) = p ↔ T j = true)) : f_X9_fitting (nI r) p σ = some (bs 31 (fitP t A B T m)) := by
  unfold f_X9_fitting
  rw [ALL_bs]
  have key : rf_lp (f_X9_fitting_b7 (nI r) p σ) 5000 (bs 31 (fun _ => true), 0) = some (bs 31 (fitP t A B T m)) := by
    refine lp_for (fun k => (bs 31 (fun d => allB k (fun j => wd t (A j) d == (B j ^^ T j))), nI (2 * k))) m (fun k hk => ?_) ?_ (by omega)
    · show f_X9_fitting_b7 (nI r) p σ (bs 31 (fun d => allB k (fun j => wd t (A j) d == (B j ^^ T j))), nI (2 * k)) = some (.inl (bs 31 (fun d => allB (k + 1) (fun j => wd t (A j) d == (B j ^^ T j))), nI (2 * (k + 1))))
      obtain ⟨a1, a2, a3⟩ := hP k hk
      have j62 : ∀ b : Bool, f_X9_fitting_j62 (nI r) p (bs 31 (fun d => allB k (fun j => wd t (A j) d == (B j ^^ T j)))) (nI (2 * k)) (if b = true then 1 else 0) σ = some (.inl (bs 31 (fun d => allB k (fun j => wd t (A j) d == (B j ^^ T j)) && (wd t (A k) d == b)), nI (2 * (k + 1)))) := by
        intro b
        unfold f_X9_fitting_j62
        rw [get_ok hr (by omega), a2, Option.bind_some, would_ok hσ a1, Option.bind_some, seen_ok, Option.bind_some, and_bs _ _ (by decide) (by decide), nI_a2]
        refine congrArg (fun x => some (Sum.inl (x, nI (2 * (k + 1))))) (bs_congr fun d hd => ?_)
        rw [decide_eq_true hd, Bool.true_and]
      have j43 : ∀ b : Bool, f_X9_fitting_j43 (nI r) p (bs 31 (fun d => allB k (fun j => wd t (A j) d == (B j ^^ T j)))) (nI (2 * k)) (if b = true then 1 else 0) σ = some (.inl (bs 31 (fun d => allB k (fun j => wd t (A j) d == (B j ^^ T j)) && (wd t (A k) d == (b ^^ T k))), nI (2 * (k + 1)))) := by
        intro b
        have z0 := j62 false
        have z1 := j62 true
        rw [if_pos rfl] at z1
        rw [if_neg (show ¬ false = true by decide)] at z0
        unfold f_X9_fitting_j43 f_X9_fitting_j54
        rw [z0, z1]
        cases eT : T k with
        | true =>
          rw [if_neg (show ¬ nI (2 * k) ≠ p from fun q => q ((hT k hk).mpr eT))]
          cases b with
          | true => exact if_pos rfl
          | false => exact if_neg (show ¬ (0 : Int32) = 1 by decide)
        | false =>
          rw [if_pos (show nI (2 * k) ≠ p from fun q => by rw [(hT k hk).mp q] at eT; exact absurd eT (by decide))]
          cases b with
          | true => exact if_neg n10
          | false => exact if_pos rfl
      unfold f_X9_fitting_b7
      simp only
      rw [size_ok hr hs, Option.bind_some, nI_1, if_neg (nI_ge (by omega) (by omega)), get_ok hr (by omega), a3, Option.bind_some]
      have fin := j43 (B k)
      cases eB : B k with
      | true =>
        rw [eB, if_pos rfl] at fin
        rw [if_pos rfl, if_neg (show ¬ (1 : Int32) ≠ 1 from fun q => q rfl), fin]
        simp only [allB, eB]
      | false =>
        rw [eB, if_neg (show ¬ false = true by decide)] at fin
        rw [if_neg (show ¬ false = true by decide), if_pos (show (0 : Int32) ≠ 1 by decide), fin]
        simp only [allB, eB]
    · show f_X9_fitting_b7 (nI r) p σ (_, nI (2 * m)) = _
      unfold f_X9_fitting_b7
      simp only
      rw [size_ok hr hs, Option.bind_some, nI_1, if_pos (nI_le (by omega) (by omega))]
      rfl
  rw [key]
  rfl
theorem nI_2m (k : Nat) : (2 : Int32) * nI k = nI (2 * k) := pk_mul 2 k
theorem fitsBy_ok {τ : rf_S} {t : TT} (hτ : MT τ 12 t) {r m : Nat} {V : Nat → Int32} {A : Nat → Nat} {B T : Nat → Bool} (hr : r < 6) (hm : 2 * m ≤ 40) (hs : τ.1 1 r = nI (2 * m)) (hV : ∀ i, i < 40 → τ.1 2 (40 * r + i) = V i) (hP : Prs V m (tM t) A B) (p : Int32) (hT : ∀ j, j < m → (nI j = p ↔ T j = true)) : f_X10_fitsBy (nI r) p τ = some (bs 31 (fitP t A B T m)) := by
  unfold f_X10_fitsBy
  rw [lp_bs 31 (fitP t A B T m) (by omega) ?_ ?_]
  · rfl
  · intro d x hd
    have inner : rf_lp (f_X10_fitsBy_b18 (nI r) p x (nI d) τ) 5000 (1, 0) = some (if fitP t A B T m d = true then 1 else 0) := by
      refine lp_all m (fun j => wd t (A j) d == (B j ^^ T j)) (by omega) ?_ ?_ ?_
      · intro j hj
        obtain ⟨a1, a2, a3⟩ := hP j hj
        unfold f_X10_fitsBy_b18 f_X10_fitsBy_j58 f_X10_fitsBy_j101 f_X10_fitsBy_j108 f_X10_fitsBy_j109
        simp only
        rw [ck1_1, if_pos (in_ok hr (by decide)), nI_clamp (by omega), hs, nI_2m, if_neg (nI_ge (show 2 * j < 2 * m by omega) (by omega)), nI40, nI_1, nI_1, ck1_2, if_pos (in_ok (by omega) (by decide)), ck1_2, if_pos (in_ok (by omega) (by decide)), nI_clamp (by omega), nI_clamp (by omega), show 40 * r + 2 * j + 1 = 40 * r + (2 * j + 1) by omega, hV _ (by omega), hV _ (by omega), a2, a3, wouldAt_ok hτ a1 (by omega), Option.bind_some, if_neg n10, if_neg n10, Option.bind_some]
        cases eT : T j with
        | true =>
          rw [if_neg (show ¬ nI j ≠ p from fun q => q ((hT j hj).mpr eT)), if_pos (in_ok (by omega) (by decide))]
          cases B j <;> cases wd t (A j) d <;> rfl
        | false =>
          rw [if_pos (show nI j ≠ p from fun q => by rw [(hT j hj).mp q] at eT; exact absurd eT (by decide))]
          cases B j <;> cases wd t (A j) d <;> rfl
      · intro j hj
        obtain ⟨a1, a2, a3⟩ := hP j hj
        unfold f_X10_fitsBy_b18 f_X10_fitsBy_j58 f_X10_fitsBy_j108 f_X10_fitsBy_j109
        simp only
        rw [ck1_1, if_pos (in_ok hr (by decide)), nI_clamp (by omega), hs, nI_2m, if_neg (nI_ge (show 2 * j < 2 * m by omega) (by omega)), nI40, nI_1, nI_1, ck1_2, if_pos (in_ok (by omega) (by decide)), if_pos trivial, if_pos trivial]
        by_cases q : nI j ≠ p
        · rw [if_pos q]
        · rw [if_neg q]
      · intro y
        unfold f_X10_fitsBy_b18
        simp only
        rw [ck1_1, if_pos (in_ok hr (by decide)), nI_clamp (by omega), hs, nI_2m, if_pos (nI_le (Nat.le_refl _) (by omega))]
    unfold f_X10_fitsBy_b5 f_X10_fitsBy_j131
    simp only
    rw [if_neg (show ¬ (31 : Int32) ≤ nI d from nI_ge hd (by decide)), inner, Option.bind_some, b01, nI_1]
    cases fitP t A B T m d <;> rfl
  · intro x
    unfold f_X10_fitsBy_b5
    simp only
    rw [if_pos (show (31 : Int32) ≤ nI 31 by decide)]
theorem rec_cases {σ τ : rf_S} {t : TT} (h : Sim σ τ) (hσ : CT σ t) (hτ : MT τ 12 t) (x : Int32) : (∃ v σ1 τ1, v ≠ 0 ∧ f_X9_refusedRecord x σ = some (v, σ1) ∧ Sim σ1 τ1 ∧ ((f_X10_in x 0 5 τ = some 0 ∧ v = -1 ∧ τ1 = τ) ∨ (f_X10_in x 0 5 τ = some 1 ∧ τ.1 0 17 = 0 ∧ v = -4 ∧ τ1 = τ) ∨ (f_X10_in x 0 5 τ = some 1 ∧ τ.1 0 17 ≠ 0 ∧ f_X10_wrongPairs x (τ.1 0 17 - 1) τ = some (v, τ1)))) ∨ ∃ r m A B, r < 6 ∧ x = nI r ∧ 2 * m ≤ 40 ∧ σ.1 9 r = nI (2 * m) ∧ τ.1 1 r = nI (2 * m) ∧ Prs (σ.1 (3 + r)) m (tM t) A B ∧ f_X9_refusedRecord x σ = some (0, σ) ∧ f_X10_in x 0 5 τ = some 1 ∧ τ.1 0 17 ≠ 0 ∧ f_X10_wrongPairs x (τ.1 0 17 - 1) τ = some (0, τ) := by
  have hM := t_M (c_t hσ)
  unfold f_X9_refusedRecord f_X8_isEmpty f_X8_members
  rw [in5]
  rcases isRow_cases x with h1 | ⟨r, hr, rfl, h1⟩
  · left
    rw [h1, h1]
    exact ⟨-1, σ, τ, by decide, rfl, h, Or.inl ⟨rfl, rfl, rfl⟩⟩
  rw [h1, h1, c_M hσ, m_M hτ]
  simp only [Option.bind_some]
  rw [if_pos n10]
  by_cases eM : tM t = 0
  · left
    rw [eM, if_neg (show ¬ nI 0 ≠ 0 from fun q => q rfl)]
    exact ⟨-4, σ, τ, by decide, rfl, h, Or.inr (Or.inl ⟨trivial, rfl, rfl, rfl⟩)⟩
  · have hne : nI (tM t) ≠ 0 := nI_ne0 (by omega) (by omega)
    rw [if_pos hne]
    simp only [Option.bind_some, if_true]
    rcases pairs_cases h hr (show tM t ≤ 100 by omega) with ⟨v, σ1, τ1, v1, v2, v3, v4⟩ | ⟨m, A, B, w1, w2, w3, w4, w5, w6⟩
    · left
      rw [v2]
      exact ⟨v, σ1, τ1, v1, rfl, v4, Or.inr (Or.inr ⟨trivial, hne, v3⟩)⟩
    · right
      refine ⟨r, m, A, B, hr, rfl, w1, w2, w3, w4, ?_, trivial, hne, w6⟩
      rw [w5]
      rfl
theorem sim_fits {σ τ : rf_S} (h : Sim σ τ) (x : Int32) : Both (f_X9_fits x σ) (f_X10_fits x τ) := by
  obtain ⟨t, hσ, hτ⟩ := Sim_town h
  unfold f_X9_fits f_X10_fits
  rcases rec_cases h hσ hτ x with ⟨v, σ1, τ1, v1, v2, v3, ⟨w1, w2, w3⟩ | ⟨w1, w2, w3, w4⟩ | ⟨w1, w2, w3⟩⟩ | ⟨r, m, A, B, hr, rfl, hm, a1, a2, a3, a4, a5, a6, a7⟩
  · subst w2 w3
    rw [v2, w1]
    exact ⟨_, _, _, rfl, rfl, v3⟩
  · subst w3
    subst w4
    rw [v2, w1]
    simp only [Option.bind_some]
    rw [if_pos n10, if_neg (show ¬ τ1.1 0 17 ≠ 0 from fun q => q w2), if_neg v1]
    exact ⟨_, _, _, rfl, rfl, v3⟩
  · rw [v2, w1]
    simp only [Option.bind_some]
    rw [if_pos n10, if_pos w2, w3, if_neg v1]
    simp only [Option.bind_some]
    rw [if_neg v1]
    exact ⟨_, _, _, rfl, rfl, v3⟩
  · rw [a4, a5]
    simp only [Option.bind_some]
    rw [if_pos n10, if_pos a6, a7]
    simp only [Option.bind_some, if_true]
    have c9 : ∀ j, j < m → (nI (2 * j) = -9 ↔ false = true) := fun j hj => ⟨fun q => by
      have := congrArg Int32.toInt q
      rw [nI_toInt (by omega)] at this
      have a9 : (-9 : Int32).toInt = -9 := rfl
      omega, fun q => absurd q (by decide)⟩
    have c1 : ∀ j, j < m → (nI j = -1 ↔ false = true) := fun j hj => ⟨fun q => by
      have := congrArg Int32.toInt q
      rw [nI_toInt (by omega)] at this
      have a9 : (-1 : Int32).toInt = -1 := rfl
      omega, fun q => absurd q (by decide)⟩
    rw [fitting_ok hσ (T := fun _ => false) hr hm a1 a3 (-9) c9, fitsBy_ok hτ (T := fun _ => false) hr hm a2 (h.2.1 r hr).2.2 a3 (-1) c1, Option.bind_some, Option.bind_some, bc_bs _ (by decide), mb_bs _ (by decide), Option.bind_some, Option.bind_some, tells_ok, Option.bind_some]
    exact ⟨_, _, _, rfl, rfl, Sim_told _ h⟩
def tkl (t : TT) (A : Nat → Nat) (B : Nat → Bool) (m : Nat) : Nat → Int32
  | 0 => 0
  | k + 1 => if bs 31 (fitP t A B (fun j => decide (j = k)) m) = 0 then tkl t A B m k else tkl t A B m k ||| (1 <<< (nI (A k) &&& 31))
theorem sim_tickled {σ τ : rf_S} (h : Sim σ τ) (x : Int32) : Both (f_X9_tickled x σ) (f_X10_tickled x τ) := by
  obtain ⟨t, hσ, hτ⟩ := Sim_town h
  unfold f_X9_tickled f_X10_tickled
  rcases rec_cases h hσ hτ x with ⟨v, σ1, τ1, v1, v2, v3, ⟨w1, w2, w3⟩ | ⟨w1, w2, w3, w4⟩ | ⟨w1, w2, w3⟩⟩ | ⟨r, m, A, B, hr, rfl, hm, a1, a2, a3, a4, a5, a6, a7⟩
  · subst w2 w3
    rw [v2, w1]
    exact ⟨_, _, _, rfl, rfl, v3⟩
  · subst w3
    subst w4
    rw [v2, w1]
    simp only [Option.bind_some]
    rw [if_pos n10, if_neg (show ¬ τ1.1 0 17 ≠ 0 from fun q => q w2), if_neg v1]
    exact ⟨_, _, _, rfl, rfl, v3⟩
  · rw [v2, w1]
    simp only [Option.bind_some]
    rw [if_pos n10, if_pos w2, w3, if_neg v1]
    simp only [Option.bind_some]
    rw [if_neg v1]
    exact ⟨_, _, _, rfl, rfl, v3⟩
  · rw [a4, a5]
    simp only [Option.bind_some]
    rw [if_pos n10, if_pos a6, a7]
    simp only [Option.bind_some, if_true]
    have g1 : rf_lp (f_X9_tickled_b17 (nI r) σ) 5000 (0, 0) = some (tkl t A B m m) := by
      refine lp_for (fun k => (tkl t A B m k, nI (2 * k))) m (fun k hk => ?_) ?_ (by omega)
      · show f_X9_tickled_b17 (nI r) σ (tkl t A B m k, nI (2 * k)) = some (.inl (tkl t A B m (k + 1), nI (2 * (k + 1))))
        unfold f_X9_tickled_b17 f_X9_tickled_j57
        simp only
        rw [size_ok hr a1, Option.bind_some, nI_1, if_neg (nI_ge (by omega) (by omega)), fitting_ok hσ (T := fun j => decide (j = k)) hr hm a1 a3 (nI (2 * k)) (fun j hj => by rw [eq_nI (by omega) (by omega), decide_eq_true_eq]; omega), Option.bind_some, get_ok hr (by omega), (a3 k hk).2.1, Option.bind_some, nI_a2, tkl]
        by_cases e : bs 31 (fitP t A B (fun j => decide (j = k)) m) = 0
        · rw [if_pos e, if_pos e]
        · rw [if_neg e, if_neg e]
      · show f_X9_tickled_b17 (nI r) σ (_, nI (2 * m)) = _
        unfold f_X9_tickled_b17
        simp only
        rw [size_ok hr a1, Option.bind_some, nI_1, if_pos (nI_le (by omega) (by omega))]
    have g2 : rf_lp (f_X10_tickled_b44 (nI r) τ) 5000 (0, 0) = some (tkl t A B m m) := by
      refine lp_for (fun k => (tkl t A B m k, nI k)) m (fun k hk => ?_) ?_ (by omega)
      · show f_X10_tickled_b44 (nI r) τ (tkl t A B m k, nI k) = some (.inl (tkl t A B m (k + 1), nI (k + 1)))
        unfold f_X10_tickled_b44 f_X10_tickled_j88
        simp only
        rw [ck1_1, if_pos (in_ok hr (by decide)), nI_clamp (by omega), a2, nI_2m, if_neg (nI_ge (show 2 * k < 2 * m by omega) (by omega)), fitsBy_ok hτ (T := fun j => decide (j = k)) hr hm a2 (h.2.1 r hr).2.2 a3 (nI k) (fun j hj => by rw [eq_nI (by omega) (by omega), decide_eq_true_eq]), Option.bind_some, nI40, ck1_2, if_pos (in_ok (by omega) (by decide)), nI_clamp (by omega), (h.2.1 r hr).2.2 _ (by omega), (a3 k hk).2.1, nI_1, tkl]
        by_cases e : bs 31 (fitP t A B (fun j => decide (j = k)) m) = 0
        · rw [if_pos e, if_pos e, or0]
        · rw [if_neg e, if_neg e]
      · show f_X10_tickled_b44 (nI r) τ (_, nI m) = _
        unfold f_X10_tickled_b44
        simp only
        rw [ck1_1, if_pos (in_ok hr (by decide)), nI_clamp (by omega), a2, nI_2m, if_pos (nI_le (Nat.le_refl _) (by omega))]
    rw [g1, g2]
    exact ⟨_, _, _, rfl, rfl, h⟩
