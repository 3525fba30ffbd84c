/-! ===== shifts, kinds ===== -/
def agr (D : Nat → Bool) (A : Nat → Nat) (B : Nat → Bool) (m : Nat) : Bool := allB m (fun j => D (A j) == B j)
theorem agrees_ok {σ : rf_S} {r m : Nat} {A : Nat → Nat} {B : Nat → Bool} (hr : r < 6) (hm : 2 * m ≤ 40) (hs : σ.1 9 r = nI (2 * m)) (hP : Prs (σ.1 (3 + r)) m 31 A B) (D : Nat → Bool) : f_X9_agreesWithDays (bs 31 D) (nI r) σ = some (if agr D A B m = true then 1 else 0) := by
  unfold f_X9_agreesWithDays
  have key : rf_lp (f_X9_agreesWithDays_b5 (bs 31 D) (nI r) σ) 5000 (1, 0) = some (if agr D A B m = true then 1 else 0) := by
    refine lp_for (fun k => ((if allB k (fun j => D (A j) == B j) = true then 1 else 0), nI (2 * k))) m (fun k hk => ?_) ?_ (by omega)
    · show f_X9_agreesWithDays_b5 (bs 31 D) (nI r) σ ((if allB k (fun j => D (A j) == B j) = true then 1 else 0), nI (2 * k)) = some (.inl ((if allB (k + 1) (fun j => D (A j) == B j) = true then 1 else 0), nI (2 * (k + 1))))
      obtain ⟨a1, a2, a3⟩ := hP k hk
      unfold f_X9_agreesWithDays_b5 f_X9_agreesWithDays_j57 f_X9_agreesWithDays_j58
      simp only
      rw [size_ok hr hs, Option.bind_some, nI_1, if_neg (nI_ge (by omega) (by omega)), get_ok hr (by omega), get_ok hr (by omega), a2, a3, Option.bind_some, Option.bind_some, bit1 _ (by omega), b_bs _ (by decide) (by omega), decide_eq_true a1, Bool.true_and, nI_a2, b01, allB]
      simp only [b_ne]
      cases allB k (fun j => D (A j) == B j) <;> cases (D (A k) == B k) <;> rfl
    · show f_X9_agreesWithDays_b5 (bs 31 D) (nI r) σ (_, nI (2 * m)) = _
      unfold f_X9_agreesWithDays_b5
      simp only
      rw [size_ok hr hs, Option.bind_some, nI_1, if_pos (nI_le (by omega) (by omega))]
      rfl
  rw [key, Option.bind_some]
  cases agr D A B m <;> rfl
theorem isBy_ok {τ : rf_S} {t : TT} (hτ : MT τ 12 t) {r m k w : Nat} {v : Int} {V : Nat → Int32} {A : Nat → Nat} {B : Nat → Bool} (hr : r < 6) (hm : 2 * m ≤ 40) (hs : τ.1 1 r = nI (2 * m)) (hV : ∀ i, i < 40 → τ.1 2 (40 * r + i) = V i) (hP : Prs V m 31 A B) (hk : k < 6) (hw : w ≤ 9) (h1 : -80 ≤ feelZ k v (tS t) (tH t)) (h2 : feelZ k v (tS t) (tH t) ≤ 80) : f_X10_isBy (nI r) (nI k) (iI v) (nI w) τ = some (if agr (doB k (feelZ k v (tS t) (tH t)) w) A B m = true then 1 else 0) := by
  unfold f_X10_isBy
  have key : rf_lp (f_X10_isBy_b6 (nI r) (nI k) (iI v) (nI w) τ) 5000 (1, 0) = some (if agr (doB k (feelZ k v (tS t) (tH t)) w) A B m = true then 1 else 0) := by
    refine lp_for (fun q => ((if allB q (fun j => doB k (feelZ k v (tS t) (tH t)) w (A j) == B j) = true then 1 else 0), nI (2 * q))) m (fun q hq => ?_) ?_ (by omega)
    · show f_X10_isBy_b6 (nI r) (nI k) (iI v) (nI w) τ ((if allB q (fun j => doB k (feelZ k v (tS t) (tH t)) w (A j) == B j) = true then 1 else 0), nI (2 * q)) = some (.inl ((if allB (q + 1) (fun j => doB k (feelZ k v (tS t) (tH t)) w (A j) == B j) = true then 1 else 0), nI (2 * (q + 1))))
      obtain ⟨a1, a2, a3⟩ := hP q hq
      unfold f_X10_isBy_b6 f_X10_isBy_j72 f_X10_isBy_j79 f_X10_isBy_j80
      simp only
      rw [ck1_1, if_pos (in_ok hr (by decide)), nI_clamp (by omega), hs, if_neg (nI_ge (show 2 * q < 2 * m by omega) (by omega)), feelsBy_ok hτ hk, Option.bind_some, nI40, nI_1, ck1_2, if_pos (in_ok (by omega) (by decide)), nI_clamp (by omega), hV _ (by omega), a2, doesBy_ok hk hw (by omega) h1 h2, Option.bind_some, ck1_2, if_pos (in_ok (by omega) (by decide)), nI_clamp (by omega), show 40 * r + 2 * q + 1 = 40 * r + (2 * q + 1) by omega, hV _ (by omega), a3, nI_a2, b01, allB]
      cases allB q (fun j => doB k (feelZ k v (tS t) (tH t)) w (A j) == B j) <;> cases doB k (feelZ k v (tS t) (tH t)) w (A q) <;> cases B q <;> rfl
    · show f_X10_isBy_b6 (nI r) (nI k) (iI v) (nI w) τ (_, nI (2 * m)) = _
      unfold f_X10_isBy_b6
      simp only
      rw [ck1_1, if_pos (in_ok hr (by decide)), nI_clamp (by omega), hs, if_pos (nI_le (Nat.le_refl _) (by omega))]
      rfl
  rw [key, Option.bind_some]
  cases agr (doB k (feelZ k v (tS t) (tH t)) w) A B m <;> rfl
theorem days_cases {σ τ : rf_S} {t : TT} (h : Sim σ τ) (hσ : CT σ t) (hτ : MT τ 12 t) (x y : Int32) : (∃ v σ1 τ1, v ≠ 0 ∧ f_X9_refusedDays x y σ = some (v, σ1) ∧ Sim σ1 τ1 ∧ ((f_X10_isOne x τ = some 0 ∧ v = -1 ∧ τ1 = τ) ∨ (f_X10_isOne x τ = some 1 ∧ f_X10_in y 0 5 τ = some 0 ∧ v = -1 ∧ τ1 = τ) ∨ (f_X10_isOne x τ = some 1 ∧ f_X10_in y 0 5 τ = some 1 ∧ f_X10_wrongPairs y 30 τ = some (v, τ1)))) ∨ ∃ i r m A B, i < tM t ∧ x = nI i ∧ r < 6 ∧ y = nI r ∧ 2 * m ≤ 40 ∧ σ.1 9 r = nI (2 * m) ∧ τ.1 1 r = nI (2 * m) ∧ Prs (σ.1 (3 + r)) m 31 A B ∧ f_X9_refusedDays x y σ = some (0, σ) ∧ f_X10_isOne x τ = some 1 ∧ f_X10_in y 0 5 τ = some 1 ∧ f_X10_wrongPairs y 30 τ = some (0, τ) := by
  unfold f_X9_refusedDays
  rw [in5]
  rcases one_cases hσ hτ x with ⟨h1, h2⟩ | ⟨i, hi, rfl, h1, h2⟩
  · left
    rw [h1, h2]
    exact ⟨-1, σ, τ, by decide, rfl, h, Or.inl ⟨rfl, rfl, rfl⟩⟩
  rw [h1, h2]
  simp only [Option.bind_some]
  rw [if_neg n10]
  rcases isRow_cases y with h3 | ⟨r, hr, rfl, h3⟩
  · left
    rw [h3, h3]
    exact ⟨-1, σ, τ, by decide, rfl, h, Or.inr (Or.inl ⟨trivial, rfl, rfl, rfl⟩)⟩
  rw [h3, h3]
  simp only [Option.bind_some]
  rw [if_pos n10]
  rcases pairs_cases h hr (show 31 ≤ 100 by decide) with ⟨v, σ1, τ1, v1, v2, v3, v4⟩ | ⟨m, A, B, w1, w2, w3, w4, w5, w6⟩
  · left
    rw [show (31 : Int32) = nI 31 from rfl, v2]
    exact ⟨v, σ1, τ1, v1, rfl, v4, Or.inr (Or.inr ⟨trivial, trivial, v3⟩)⟩
  · right
    refine ⟨i, r, m, A, B, hi, rfl, hr, rfl, w1, w2, w3, w4, ?_, trivial, trivial, w6⟩
    rw [show (31 : Int32) = nI 31 from rfl, w5]
    rfl
theorem sim_shifts {σ τ : rf_S} (h : Sim σ τ) (x y : Int32) : Both (f_X9_shifts x y σ) (f_X10_shifts x y τ) := by
  obtain ⟨t, hσ, hτ⟩ := Sim_town h
  have hM := t_M (c_t hσ)
  unfold f_X9_shifts f_X10_shifts
  rcases days_cases h hσ hτ x y with ⟨v, σ1, τ1, v1, v2, v3, ⟨w1, w2, w3⟩ | ⟨w1, w2, w3, w4⟩ | ⟨w1, w2, w3⟩⟩ | ⟨i, r, m, A, B, hi, rfl, hr, rfl, hm, a1, a2, a3, a4, a5, a6, a7⟩
  · subst w2
    subst w3
    rw [v2, w1]
    exact ⟨_, _, _, rfl, rfl, v3⟩
  · subst w3
    subst w4
    rw [v2, w1, w2]
    exact ⟨_, _, _, rfl, rfl, v3⟩
  · rw [v2, w1, w2, w3]
    simp only [Option.bind_some]
    rw [if_neg n10, if_pos n10, if_neg v1, if_neg v1]
    exact ⟨_, _, _, rfl, rfl, v3⟩
  · have hb := t_i (c_t hσ) hi
    rw [a4, a5, a6, a7]
    simp only [Option.bind_some, if_true]
    rw [if_neg n10, if_pos n10]
    have hf : ∀ k : Nat, k < 11 → -80 ≤ fIs t i (tK t i) ((k : Int) - 5) ∧ fIs t i (tK t i) ((k : Int) - 5) ≤ 80 := fun k hk => fIs_in (c_t hσ) hi (by omega) (by omega)
    have g1 : rf_lp (f_X9_shifts_b20 (nI i) (nI r) σ) 5000 (0, (-5)) = some (bs 11 (fun k => agr (wdAs t i (tK t i) ((k : Int) - 5)) A B m)) := by
      have e0 : ((0 : Int32), (-5 : Int32)) = (bs 0 (fun k => agr (wdAs t i (tK t i) ((k : Int) - 5)) A B m), iI (((0 : Nat) : Int) - 5)) := Prod.ext rfl (show (-5 : Int32) = iI (((0 : Nat) : Int) - 5) by decide)
      rw [e0]
      refine lp_for (N := 5000) (fun k => (bs k (fun k => agr (wdAs t i (tK t i) ((k : Int) - 5)) A B m), iI ((k : Int) - 5))) 11 (fun k hk => ?_) ?_ (by omega)
      · show f_X9_shifts_b20 (nI i) (nI r) σ (bs k (fun k => agr (wdAs t i (tK t i) ((k : Int) - 5)) A B m), iI ((k : Int) - 5)) = some (.inl (bs (k + 1) (fun k => agr (wdAs t i (tK t i) ((k : Int) - 5)) A B m), iI (((k + 1 : Nat) : Int) - 5)))
        have e5 : iI ((k : Int) - 5) + 5 = nI k := by
          rw [show (5 : Int32) = iI 5 from rfl, iI_add, ← iI_nat]
          exact congrArg iI (by omega)
        have e1 : iI ((k : Int) - 5) + 1 = iI (((k + 1 : Nat) : Int) - 5) := by
          rw [show (1 : Int32) = iI 1 from rfl, iI_add]
          exact congrArg iI (by omega)
        unfold f_X9_shifts_b20 f_X9_shifts_j67 f_X8_kindOf
        simp only
        rw [if_neg (show ¬ (5 : Int32) < iI ((k : Int) - 5) from fun q => by have := (iIs (f := 5) (by omega) (by omega) (g := (k : Int) - 5) (by omega) (by omega)).2.1.mp q; omega), ck0_29, if_pos (in_ok (by omega) (by decide)), nI_clamp (by omega), c_K hσ hi, Option.bind_some, wouldAs_ok hσ hi hb.1 (by omega) (by omega), Option.bind_some, agrees_ok hr hm a1 a3, Option.bind_some, b01, e5, e1]
        rw [bs]
        cases agr (wdAs t i (tK t i) ((k : Int) - 5)) A B m with
        | true => rw [if_pos rfl, if_pos rfl]
        | false => rw [if_neg (by decide), if_neg (by decide), or0]
      · show f_X9_shifts_b20 (nI i) (nI r) σ (_, iI 6) = _
        unfold f_X9_shifts_b20
        simp only
        rw [if_pos (show (5 : Int32) < iI 6 by decide)]
    have g2 : rf_lp (f_X10_shifts_b39 (nI i) (nI r) τ) 5000 (0, 0) = some (bs 11 (fun k => agr (wdAs t i (tK t i) ((k : Int) - 5)) A B m)) := by
      refine lp_bs 11 _ (by omega) ?_ ?_
      · intro k z hk
        have ev : nI (tG t i) + nI k - 5 = iI ((tG t i : Int) + ((k : Int) - 5)) := by
          rw [← iI_nat, ← iI_nat, show (5 : Int32) = iI 5 from rfl, iI_add, iI_sub]
          exact congrArg iI (by omega)
        have := hf k hk
        unfold fIs at this
        unfold f_X10_shifts_b39 f_X10_shifts_j87
        simp only
        rw [if_neg (show ¬ (11 : Int32) ≤ nI k from nI_ge hk (by decide)), ck1_9, if_pos (in_ok (by omega) (by decide)), ck1_10, if_pos (in_ok (by omega) (by decide)), ck1_11, if_pos (in_ok (by omega) (by decide)), nI_clamp (by omega), m_K hτ hi, m_G hτ hi, m_W hτ hi, ev, isBy_ok hτ hr hm a2 (h.2.1 r hr).2.2 a3 hb.1 (by omega) this.1 this.2, Option.bind_some, b01, nI_1]
        show (if agr (wdAs t i (tK t i) ((k : Int) - 5)) A B m = true then _ else _) = _
        cases agr (wdAs t i (tK t i) ((k : Int) - 5)) A B m <;> rfl
      · intro z
        unfold f_X10_shifts_b39
        simp only
        rw [if_pos (show (11 : Int32) ≤ nI 11 by decide)]
    rw [g1, g2]
    exact ⟨_, _, _, rfl, rfl, h⟩
theorem sim_kinds {σ τ : rf_S} (h : Sim σ τ) (x y : Int32) : Both (f_X9_kinds x y σ) (f_X10_kinds x y τ) := by
  obtain ⟨t, hσ, hτ⟩ := Sim_town h
  have hM := t_M (c_t hσ)
  unfold f_X9_kinds f_X10_kinds
  rcases days_cases h hσ hτ x y with ⟨v, σ1, τ1, v1, v2, v3, ⟨w1, w2, w3⟩ | ⟨w1, w2, w3, w4⟩ | ⟨w1, w2, w3⟩⟩ | ⟨i, r, m, A, B, hi, rfl, hr, rfl, hm, a1, a2, a3, a4, a5, a6, a7⟩
  · subst w2
    subst w3
    rw [v2, w1]
    exact ⟨_, _, _, rfl, rfl, v3⟩
  · subst w3
    subst w4
    rw [v2, w1, w2]
    exact ⟨_, _, _, rfl, rfl, v3⟩
  · rw [v2, w1, w2, w3]
    simp only [Option.bind_some]
    rw [if_neg n10, if_pos n10, if_neg v1, if_neg v1]
    exact ⟨_, _, _, rfl, rfl, v3⟩
  · have hb := t_i (c_t hσ) hi
    rw [a4, a5, a6, a7]
    simp only [Option.bind_some, if_true]
    rw [if_neg n10, if_pos n10]
    have g1 : rf_lp (f_X9_kinds_b19 (nI i) (nI r) σ) 5000 (0, 0) = some (bs 6 (fun k => agr (wdAs t i k (tV t i)) A B m)) := by
      refine lp_bs 6 _ (by omega) ?_ ?_
      · intro k z hk
        unfold f_X9_kinds_b19 f_X9_kinds_j65
        simp only
        rw [if_neg (show ¬ (5 : Int32) < nI k from fun q => by have := (lt_nI (a := 5) (b := k) (by decide) (by omega)).mp q; omega), ck0_36, if_pos (in_ok (by omega) (by decide)), nI_clamp (by omega), c_V hσ hi, wouldAs_ok hσ hi hk hb.2.2.2.2.2.1 hb.2.2.2.2.2.2, Option.bind_some, agrees_ok hr hm a1 a3, Option.bind_some, b01, nI_1]
        cases agr (wdAs t i k (tV t i)) A B m with
        | true => rw [if_pos rfl, if_pos rfl]
        | false => rw [if_neg (by decide), if_neg (by decide), or0]
      · intro z
        unfold f_X9_kinds_b19
        simp only
        rw [if_pos (show (5 : Int32) < nI 6 by decide)]
    have g2 : rf_lp (f_X10_kinds_b39 (nI i) (nI r) τ) 5000 (0, 0) = some (bs 6 (fun k => agr (wdAs t i k (tV t i)) A B m)) := by
      refine lp_bs 6 _ (by omega) ?_ ?_
      · intro k z hk
        have := fIs_in (c_t hσ) hi (k := k) hb.2.2.2.2.2.1 hb.2.2.2.2.2.2
        unfold fIs at this
        unfold f_X10_kinds_b39 f_X10_kinds_j88
        simp only
        rw [if_neg (show ¬ (6 : Int32) ≤ nI k from nI_ge hk (by decide)), ck1_10, if_pos (in_ok (by omega) (by decide)), i16', ck1_12, if_pos (in_ok (by omega) (by decide)), ck1_11, if_pos (in_ok (by omega) (by decide)), nI_clamp (by omega), nI_clamp (by omega), m_G hτ hi, m_V hτ hi, m_W hτ hi, ← iI_nat (tG t i), iI_add, isBy_ok hτ hr hm a2 (h.2.1 r hr).2.2 a3 hk (by omega) this.1 this.2, Option.bind_some, b01, nI_1]
        show (if agr (wdAs t i k (tV t i)) A B m = true then _ else _) = _
        cases agr (wdAs t i k (tV t i)) A B m <;> rfl
      · intro z
        unfold f_X10_kinds_b39
        simp only
        rw [if_pos (show (6 : Int32) ≤ nI 6 by decide)]
    rw [g1, g2]
    exact ⟨_, _, _, rfl, rfl, h⟩
