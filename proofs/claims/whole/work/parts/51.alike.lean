/-! ===== alike, box ===== -/
theorem bs_inj {n : Nat} (hn : n ≤ 32) {p q : Nat → Bool} : bs n p = bs n q ↔ ∀ i, i < n → p i = q i := by
  constructor
  · intro h i hi
    have h1 := b_bs p hn (i := i) (by omega)
    have h2 := b_bs q hn (i := i) (by omega)
    rw [h, h2] at h1
    simpa [hi] using h1.symm
  · exact bs_congr
def dAt (t : TT) (s : Int32) (d i : Nat) : Bool := bt s i && ds t i d
theorem doingAt_ok {τ : rf_S} {t : TT} (h : MT τ 12 t) (s : Int32) {d : Nat} (hd : d ≤ 30) : f_X10_doingAt s (nI d) τ = some (bs (tM t) (dAt t s d)) := by
  have hM := t_M (m_t h)
  unfold f_X10_doingAt
  rw [lp_bs (tM t) (dAt t s d) (by omega) ?_ ?_]
  · rfl
  · intro i x hi
    unfold f_X10_doingAt_b5 f_X10_doingAt_j45 f_X10_doingAt_j46 dAt
    simp only
    rw [m_M h, if_neg (nI_ge hi (by omega)), has_ok _ (by omega), Option.bind_some, b01, doesAt_ok h hi hd, Option.bind_some, b01, nI_1]
    cases bt s i <;> cases ds t i d <;> rfl
  · intro x
    unfold f_X10_doingAt_b5
    simp only
    rw [m_M h, if_pos (nI_le (Nat.le_refl _) (by omega))]
theorem span_iff (t : TT) (hM : tM t ≤ 6) (s : Int32) (g d : Nat) : bs (tM t) (dAt t s d) = bs (tM t) (dAt t s g) ↔ spanP t s g d = true := by
  rw [bs_inj (by omega)]
  unfold spanP dAt
  rw [allB_iff]
  constructor
  · intro h i hi
    have := h i hi
    cases e1 : bt s i <;> cases e2 : ds t i d <;> cases e3 : ds t i g <;> simp_all
  · intro h i hi
    have := h i hi
    cases e1 : bt s i <;> cases e2 : ds t i d <;> cases e3 : ds t i g <;> simp_all
theorem alikeBy_ok {τ : rf_S} {t : TT} (h : MT τ 12 t) (s : Int32) {g : Nat} (hg : g ≤ 30) : f_X10_alikeBy s (nI g) τ = some (bs 31 (spanP t s g)) := by
  have hM := t_M (m_t h)
  unfold f_X10_alikeBy
  rw [lp_bs 31 (spanP t s g) (by omega) ?_ ?_]
  · rfl
  · intro d x hd
    unfold f_X10_alikeBy_b5 f_X10_alikeBy_j37
    simp only
    rw [if_neg (show ¬ (31 : Int32) ≤ nI d from nI_ge hd (by decide)), doingAt_ok h s (by omega), doingAt_ok h s hg, Option.bind_some, Option.bind_some, nI_1]
    by_cases e : spanP t s g d = true
    · rw [if_neg (show ¬ bs (tM t) (dAt t s d) ≠ bs (tM t) (dAt t s g) from fun q => q ((span_iff t hM s g d).mpr e)), if_pos e]
    · rw [if_pos (show bs (tM t) (dAt t s d) ≠ bs (tM t) (dAt t s g) from fun q => e ((span_iff t hM s g d).mp q)), if_neg e]
  · intro x
    unfold f_X10_alikeBy_b5
    simp only
    rw [if_pos (show (31 : Int32) ≤ nI 31 by decide)]
theorem sim_alike {σ τ : rf_S} (h : Sim σ τ) (x : Int32) : ∃ v, f_X9_alike x σ = some v ∧ f_X10_alike x τ = some v := by
  obtain ⟨t, hσ, hτ⟩ := Sim_town h
  have hM := t_M (c_t hσ)
  unfold f_X9_alike f_X10_alike f_X10_in f_X9_isDegree
  by_cases e1 : x < 0
  · rw [if_pos e1]
    exact ⟨_, rfl, rfl⟩
  rw [if_neg e1]
  by_cases e2 : 30 < x
  · rw [if_pos e2]
    exact ⟨_, rfl, rfl⟩
  rw [if_neg e2]
  obtain ⟨g, hg, rfl⟩ := nI_of2 (M := 30) (n := 30) rfl e1 (Int32.not_lt.mp e2)
  simp only [Option.bind_some]
  unfold f_X8_isEmpty f_X8_everybody
  rw [if_pos n10, if_pos n10, c_M hσ, m_M hτ]
  by_cases eM : tM t = 0
  · rw [eM, if_neg (show ¬ nI 0 ≠ 0 from fun q => q rfl), if_neg (show ¬ nI 0 ≠ 0 from fun q => q rfl)]
    exact ⟨_, rfl, rfl⟩
  rw [if_pos (show nI (tM t) ≠ 0 from nI_ne0 (by omega) (by omega)), if_pos (show nI (tM t) ≠ 0 from nI_ne0 (by omega) (by omega))]
  simp only [Option.bind_some, if_true]
  rw [spanAt_ok hσ _ hg, alikeBy_ok hτ _ hg]
  exact ⟨_, rfl, rfl⟩
theorem pop_le : ∀ m, m < 7 → ∀ j, j < 2 ^ m → cnt 31 (bt (nI j)) ≤ m := by decide +kernel
theorem pop_ex : ∀ m, m < 7 → cnt 31 (bt (nI (2 ^ m - 1))) = m := by decide +kernel
theorem sim_box {σ τ : rf_S} (h : Sim σ τ) (x y : Int32) : Both (f_X9_box x y σ) (f_X10_box x y τ) := by
  obtain ⟨t, hσ, hτ⟩ := Sim_town h
  have hM := t_M (c_t hσ)
  have hR := t_R (c_t hσ)
  unfold f_X9_box f_X10_box
  rcases room_cases hσ hτ x with ⟨h1, h2⟩ | ⟨r, hr, rfl, h1, h2⟩
  · rw [h1, h2]
    exact Both_same h
  rw [h1, h2]
  simp only [Option.bind_some]
  rw [if_neg n10, if_neg n10]
  unfold f_X10_in
  by_cases e1 : y < 0
  · rw [if_pos e1, if_pos e1]
    exact Both_same h
  rw [if_neg e1, if_neg e1]
  by_cases e2 : 6 < y
  · rw [if_pos e2, if_neg (Int32.not_le.mpr e2)]
    exact Both_same h
  rw [if_neg e2, if_pos (Int32.not_lt.mp e2)]
  simp only [Option.bind_some]
  obtain ⟨n, hn, rfl⟩ := nI_of2 (M := 6) (n := 6) rfl e1 (Int32.not_lt.mp e2)
  unfold f_X8_members
  rw [if_pos n10, c_M hσ, Option.bind_some]
  have hp := pow6 (tM t) (by omega)
  have hq := p2 (tM t) (by omega)
  have hD := (t_r (c_t hσ) hr).2.2
  obtain ⟨F, hF⟩ : ∃ F : Nat → Nat, F = fun k => cnt 31 (spanP t (nI k) (tD t r)) := ⟨_, rfl⟩
  have hFl : ∀ k, F k ≤ 31 := fun k => by rw [hF]; exact cnt_le 31 _
  have bM : ∀ (k : Nat) (b f : Int32), k < 2 ^ tM t → f_X10_box_b29 (nI r) (nI n) τ (b, f, nI k) = some (.inl (if cnt 31 (bt (nI k)) = n then (if f ≤ nI (F k) then (b, f, nI (k + 1)) else (nI k, nI (F k), nI (k + 1))) else (b, f, nI (k + 1)))) := by
    intro k b f hk
    have c1 := cnt_le 31 (bt (nI k))
    unfold f_X10_box_b29 f_X10_box_j83 f_X10_box_j98 f_X10_box_j100
    simp only
    rw [m_M hτ, hq.2, if_neg (nI_ge hk (by omega)), bits_ok, Option.bind_some, ck1_12, if_pos (in_ok (by omega) (by decide)), nI_clamp (by omega), m_D hτ hr, spanOf_ok hτ _ hD, Option.bind_some, mb_bs _ (by decide), Option.bind_some, nI_1]
    by_cases e : cnt 31 (bt (nI k)) = n
    · rw [if_neg (nneI e), if_pos e, hF]
      by_cases e3 : f ≤ nI (cnt 31 (spanP t (nI k) (tD t r)))
      · rw [if_pos e3, if_pos e3, if_pos e3]
      · rw [if_neg e3, if_neg e3, if_neg e3]
    · rw [if_pos (neI (by omega) (by omega) e), if_neg e]
  have bMe : ∀ b f : Int32, f_X10_box_b29 (nI r) (nI n) τ (b, f, nI (2 ^ tM t)) = some (.inr (b, f)) := by
    intro b f
    unfold f_X10_box_b29
    simp only
    rw [m_M hτ, hq.2, if_pos (nI_le (Nat.le_refl _) (by omega))]
  have bC : ∀ (k : Nat) (b f : Int32), k < 2 ^ tM t → f_X9_box_b43 (nI r) (nI n) σ (b, f, nI k) = some (.inl (if cnt 31 (bt (nI k)) = n then (if f ≤ nI (F k) then (b, f, nI (k + 1)) else (nI k, nI (F k), nI (k + 1))) else (b, f, nI (k + 1)))) := by
    intro k b f hk
    have c1 := cnt_le 31 (bt (nI k))
    unfold f_X9_box_b43 f_X9_box_j93 f_X8_everybody
    simp only [Option.bind_some]
    rw [c_M hσ, hq.1, if_neg (show ¬ nI (2 ^ tM t - 1) < nI k from nI_nlt (by omega) (by omega)), bitCount_ok, bcN (by omega), Option.bind_some, spanIn_ok hσ _ hr, Option.bind_some, bc_bs _ (by decide), Option.bind_some, nI_1]
    by_cases e : cnt 31 (bt (nI k)) = n
    · rw [if_neg (nneI e), if_pos e, hF]
      by_cases e3 : f ≤ nI (cnt 31 (spanP t (nI k) (tD t r)))
      · rw [if_pos e3, if_pos e3]
      · rw [if_neg e3, if_neg e3]
    · rw [if_pos (neI (by omega) (by omega) e), if_neg e]
  have bCe : ∀ b f : Int32, f_X9_box_b43 (nI r) (nI n) σ (b, f, nI (2 ^ tM t)) = some (.inr (b, f)) := by
    intro b f
    unfold f_X9_box_b43 f_X8_everybody
    simp only [Option.bind_some]
    rw [c_M hσ, hq.1, if_pos (show nI (2 ^ tM t - 1) < nI (2 ^ tM t) from nI_lt (by omega) (by omega))]
  by_cases e3 : n ≤ tM t
  · rw [if_pos (nI_le e3 (by omega))]
    obtain ⟨e, e', g1, g2, g3⟩ := lp_both (b := f_X9_box_b43 (nI r) (nI n) σ) (b' := f_X10_box_b29 (nI r) (nI n) τ) (fun k s s' => (s = (0, 32, nI k) ∧ s' = (-1, 99, nI k) ∧ ∀ j, j < k → cnt 31 (bt (nI j)) ≠ n) ∨ ∃ j v, j < 64 ∧ s = (nI j, nI v, nI k) ∧ s' = (nI j, nI v, nI k)) (2 ^ tM t) (K := fun e e' => ∃ j v, j < 64 ∧ e = (nI j, nI v) ∧ e' = (nI j, nI v)) (N := 5000) (fun k s s' hk hI => by
        rcases hI with ⟨rfl, rfl, i3⟩ | ⟨j, v, hj, rfl, rfl⟩
        · rw [bC k _ _ hk, bM k _ _ hk]
          by_cases e : cnt 31 (bt (nI k)) = n
          · have f1 := hFl k
            rw [if_pos e, if_pos e, if_neg (show ¬ (32 : Int32) ≤ nI (F k) from nI_ge (b := 32) (by omega) (by omega)), if_neg (show ¬ (99 : Int32) ≤ nI (F k) from nI_ge (b := 99) (by omega) (by omega))]
            exact ⟨_, _, rfl, rfl, Or.inr ⟨k, F k, by omega, rfl, rfl⟩⟩
          · rw [if_neg e, if_neg e]
            refine ⟨_, _, rfl, rfl, Or.inl ⟨rfl, rfl, fun j hj => ?_⟩⟩
            by_cases ej : j = k
            · rw [ej]
              exact e
            · exact i3 j (by omega)
        · rw [bC k _ _ hk, bM k _ _ hk]
          refine ⟨_, _, rfl, rfl, Or.inr ?_⟩
          by_cases e : cnt 31 (bt (nI k)) = n
          · rw [if_pos e]
            by_cases e5 : nI v ≤ nI (F k)
            · rw [if_pos e5]
              exact ⟨j, v, hj, rfl, rfl⟩
            · rw [if_neg e5]
              exact ⟨k, F k, by omega, rfl, rfl⟩
          · rw [if_neg e]
            exact ⟨j, v, hj, rfl, rfl⟩) (fun s s' hI => by
        rcases hI with ⟨rfl, rfl, i3⟩ | ⟨j, v, hj, rfl, rfl⟩
        · have p1 : 2 ^ n ≤ 2 ^ tM t := Nat.pow_le_pow_right (by omega) e3
          have p3 := pow6 n (by omega)
          exact absurd (pop_ex n (by omega)) (i3 (2 ^ n - 1) (by omega))
        · exact ⟨_, _, bCe _ _, bMe _ _, j, v, hj, rfl, rfl⟩) (by omega) (s := ((0 : Int32), (32 : Int32), (0 : Int32))) (s' := ((-1 : Int32), (99 : Int32), (0 : Int32))) (Or.inl ⟨rfl, rfl, fun j hj => absurd hj (by omega)⟩)
    obtain ⟨j, v, hj, rfl, rfl⟩ := g3
    rw [g1, g2, Option.bind_some, Option.bind_some]
    simp only
    rw [if_pos (nI_pos' (by omega)), tells_ok, Option.bind_some]
    exact ⟨_, _, _, rfl, rfl, Sim_told _ h⟩
  · rw [if_neg (show ¬ nI n ≤ nI (tM t) from nI_ge (by omega) (by omega))]
    have g2 : rf_lp (f_X10_box_b29 (nI r) (nI n) τ) 5000 (-1, 99, 0) = some (-1, 99) := by
      refine lp_for (fun k => ((-1 : Int32), (99 : Int32), nI k)) (2 ^ tM t) (fun k hk => ?_) (bMe _ _) (by omega)
      show f_X10_box_b29 (nI r) (nI n) τ (-1, 99, nI k) = _
      have := pop_le (tM t) (by omega) k hk
      rw [bM k _ _ hk, if_neg (by omega)]
    rw [g2, Option.bind_some]
    simp only
    rw [if_neg (by decide)]
    exact Both_same h
