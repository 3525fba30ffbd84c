/-! ===== fewest ===== -/
def pb (k : Nat) : Nat := cnt 31 (bt (nI k))
theorem pb_full : ∀ m, m < 7 → ∀ j, j < 2 ^ m → pb j = m → j = 2 ^ m - 1 := by decide +kernel
theorem pb_max : ∀ m, m < 7 → pb (2 ^ m - 1) = m ∧ ∀ j, j < 2 ^ m → pb j ≤ m := by decide +kernel
/-- better: fewer, or as many and not behind -/
def btr (a b : Nat) : Prop := pb a < pb b ∨ (pb a = pb b ∧ a ≤ b)
def okS (t : TT) (k : Nat) : Bool := decide (cnt 31 (Pn (cdf t (nI k))) = cnt 31 (Pn (cdf t (nI (2 ^ tM t - 1)))))
theorem btr_inj {a b : Nat} (h : btr a b) (g : btr b a) : a = b := by
  unfold btr at *
  omega
theorem cfew_ok {σ : rf_S} {t : TT} (h : CT σ t) (hL : ∀ d, d < 31 → σ.1 51 d = bs (tM t) (fun j => ds t j d)) : ∃ b σ', rf_lp (f_X9_fewest_b49 (nI (cnt 31 (Pn (cdf t (nI (2 ^ tM t - 1))))))) 5000 (nI (2 ^ tM t - 1), 0, σ) = some (nI b, σ') ∧ b < 2 ^ tM t ∧ okS t b = true ∧ (∀ j, j < 2 ^ tM t → okS t j = true → btr b j) ∧ fr [50, 52] σ σ' := by
  have hM := t_M (c_t h)
  have hp := pow6 (tM t) (by omega)
  have hq := p2 (tM t) (by omega)
  obtain ⟨e, l1, b, l2, l3, l4, l5, l6⟩ := lp_inv (b := f_X9_fewest_b49 (nI (cnt 31 (Pn (cdf t (nI (2 ^ tM t - 1))))))) (fun k st => ∃ b, st.1 = nI b ∧ st.2.1 = nI k ∧ b < 2 ^ tM t ∧ okS t b = true ∧ (∀ j, j < k → okS t j = true → btr b j) ∧ (b = 2 ^ tM t - 1 ∨ b < k) ∧ fr [50, 52] σ st.2.2) (2 ^ tM t) (K := fun e => ∃ b, e.1 = nI b ∧ b < 2 ^ tM t ∧ okS t b = true ∧ (∀ j, j < 2 ^ tM t → okS t j = true → btr b j) ∧ fr [50, 52] σ e.2) (N := 5000) (fun k st hk hI => by
      obtain ⟨x, y, ρ⟩ := st
      obtain ⟨b, i1, i2, i3, i4', i5, i6, i7⟩ := hI
      simp only at i1 i2 i7
      subst i1 i2
      have hC : CT ρ t := CT_fr h (fun c hc => i7.1 c (by simp only [List.mem_cons, List.not_mem_nil, or_false]; omega))
      by_cases e : k = 2 ^ tM t
      · right
        subst e
        refine ⟨(nI b, ρ), ?_, b, rfl, i3, i4', i5, i7⟩
        unfold f_X9_fewest_b49 f_X8_everybody
        simp only [Option.bind_some]
        rw [c_M hC, hq.1, if_pos (nI_lt (by omega) (by omega))]
      · left
        have hk' : k < 2 ^ tM t := by omega
        have q1 : pb k ≤ 31 := cnt_le _ _
        have q2 : pb b ≤ 31 := cnt_le _ _
        obtain ⟨ρ', c1, -, c3⟩ := cparts_ok (σ := ρ) hM (fun d hd => by rw [i7.1 51 (by decide)]; exact hL d hd) (nI k)
        have body : f_X9_fewest_b49 (nI (cnt 31 (Pn (cdf t (nI (2 ^ tM t - 1)))))) (nI b, nI k, ρ) = if pb b ≤ pb k then some (.inl (nI b, nI (k + 1), ρ)) else if okS t k = true then some (.inl (nI k, nI (k + 1), ρ')) else some (.inl (nI b, nI (k + 1), ρ')) := by
          have r1 : cnt 31 (Pn (cdf t (nI k))) ≤ 31 := cnt_le _ _
          have r2 : cnt 31 (Pn (cdf t (nI (2 ^ tM t - 1)))) ≤ 31 := cnt_le _ _
          unfold f_X9_fewest_b49 f_X8_everybody f_X9_fewest_j85
          simp only [Option.bind_some]
          rw [c_M hC, hq.1, if_neg (nI_nlt (by omega) (by omega)), bitCount_ok, bitCount_ok, bcN (by omega), bcN (by omega), Option.bind_some, Option.bind_some, c1, Option.bind_some, nI_1]
          simp only
          by_cases z : pb b ≤ pb k
          · rw [if_pos z]
            exact if_pos (nI_le z (by omega))
          · rw [if_neg z]
            have z' : ¬ nI (cnt 31 (bt (nI b))) ≤ nI (cnt 31 (bt (nI k))) := nI_ge (show pb k < pb b by omega) (show pb b < 2 ^ 31 by omega)
            rw [if_neg z']
            unfold okS
            by_cases w : cnt 31 (Pn (cdf t (nI k))) = cnt 31 (Pn (cdf t (nI (2 ^ tM t - 1))))
            · rw [if_neg (nneI w), if_pos (decide_eq_true w)]
            · rw [if_pos (neI (by omega) (by omega) w), if_neg (by simp [w])]
        rw [body]
        by_cases z : pb b ≤ pb k
        · rw [if_pos z]
          refine ⟨_, hk', rfl, b, rfl, rfl, i3, i4', fun j hj oj => ?_, by omega, i7⟩
          by_cases ej : j = k
          · subst ej
            unfold btr
            rcases i6 with r | r
            · have f1 := pb_max (tM t) (by omega)
              rw [r, f1.1] at z ⊢
              have f2 := f1.2 j hk'
              have f3 := pb_full (tM t) (by omega) j hk' (by omega)
              omega
            · omega
          · exact i5 j (by omega) oj
        · rw [if_neg z]
          by_cases w : okS t k = true
          · rw [if_pos w]
            refine ⟨_, hk', rfl, k, rfl, rfl, hk', w, fun j hj oj => ?_, by omega, fr_trans i7 c3⟩
            by_cases ej : j = k
            · subst ej
              exact Or.inr ⟨rfl, Nat.le_refl _⟩
            · have := i5 j (by omega) oj
              unfold btr at *
              omega
          · rw [if_neg w]
            refine ⟨_, hk', rfl, b, rfl, rfl, i3, i4', fun j hj oj => ?_, by omega, fr_trans i7 c3⟩
            by_cases ej : j = k
            · rw [ej] at oj
              exact absurd oj w
            · exact i5 j (by omega) oj) (by omega) (s := (nI (2 ^ tM t - 1), (0 : Int32), σ)) ⟨2 ^ tM t - 1, rfl, rfl, by omega, by unfold okS; exact decide_eq_true rfl, fun j hj => absurd hj (by omega), Or.inl rfl, fr_refl σ⟩
  obtain ⟨ea, eb⟩ := e
  simp only at l2 l6
  refine ⟨b, eb, ?_, l3, l4, l5, l6⟩
  rw [l1, l2]
theorem mfew_ok {τ : rf_S} {t : TT} (h : MT τ 12 t) : ∃ b, rf_lp (f_X10_fewest_b37 (nI (cnt 31 (Pn (cdf t (nI (2 ^ tM t - 1)))))) τ) 5000 (nI (2 ^ tM t - 1), nI (2 ^ tM t - 1)) = some (nI b) ∧ b < 2 ^ tM t ∧ okS t b = true ∧ ∀ j, j < 2 ^ tM t → okS t j = true → btr b j := by
  have hM := t_M (m_t h)
  have hp := pow6 (tM t) (by omega)
  obtain ⟨e, l1, b, l2, l3, l4, l5⟩ := lp_inv (b := f_X10_fewest_b37 (nI (cnt 31 (Pn (cdf t (nI (2 ^ tM t - 1)))))) τ) (fun k st => ∃ b, st.1 = nI b ∧ st.2 = iI ((2 ^ tM t : Nat) - 1 - (k : Int)) ∧ b < 2 ^ tM t ∧ okS t b = true ∧ (∀ j, j < 2 ^ tM t → 2 ^ tM t - 1 < j + k → okS t j = true → btr b j) ∧ (b = 2 ^ tM t - 1 ∨ 2 ^ tM t - 1 < b + k)) (2 ^ tM t) (K := fun e => ∃ b, e = nI b ∧ b < 2 ^ tM t ∧ okS t b = true ∧ ∀ j, j < 2 ^ tM t → okS t j = true → btr b j) (N := 5000) (fun k st hk hI => by
      obtain ⟨x, y⟩ := st
      obtain ⟨b, i1, i2, i3, i4', i5, i6⟩ := hI
      simp only at i1 i2
      subst i1 i2
      by_cases e : k = 2 ^ tM t
      · right
        refine ⟨nI b, ?_, b, rfl, i3, i4', fun j hj oj => i5 j hj (by omega) oj⟩
        unfold f_X10_fewest_b37
        simp only
        rw [if_pos]
        rw [show (0 : Int32) = iI 0 from rfl, iI_lt (by omega) (by omega) (by omega) (by omega)]
        omega
      · left
        obtain ⟨s, hs⟩ : ∃ s : Nat, s = 2 ^ tM t - 1 - k := ⟨_, rfl⟩
        have es : iI ((2 ^ tM t : Nat) - 1 - (k : Int)) = nI s := by
          rw [← iI_nat]
          exact congrArg iI (by omega)
        have es2 : nI s + (-1) = iI ((2 ^ tM t : Nat) - 1 - ((k + 1 : Nat) : Int)) := by
          rw [← iI_nat, show (-1 : Int32) = iI (-1) by decide, iI_add]
          exact congrArg iI (by omega)
        have hs' : s < 2 ^ tM t := by omega
        have q1 : pb s ≤ 31 := cnt_le _ _
        have q2 : pb b ≤ 31 := cnt_le _ _
        have g1 : Gm (cdf t (nI s)) 31 ≤ 31 := by rw [← G_eq]; exact Gc_le _ _
        have r1 : cnt 31 (Pn (cdf t (nI s))) ≤ 31 := cnt_le _ _
        have r2 : cnt 31 (Pn (cdf t (nI (2 ^ tM t - 1)))) ≤ 31 := cnt_le _ _
        obtain ⟨v1, v2⟩ := div100 (g := Gm (cdf t (nI s)) 31) (n := cnt 31 (Pn (cdf t (nI s)))) (by omega) (by omega)
        rw [es]
        have body : f_X10_fewest_b37 (nI (cnt 31 (Pn (cdf t (nI (2 ^ tM t - 1)))))) τ (nI b, nI s) = if pb b < pb s then some (.inl (nI b, iI ((2 ^ tM t : Nat) - 1 - ((k + 1 : Nat) : Int)))) else if okS t s = true then some (.inl (nI s, iI ((2 ^ tM t : Nat) - 1 - ((k + 1 : Nat) : Int)))) else some (.inl (nI b, iI ((2 ^ tM t : Nat) - 1 - ((k + 1 : Nat) : Int)))) := by
          unfold f_X10_fewest_b37 f_X10_fewest_j68 f_X10_fewest_j69
          simp only
          rw [if_neg (nI_pos (by omega)), bits_ok, bits_ok, Option.bind_some, Option.bind_some, mpartsBy_ok h, Option.bind_some, v1, v2, es2]
          by_cases z : pb b < pb s
          · rw [if_pos z]
            exact if_pos (nI_lt z (by omega))
          · rw [if_neg z]
            have z' : ¬ nI (cnt 31 (bt (nI b))) < nI (cnt 31 (bt (nI s))) := nI_nlt (show pb s ≤ pb b by omega) (show pb b < 2 ^ 31 by omega)
            rw [if_neg z']
            unfold okS
            by_cases w : cnt 31 (Pn (cdf t (nI s))) = cnt 31 (Pn (cdf t (nI (2 ^ tM t - 1))))
            · rw [if_neg (nneI w), if_pos (decide_eq_true w)]
            · rw [if_pos (neI (by omega) (by omega) w), if_neg (by simp [w])]
        rw [body]
        by_cases z : pb b < pb s
        · rw [if_pos z]
          refine ⟨_, by omega, rfl, b, rfl, rfl, i3, i4', fun j hj hjk oj => ?_, by omega⟩
          by_cases ej : j = s
          · subst ej
            exact Or.inl z
          · exact i5 j hj (by omega) oj
        · rw [if_neg z]
          by_cases w : okS t s = true
          · rw [if_pos w]
            refine ⟨_, by omega, rfl, s, rfl, rfl, hs', w, fun j hj hjk oj => ?_, by omega⟩
            by_cases ej : j = s
            · subst ej
              exact Or.inr ⟨rfl, Nat.le_refl _⟩
            · have := i5 j hj (by omega) oj
              unfold btr at *
              omega
          · rw [if_neg w]
            refine ⟨_, by omega, rfl, b, rfl, rfl, i3, i4', fun j hj hjk oj => ?_, by omega⟩
            by_cases ej : j = s
            · rw [ej] at oj
              exact absurd oj w
            · exact i5 j hj (by omega) oj) (by omega) (s := (nI (2 ^ tM t - 1), nI (2 ^ tM t - 1))) ⟨2 ^ tM t - 1, rfl, by
          simp only
          rw [← iI_nat]
          exact congrArg iI (by omega), by omega, by unfold okS; exact decide_eq_true rfl, fun j hj hjk => absurd hjk (by omega), Or.inl rfl⟩
  exact ⟨b, by rw [l1, l2], l3, l4, l5⟩
theorem sim_fewest {σ τ : rf_S} (h : Sim σ τ) : Both (f_X9_fewest σ) (f_X10_fewest τ) := by
  obtain ⟨t, hσ, hτ⟩ := Sim_town h
  have hM := t_M (c_t hσ)
  have hp := pow6 (tM t) (by omega)
  have hq := p2 (tM t) (by omega)
  unfold f_X9_fewest f_X10_fewest f_X8_isEmpty f_X8_everybody
  rw [c_M hσ, m_M hτ]
  by_cases eM : tM t = 0
  · rw [eM, if_neg (show ¬ nI 0 ≠ 0 from fun q => q rfl), if_neg (show ¬ nI 0 ≠ 0 from fun q => q rfl)]
    exact Both_same h
  rw [if_pos (show nI (tM t) ≠ 0 from nI_ne0 (by omega) (by omega)), if_pos (show nI (tM t) ≠ 0 from nI_ne0 (by omega) (by omega))]
  simp only [Option.bind_some, if_true]
  obtain ⟨σ1, a1, a2, a3⟩ := look_ok hσ
  obtain ⟨σ2, b1, b2, b3⟩ := cparts_ok (σ := σ1) hM a2 (nI (2 ^ tM t - 1))
  have hC2 : CT σ2 t := CT_fr hσ (fun c hc => by rw [b3.1 c (by simp only [List.mem_cons, List.not_mem_nil, or_false]; omega), a3.1 c (by simp only [List.mem_cons, List.not_mem_nil, or_false]; omega)])
  have g1 : Gm (cdf t (nI (2 ^ tM t - 1))) 31 ≤ 31 := by rw [← G_eq]; exact Gc_le _ _
  have g2 : cnt 31 (Pn (cdf t (nI (2 ^ tM t - 1)))) ≤ 31 := cnt_le _ _
  obtain ⟨q1, q2⟩ := div100 (g := Gm (cdf t (nI (2 ^ tM t - 1))) 31) (n := cnt 31 (Pn (cdf t (nI (2 ^ tM t - 1))))) (by omega) (by omega)
  obtain ⟨b, σ3, c1, c2, c3, c4, c5⟩ := cfew_ok hC2 (fun d hd => by rw [b3.1 51 (by decide)]; exact a2 d hd)
  obtain ⟨b', d1, d2, d3, d4⟩ := mfew_ok hτ
  have hb : b' = b := btr_inj (d4 b c2 c3) (c4 b' d2 d3)
  subst hb
  have hC1 : σ1.1 26 7 = nI (tM t) := by rw [a3.1 26 (by decide)]; exact c_M hσ
  rw [a1, Option.bind_some, hC1, hq.1, b1, Option.bind_some]
  simp only
  rw [c_M hC2, hq.1, c1, mpartsBy_ok hτ, Option.bind_some, Option.bind_some, q1, q2, d1, Option.bind_some, tells_ok, Option.bind_some]
  simp only
  rw [bitCount_ok, bits_ok, bcN (by omega)]
  exact ⟨_, _, _, rfl, rfl, Sim_told _ (Sim_50 h (fr_trans (fr_mono a3 (by decide)) (fr_trans (fr_mono b3 (by decide)) (fr_mono c5 (by decide)))))⟩
