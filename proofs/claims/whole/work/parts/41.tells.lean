/-! ===== what is told of members and rooms ===== -/
theorem feltBy_ok {σ : rf_S} {t : TT} (h : CT σ t) {i : Nat} (hi : i < tM t) : f_X8_feltBy (nI i) σ = some (iI (fIs t i (tK t i) (tV t i))) := by
  have hM := t_M (c_t h)
  have hb := t_i (c_t h) hi
  have h8 := (c_t h).2.2.2.2.2.2
  unfold f_X8_feltBy f_X8_kindOf f_X8_markOf
  rw [ck0_29, if_pos (in_ok (by omega) (by decide)), nI_clamp (by omega), c_K h hi, Option.bind_some, ck0_30, if_pos (in_ok (by omega) (by decide)), c_G h hi, Option.bind_some, ck0_36, if_pos (in_ok (by omega) (by decide)), c_V h hi, c_S h, c_H h, ← iI_nat (tG t i), iI_add, feeling_ok _ hb.1 (by omega) (by omega)]
  rfl
theorem ofMember_ok {σ τ : rf_S} {t : TT} (hσ : CT σ t) (hτ : MT τ 12 t) {i : Nat} (hi : i < tM t) (w : Int32) : ∃ v, f_X9_ofMember (nI i) w σ = some v ∧ f_X10_memberTells (nI i) w τ = some v := by
  have hM := t_M (c_t hσ)
  unfold f_X9_ofMember f_X10_memberTells f_X8_kindOf f_X8_markOf f_X8_widthOf
  rw [ck0_29, ck0_30, ck0_31, ck0_34, ck0_35, ck0_36, i4, i10, i16', ck1_9, ck1_10, ck1_11, ck1_12, ck1_12, ck1_12]
  rw [if_pos (in_ok (n := 6) (by omega) (by decide)), if_pos (in_ok (n := 6) (by omega) (by decide)), if_pos (in_ok (i := 4 + i) (n := 25) (by omega) (by decide)), if_pos (in_ok (i := 10 + i) (n := 25) (by omega) (by decide)), if_pos (in_ok (i := 16 + i) (n := 25) (by omega) (by decide)), nI_clamp (n := i) (by omega), nI_clamp (n := 4 + i) (by omega), nI_clamp (n := 10 + i) (by omega), nI_clamp (n := 16 + i) (by omega)]
  simp only [if_pos (in_ok (i := i) (n := 6) (by omega) (by decide)), c_K hσ hi, c_G hσ hi, c_W hσ hi, c_L hσ hi, c_C hσ hi, c_V hσ hi, m_K hτ hi, m_G hτ hi, m_W hτ hi, m_L hτ hi, m_C hτ hi, m_V hτ hi, feltBy_ok hσ hi, feels_ok hτ hi, doesNow_ok hσ hi, mdoes_ok hτ hi, Option.bind_some]
  by_cases e0 : w = 0
  · exact ⟨_, if_pos e0, if_pos e0⟩
  rw [if_neg e0, if_neg e0]
  by_cases e1 : w = 1
  · exact ⟨_, if_pos e1, if_pos e1⟩
  rw [if_neg e1, if_neg e1]
  by_cases e2 : w = 2
  · exact ⟨_, if_pos e2, if_pos e2⟩
  rw [if_neg e2, if_neg e2]
  by_cases e3 : w = 3
  · exact ⟨_, if_pos e3, if_pos e3⟩
  rw [if_neg e3, if_neg e3]
  by_cases e4 : w = 4
  · exact ⟨_, if_pos e4, if_pos e4⟩
  rw [if_neg e4, if_neg e4]
  by_cases e5 : w = 5
  · exact ⟨_, if_pos e5, if_pos e5⟩
  rw [if_neg e5, if_neg e5]
  by_cases e6 : w = 6
  · exact ⟨_, if_pos e6, if_pos e6⟩
  rw [if_neg e6, if_neg e6]
  refine ⟨_, rfl, ?_⟩
  rw [b01]
  cases ds t i (tD t (tL t i)) <;> rfl
theorem sim_member {σ τ : rf_S} (h : Sim σ τ) (i w : Int32) : Both (f_X9_member i w σ) (f_X10_member i w τ) := by
  obtain ⟨t, hσ, hτ⟩ := Sim_town h
  unfold f_X9_member f_X10_member
  rcases one_cases hσ hτ i with ⟨h1, h2⟩ | ⟨k, hk, rfl, h1, h2⟩
  · rw [h1, h2]
    exact Both_same h
  · rw [h1, h2]
    simp only [Option.bind_some]
    rw [if_neg n10, if_neg n10]
    unfold f_X10_in
    by_cases e1 : w < 0
    · rw [if_pos e1, if_pos e1]
      exact Both_same h
    · rw [if_neg e1, if_neg e1]
      by_cases e2 : 7 < w
      · rw [if_pos e2, if_neg (Int32.not_le.mpr e2)]
        exact Both_same h
      · rw [if_neg e2, if_pos (Int32.not_lt.mp e2)]
        obtain ⟨v, v1, v2⟩ := ofMember_ok hσ hτ hk w
        simp only [Option.bind_some]
        rw [if_neg n10, v1, v2]
        exact ⟨_, _, _, rfl, rfl, Sim_told _ h⟩
theorem sim_room {σ τ : rf_S} (h : Sim σ τ) (r w : Int32) : ∃ v, f_X9_room r w σ = some v ∧ f_X10_room r w τ = some v := by
  obtain ⟨t, hσ, hτ⟩ := Sim_town h
  have hR := t_R (c_t hσ)
  unfold f_X9_room f_X10_room
  rcases room_cases hσ hτ r with ⟨h1, h2⟩ | ⟨k, hk, rfl, h1, h2⟩
  · rw [h1, h2]
    exact ⟨-1, rfl, rfl⟩
  · rw [h1, h2]
    simp only [Option.bind_some]
    rw [if_neg n10, if_neg n10]
    unfold f_X10_in
    by_cases e1 : w < 0
    · rw [if_pos e1, if_pos e1]
      exact ⟨-1, rfl, rfl⟩
    · rw [if_neg e1, if_neg e1]
      by_cases e2 : 3 < w
      · rw [if_pos e2, if_neg (Int32.not_le.mpr e2)]
        exact ⟨-1, rfl, rfl⟩
      · rw [if_neg e2, if_pos (Int32.not_lt.mp e2)]
        simp only [Option.bind_some]
        unfold f_X8_needOf
        rw [if_pos n10, there_ok hσ (by omega), doers_ok hσ, thereIn_ok hτ (by omega), doing_ok hτ, ck0_33, ck0_28, ck1_8, ck1_12, if_pos (in_ok (i := k) (n := 4) (by omega) (by decide)), if_pos (in_ok (i := k) (n := 4) (by omega) (by decide)), if_pos (in_ok (i := k) (n := 4) (by omega) (by decide)), if_pos (in_ok (i := k) (n := 25) (by omega) (by decide)), nI_clamp (by omega), c_D hσ hk, c_N hσ hk, m_D hτ hk, m_N hτ hk]
        simp only [Option.bind_some, ne_eq, ite_not]
        by_cases e0 : w = 0
        · exact ⟨_, if_pos e0, if_pos e0⟩
        simp only [if_neg e0]
        by_cases e1 : w = 1
        · exact ⟨_, if_pos e1, if_pos e1⟩
        simp only [if_neg e1]
        by_cases e2 : w = 2
        · exact ⟨_, if_pos e2, if_pos e2⟩
        simp only [if_neg e2]
        exact ⟨_, rfl, rfl⟩
theorem is_ok {k j : Nat} (hk : k < 6) (hj : j < 6) (h1 : 0 < j) (σ τ : rf_S) : ∃ b : Bool, f_X9_isOfKind (nI k) (nI j) σ = some (if b = true then 1 else 0) ∧ f_X10_is (nI k) (nI j) τ = some (if b = true then 1 else 0) := by
  refine ⟨decide (k = j ∨ (k = 4 ∧ j = 1) ∨ (k = 5 ∧ j = 3)), ?_⟩
  match k, j, hk, hj, h1 with
  | 0, 1, _, _, _ | 0, 2, _, _, _ | 0, 3, _, _, _ | 0, 4, _, _, _ | 0, 5, _, _, _ | 1, 1, _, _, _ | 1, 2, _, _, _ | 1, 3, _, _, _ | 1, 4, _, _, _ | 1, 5, _, _, _ | 2, 1, _, _, _ | 2, 2, _, _, _ | 2, 3, _, _, _ | 2, 4, _, _, _ | 2, 5, _, _, _ | 3, 1, _, _, _ | 3, 2, _, _, _ | 3, 3, _, _, _ | 3, 4, _, _, _ | 3, 5, _, _, _ | 4, 1, _, _, _ | 4, 2, _, _, _ | 4, 3, _, _, _ | 4, 4, _, _, _ | 4, 5, _, _, _ | 5, 1, _, _, _ | 5, 2, _, _, _ | 5, 3, _, _, _ | 5, 4, _, _, _ | 5, 5, _, _, _ => exact ⟨rfl, rfl⟩
def twn (t : TT) (i o : Nat) : Bool := decide (o ≠ i) && (decide (tK t o = 2) && decide (tL t o = tL t i))
theorem nI_a0 (x : Nat) : nI x + 0 = nI (x + 0) := nI_add x 0
theorem nI_a1 (x : Nat) : nI x + 1 = nI (x + 1) := nI_add x 1
theorem otherTwins_ok {σ : rf_S} {t : TT} (h : CT σ t) {i : Nat} (hi : i < tM t) : f_X8_otherTwins (nI i) σ = some (nI (cnt (tM t) (twn t i))) := by
  have hM := t_M (c_t h)
  have hR := t_R (c_t h)
  have hbi := t_i (c_t h) hi
  unfold f_X8_otherTwins
  rw [lp_cnt (tM t) (twn t i) (by omega) ?_ ?_]
  · rfl
  · intro o x ho
    have hb := t_i (c_t h) ho
    unfold f_X8_otherTwins_b4 f_X8_otherTwins_j47 f_X8_kindOf
    simp only
    rw [c_M h, if_neg (nI_ge ho (by omega)), ck0_29, if_pos (in_ok (by omega) (by decide)), nI_clamp (by omega), c_K h ho, Option.bind_some, ck0_34, if_pos (in_ok (by omega) (by decide)), c_L h ho, ck0_34, if_pos (in_ok (by omega) (by decide)), nI_clamp (by omega), c_L h hi, nI_1, nI_1]
    unfold twn
    by_cases e1 : o = i
    · subst e1
      rw [if_pos rfl]
      simp
    · rw [if_neg (neI (by omega) (by omega) e1), decide_eq_true e1, Bool.true_and]
      by_cases e2 : tK t o = 2
      · rw [e2, if_neg (show ¬ nI 2 ≠ 2 from fun q => q rfl), decide_eq_true rfl, Bool.true_and]
        by_cases e3 : tL t o = tL t i
        · rw [if_neg (nneI e3), decide_eq_true e3, if_pos rfl]
        · rw [if_pos (neI (by omega) (by omega) e3), decide_eq_false e3, if_neg (by decide)]
          rfl
      · rw [if_pos (show nI (tK t o) ≠ 2 from fun q => e2 ((n5k2 hb.1).mp q)), decide_eq_false e2]
        rfl
  · intro x
    unfold f_X8_otherTwins_b4
    simp only
    rw [c_M h, if_pos (nI_le (Nat.le_refl _) (by omega))]
theorem mtwins_ok {τ : rf_S} {t : TT} (h : MT τ 12 t) {i : Nat} (hi : i < tM t) : rf_lp (f_X10_mark_b115 (nI i) τ) 5000 (0, 0) = some (nI (cnt (tM t) (twn t i))) := by
  have hM := t_M (m_t h)
  have hR := t_R (m_t h)
  have hbi := t_i (m_t h) hi
  refine lp_cnt (tM t) (twn t i) (by omega) ?_ ?_
  · intro o x ho
    have hb := t_i (m_t h) ho
    unfold f_X10_mark_b115 f_X10_mark_j166 f_X10_mark_j167
    simp only
    rw [m_M h, if_neg (nI_ge ho (by omega)), ck1_9, if_pos (in_ok (by omega) (by decide)), nI_clamp (by omega), m_K h ho, i4, i4, ck1_12, if_pos (in_ok (by omega) (by decide)), nI_clamp (by omega), m_L h ho, ck1_12, if_pos (in_ok (by omega) (by decide)), nI_clamp (by omega), m_L h hi, nI_1, nI_1, nI_a0]
    unfold twn
    by_cases e1 : o = i
    · subst e1
      rw [if_pos rfl]
      simp
    · rw [if_neg (neI (by omega) (by omega) e1), decide_eq_true e1, Bool.true_and]
      by_cases e2 : tK t o = 2
      · rw [e2, if_neg (show ¬ nI 2 ≠ 2 from fun q => q rfl), decide_eq_true rfl, Bool.true_and]
        by_cases e3 : tL t o = tL t i
        · rw [if_neg (nneI e3), decide_eq_true e3, if_pos rfl]
        · rw [if_pos (neI (by omega) (by omega) e3), decide_eq_false e3, if_neg (by decide)]
      · rw [if_pos (show nI (tK t o) ≠ 2 from fun q => e2 ((n5k2 hb.1).mp q)), decide_eq_false e2]
        rfl
  · intro x
    unfold f_X10_mark_b115
    simp only
    rw [m_M h, if_pos (nI_le (Nat.le_refl _) (by omega))]
theorem mwould_ok {τ : rf_S} {t : TT} (h : MT τ 12 t) {i : Nat} (hi : i < tM t) : rf_lp (f_X10_mark_b75 (nI i) τ) 5000 (0, 0) = some (nI (cnt 31 (wd t i))) := by
  refine lp_cnt 31 (wd t i) (by omega) ?_ ?_
  · intro d x hd
    unfold f_X10_mark_b75 f_X10_mark_j102
    simp only
    rw [if_neg (show ¬ (31 : Int32) ≤ nI d from nI_ge hd (by decide)), wouldAt_ok h hi (by omega), Option.bind_some, b01, nI_1, nI_1, nI_a0]
    cases wd t i d <;> rfl
  · intro x
    unfold f_X10_mark_b75
    simp only
    rw [if_pos (show (31 : Int32) ≤ nI 31 by decide)]
theorem max0 (x : Int32) : (if 0 < x then x else 0) = if 0 ≤ x then x else 0 := by
  by_cases h : 0 < x
  · rw [if_pos h, if_pos (Int32.le_of_lt h)]
  · rw [if_neg h]
    by_cases e : 0 ≤ x
    · rw [if_pos e]
      exact Int32.le_antisymm e (Int32.not_lt.mp h)
    · rw [if_neg e]
theorem sim_mark {σ τ : rf_S} (h : Sim σ τ) (i w : Int32) : Both (f_X9_mark i w σ) (f_X10_mark i w τ) := by
  obtain ⟨t, hσ, hτ⟩ := Sim_town h
  have hM := t_M (c_t hσ)
  have hR := t_R (c_t hσ)
  unfold f_X9_mark f_X10_mark
  rcases one_cases hσ hτ i with ⟨h1, h2⟩ | ⟨k, hk, rfl, h1, h2⟩
  · rw [h1, h2]
    exact Both_same h
  · rw [h1, h2]
    have hb := t_i (c_t hσ) hk
    simp only [Option.bind_some]
    rw [if_neg n10, if_neg n10]
    unfold f_X10_in
    by_cases e1 : w ≤ 0
    · rw [if_pos e1, if_pos (show w < 1 from Int32.lt_of_le_of_lt e1 (by decide))]
      exact Both_same h
    · rw [if_neg e1]
      have e1' : ¬ w < 1 := by
        intro q
        apply e1
        rw [Int32.le_iff_toInt_le]
        rw [Int32.lt_iff_toInt_lt] at q
        have a1 : (1 : Int32).toInt = 1 := rfl
        have a0 : (0 : Int32).toInt = 0 := rfl
        omega
      rw [if_neg e1']
      by_cases e2 : 5 < w
      · rw [if_pos e2, if_neg (Int32.not_le.mpr e2)]
        exact Both_same h
      · rw [if_neg e2, if_pos (Int32.not_lt.mp e2)]
        obtain ⟨j, hj, rfl⟩ := nI_of2 (M := 5) (n := 5) rfl (show ¬ w < 0 from fun q => e1 (Int32.le_of_lt q)) (Int32.not_lt.mp e2)
        have hj0 : 0 < j := by
          rcases Nat.eq_zero_or_pos j with q | q
          · exact absurd (show nI j ≤ 0 by rw [q]; decide) e1
          · exact q
        obtain ⟨b, b1, b2⟩ := is_ok (k := tK t k) hb.1 (show j < 6 by omega) hj0 σ τ
        simp only [Option.bind_some]
        unfold f_X8_kindOf
        rw [if_pos n10, ck0_29, ck1_9, if_pos (in_ok (by omega) (by decide)), if_pos (in_ok (by omega) (by decide)), nI_clamp (by omega), c_K hσ hk, m_K hτ hk, Option.bind_some, b1, b2, Option.bind_some, Option.bind_some]
        cases b with
        | false =>
          simp only [if_neg (show ¬ false = true by decide), ne_eq, not_true, if_false]
          exact Both_find (f := 3) (by decide) h
        | true =>
          simp only [if_true, if_pos n10]
          have hj5 : j = 1 ∨ j = 2 ∨ j = 3 ∨ j = 4 ∨ j = 5 := by omega
          rcases hj5 with rfl | rfl | rfl | rfl | rfl
          · rw [if_pos (show nI 1 = 1 from rfl), if_pos (show nI 1 = 1 from rfl), would_ok hσ hk, mwould_ok hτ hk, Option.bind_some, bc_bs _ (by decide)]
            exact Both_same h
          · rw [if_neg (show ¬ nI 2 = 1 by decide), if_neg (show ¬ nI 2 = 1 by decide), if_pos (show nI 2 = 2 from rfl), if_pos (show nI 2 = 2 from rfl), otherTwins_ok hσ hk, mtwins_ok hτ hk]
            exact Both_same h
          · rw [if_neg (show ¬ nI 3 = 1 by decide), if_neg (show ¬ nI 3 = 1 by decide), if_neg (show ¬ nI 3 = 2 by decide), if_neg (show ¬ nI 3 = 2 by decide), if_pos (show nI 3 = 3 from rfl), if_pos (show nI 3 = 3 from rfl), feltBy_ok hσ hk, feels_ok hτ hk, Option.bind_some, Option.bind_some]
            unfold f_X8_markOf
            rw [ck0_30, if_pos (in_ok (by omega) (by decide)), nI_clamp (by omega), c_G hσ hk, Option.bind_some, ck0_36, if_pos (in_ok (by omega) (by decide)), c_V hσ hk, ck1_10, if_pos (in_ok (by omega) (by decide)), m_G hτ hk, i16', ck1_12, if_pos (in_ok (by omega) (by decide)), nI_clamp (by omega), m_V hτ hk, max0]
            by_cases q : 0 ≤ iI (fIs t k (tK t k) (tV t k)) - nI (tG t k) - iI (tV t k)
            · rw [if_pos q, if_pos q]
              exact Both_same h
            · rw [if_neg q, if_neg q]
              exact Both_same h
          · rw [if_neg (show ¬ nI 4 = 1 by decide), if_neg (show ¬ nI 4 = 1 by decide), if_neg (show ¬ nI 4 = 2 by decide), if_neg (show ¬ nI 4 = 2 by decide), if_neg (show ¬ nI 4 = 3 by decide), if_neg (show ¬ nI 4 = 3 by decide), if_pos (show nI 4 = 4 from rfl), if_pos (show nI 4 = 4 from rfl), ck0_34, if_pos (in_ok (by omega) (by decide)), c_L hσ hk, there_ok hσ (by omega), Option.bind_some, sick35 hσ, Option.bind_some, and_bs _ _ (by omega) (by omega), bc_bs _ (by omega), i4, ck1_12, if_pos (in_ok (by omega) (by decide)), nI_clamp (by omega), m_L hτ hk, coldIn_ok hτ (by omega), Option.bind_some, Option.bind_some, mb_bs _ (by omega)]
            rw [cnt_congr (q := fun i => decide (tL t i = tL t k) && decide (0 < tC t i)) (n := tM t)]
            · exact Both_same h
            · intro i hi
              simp [hi]
          · rw [if_neg (show ¬ nI 5 = 1 by decide), if_neg (show ¬ nI 5 = 1 by decide), if_neg (show ¬ nI 5 = 2 by decide), if_neg (show ¬ nI 5 = 2 by decide), if_neg (show ¬ nI 5 = 3 by decide), if_neg (show ¬ nI 5 = 3 by decide), if_neg (show ¬ nI 5 = 4 by decide), if_neg (show ¬ nI 5 = 4 by decide), ck1_12, if_pos (show rf_in 22 25 = true from rfl), show (22 : Int32).toNatClampNeg = 22 from rfl, m_H hτ, c_H hσ]
            exact Both_same h
