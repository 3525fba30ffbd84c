/-! ===== walk, hour, soup, cold, love, fire ===== -/
theorem mV_walk {f : Nat → Int32} {t : TT} (h : mV f t) (hM : tM t ≤ 6) (hR : tR t ≤ 4) {i r : Nat} (hi : i < tM t) : mV (upd (upd f 24 (nI (tP t + dist (tL t i) r))) (4 + i) (nI r)) (actT (0, i, (r : Int)) t) := by
  obtain ⟨v1, v2, v3, v4, v5⟩ := h
  refine ⟨fun q hq => ?_, fun q hq => ?_, ?_, ?_, ?_⟩
  · have hq' : q < tR t := hq
    rw [upd_at, if_neg (by omega), upd_at, if_neg (by omega)]
    exact v1 q hq'
  · have hq' : q < tM t := hq
    obtain ⟨k1, k2, k3⟩ := v2 q hq'
    refine ⟨?_, ?_, ?_⟩
    · rw [upd_at]
      show _ = nI (if 6 = 6 ∧ q = i then ((r : Int)).toNat else tL t q)
      by_cases e : q = i
      · rw [if_pos (by omega), if_pos ⟨rfl, e⟩]
        rfl
      · rw [if_neg (by omega), if_neg (fun z => e z.2), upd_at, if_neg (by omega)]
        exact k1
    · rw [upd_at, if_neg (by omega), upd_at, if_neg (by omega)]
      exact k2
    · rw [upd_at, if_neg (by omega), upd_at, if_neg (by omega)]
      exact k3
  · rw [upd_at, if_neg (by omega), upd_at, if_neg (by omega)]
    exact v3
  · rw [upd_at, if_neg (by omega), upd_at, if_neg (by omega)]
    exact v4
  · rw [upd_at, if_neg (by omega), upd_at, if_pos rfl]
    rfl
theorem mV_soup {f : Nat → Int32} {t : TT} (h : mV f t) (hM : tM t ≤ 6) (hR : tR t ≤ 4) : mV (upd f 23 3) (actT (2, 0, 0) t) := by
  obtain ⟨v1, v2, v3, v4, v5⟩ := h
  refine ⟨fun q hq => ?_, fun q hq => ?_, ?_, ?_, ?_⟩
  · have hq' : q < tR t := hq
    rw [upd_at, if_neg (by omega)]
    exact v1 q hq'
  · have hq' : q < tM t := hq
    rw [upd_at, if_neg (by omega), upd_at, if_neg (by omega), upd_at, if_neg (by omega)]
    exact v2 q hq'
  · rw [upd_at, if_neg (by omega)]
    exact v3
  · rw [upd_at, if_pos rfl]
    rfl
  · rw [upd_at, if_neg (by omega)]
    exact v5
theorem mV_cold {f : Nat → Int32} {t : TT} (h : mV f t) (hM : tM t ≤ 6) (hR : tR t ≤ 4) {i : Nat} (hi : i < tM t) : mV (upd f (10 + i) 2) (actT (3, i, 0) t) := by
  obtain ⟨v1, v2, v3, v4, v5⟩ := h
  refine ⟨fun q hq => ?_, fun q hq => ?_, ?_, ?_, ?_⟩
  · have hq' : q < tR t := hq
    rw [upd_at, if_neg (by omega)]
    exact v1 q hq'
  · have hq' : q < tM t := hq
    obtain ⟨k1, k2, k3⟩ := v2 q hq'
    refine ⟨?_, ?_, ?_⟩
    · rw [upd_at, if_neg (by omega)]
      exact k1
    · rw [upd_at]
      show _ = nI (if 7 = 7 ∧ q = i then 2 else tC t q)
      by_cases e : q = i
      · rw [if_pos (by omega), if_pos ⟨rfl, e⟩]
        rfl
      · rw [if_neg (by omega), if_neg (fun z => e z.2)]
        exact k2
    · rw [upd_at, if_neg (by omega)]
      exact k3
  · rw [upd_at, if_neg (by omega)]
    exact v3
  · rw [upd_at, if_neg (by omega)]
    exact v4
  · rw [upd_at, if_neg (by omega)]
    exact v5
theorem mV_love {f : Nat → Int32} {t : TT} (h : mV f t) (hM : tM t ≤ 6) (hR : tR t ≤ 4) {i : Nat} (hi : i < tM t) (v : Int) : mV (upd f (16 + i) (iI v)) (actT (4, i, v) t) := by
  obtain ⟨v1, v2, v3, v4, v5⟩ := h
  refine ⟨fun q hq => ?_, fun q hq => ?_, ?_, ?_, ?_⟩
  · have hq' : q < tR t := hq
    rw [upd_at, if_neg (by omega)]
    exact v1 q hq'
  · have hq' : q < tM t := hq
    obtain ⟨k1, k2, k3⟩ := v2 q hq'
    refine ⟨?_, ?_, ?_⟩
    · rw [upd_at, if_neg (by omega)]
      exact k1
    · rw [upd_at, if_neg (by omega)]
      exact k2
    · rw [upd_at]
      show _ = iI (if q = i then v else tV t q)
      by_cases e : q = i
      · rw [if_pos (by omega), if_pos e]
      · rw [if_neg (by omega), if_neg e]
        exact k3
  · rw [upd_at, if_neg (by omega)]
    exact v3
  · rw [upd_at, if_neg (by omega)]
    exact v4
  · rw [upd_at, if_neg (by omega)]
    exact v5
theorem mV_fire {f : Nat → Int32} {t : TT} (h : mV f t) (hM : tM t ≤ 6) (hR : tR t ≤ 4) {r v : Nat} (hr : r < tR t) : mV (upd f r (nI v)) (actT (5, r, (v : Int)) t) := by
  obtain ⟨v1, v2, v3, v4, v5⟩ := h
  refine ⟨fun q hq => ?_, fun q hq => ?_, ?_, ?_, ?_⟩
  · have hq' : q < tR t := hq
    rw [upd_at]
    show _ = nI (if 5 = 5 ∧ q = r then ((v : Int)).toNat else tD t q)
    by_cases e : q = r
    · rw [if_pos e, if_pos ⟨rfl, e⟩]
      rfl
    · rw [if_neg e, if_neg (fun z => e z.2)]
      exact v1 q hq'
  · have hq' : q < tM t := hq
    rw [upd_at, if_neg (by omega), upd_at, if_neg (by omega), upd_at, if_neg (by omega)]
    exact v2 q hq'
  · rw [upd_at, if_neg (by omega)]
    exact v3
  · rw [upd_at, if_neg (by omega)]
    exact v4
  · rw [upd_at, if_neg (by omega)]
    exact v5
theorem step_ok {τ : rf_S} {c : Nat} {t : TT} (hc : c = 12 ∨ c = 13) (h : MT τ c t) {i r : Nat} (hi : i < tM t) (hr : r < tR t) : ∃ g, f_X10_step c (nI i) (nI r) τ = some (rf_sA τ c g) ∧ mV g (actT (0, i, (r : Int)) t) := by
  have hM := t_M (m_t h)
  have hR := t_R (m_t h)
  have hb := t_i (m_t h) hi
  have c24 : (24 : Int32).toNatClampNeg = 24 := rfl
  have i24 : rf_in 24 25 = true := rfl
  refine ⟨_, ?_, mV_walk h.2.1 hM hR hi⟩
  unfold f_X10_step f_X10_step_j27
  rw [i4, ckM hc, if_pos (in_ok (by omega) (by decide)), ckM hc, i24, if_pos rfl, c24, nI_clamp (by omega), m_L h hi, m_P h]
  simp only [if_true, if_pos (in_ok (i := 4 + i) (n := 25) (by omega) (by decide)), Option.bind_some, sI_eq τ c 24, sI_sA]
  unfold dist
  by_cases e : tL t i ≤ r
  · obtain ⟨e1, e2⟩ := abs1 e (show r ≤ 100 by omega)
    rw [if_pos e2, e1, if_pos e, nI_add]
  · obtain ⟨e1, -, e2⟩ := abs2 (show r < tL t i by omega) (show tL t i ≤ 100 by omega)
    rw [if_neg e1, e2, if_neg e, nI_add]
theorem left_ok {σ : rf_S} {n : Nat} (h : σ.1 38 3 = nI n) (hn : n ≤ 40) : f_X1_left σ = some (nI (40 - n)) := by
  unfold f_X1_left
  rw [h]
  exact congrArg some (nat_sub hn)
theorem CT_act {σ σ' : rf_S} {t : TT} {n : Nat} {d : DD} (h : CT σ t) (ht : tok n t) (hn : n < 40) (hd : dok d t) (hS : cS σ' (actT d t)) (hf : fr [25, 33, 34, 35, 36, 38, 39] σ σ') : CT σ' (actT d t) := by
  refine ⟨cC_cst ?_ (act_cst d t), hS, tok_mono (act_tok ht hd) (by omega)⟩
  have h1 := h.1
  unfold cC at *
  rw [hf.1 26 (by decide), hf.1 28 (by decide), hf.1 29 (by decide), hf.1 30 (by decide), hf.1 31 (by decide)]
  exact h1
theorem MT_act {τ : rf_S} {t : TT} {n : Nat} {d : DD} (h : MT τ 12 t) (ht : tok n t) (hn : n < 40) (hd : dok d t) {g : Nat → Int32} (hg : mV g (actT d t)) : MT (rf_sA (mNote τ n) 12 g) 12 (actT d t) :=
  MT_sA (Or.inl rfl) (MT_note h n) (act_cst d t) (tok_mono (act_tok ht hd) (by omega)) hg
theorem note12 (τ : rf_S) (n : Nat) : (mNote τ n).1 12 = τ.1 12 := by
  unfold mNote
  rw [sI_1, if_neg (by decide), sA_1, if_neg (by decide)]
theorem sim_walk {σ τ : rf_S} (h : Sim σ τ) (i r : Int32) : Both (f_X9_walk i r σ) (f_X10_walk i r τ) := by
  obtain ⟨t, n, hσ, hτ, hn, s1, s2, ht, go⟩ := Sim_more h
  have hM := t_M (c_t hσ)
  have hR := t_R (c_t hσ)
  unfold f_X9_walk f_X10_walk
  rcases one_cases hσ hτ i with ⟨h1, h2⟩ | ⟨k, hk, rfl, h1, h2⟩
  · rw [h1, h2]
    exact Both_same h
  rw [h1, h2]
  simp only [Option.bind_some]
  rw [if_neg n10, if_neg n10]
  rcases room_cases hσ hτ r with ⟨h3, h4⟩ | ⟨j, hj, rfl, h3, h4⟩
  · rw [h3, h4]
    exact Both_same h
  have hb := t_i (c_t hσ) hk
  rw [h3, h4]
  simp only [Option.bind_some]
  rw [if_pos n10, if_pos n10, ck0_34, if_pos (in_ok (by omega) (by decide)), nI_clamp (by omega), c_L hσ hk, i4, ck1_12, if_pos (in_ok (by omega) (by decide)), nI_clamp (by omega), m_L hτ hk, left_ok s1 hn, s2]
  by_cases e : tL t k = j
  · rw [if_neg (nneI e), if_neg (nneI e)]
    exact Both_same h
  rw [if_pos (neI (by omega) (by omega) e), if_pos (neI (by omega) (by omega) e)]
  simp only [Option.bind_some]
  by_cases e40 : n = 40
  · subst e40
    rw [if_neg (show ¬ nI 40 ≠ 40 from fun q => q rfl), if_neg (show ¬ 1 ≤ nI (40 - 40) by decide)]
    exact Both_same h
  have h40 : n < 40 := by omega
  rw [if_pos (show nI n ≠ 40 from neI (b := 40) (by omega) (by omega) e40), if_pos (show 1 ≤ nI (40 - n) from nI_le (show 1 ≤ 40 - n by omega) (by omega)), note_ok s2 h40, Option.bind_some]
  have hd : dok (0, k, (j : Int)) t := ⟨hk, show (0 : Int) ≤ (j : Int) by omega, show (j : Int) < (tR t : Int) by omega⟩
  obtain ⟨σ', a1, a2, a3, a4, a5⟩ := carryOut_ok hσ s1 h40 hd
  obtain ⟨g, g1, g2⟩ := step_ok (Or.inl rfl) (MT_note hτ n) hk hj
  have a1' : f_X1_carryOut 0 (nI k) (nI j) σ = some σ' := by rw [← iI_nat j]; exact a1
  rw [a1', Option.bind_some, g1, Option.bind_some, ck1_12, if_pos (show rf_in 24 25 = true from rfl), show (24 : Int32).toNatClampNeg = 24 from rfl]
  have hC := CT_act hσ ht h40 hd a2 a5
  have hMT := MT_act hτ ht h40 hd g2
  rw [c_P hC, m_P hMT]
  exact ⟨_, _, _, rfl, rfl, go _ _ _ hd h40 (by omega) a2 a3 a4 a5 g2⟩
theorem deed_cases {σ τ : rf_S} {t : TT} {n : Nat} (hσ : CT σ t) (hτ : MT τ 12 t) (hn : n ≤ 40) (s1 : σ.1 38 3 = nI n) (s2 : τ.1 0 25 = nI n) : (∃ v, v ≠ 0 ∧ f_X9_refusedDeed σ = some v ∧ f_X10_noDeed τ = some v) ∨ (0 < tM t ∧ n < 40 ∧ f_X9_refusedDeed σ = some 0 ∧ f_X10_noDeed τ = some 0) := by
  have hM := t_M (c_t hσ)
  unfold f_X9_refusedDeed f_X10_noDeed f_X8_isEmpty
  rw [c_M hσ, m_M hτ, s2, left_ok s1 hn]
  by_cases e : tM t = 0
  · left
    rw [e, if_neg (show ¬ nI 0 ≠ 0 from fun q => q rfl), if_neg (show ¬ nI 0 ≠ 0 from fun q => q rfl)]
    exact ⟨-4, by decide, rfl, rfl⟩
  · rw [if_pos (show nI (tM t) ≠ 0 from nI_ne0 (by omega) (by omega)), if_pos (show nI (tM t) ≠ 0 from nI_ne0 (by omega) (by omega))]
    simp only [Option.bind_some, if_true]
    by_cases e40 : n = 40
    · left
      subst e40
      rw [if_neg (show ¬ nI 40 ≠ 40 from fun q => q rfl), if_neg (show ¬ 1 ≤ nI (40 - 40) by decide)]
      exact ⟨-2, by decide, rfl, rfl⟩
    · right
      rw [if_pos (show nI n ≠ 40 from neI (b := 40) (by omega) (by omega) e40), if_pos (show 1 ≤ nI (40 - n) from nI_le (show 1 ≤ 40 - n by omega) (by omega))]
      exact ⟨by omega, by omega, rfl, rfl⟩
theorem sim_hour {σ τ : rf_S} (h : Sim σ τ) : Both (f_X9_hour σ) (f_X10_hour τ) := by
  obtain ⟨t, n, hσ, hτ, hn, s1, s2, ht, go⟩ := Sim_more h
  unfold f_X9_hour f_X10_hour
  rcases deed_cases hσ hτ hn s1 s2 with ⟨v, hv, h1, h2⟩ | ⟨hM, h40, h1, h2⟩
  · rw [h1, h2]
    simp only [Option.bind_some]
    rw [if_neg hv, if_neg hv]
    exact Both_same h
  · rw [h1, h2]
    simp only [Option.bind_some, if_true]
    have hd : dok (1, 0, 0) t := ⟨rfl, rfl⟩
    obtain ⟨σ', a1, a2, a3, a4, a5⟩ := carryOut_ok hσ s1 h40 hd
    obtain ⟨g, g1, g2⟩ := pass_ok (Or.inl rfl) (MT_note hτ n)
    rw [catchers_ok (Or.inl rfl) hσ (cS_cold hσ), note_ok s2 h40, Option.bind_some, Option.bind_some, g1, show f_X1_carryOut 1 0 0 σ = some σ' from a1]
    exact ⟨_, _, _, rfl, rfl, go _ _ _ hd h40 hM a2 a3 a4 a5 g2⟩
theorem sim_soup {σ τ : rf_S} (h : Sim σ τ) : Both (f_X9_soup σ) (f_X10_soup τ) := by
  obtain ⟨t, n, hσ, hτ, hn, s1, s2, ht, go⟩ := Sim_more h
  unfold f_X9_soup f_X10_soup
  rcases deed_cases hσ hτ hn s1 s2 with ⟨v, hv, h1, h2⟩ | ⟨hM, h40, h1, h2⟩
  · rw [h1, h2]
    simp only [Option.bind_some]
    rw [if_neg hv, if_neg hv]
    exact Both_same h
  · rw [h1, h2]
    simp only [Option.bind_some, if_true]
    have hd : dok (2, 0, 0) t := ⟨rfl, rfl⟩
    obtain ⟨σ', a1, a2, a3, a4, a5⟩ := carryOut_ok hσ s1 h40 hd
    have g2 := mV_soup hτ.2.1 (t_M (c_t hσ)) (t_R (c_t hσ))
    have hC := CT_act hσ ht h40 hd a2 a5
    have hMT := MT_act hτ ht h40 hd g2
    rw [note_ok s2 h40, Option.bind_some, show f_X1_carryOut 2 0 0 σ = some σ' from a1, Option.bind_some, doers_ok hC, ck1_12, if_pos (show rf_in 23 25 = true from rfl), show (23 : Int32).toNatClampNeg = 23 from rfl, sI_eq, note12, doing_ok hMT]
    exact ⟨_, _, _, rfl, rfl, go _ _ _ hd h40 hM a2 a3 a4 a5 g2⟩
theorem sim_cold {σ τ : rf_S} (h : Sim σ τ) (i : Int32) : Both (f_X9_cold i σ) (f_X10_cold i τ) := by
  obtain ⟨t, n, hσ, hτ, hn, s1, s2, ht, go⟩ := Sim_more h
  have hM := t_M (c_t hσ)
  unfold f_X9_cold f_X10_cold
  rcases one_cases hσ hτ i with ⟨h1, h2⟩ | ⟨k, hk, rfl, h1, h2⟩
  · rw [h1, h2]
    exact Both_same h
  have hb := t_i (c_t hσ) hk
  rw [h1, h2]
  simp only [Option.bind_some]
  rw [if_pos n10, if_pos n10, ck0_35, if_pos (in_ok (by omega) (by decide)), nI_clamp (by omega), c_C hσ hk, i10, ck1_12, if_pos (in_ok (by omega) (by decide)), nI_clamp (by omega), m_C hτ hk, left_ok s1 hn, s2]
  by_cases e : 0 < tC t k
  · rw [if_neg (nI_nle e (by omega)), if_neg (nI_nle e (by omega))]
    exact Both_same h
  rw [show tC t k = 0 by omega, if_pos (show nI 0 ≤ 0 by decide), if_pos (show nI 0 ≤ 0 by decide)]
  simp only [Option.bind_some]
  by_cases e40 : n = 40
  · subst e40
    rw [if_neg (show ¬ nI 40 ≠ 40 from fun q => q rfl), if_neg (show ¬ 1 ≤ nI (40 - 40) by decide)]
    exact Both_same h
  have h40 : n < 40 := by omega
  rw [if_pos (show nI n ≠ 40 from neI (b := 40) (by omega) (by omega) e40), if_pos (show 1 ≤ nI (40 - n) from nI_le (show 1 ≤ 40 - n by omega) (by omega)), note_ok s2 h40, Option.bind_some]
  have hd : dok (3, k, 0) t := ⟨hk, rfl⟩
  obtain ⟨σ', a1, a2, a3, a4, a5⟩ := carryOut_ok hσ s1 h40 hd
  have g2 := mV_cold hτ.2.1 hM (t_R (c_t hσ)) hk
  have hC := CT_act hσ ht h40 hd a2 a5
  have hMT := MT_act hτ ht h40 hd g2
  have hM' := t_M (c_t hC)
  rw [show f_X1_carryOut 3 (nI k) 0 σ = some σ' from a1, Option.bind_some, if_pos (in_ok (by omega) (by decide)), sick35 hC, Option.bind_some, bc_bs _ (by omega), sI_eq, note12, coldOnes_ok hMT, Option.bind_some, Option.bind_some, mb_bs _ (by omega)]
  exact ⟨_, _, _, rfl, rfl, go _ _ _ hd h40 (by omega) a2 a3 a4 a5 g2⟩
theorem sim_love {σ τ : rf_S} (h : Sim σ τ) (i v : Int32) : Both (f_X9_love i v σ) (f_X10_love i v τ) := by
  obtain ⟨t, n, hσ, hτ, hn, s1, s2, ht, go⟩ := Sim_more h
  have hM := t_M (c_t hσ)
  unfold f_X9_love f_X10_love
  rcases one_cases hσ hτ i with ⟨h1, h2⟩ | ⟨k, hk, rfl, h1, h2⟩
  · rw [h1, h2]
    exact Both_same h
  have hb := t_i (c_t hσ) hk
  rw [h1, h2]
  simp only [Option.bind_some]
  rw [if_neg n10, if_neg n10]
  unfold f_X10_in
  by_cases e1 : v < -5
  · rw [if_pos e1, if_pos e1]
    exact Both_same h
  rw [if_neg e1, if_neg e1]
  by_cases e2 : 5 < v
  · rw [if_pos e2, if_neg (Int32.not_le.mpr e2)]
    exact Both_same h
  rw [if_neg e2, if_pos (Int32.not_lt.mp e2)]
  simp only [Option.bind_some]
  have v1 : -5 ≤ v.toInt := by
    have := Int32.not_lt.mp e1
    rw [Int32.le_iff_toInt_le] at this
    exact this
  have v2 : v.toInt ≤ 5 := by
    have := Int32.not_lt.mp e2
    rw [Int32.le_iff_toInt_le] at this
    exact this
  have ev := iI_of v
  rw [if_pos n10, ck0_36, if_pos (in_ok (by omega) (by decide)), nI_clamp (by omega), c_V hσ hk, i16', ck1_12, if_pos (in_ok (by omega) (by decide)), nI_clamp (by omega), m_V hτ hk, left_ok s1 hn, s2]
  by_cases e : iI (tV t k) ≠ v
  · rw [if_pos e, if_pos e]
    simp only [Option.bind_some]
    by_cases e40 : n = 40
    · subst e40
      rw [if_neg (show ¬ nI 40 ≠ 40 from fun q => q rfl), if_neg (show ¬ 1 ≤ nI (40 - 40) by decide)]
      exact Both_same h
    have h40 : n < 40 := by omega
    rw [if_pos (show nI n ≠ 40 from neI (b := 40) (by omega) (by omega) e40), if_pos (show 1 ≤ nI (40 - n) from nI_le (show 1 ≤ 40 - n by omega) (by omega)), note_ok s2 h40, Option.bind_some]
    have hd : dok (4, k, v.toInt) t := ⟨hk, v1, v2⟩
    obtain ⟨σ', a1, a2, a3, a4, a5⟩ := carryOut_ok hσ s1 h40 hd
    have g2 := mV_love hτ.2.1 hM (t_R (c_t hσ)) hk v.toInt
    rw [ev] at g2
    have hC := CT_act hσ ht h40 hd a2 a5
    have hMT := MT_act hτ ht h40 hd g2
    have a1' : f_X1_carryOut 4 (nI k) v σ = some σ' := by rw [← ev]; exact a1
    rw [a1', Option.bind_some, doesNow_ok hC hk, if_pos (in_ok (by omega) (by decide)), sI_eq, note12, mdoes_ok hMT hk, Option.bind_some, Option.bind_some, b01]
    have gg := go _ _ _ hd h40 (by omega) a2 a3 a4 a5 g2
    cases ds (actT (4, k, v.toInt) t) k (tD (actT (4, k, v.toInt) t) (tL (actT (4, k, v.toInt) t) k)) with
    | true => exact ⟨_, _, _, rfl, rfl, gg⟩
    | false => exact ⟨_, _, _, rfl, rfl, gg⟩
  · rw [if_neg e, if_neg e]
    exact Both_same h
theorem sim_fire {σ τ : rf_S} (h : Sim σ τ) (r v : Int32) : Both (f_X9_fire r v σ) (f_X10_fire r v τ) := by
  obtain ⟨t, n, hσ, hτ, hn, s1, s2, ht, go⟩ := Sim_more h
  have hM := t_M (c_t hσ)
  have hR := t_R (c_t hσ)
  unfold f_X9_fire f_X10_fire
  rcases room_cases hσ hτ r with ⟨h1, h2⟩ | ⟨k, hk, rfl, h1, h2⟩
  · rw [h1, h2]
    exact Both_same h
  have hb := t_r (c_t hσ) hk
  rw [h1, h2]
  simp only [Option.bind_some]
  rw [if_neg n10, if_neg n10]
  unfold f_X10_in f_X9_isDegree
  by_cases e1 : v < 0
  · rw [if_pos e1]
    exact Both_same h
  rw [if_neg e1]
  by_cases e2 : 30 < v
  · rw [if_pos e2]
    exact Both_same h
  rw [if_neg e2]
  simp only [Option.bind_some]
  obtain ⟨j, hj, rfl⟩ := nI_of2 (M := 30) (n := 30) rfl e1 (Int32.not_lt.mp e2)
  rw [if_pos n10, if_pos n10, ck0_33, if_pos (in_ok (by omega) (by decide)), nI_clamp (by omega), c_D hσ hk, ck1_12, if_pos (in_ok (by omega) (by decide)), m_D hτ hk, left_ok s1 hn, s2]
  by_cases e : tD t k = j
  · rw [if_neg (nneI e), if_neg (nneI e)]
    exact Both_same h
  rw [if_pos (neI (by omega) (by omega) e), if_pos (neI (by omega) (by omega) e)]
  simp only [Option.bind_some]
  by_cases e40 : n = 40
  · subst e40
    rw [if_neg (show ¬ nI 40 ≠ 40 from fun q => q rfl), if_neg (show ¬ 1 ≤ nI (40 - 40) by decide)]
    exact Both_same h
  have h40 : n < 40 := by omega
  rw [if_pos (show nI n ≠ 40 from neI (b := 40) (by omega) (by omega) e40), if_pos (show 1 ≤ nI (40 - n) from nI_le (show 1 ≤ 40 - n by omega) (by omega)), note_ok s2 h40, Option.bind_some]
  have hd : dok (5, k, (j : Int)) t := ⟨hk, show (0 : Int) ≤ (j : Int) by omega, show (j : Int) ≤ 30 by omega⟩
  obtain ⟨σ', a1, a2, a3, a4, a5⟩ := carryOut_ok hσ s1 h40 hd
  have g2 := mV_fire (v := j) hτ.2.1 hM hR hk
  have a1' : f_X1_carryOut 5 (nI k) (nI j) σ = some σ' := by rw [← iI_nat j]; exact a1
  have hpos : 0 < tM t := by
    rcases Nat.eq_zero_or_pos (tM t) with q | q
    · have := (c_t hσ).2.2.2.1 q
      omega
    · exact q
  rw [a1', Option.bind_some, if_pos (in_ok (by omega) (by decide)), if_pos (in_ok (by omega) (by decide)), sI_eq, note12, m_D hτ hk]
  exact ⟨_, _, _, rfl, rfl, go _ _ _ hd h40 hpos a2 a3 a4 a5 g2⟩
