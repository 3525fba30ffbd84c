/-! ===== rows and texts, on ===== -/
theorem sub1_lt {n : Nat} (hn : n < 2 ^ 30) (x : Int32) : nI n - 1 < x ↔ nI n ≤ x := by
  have e : (nI n - 1).toInt = (n : Int) - 1 := pk_sub_toInt (a := n) (b := 1) hn (by decide)
  rw [Int32.lt_iff_toInt_lt, Int32.le_iff_toInt_le, e, nI_toInt (by omega)]
  omega
theorem Sim_told {σ τ : rf_S} (x : Int32) (h : Sim σ τ) : Sim (rf_sI σ 0 10 x) (rf_sI τ 0 6 x) := by
  obtain ⟨h1, h2, h3, h4⟩ := h
  refine ⟨?_, ?_, ?_, ?_⟩
  · obtain ⟨a1, a2, a3, a4, a5⟩ := h1
    exact ⟨by simp [sI_at], by simpa [sI_at] using a2, fun g hg => by simpa [sI_at] using a3 g hg, a4, a5⟩
  · intro r hr
    obtain ⟨a1, a2, a3⟩ := h2 r hr
    exact ⟨by simpa [sI_at] using a1, by simpa [sI_at] using a2, fun i hi => by simpa [sI_at] using a3 i hi⟩
  · intro r hr
    obtain ⟨a1, a2, a3⟩ := h3 r hr
    exact ⟨by simpa [sI_at] using a1, by simpa [sI_at] using a2, fun i hi => by simpa [sI_at] using a3 i hi⟩
  · refine SimW_of h4 (fun c h1 h2 _ => ?_) (fun c hc => ?_) (fun j hj => ?_)
    · rw [sI_1, if_neg (show ¬ c = 0 by omega)]
    · rw [sI_1, if_neg (show ¬ c = 0 by omega)]
    · rw [sI_at, if_pos rfl, if_neg (show ¬ j = 6 by omega)]
/-- changes of rows and texts alone -/
theorem Sim_RT {σ τ σ' τ' : rf_S} (h : Sim σ τ) (hc : ∀ c, c = 0 ∨ 25 ≤ c → σ'.1 c = σ.1 c) (hm : ∀ c, c = 0 ∨ 5 ≤ c → τ'.1 c = τ.1 c) (hc2 : σ'.2 = σ.2) (hm2 : τ'.2 = τ.2) (hR : SimR σ' τ') (hT : SimT σ' τ') : Sim σ' τ' := by
  obtain ⟨h1, h2, h3, h4⟩ := h
  refine ⟨?_, hR, hT, ?_⟩
  · unfold SimF at *
    rw [hc 0 (by omega), hc 54 (by omega), hm 0 (by omega), hm 5 (by omega), hc2, hm2]
    exact h1
  · exact SimW_of h4 (fun c h1 h2 _ => hc c (by omega)) (fun c h => hm c (by omega)) (fun j _ => by rw [hm 0 (by omega)])
theorem SimT_of {σ τ σ' τ' : rf_S} (h : SimT σ τ) (hc : ∀ c, 12 ≤ c → c ≤ 16 → σ'.1 c = σ.1 c) (hm : ∀ c, c = 3 ∨ c = 4 → τ'.1 c = τ.1 c) : SimT σ' τ' := by
  intro r hr
  rw [hm 3 (by omega), hm 4 (by omega), hc 16 (by omega) (by omega), hc (12 + r) (by omega) (by omega)]
  exact h r hr
theorem SimR_of {σ τ σ' τ' : rf_S} (h : SimR σ τ) (hc : ∀ c, 3 ≤ c → c ≤ 9 → σ'.1 c = σ.1 c) (hm : ∀ c, c = 1 ∨ c = 2 → τ'.1 c = τ.1 c) : SimR σ' τ' := by
  intro r hr
  rw [hm 1 (by omega), hm 2 (by omega), hc 9 (by omega) (by omega), hc (3 + r) (by omega) (by omega)]
  exact h r hr
theorem Sim_set {σ τ : rf_S} {r i : Nat} (hr : r < 6) (hi : i < 40) (v : Int32) (h : Sim σ τ) : Sim (rf_sI σ (3 + r) i v) (rf_sI τ 2 (40 * r + i) v) := by
  refine Sim_RT h (fun c hc => ?_) (fun c hc => ?_) rfl rfl ?_ (SimT_of h.2.2.1 (fun c h1 h2 => ?_) (fun c h1 => ?_))
  · rw [sI_1, if_neg (by omega)]
  · rw [sI_1, if_neg (by omega)]
  · intro q hq
    obtain ⟨a1, a2, a3⟩ := h.2.1 q hq
    refine ⟨by simpa [sI_at, show ¬ 9 = 3 + r by omega] using a1, ?_, fun j hj => ?_⟩
    · simp only [sI_at, if_neg (show ¬ (9 : Nat) = 3 + r by omega)]
      exact a2
    · simp only [sI_at, if_true]
      by_cases e : q = r
      · subst e
        by_cases e2 : j = i
        · subst e2
          simp
        · rw [if_neg (by omega), if_pos rfl, if_neg e2]
          exact a3 j hj
      · rw [if_neg (by omega), if_neg (by omega)]
        exact a3 j hj
  · rw [sI_1, if_neg (by omega)]
  · rw [sI_1, if_neg (by omega)]
theorem Sim_tear {σ τ : rf_S} {r : Nat} (hr : r < 6) (h : Sim σ τ) : Sim (rf_sI σ 9 r (-1)) (rf_sI τ 1 r (-1)) := by
  refine Sim_RT h (fun c hc => ?_) (fun c hc => ?_) rfl rfl ?_ (SimT_of h.2.2.1 (fun c h1 h2 => ?_) (fun c h1 => ?_))
  · rw [sI_1, if_neg (by omega)]
  · rw [sI_1, if_neg (by omega)]
  · intro q hq
    obtain ⟨a1, a2, a3⟩ := h.2.1 q hq
    simp only [sI_at, if_true, if_neg (show ¬ (2 : Nat) = 1 by decide), if_neg (show ¬ 3 + q = 9 by omega)]
    by_cases e : q = r
    · rw [if_pos e, if_pos e]
      exact ⟨rfl, Or.inl rfl, a3⟩
    · rw [if_neg e, if_neg e]
      exact ⟨a1, a2, a3⟩
  · rw [sI_1, if_neg (by omega)]
  · rw [sI_1, if_neg (by omega)]
/-! refusals -/
theorem neg1_lt : ¬ (0 : Int32) ≤ -1 := by decide
/-- refused by both, or a row of n places -/
theorem row_cases {σ τ : rf_S} (h : Sim σ τ) (r : Int32) : (∃ v σ1 τ1, v ≠ 0 ∧ f_X9_refusedRow r σ = some (v, σ1) ∧ Sim σ1 τ1 ∧ ((∀ τ, f_X9_isRow r τ = some 0) ∧ v = -1 ∧ τ1 = τ ∨ ∃ j, j < 6 ∧ r = nI j ∧ (∀ τ, f_X9_isRow r τ = some 1) ∧ τ.1 1 j = -1 ∧ v = -3 ∧ τ1 = mFind τ 1)) ∨ ∃ j n, j < 6 ∧ r = nI j ∧ n ≤ 40 ∧ σ.1 9 j = nI n ∧ τ.1 1 j = nI n ∧ (∀ τ, f_X9_isRow r τ = some 1) ∧ f_X9_refusedRow r σ = some (0, σ) := by
  rcases isRow_cases r with e | ⟨j, hj, rfl, e⟩
  · refine Or.inl ⟨-1, σ, τ, by decide, ?_, h, Or.inl ⟨e, rfl, rfl⟩⟩
    unfold f_X9_refusedRow
    rw [e]
    rfl
  · obtain ⟨a1, a2, a3⟩ := h.2.1 j hj
    rcases a2 with a2 | ⟨n, hn, a2⟩
    · refine Or.inl ⟨-3, cFind σ 1, mFind τ 1, by decide, ?_, Sim_find (by decide) h, Or.inr ⟨j, hj, rfl, e, by rw [a1, a2], rfl, rfl⟩⟩
      unfold f_X9_refusedRow f_X4_isMissing
      rw [e]
      simp only [Option.bind_some]
      rw [if_pos n10, ck0_9, if_pos (in_ok hj (by decide)), nI_clamp (by omega), a2, if_neg neg1_lt]
      simp only [Option.bind_some]
      rw [if_neg n10, show (1 : Int32) = nI 1 from rfl, find_ok (by decide)]
      rfl
    · refine Or.inr ⟨j, n, hj, rfl, hn, a2, by rw [a1, a2], e, ?_⟩
      unfold f_X9_refusedRow f_X4_isMissing
      rw [e]
      simp only [Option.bind_some]
      rw [if_pos n10, ck0_9, if_pos (in_ok hj (by decide)), nI_clamp (by omega), a2, if_pos (nI_pos' (by omega))]
      rfl
/-- refused by both, or place i of a row -/
theorem place_cases {σ τ : rf_S} (h : Sim σ τ) (r i : Int32) : (∃ v σ1 τ1, v ≠ 0 ∧ f_X9_refusedPlace r i σ = some (v, σ1) ∧ f_X10_wrongAt r i τ = some (v, τ1) ∧ Sim σ1 τ1) ∨ ∃ j k, j < 6 ∧ k < 40 ∧ r = nI j ∧ i = nI k ∧ f_X9_refusedPlace r i σ = some (0, σ) ∧ f_X10_wrongAt r i τ = some (0, τ) := by
  rcases row_cases h r with ⟨v, σ1, τ1, hv, e1, hs, ⟨e2, rfl, rfl⟩ | ⟨j, hj, rfl, e2, e3, rfl, rfl⟩⟩ | ⟨j, n, hj, rfl, hn, s1, s2, e2, e1⟩
  · refine Or.inl ⟨-1, σ1, τ1, hv, ?_, ?_, hs⟩
    · unfold f_X9_refusedPlace
      rw [e1]
      rfl
    · unfold f_X10_wrongAt
      rw [in5, e2]
      rfl
  · refine Or.inl ⟨-3, σ1, mFind τ 1, hv, ?_, ?_, hs⟩
    · unfold f_X9_refusedPlace
      rw [e1]
      rfl
    · unfold f_X10_wrongAt
      rw [in5, e2]
      simp only [Option.bind_some]
      rw [if_pos n10, ck1_1, if_pos (in_ok hj (by decide)), nI_clamp (by omega), e3, if_neg neg1_lt, show (1 : Int32) = nI 1 from rfl, finds_ok (by decide)]
      rfl
  · have hc0 : f_X9_refusedPlace (nI j) i σ = (f_X4_has (nI j) i σ).bind (fun q4 => if q4 = 0 then ((f_X9_find 2 σ).bind (fun q7 => some (q7.1, q7.2))) else (some (0, σ))) := by
      unfold f_X9_refusedPlace
      rw [e1]
      rfl
    have hm0 : f_X10_wrongAt (nI j) i τ = (f_X10_in i 0 (nI n - 1) τ).bind (fun q7 => if q7 = 0 then ((f_X10_finds 2 τ).bind (fun q10 => some (q10.1, q10.2))) else (some (0, τ))) := by
      unfold f_X10_wrongAt
      rw [in5, e2]
      simp only [Option.bind_some]
      rw [if_pos n10, ck1_1, if_pos (in_ok hj (by decide)), nI_clamp (by omega), s2, if_pos (nI_pos' (by omega)), if_pos (in_ok hj (by decide))]
    have hh : f_X10_in i 0 (nI n - 1) τ = f_X4_has (nI j) i σ := by
      unfold f_X10_in f_X4_has
      rw [ck0_9, if_pos (in_ok hj (by decide)), nI_clamp (by omega), s1]
      simp only [sub1_lt (show n < 2 ^ 30 by omega)]
    by_cases hi : i < 0 ∨ nI n ≤ i
    · have h0 : f_X4_has (nI j) i σ = some 0 := by
        unfold f_X4_has
        rw [ck0_9, if_pos (in_ok hj (by decide)), nI_clamp (by omega), s1]
        by_cases h1 : i < 0
        · rw [if_pos h1]
        · rw [if_neg h1, if_pos (hi.resolve_left h1)]
      refine Or.inl ⟨-3, cFind σ 2, mFind τ 2, by decide, ?_, ?_, Sim_find (by decide) h⟩
      · rw [hc0, h0, show (2 : Int32) = nI 2 from rfl, find_ok (by decide)]
        rfl
      · rw [hm0, hh, h0, show (2 : Int32) = nI 2 from rfl, finds_ok (by decide)]
        rfl
    · have h0 : f_X4_has (nI j) i σ = some 1 := by
        unfold f_X4_has
        rw [ck0_9, if_pos (in_ok hj (by decide)), nI_clamp (by omega), s1, if_neg (fun q => hi (Or.inl q)), if_neg (fun q => hi (Or.inr q))]
      rcases pk_ix i (n := n) (by omega) with h1 | h1 | ⟨k, hk, rfl⟩
      · exact absurd (Or.inl h1) hi
      · exact absurd (Or.inr h1) hi
      · refine Or.inr ⟨j, k, hj, by omega, rfl, rfl, ?_, ?_⟩
        · rw [hc0, h0]
          rfl
        · rw [hm0, hh, h0]
          rfl
theorem get_ok {r i : Nat} (hr : r < 6) (hi : i < 40) (σ : rf_S) : f_X4_get (nI r) (nI i) σ = some (σ.1 (3 + r) i) := by
  unfold f_X4_get
  rw [rk2, if_pos (in_ok hr (by decide)), nI_clamp (by omega), ra2 r hr, ck3 r hr, if_pos (in_ok hi (by decide)), nI_clamp (by omega)]
theorem set_ok {r i : Nat} (hr : r < 6) (hi : i < 40) (v : Int32) (σ : rf_S) : f_X4_set (nI r) (nI i) v σ = some (rf_sI σ (3 + r) i v) := by
  unfold f_X4_set
  rw [rk2, if_pos (in_ok hr (by decide)), nI_clamp (by omega), ra2 r hr, ck3 r hr, if_pos (in_ok hi (by decide)), nI_clamp (by omega)]
theorem Both_no {σ1 τ1 : rf_S} {v : Int32} (h : Sim σ1 τ1) : Both (some (v, σ1)) (some (v, τ1)) := ⟨v, σ1, τ1, rfl, rfl, h⟩
/-- PROMISE 4 -/
theorem sim_at {σ τ : rf_S} (h : Sim σ τ) (r i : Int32) : Both (f_X9_at r i σ) (f_X10_at r i τ) := by
  unfold f_X9_at f_X10_at
  rcases place_cases h r i with ⟨v, σ1, τ1, hv, e1, e2, hs⟩ | ⟨j, k, hj, hk, rfl, rfl, e1, e2⟩
  · rw [e1, e2]
    simp only [Option.bind_some]
    rw [if_neg hv, if_neg hv]
    exact Both_no hs
  · rw [e1, e2]
    simp only [Option.bind_some, if_true]
    rw [get_ok hj hk, nI40, ck1_2, if_pos (in_ok (by omega) (by decide)), nI_clamp (by omega), (h.2.1 j hj).2.2 k hk]
    exact ⟨1, _, _, rfl, rfl, Sim_told _ h⟩
/-- PROMISE 3 -/
theorem sim_lay {σ τ : rf_S} (h : Sim σ τ) (r i v : Int32) : Both (f_X9_lay r i v σ) (f_X10_lay r i v τ) := by
  unfold f_X9_lay f_X10_lay
  rcases place_cases h r i with ⟨w, σ1, τ1, hv, e1, e2, hs⟩ | ⟨j, k, hj, hk, rfl, rfl, e1, e2⟩
  · rw [e1, e2]
    simp only [Option.bind_some]
    rw [if_neg hv, if_neg hv]
    exact Both_no hs
  · rw [e1, e2]
    simp only [Option.bind_some, if_true]
    rw [get_ok hj hk, nI40, ck1_2, if_pos (in_ok (by omega) (by decide)), if_pos (in_ok (by omega) (by decide)), nI_clamp (by omega), (h.2.1 j hj).2.2 k hk]
    simp only [Option.bind_some]
    rw [set_ok hj hk]
    refine ⟨1, _, _, rfl, rfl, ?_⟩
    have hx := Sim_told (σ.1 (3 + j) k) (Sim_set hj hk v h)
    have e : rf_sI (rf_sI σ 0 10 (σ.1 (3 + j) k)) (3 + j) k v = rf_sI (rf_sI σ (3 + j) k v) 0 10 (σ.1 (3 + j) k) := by
      refine Prod.ext (funext fun c => funext fun i => ?_) rfl
      simp only [sI_at, if_neg (show ¬ 3 + j = 0 by omega), if_neg (show ¬ 0 = 3 + j by omega)]
      by_cases h1 : c = 0
      · rw [if_pos h1, if_neg (by omega), if_pos h1]
      · rw [if_neg h1, if_neg h1]
    rw [e]
    exact hx
/-- PROMISE 5 -/
theorem sim_tear {σ τ : rf_S} (h : Sim σ τ) (r : Int32) : Both (f_X9_tear r σ) (f_X10_tear r τ) := by
  unfold f_X9_tear f_X10_tear
  rw [in5]
  rcases row_cases h r with ⟨v, σ1, τ1, hv, e1, hs, ⟨e2, rfl, rfl⟩ | ⟨j, hj, rfl, e2, e3, rfl, rfl⟩⟩ | ⟨j, n, hj, rfl, hn, s1, s2, e2, e1⟩
  · rw [e1, e2]
    exact Both_no hs
  · rw [e1, e2]
    simp only [Option.bind_some]
    rw [if_neg hv, if_pos n10, ck1_1, if_pos (in_ok hj (by decide)), nI_clamp (by omega), e3, if_neg neg1_lt, show (1 : Int32) = nI 1 from rfl, finds_ok (by decide)]
    exact Both_no hs
  · rw [e1, e2]
    simp only [Option.bind_some, if_true]
    rw [if_pos n10, ck1_1, if_pos (in_ok hj (by decide)), nI_clamp (by omega), s2, if_pos (nI_pos' (by omega)), if_pos (in_ok hj (by decide))]
    unfold f_X4_remove
    rw [ck0_9, if_pos (in_ok hj (by decide)), nI_clamp (by omega)]
    exact ⟨1, _, _, rfl, rfl, Sim_tear hj h⟩
/-! PROMISES 42 to 44, 46, 47 -/
theorem sim_asked {σ τ : rf_S} (h : Sim σ τ) : ∃ v, f_X9_asked σ = some v ∧ f_X10_asked τ = some v := ⟨_, rfl, congrArg some h.1.1⟩
theorem sim_upper {σ τ : rf_S} (h : Sim σ τ) : ∃ v, f_X9_upper σ = some v ∧ f_X10_upper τ = some v := ⟨_, rfl, congrArg some h.1.2.2.2.1⟩
theorem sim_lower {σ τ : rf_S} (h : Sim σ τ) : ∃ v, f_X9_lower σ = some v ∧ f_X10_lower τ = some v := ⟨_, rfl, congrArg some h.1.2.2.2.2⟩
theorem sim_finding {σ τ : rf_S} (h : Sim σ τ) : ∃ v, f_X9_finding σ = some v ∧ f_X10_finding τ = some v := ⟨_, rfl, congrArg some h.1.2.1⟩
theorem sim_findings {σ τ : rf_S} (h : Sim σ τ) (f : Int32) : ∃ v, f_X9_findings f σ = some v ∧ f_X10_findings f τ = some v := by
  unfold f_X9_findings f_X10_findings f_X10_in
  by_cases h1 : f < 1
  · rw [if_pos h1, if_pos h1]
    exact ⟨_, rfl, rfl⟩
  · rw [if_neg h1, if_neg h1]
    by_cases h2 : f ≤ 5
    · rw [if_pos h2, if_neg (Int32.not_lt.mpr h2)]
      have h3 : ¬ f < 0 := by
        rw [Int32.lt_iff_toInt_lt] at h1 ⊢
        have e1 : (1 : Int32).toInt = 1 := rfl
        have e0 : (0 : Int32).toInt = 0 := rfl
        rw [e1] at h1
        rw [e0]
        omega
      obtain ⟨k, hk, rfl⟩ := nI_of2 (M := 5) (n := 5) rfl h3 h2
      simp only [Option.bind_some]
      rw [if_neg n10, ck0_54, ck1_5, if_pos (in_ok (by omega) (by decide)), if_pos (in_ok (by omega) (by decide)), nI_clamp (by omega)]
      exact ⟨_, rfl, congrArg some (h.1.2.2.1 k (by omega))⟩
    · rw [if_neg h2, if_pos (Int32.not_le.mp h2)]
      exact ⟨_, rfl, rfl⟩
