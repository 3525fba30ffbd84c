/-! ===== spreads ===== -/
theorem Sim_fr {σ τ σ' τ' : rf_S} (h : Sim σ τ) (hc : ∀ c, c ≠ 37 → ¬ (17 ≤ c ∧ c ≤ 24) → ¬ (45 ≤ c ∧ c ≤ 52) → σ'.1 c = σ.1 c) (hm : ∀ c, c ≠ 0 → c ≠ 6 → c ≠ 7 → c ≠ 13 → c ≠ 18 → τ'.1 c = τ.1 c) (h0 : ∀ j, j = 4 ∨ j = 6 ∨ j = 16 ∨ j = 17 ∨ j = 25 → τ'.1 0 j = τ.1 0 j) (e2 : σ'.2 = σ.2) (e2' : τ'.2 = τ.2) : Sim σ' τ' := by
  obtain ⟨⟨k1, k2, k3, k4, k5⟩, hR, hT, hW⟩ := h
  refine ⟨⟨?_, ?_, ?_, ?_, ?_⟩, ?_, ?_, ?_⟩
  · rw [h0 6 (by omega), hc 0 (by omega) (by omega) (by omega)]
    exact k1
  · rw [h0 4 (by omega), hc 0 (by omega) (by omega) (by omega)]
    exact k2
  · rw [hm 5 (by omega) (by omega) (by omega) (by omega) (by omega), hc 54 (by omega) (by omega) (by omega)]
    exact k3
  · rw [e2, e2']
    exact k4
  · rw [e2, e2']
    exact k5
  · exact SimR_of hR (fun c a b => hc c (by omega) (by omega) (by omega)) (fun c a => hm c (by omega) (by omega) (by omega) (by omega) (by omega))
  · exact SimT_of hT (fun c a b => hc c (by omega) (by omega) (by omega)) (fun c a => hm c (by omega) (by omega) (by omega) (by omega) (by omega))
  · exact SimW_of hW (fun c a b d => hc c d (by omega) (by omega)) (fun c a => hm c (by omega) (by omega) (by omega) (by omega) (by omega)) (fun j hj => h0 j (by omega))
theorem pasF_congr {t u : TT} {f g : Nat → Nat} (hM : tM u = tM t) (hL : ∀ i, tL u i = tL t i) (hf : f = g) (i : Nat) : pasF t f i = pasF u g i := by
  subst hf
  unfold pasF catF
  rw [hM]
  simp only [hL]
theorem Sim_town2 {σ τ : rf_S} (h : Sim σ τ) : ∃ t, CT σ t ∧ MT τ 12 t ∧ tok 40 t := by
  obtain ⟨t, n, hσ, hτ, hn, s1, s2, ht, go⟩ := Sim_more h
  exact ⟨t, hσ, hτ, tok_mono ht hn⟩
theorem tried_ok {σ τ : rf_S} {t : TT} (h : Sim σ τ) (hτ : MT τ 12 t) : ∃ τ1, f_X10_bring 12 0 13 0 25 τ = some τ1 ∧ Sim σ τ1 ∧ MT τ1 13 t ∧ (∀ c, c ≠ 13 → τ1.1 c = τ.1 c) ∧ τ1.2 = τ.2 := by
  refine ⟨_, bring_ok (a := 12) (b := 13) (A := 25) (B := 25) (i := 0) (j := 0) (n := 25) ck1_12 ck1_13 (by decide) (by omega) (by omega) (by omega) (by omega) τ, ?_, ?_, ?_, rfl⟩
  · refine Sim_fr h (fun c _ _ _ => rfl) (fun c _ _ _ a _ => ?_) (fun j _ => ?_) rfl rfl
    · rw [sA_1, if_neg a]
    · rw [sA_1, if_neg (by decide)]
  · refine ⟨sA_MT (Or.inr rfl) hτ.1 _, ?_, ck1_13, hτ.2.2.2⟩
    rw [sA_1, if_pos rfl]
    refine mV_congr (t_M (m_t hτ)) (t_R (m_t hτ)) hτ.2.1 (fun j hj => ?_)
    rw [if_pos (by omega)]
    exact congrArg (τ.1 12) (by omega)
  · intro c a
    rw [sA_1, if_neg a]
theorem Sim_13 {σ τ : rf_S} (h : Sim σ τ) (g : Nat → Int32) : Sim σ (rf_sA τ 13 g) := by
  refine Sim_fr h (fun c _ _ _ => rfl) (fun c _ _ _ a _ => ?_) (fun j _ => ?_) rfl rfl
  · rw [sA_1, if_neg a]
  · rw [sA_1, if_neg (by decide)]
theorem Sim_37 {σ τ : rf_S} (h : Sim σ τ) (g : Nat → Int32) : Sim (rf_sA σ 37 g) τ := by
  refine Sim_fr h (fun c a _ _ => ?_) (fun c _ _ _ _ _ => rfl) (fun j _ => rfl) rfl rfl
  rw [sA_1, if_neg a]
theorem pass_tok {k : Nat} {u : TT} (h : tok k u) : tok (k + 1) (passT u) := act_tok (d := (1, 0, 0)) h ⟨rfl, rfl⟩
theorem pass_cst (u : TT) : cst u (passT u) := act_cst (1, 0, 0) u
theorem sim_spreads {σ τ : rf_S} (h : Sim σ τ) (a : Int32) : Both (f_X9_spreads a σ) (f_X10_spreads a τ) := by
  obtain ⟨t, hσ, hτ, h40⟩ := Sim_town2 h
  have hM := t_M (c_t hσ)
  unfold f_X9_spreads f_X10_spreads f_X10_in
  by_cases e1 : a < 0
  · rw [if_pos e1, if_pos e1]
    exact Both_same h
  rw [if_neg e1, if_neg e1]
  by_cases e2 : 12 < a
  · rw [if_pos e2, if_neg (Int32.not_le.mpr e2)]
    exact Both_same h
  rw [if_neg e2, if_pos (Int32.not_lt.mp e2)]
  simp only [Option.bind_some]
  unfold f_X8_isEmpty f_X8_copyOfColds
  rw [if_pos n10, c_M hσ, m_M hτ]
  by_cases eM : tM t = 0
  · rw [eM, if_neg (show ¬ nI 0 ≠ 0 from fun q => q rfl), if_neg (show ¬ nI 0 ≠ 0 from fun q => q rfl)]
    exact Both_same h
  rw [if_pos (show nI (tM t) ≠ 0 from nI_ne0 (by omega) (by omega)), if_pos (show nI (tM t) ≠ 0 from nI_ne0 (by omega) (by omega))]
  simp only [Option.bind_some, if_true]
  obtain ⟨m, hm, rfl⟩ := nI_of2 (M := 12) (n := 12) rfl e1 (Int32.not_lt.mp e2)
  rw [if_pos (show rf_cp ly0 35 0 37 0 6 = true from rfl), Option.bind_some, show (0 : Int32).toNatClampNeg = 0 from rfl, show (6 : Int32).toNatClampNeg = 6 from rfl]
  obtain ⟨σ1, es⟩ : ∃ σ1, σ1 = rf_sA σ 37 (va_cpy (σ.1 35) (σ.1 37) 0 0 6) := ⟨_, rfl⟩
  obtain ⟨τ1, b1, b2, b3, -⟩ := tried_ok h hτ
  have hS1 : Sim σ1 τ1 := by rw [es]; exact Sim_37 b2 _
  have hC1 : CT σ1 t := by rw [es]; exact CT_fr hσ (fun c hc => by rw [sA_1, if_neg (by omega)])
  have hc1 : cold_ σ1 37 t (tC t) := by
    obtain ⟨k1, k2⟩ := cS_cold hσ
    refine ⟨fun i hi => ⟨?_, (k1 i hi).2⟩, fun i hi h6 => ?_⟩
    · rw [es, sA_at, if_pos rfl, cpy_at, if_pos (by omega), ← (k1 i hi).1]
      exact congrArg (σ.1 35) (by omega)
    · rw [es, sA_at, if_pos rfl, cpy_at, if_pos (by omega), ← k2 i hi h6]
      exact congrArg (σ.1 35) (by omega)
  rw [← es]
  simp only [Option.bind_some]
  rw [sickF (Or.inr rfl) hM hc1, b1, Option.bind_some, Option.bind_some, coldOnes_ok b3, Option.bind_some]
  obtain ⟨e, e', g1, g2, g3⟩ := lp_both (b := f_X9_spreads_b41 (nI m) 37) (b' := f_X10_spreads_b48 (nI m)) (fun k s s' => s.1 = s'.1 ∧ s.2.1 = nI k ∧ s'.2.1 = nI k ∧ Sim s.2.2 s'.2.2 ∧ CT s.2.2 t ∧ ∃ u, MT s'.2.2 13 u ∧ tok (40 + k) u ∧ tM u = tM t ∧ (∀ i, tL u i = tL t i) ∧ cold_ s.2.2 37 t (tC u)) m (K := fun e e' => e.1 = e'.1 ∧ Sim e.2 e'.2 ∧ ∃ u, MT e'.2 13 u ∧ tM u = tM t ∧ cold_ e.2 37 t (tC u)) (N := 5000) (fun k s s' hk hI => by
      obtain ⟨sa, sb, sc⟩ := s
      obtain ⟨ta, tb, tc⟩ := s'
      obtain ⟨i1, i2, i3, i4, i5, u, i6, i7, i8, i9, i10⟩ := hI
      simp only at i1 i2 i3 i4 i5 i6 i10
      subst i1 i2 i3
      obtain ⟨g, p1, p2⟩ := pass_ok (Or.inr rfl) i6
      have hMT := MT_sA (Or.inr rfl) i6 (pass_cst u) (tok_mono (pass_tok i7) (by omega)) p2
      obtain ⟨σ', eσ⟩ : ∃ σ', σ' = rf_sA sc 37 (fun j => if j < tM t then nI (pasF t (tC u) j) else sc.1 37 j) := ⟨_, rfl⟩
      have hcold : cold_ σ' 37 t (tC (passT u)) := by
        refine ⟨fun i hi => ⟨?_, ?_⟩, fun i hi h6 => ?_⟩
        · rw [eσ, sA_at, if_pos rfl, if_pos hi, pasF_congr i8 i9 rfl]
          show _ = nI (if i < tM u then (if catch_ u i = true then 2 else tC u i - 1) else tC u i)
          rw [if_pos (by omega)]
          rfl
        · exact (t_i (m_t hMT) (show i < tM u by omega)).2.2.2.2.1
        · rw [eσ, sA_at, if_pos rfl, if_neg (by omega)]
          exact i10.2 i hi h6
      refine ⟨(sa ||| bs (tM t) (fun i => decide (0 < tC (passT u) i)), nI (k + 1), σ'), (sa ||| bs (tM t) (fun i => decide (0 < tC (passT u) i)), nI (k + 1), rf_sA tc 13 g), ?_, ?_, rfl, rfl, rfl, ?_, ?_, passT u, hMT, ?_, i8, i9, hcold⟩
      · unfold f_X9_spreads_b41
        simp only
        rw [if_neg (nI_ge hk (by omega)), passColds_ok (Or.inr rfl) i5 i10, ← eσ, Option.bind_some, sickF (Or.inr rfl) hM hcold, Option.bind_some, nI_1]
      · unfold f_X10_spreads_b48
        simp only
        rw [if_neg (nI_ge hk (by omega)), p1, Option.bind_some, coldOnes_ok hMT, Option.bind_some, nI_1, show tM (passT u) = tM t from i8]
      · simp only
        rw [eσ]
        exact Sim_13 (Sim_37 i4 _) _
      · simp only
        rw [eσ]
        exact CT_fr i5 (fun c hc => by rw [sA_1, if_neg (by omega)])
      · exact pass_tok i7) (fun s s' hI => by
      obtain ⟨sa, sb, sc⟩ := s
      obtain ⟨ta, tb, tc⟩ := s'
      obtain ⟨i1, i2, i3, i4, i5, u, i6, i7, i8, i9, i10⟩ := hI
      simp only at i1 i2 i3 i4 i5 i6 i10
      subst i1 i2 i3
      refine ⟨(sa, sc), (sa, tc), ?_, ?_, rfl, i4, u, i6, i8, i10⟩
      · unfold f_X9_spreads_b41
        simp only
        rw [if_pos (nI_le (Nat.le_refl _) (by omega))]
      · unfold f_X10_spreads_b48
        simp only
        rw [if_pos (nI_le (Nat.le_refl _) (by omega))]) (by omega) (s := (bs (tM t) (fun i => decide (0 < tC t i)), 0, σ1)) (s' := (bs (tM t) (fun i => decide (0 < tC t i)), 0, τ1)) ⟨rfl, rfl, rfl, hS1, hC1, t, b3, h40, rfl, fun _ => rfl, hc1⟩
  obtain ⟨ea, eb⟩ := e
  obtain ⟨ea', eb'⟩ := e'
  obtain ⟨k1, k2, u, k3, k4, k5⟩ := g3
  simp only at k1 k2 k3 k5
  subst k1
  have hcold : cold_ (rf_sI eb 0 10 ea) 37 t (tC u) := by
    unfold cold_ at *
    rw [sI_1, if_neg (by decide)]
    exact k5
  have hMT : MT (rf_sI eb' 0 6 ea) 13 u := by
    obtain ⟨q1, q2, q3, q4⟩ := k3
    refine ⟨?_, ?_, q3, q4⟩
    · unfold mC at *
      simp only [sI_at, if_true, if_neg (show ¬ 16 = 6 by decide), if_neg (show ¬ 17 = 6 by decide), if_neg (show ¬ 8 = 0 by decide), if_neg (show ¬ 9 = 0 by decide), if_neg (show ¬ 10 = 0 by decide), if_neg (show ¬ 11 = 0 by decide)]
      exact q1
    · rw [sI_1, if_neg (by decide)]
      exact q2
  rw [g1, g2]
  simp only [Option.bind_some, tells_ok]
  rw [sickF (Or.inr rfl) hM hcold, coldOnes_ok hMT, k4]
  exact ⟨_, _, _, rfl, rfl, Sim_told _ k2⟩
