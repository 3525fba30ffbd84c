/-! ===== deeds ===== -/
def fr (l : List Nat) (σ σ' : rf_S) : Prop := (∀ c, c ∉ l → σ'.1 c = σ.1 c) ∧ σ'.2 = σ.2
theorem sI_eq (σ : rf_S) (c j : Nat) (x : Int32) : rf_sI σ c j x = rf_sA σ c (upd (σ.1 c) j x) := rfl
theorem abs1 {a b : Nat} (h : a ≤ b) (hb : b ≤ 100) : nI b - nI a = nI (b - a) ∧ 0 ≤ nI b - nI a := by
  have : nI b - nI a = nI (b - a) := nat_sub h
  rw [this]
  exact ⟨rfl, nI_pos' (by omega)⟩
theorem abs2 {a b : Nat} (h : b < a) (hb : a ≤ 100) : ¬ 0 ≤ nI b - nI a ∧ 0 - (nI b - nI a) = nI (a - b) ∧ -(nI b - nI a) = nI (a - b) := by
  have e : nI b - nI a = iI ((b : Int) - a) := by rw [← iI_nat, ← iI_nat, iI_sub]
  rw [e]
  refine ⟨?_, ?_, ?_⟩
  · rw [Int32.le_iff_toInt_le, iI_toInt (by omega) (by omega)]
    show ¬ (0 : Int) ≤ _
    omega
  · rw [show (0 : Int32) = iI 0 from rfl, iI_sub, ← iI_nat]
    exact congrArg iI (by omega)
  · rw [iI_neg, ← iI_nat]
    exact congrArg iI (by omega)
theorem abs_ok {a b : Nat} (ha : a ≤ 100) (hb : b ≤ 100) : (if 0 ≤ nI b - nI a then nI b - nI a else 0 - (nI b - nI a)) = nI (dist a b) := by
  unfold dist
  by_cases h : a ≤ b
  · rw [if_pos (abs1 h hb).2, (abs1 h hb).1, if_pos h]
  · obtain ⟨h1, h2, -⟩ := abs2 (show b < a by omega) ha
    rw [if_neg h1, h2, if_neg h]
theorem fr_refl {l : List Nat} (σ : rf_S) : fr l σ σ := ⟨fun _ _ => rfl, rfl⟩
theorem fr_sI {l : List Nat} {σ σ' : rf_S} {c : Nat} (h : fr l σ σ') (hc : c ∈ l) (j : Nat) (x : Int32) : fr l σ (rf_sI σ' c j x) := ⟨fun k hk => by
    rw [sI_1, if_neg (fun q => hk (by rw [q]; exact hc))]
    exact h.1 k hk, h.2⟩
theorem fr_sA {l : List Nat} {σ σ' : rf_S} {c : Nat} (h : fr l σ σ') (hc : c ∈ l) (f : Nat → Int32) : fr l σ (rf_sA σ' c f) := ⟨fun k hk => by
    rw [sA_1, if_neg (fun q => hk (by rw [q]; exact hc))]
    exact h.1 k hk, h.2⟩
theorem cS_cold {σ : rf_S} {t : TT} (h : CT σ t) : cold_ σ 35 t (tC t) := ⟨fun i hi => ⟨c_C h hi, (t_i (c_t h) hi).2.2.2.2.1⟩, h.2.1.2.2.1⟩
theorem max0s {s : Nat} (hs : s ≤ 3) : (if 0 < nI s - 1 then nI s - 1 else 0) = nI (s - 1) := by
  match s, hs with
  | 0, _ | 1, _ | 2, _ | 3, _ => decide
theorem act_ok {σ : rf_S} {t : TT} (h : CT σ t) {d : DD} (hd : dok d t) : ∃ σ', f_X8_act (nI d.1) (nI d.2.1) (iI d.2.2) σ = some σ' ∧ cS σ' (actT d t) ∧ fr [25, 33, 34, 35, 36] σ σ' := by
  have hM := t_M (c_t h)
  have hR := t_R (c_t h)
  obtain ⟨d1, d2, d3, d4, d5, d6⟩ := id h.2.1
  obtain ⟨w, j, v⟩ := d
  match w with
  | 0 =>
    obtain ⟨h1, h2, h3⟩ : j < tM t ∧ 0 ≤ v ∧ v < tR t := hd
    have hb := t_i (c_t h) h1
    have ev : iI v = nI v.toNat := by rw [← iI_nat]; exact congrArg iI (by omega)
    refine ⟨rf_sI (rf_sI σ 25 8 (nI (tP t + dist (tL t j) v.toNat))) 34 j (nI v.toNat), ?_, ⟨?_, ?_, ?_, ?_, ?_, ?_⟩, ?_⟩
    · unfold f_X8_act
      simp only
      rw [if_pos (show nI 0 = 0 from rfl), ck0_34, if_pos (in_ok (by omega) (by decide)), nI_clamp (by omega), c_L h h1, ev, abs_ok (by omega) (by omega), c_P h, nI_add, Option.bind_some, if_pos (in_ok (by omega) (by decide))]
    · intro r hr
      rw [sI_at, if_neg (by decide), sI_at, if_neg (by decide)]
      exact d1 r hr
    · intro i hi
      have hi' : i < tM t := hi
      obtain ⟨k1, k2, k3⟩ := d2 i hi'
      refine ⟨?_, ?_, ?_⟩
      · rw [sI_at, if_pos rfl, sI_at, if_neg (show ¬ 34 = 25 by decide)]
        show (if i = j then nI v.toNat else σ.1 34 i) = nI (if 6 = 6 ∧ i = j then v.toNat else tL t i)
        by_cases e : i = j
        · rw [if_pos e, if_pos ⟨rfl, e⟩]
        · rw [if_neg e, if_neg (fun q => e q.2)]
          exact k1
      · rw [sI_at, if_neg (by decide), sI_at, if_neg (by decide)]
        exact k2
      · rw [sI_at, if_neg (by decide), sI_at, if_neg (by decide)]
        exact k3
    · intro i hi h6
      rw [sI_at, if_neg (by decide), sI_at, if_neg (by decide)]
      exact d3 i hi h6
    · rw [sI_at, if_neg (by decide), sI_at, if_pos rfl, if_neg (by decide)]
      exact d4
    · rw [sI_at, if_neg (by decide), sI_at, if_pos rfl, if_neg (by decide)]
      exact d5
    · rw [sI_at, if_neg (by decide), sI_at, if_pos rfl, if_pos rfl]
      rfl
    · exact fr_sI (fr_sI (fr_refl σ) (by decide) _ _) (by decide) _ _
  | 1 =>
    obtain ⟨h1, h2⟩ : j = 0 ∧ v = 0 := hd
    subst h1 h2
    have ht := (c_t h).2.2.2.2.2.2
    refine ⟨rf_sI (rf_sI (rf_sA σ 35 (fun q => if q < tM t then nI (pasF t (tC t) q) else σ.1 35 q)) 25 7 (nI (tS t - 1))) 25 6 (nI (tH t + 1)), ?_, ⟨?_, ?_, ?_, ?_, ?_, ?_⟩, ?_⟩
    · unfold f_X8_act
      simp only
      rw [if_neg (show ¬ nI 1 = 0 by decide), if_pos (show nI 1 = 1 from rfl), passColds_ok (Or.inl rfl) h (cS_cold h), Option.bind_some, sA_at, if_neg (show ¬ 25 = 35 by decide), c_S h, max0s (by omega), Option.bind_some, sI_at, if_pos rfl, if_neg (show ¬ 6 = 7 by decide), sA_at, if_neg (show ¬ 25 = 35 by decide), c_H h, nI_1]
    · intro r hr
      rw [sI_at, if_neg (by decide), sI_at, if_neg (by decide), sA_at, if_neg (by decide)]
      exact d1 r hr
    · intro i hi
      have hi' : i < tM t := hi
      obtain ⟨k1, k2, k3⟩ := d2 i hi'
      refine ⟨?_, ?_, ?_⟩
      · rw [sI_at, if_neg (by decide), sI_at, if_neg (by decide), sA_at, if_neg (by decide)]
        exact k1
      · rw [sI_at, if_neg (by decide), sI_at, if_neg (by decide), sA_at, if_pos rfl, if_pos hi']
        show _ = nI (if i < tM t then (if catch_ t i = true then 2 else tC t i - 1) else tC t i)
        rw [if_pos hi']
        rfl
      · rw [sI_at, if_neg (by decide), sI_at, if_neg (by decide), sA_at, if_neg (by decide)]
        exact k3
    · intro i hi h6
      have hi' : tM t ≤ i := hi
      rw [sI_at, if_neg (by decide), sI_at, if_neg (by decide), sA_at, if_pos rfl, if_neg (by omega)]
      exact d3 i hi h6
    · rw [sI_at, if_pos rfl, if_pos rfl]
      rfl
    · rw [sI_at, if_pos rfl, if_neg (by decide), sI_at, if_pos rfl, if_pos rfl]
      rfl
    · rw [sI_at, if_pos rfl, if_neg (by decide), sI_at, if_pos rfl, if_neg (by decide), sA_at, if_neg (by decide)]
      exact d6
    · exact fr_sI (fr_sI (fr_sA (fr_refl σ) (by decide) _) (by decide) _ _) (by decide) _ _
  | 2 =>
    obtain ⟨h1, h2⟩ : j = 0 ∧ v = 0 := hd
    subst h1 h2
    refine ⟨rf_sI σ 25 7 3, ?_, ⟨?_, ?_, ?_, ?_, ?_, ?_⟩, ?_⟩
    · unfold f_X8_act
      simp only
      rw [if_neg (show ¬ nI 2 = 0 by decide), if_neg (show ¬ nI 2 = 1 by decide), if_pos (show nI 2 = 2 from rfl)]
    · intro r hr
      rw [sI_at, if_neg (by decide)]
      exact d1 r hr
    · intro i hi
      rw [sI_at, if_neg (by decide), sI_at, if_neg (by decide), sI_at, if_neg (by decide)]
      exact d2 i hi
    · intro i hi h6
      rw [sI_at, if_neg (by decide)]
      exact d3 i hi h6
    · rw [sI_at, if_pos rfl, if_neg (by decide)]
      exact d4
    · rw [sI_at, if_pos rfl, if_pos rfl]
      rfl
    · rw [sI_at, if_pos rfl, if_neg (by decide)]
      exact d6
    · exact fr_sI (fr_refl σ) (by decide) _ _
  | 3 =>
    obtain ⟨h1, h2⟩ : j < tM t ∧ v = 0 := hd
    subst h2
    refine ⟨rf_sI σ 35 j 2, ?_, ⟨?_, ?_, ?_, ?_, ?_, ?_⟩, ?_⟩
    · unfold f_X8_act
      simp only
      rw [if_neg (show ¬ nI 3 = 0 by decide), if_neg (show ¬ nI 3 = 1 by decide), if_neg (show ¬ nI 3 = 2 by decide), if_pos (show nI 3 = 3 from rfl), ck0_35, if_pos (in_ok (by omega) (by decide)), nI_clamp (by omega)]
    · intro r hr
      rw [sI_at, if_neg (by decide)]
      exact d1 r hr
    · intro i hi
      obtain ⟨k1, k2, k3⟩ := d2 i hi
      refine ⟨?_, ?_, ?_⟩
      · rw [sI_at, if_neg (by decide)]
        exact k1
      · rw [sI_at, if_pos rfl]
        show (if i = j then 2 else σ.1 35 i) = nI (if 7 = 7 ∧ i = j then 2 else tC t i)
        by_cases e : i = j
        · rw [if_pos e, if_pos ⟨rfl, e⟩]
          rfl
        · rw [if_neg e, if_neg (fun q => e q.2)]
          exact k2
      · rw [sI_at, if_neg (by decide)]
        exact k3
    · intro i hi h6
      have hi' : tM t ≤ i := hi
      rw [sI_at, if_pos rfl, if_neg (by omega)]
      exact d3 i hi h6
    · rw [sI_at, if_neg (by decide)]
      exact d4
    · rw [sI_at, if_neg (by decide)]
      exact d5
    · rw [sI_at, if_neg (by decide)]
      exact d6
    · exact fr_sI (fr_refl σ) (by decide) _ _
  | 4 =>
    obtain ⟨h1, h2⟩ : j < tM t ∧ -5 ≤ v ∧ v ≤ 5 := hd
    refine ⟨rf_sI σ 36 j (iI v), ?_, ⟨?_, ?_, ?_, ?_, ?_, ?_⟩, ?_⟩
    · unfold f_X8_act
      simp only
      rw [if_neg (show ¬ nI 4 = 0 by decide), if_neg (show ¬ nI 4 = 1 by decide), if_neg (show ¬ nI 4 = 2 by decide), if_neg (show ¬ nI 4 = 3 by decide), if_pos (show nI 4 = 4 from rfl), ck0_36, if_pos (in_ok (by omega) (by decide)), nI_clamp (by omega)]
    · intro r hr
      rw [sI_at, if_neg (by decide)]
      exact d1 r hr
    · intro i hi
      obtain ⟨k1, k2, k3⟩ := d2 i hi
      refine ⟨?_, ?_, ?_⟩
      · rw [sI_at, if_neg (by decide)]
        exact k1
      · rw [sI_at, if_neg (by decide)]
        exact k2
      · rw [sI_at, if_pos rfl]
        show (if i = j then iI v else σ.1 36 i) = iI (if i = j then v else tV t i)
        by_cases e : i = j
        · rw [if_pos e, if_pos e]
        · rw [if_neg e, if_neg e]
          exact k3
    · intro i hi h6
      rw [sI_at, if_neg (by decide)]
      exact d3 i hi h6
    · rw [sI_at, if_neg (by decide)]
      exact d4
    · rw [sI_at, if_neg (by decide)]
      exact d5
    · rw [sI_at, if_neg (by decide)]
      exact d6
    · exact fr_sI (fr_refl σ) (by decide) _ _
  | 5 =>
    obtain ⟨h1, h2, h3⟩ : j < tR t ∧ 0 ≤ v ∧ v ≤ 30 := hd
    have ev : iI v = nI v.toNat := by rw [← iI_nat]; exact congrArg iI (by omega)
    refine ⟨rf_sI σ 33 j (nI v.toNat), ?_, ⟨?_, ?_, ?_, ?_, ?_, ?_⟩, ?_⟩
    · unfold f_X8_act
      simp only
      rw [if_neg (show ¬ nI 5 = 0 by decide), if_neg (show ¬ nI 5 = 1 by decide), if_neg (show ¬ nI 5 = 2 by decide), if_neg (show ¬ nI 5 = 3 by decide), if_neg (show ¬ nI 5 = 4 by decide), ck0_33, if_pos (in_ok (by omega) (by decide)), nI_clamp (by omega), ev]
    · intro r hr
      rw [sI_at, if_pos rfl]
      show (if r = j then nI v.toNat else σ.1 33 r) = nI (if 5 = 5 ∧ r = j then v.toNat else tD t r)
      by_cases e : r = j
      · rw [if_pos e, if_pos ⟨rfl, e⟩]
      · rw [if_neg e, if_neg (fun q => e q.2)]
        exact d1 r hr
    · intro i hi
      rw [sI_at, if_neg (by decide), sI_at, if_neg (by decide), sI_at, if_neg (by decide)]
      exact d2 i hi
    · intro i hi h6
      rw [sI_at, if_neg (by decide)]
      exact d3 i hi h6
    · rw [sI_at, if_neg (by decide)]
      exact d4
    · rw [sI_at, if_neg (by decide)]
      exact d5
    · rw [sI_at, if_neg (by decide)]
      exact d6
    · exact fr_sI (fr_refl σ) (by decide) _ _
  | n + 6 => exact hd.elim
theorem fr_trans {l : List Nat} {σ σ' σ2 : rf_S} (h : fr l σ σ') (g : fr l σ' σ2) : fr l σ σ2 := ⟨fun c hc => (g.1 c hc).trans (h.1 c hc), g.2.trans h.2⟩
theorem fr_mono {l m : List Nat} {σ σ' : rf_S} (h : fr l σ σ') (hl : ∀ c, c ∈ l → c ∈ m) : fr m σ σ' := ⟨fun c hc => h.1 c (fun q => hc (hl c q)), h.2⟩
theorem CT_fr {σ σ' : rf_S} {t : TT} (h : CT σ t) (hf : ∀ c, (25 ≤ c ∧ c ≤ 36) → σ'.1 c = σ.1 c) : CT σ' t := by
  obtain ⟨h1, h2, h3⟩ := h
  refine ⟨?_, ?_, h3⟩
  · unfold cC at *
    rw [hf 26 (by omega), hf 28 (by omega), hf 29 (by omega), hf 30 (by omega), hf 31 (by omega)]
    exact h1
  · unfold cS at *
    rw [hf 25 (by omega), hf 33 (by omega), hf 34 (by omega), hf 35 (by omega), hf 36 (by omega)]
    exact h2
theorem enc_ok (w j : Nat) (v : Int) : (((10000 : Int32) * nI w) + (100 * nI j)) + iI v + 5 = enc (w, j, v) := by
  unfold enc
  rw [show (10000 : Int32) = iI 10000 from rfl, show (100 : Int32) = iI 100 from rfl, show (5 : Int32) = iI 5 from rfl, ← iI_nat w, ← iI_nat j, iI_mul, iI_mul, iI_add, iI_add, iI_add]
theorem carryOut_ok {σ : rf_S} {t : TT} (h : CT σ t) {n : Nat} (hn : σ.1 38 3 = nI n) (h40 : n < 40) {d : DD} (hd : dok d t) : ∃ σ', f_X1_carryOut (nI d.1) (nI d.2.1) (iI d.2.2) σ = some σ' ∧ cS σ' (actT d t) ∧ σ'.1 38 3 = nI (n + 1) ∧ (∀ j, σ'.1 39 j = if j = n then enc d else σ.1 39 j) ∧ fr [25, 33, 34, 35, 36, 38, 39] σ σ' := by
  have h1 : CT (rf_sI (rf_sI σ 39 n (enc d)) 38 3 (nI (n + 1))) t := CT_fr h (fun c hc => by rw [sI_1, if_neg (by omega), sI_1, if_neg (by omega)])
  obtain ⟨σ', a1, a2, a3⟩ := act_ok h1 hd
  refine ⟨σ', ?_, a2, ?_, ?_, ?_⟩
  · unfold f_X1_carryOut f_X1_left
    rw [Option.bind_some, hn, show (40 : Int32) - nI n = nI (40 - n) from nat_sub (show n ≤ 40 by omega), if_neg (nI_nle (by omega) (by omega)), ck0_39, if_pos (in_ok h40 (by decide)), nI_clamp (by omega), Option.bind_some, enc_ok, sI_at, if_neg (by decide), hn, nI_1, a1]
    rfl
  · rw [a3.1 38 (by decide), sI_at, if_pos rfl, if_pos rfl]
  · intro j
    rw [a3.1 39 (by decide), sI_at, if_neg (by decide), sI_at, if_pos rfl]
  · refine fr_trans (fr_sI (fr_sI (fr_refl σ) (by decide) _ _) (by decide) _ _) (fr_mono a3 ?_)
    decide
def mNote (τ : rf_S) (n : Nat) : rf_S := rf_sI (rf_sA τ 14 (fun q => if 25 * n ≤ q ∧ q < 25 * n + 25 then τ.1 12 (0 + (q - 25 * n)) else τ.1 14 q)) 0 25 (nI (n + 1))
theorem i25 (n : Nat) : (25 : Int32) * nI n = nI (25 * n) := by
  rw [show (25 : Int32) = nI 25 from rfl, pk_mul]
theorem note_ok {τ : rf_S} {n : Nat} (h : τ.1 0 25 = nI n) (hn : n < 40) : f_X10_note τ = some (mNote τ n) := by
  unfold f_X10_note mNote
  rw [h, i25, show (0 : Int32) = nI 0 from rfl, show (25 : Int32) = nI 25 from rfl, bring_ok ck1_12 ck1_14 (by decide) (by omega) (by omega) (by omega) (by omega), Option.bind_some, sA_at, if_neg (by decide), h, nI_1]
theorem MT_note {τ : rf_S} {t : TT} (h : MT τ 12 t) (n : Nat) : MT (mNote τ n) 12 t := by
  obtain ⟨h1, h2, h3, h4⟩ := h
  refine ⟨?_, ?_, h3, h4⟩
  · unfold mC mNote at *
    simp only [sI_at, sA_at, if_neg (show ¬ 0 = 14 by decide), if_neg (show ¬ 16 = 25 by decide), if_neg (show ¬ 17 = 25 by decide), if_neg (show ¬ 8 = 0 by decide), if_neg (show ¬ 9 = 0 by decide), if_neg (show ¬ 10 = 0 by decide), if_neg (show ¬ 11 = 0 by decide), if_neg (show ¬ 8 = 14 by decide), if_neg (show ¬ 9 = 14 by decide), if_neg (show ¬ 10 = 14 by decide), if_neg (show ¬ 11 = 14 by decide), if_true]
    exact h1
  · unfold mNote
    rw [sI_1, if_neg (by decide), sA_1, if_neg (by decide)]
    exact h2
theorem MT_sA {τ : rf_S} {t u : TT} {c : Nat} (hc : c = 12 ∨ c = 13) {c0 : Nat} (h : MT τ c0 t) (hcst : cst t u) (htok : tok 60 u) {g : Nat → Int32} (hg : mV g u) : MT (rf_sA τ c g) c u := by
  refine ⟨sA_MT hc (mC_cst h.1 hcst) g, ?_, ckM hc, htok⟩
  rw [sA_1, if_pos rfl]
  exact hg
theorem Sim_more {σ τ : rf_S} (h : Sim σ τ) : ∃ t n, CT σ t ∧ MT τ 12 t ∧ n ≤ 40 ∧ σ.1 38 3 = nI n ∧ τ.1 0 25 = nI n ∧ tok n t ∧ ∀ (d : DD) (σ' : rf_S) (g : Nat → Int32), dok d t → n < 40 → 0 < tM t → cS σ' (actT d t) → σ'.1 38 3 = nI (n + 1) → (∀ j, σ'.1 39 j = if j = n then enc d else σ.1 39 j) → fr [25, 33, 34, 35, 36, 38, 39] σ σ' → mV g (actT d t) → Sim σ' (rf_sA (mNote τ n) 12 g) := by
  obtain ⟨hF, hR, hT, t0, n, H, E, w1, w2, w3, w4, ⟨d1, d2, d3, d4, d5, d6, d7, d8⟩, w5, w6⟩ := h
  obtain ⟨e1, e2⟩ := Hs_all d4 w1 n (Nat.le_refl n)
  have e3 := tok_mono e1 (Nat.le_trans d1 (by decide : 40 ≤ 60))
  refine ⟨H n, n, ⟨cC_cst w2 e2, d6, e3⟩, ⟨mC_cst w4 e2, d7, ck1_12, e3⟩, d1, d2, d3, e1, ?_⟩
  intro d σ' g hd hn hM s1 s2 s3 hf hg
  have f1 := hf.1
  have m1 : ∀ c, c ≠ 0 → c ≠ 12 → c ≠ 14 → (rf_sA (mNote τ n) 12 g).1 c = τ.1 c := by
    intro c a b e
    unfold mNote
    rw [sA_1, if_neg b, sI_1, if_neg a, sA_1, if_neg e]
  have m0 : ∀ j, j ≠ 25 → (rf_sA (mNote τ n) 12 g).1 0 j = τ.1 0 j := by
    intro j a
    unfold mNote
    rw [sA_at, if_neg (by decide), sI_at, if_pos rfl, if_neg a, sA_at, if_neg (by decide)]
  have m25 : (rf_sA (mNote τ n) 12 g).1 0 25 = nI (n + 1) := by
    unfold mNote
    rw [sA_at, if_neg (by decide), sI_at, if_pos rfl, if_pos rfl]
  have m14 : ∀ q, (rf_sA (mNote τ n) 12 g).1 14 q = if 25 * n ≤ q ∧ q < 25 * n + 25 then τ.1 12 (0 + (q - 25 * n)) else τ.1 14 q := by
    intro q
    unfold mNote
    rw [sA_at, if_neg (by decide), sI_at, if_neg (by decide), sA_at, if_pos rfl]
  have m12 : (rf_sA (mNote τ n) 12 g).1 12 = g := by rw [sA_1, if_pos rfl]
  have m2 : (rf_sA (mNote τ n) 12 g).2 = τ.2 := rfl
  obtain ⟨k1, k2, k3, k4, k5⟩ := hF
  refine ⟨⟨?_, ?_, ?_, ?_, ?_⟩, ?_, ?_, t0, n + 1, (fun k => if k ≤ n then H k else actT d (H n)), (fun k => if k < n then E k else d), w1, ?_, ?_, ?_, ⟨by omega, s2, m25, ⟨?_, ?_⟩, ?_, ?_, ?_, ?_⟩, ?_, ?_⟩
  · rw [m0 6 (by decide), f1 0 (by decide)]
    exact k1
  · rw [m0 4 (by decide), f1 0 (by decide)]
    exact k2
  · rw [m1 5 (by decide) (by decide) (by decide), f1 54 (by decide)]
    exact k3
  · rw [m2, hf.2]
    exact k4
  · rw [m2, hf.2]
    exact k5
  · refine SimR_of hR (fun c a b => f1 c ?_) (fun c a => m1 c (by omega) (by omega) (by omega))
    simp only [List.mem_cons, List.not_mem_nil, or_false]
    omega
  · refine SimT_of hT (fun c a b => f1 c ?_) (fun c a => m1 c (by omega) (by omega) (by omega))
    simp only [List.mem_cons, List.not_mem_nil, or_false]
    omega
  · unfold cC at *
    rw [f1 26 (by decide), f1 28 (by decide), f1 29 (by decide), f1 30 (by decide), f1 31 (by decide)]
    exact w2
  · unfold cP at *
    rw [f1 27 (by decide), f1 32 (by decide)]
    exact w3
  · unfold mC at *
    rw [m0 16 (by decide), m0 17 (by decide), m1 8 (by decide) (by decide) (by decide), m1 9 (by decide) (by decide) (by decide), m1 10 (by decide) (by decide) (by decide), m1 11 (by decide) (by decide) (by decide)]
    exact w4
  · simp only [Nat.zero_le, if_true]
    exact d4.1
  · intro k hk
    by_cases e : k < n
    · simp only [if_pos (show k + 1 ≤ n by omega), if_pos (show k ≤ n by omega), if_pos e]
      exact d4.2 k e
    · have ek : k = n := by omega
      subst ek
      simp only [if_neg (show ¬ k + 1 ≤ k by omega), Nat.le_refl, if_true, Nat.lt_irrefl, if_false]
      exact ⟨trivial, hd⟩
  · intro j hj
    rw [s3]
    by_cases e : j = n
    · subst e
      rw [if_pos rfl]
      simp only [Nat.lt_irrefl, if_false]
    · simp only [if_neg e, if_pos (show j < n by omega)]
      exact d5 j (by omega)
  · simp only [if_neg (show ¬ n + 1 ≤ n by omega)]
    exact s1
  · simp only [if_neg (show ¬ n + 1 ≤ n by omega)]
    rw [m12]
    exact hg
  · intro i hi
    simp only [if_pos (show i ≤ n by omega)]
    by_cases e : i = n
    · subst e
      have : ∀ j, j < 25 → (rf_sA (mNote τ i) 12 g).1 14 (25 * i + j) = τ.1 12 j := by
        intro j hj
        rw [m14, if_pos (by omega)]
        exact congrArg (τ.1 12) (by omega)
      obtain ⟨v1, v2, v3, v4, v5⟩ := d7
      have hR4 := e3.1
      have hM6 := e3.2.1
      refine ⟨fun r hr => ?_, fun r hr => ⟨?_, ?_, ?_⟩, ?_, ?_, ?_⟩
      · simp only
        rw [this r (by omega)]
        exact v1 r hr
      · simp only
        rw [this _ (by omega)]
        exact (v2 r hr).1
      · simp only
        rw [this _ (by omega)]
        exact (v2 r hr).2.1
      · simp only
        rw [this _ (by omega)]
        exact (v2 r hr).2.2
      · simp only
        rw [this _ (by omega)]
        exact v3
      · simp only
        rw [this _ (by omega)]
        exact v4
      · simp only
        rw [this _ (by omega)]
        exact v5
    · have : ∀ j, j < 25 → (rf_sA (mNote τ n) 12 g).1 14 (25 * i + j) = τ.1 14 (25 * i + j) := by
        intro j hj
        rw [m14, if_neg (by omega)]
      obtain ⟨v1, v2, v3, v4, v5⟩ := d8 i (by omega)
      obtain ⟨q1, q2⟩ := Hs_all d4 w1 i (by omega)
      have hR4 := q1.1
      have hM6 := q1.2.1
      refine ⟨fun r hr => ?_, fun r hr => ⟨?_, ?_, ?_⟩, ?_, ?_, ?_⟩
      · simp only
        rw [this r (by omega)]
        exact v1 r hr
      · simp only
        rw [this _ (by omega)]
        exact (v2 r hr).1
      · simp only
        rw [this _ (by omega)]
        exact (v2 r hr).2.1
      · simp only
        rw [this _ (by omega)]
        exact (v2 r hr).2.2
      · simp only
        rw [this _ (by omega)]
        exact v3
      · simp only
        rw [this _ (by omega)]
        exact v4
      · simp only
        rw [this _ (by omega)]
        exact v5
  · intro q
    have : tM (H n) = tM t0 := e2.2.1
    omega
  · intro k hk
    have := w6 k hk
    unfold SimK at *
    rw [f1 44 (by decide), f1 (41 + k) (by simp only [List.mem_cons, List.not_mem_nil, or_false]; omega), m1 17 (by decide) (by decide) (by decide), m1 15 (by decide) (by decide) (by decide), m1 16 (by decide) (by decide) (by decide)]
    exact this
