/-! ===== deeds keep a town's constants and its bounds ===== -/
def cst (t u : TT) : Prop := tR u = tR t ∧ tM u = tM t ∧ (∀ r, tN u r = tN t r) ∧ ∀ i, tK u i = tK t i ∧ tG u i = tG t i ∧ tW u i = tW t i
theorem cst_rfl (t : TT) : cst t t := ⟨rfl, rfl, fun _ => rfl, fun _ => ⟨rfl, rfl, rfl⟩⟩
theorem cst_trans {t u v : TT} (h : cst t u) (g : cst u v) : cst t v := ⟨g.1.trans h.1, g.2.1.trans h.2.1, fun r => (g.2.2.1 r).trans (h.2.2.1 r), fun i => ⟨(g.2.2.2 i).1.trans (h.2.2.2 i).1, (g.2.2.2 i).2.1.trans (h.2.2.2 i).2.1, (g.2.2.2 i).2.2.trans (h.2.2.2 i).2.2⟩⟩
theorem act_cst (d : DD) (t : TT) : cst t (actT d t) := by
  obtain ⟨w, i, v⟩ := d
  match w with
  | 0 | 1 | 2 | 3 | 4 | _ + 5 => exact ⟨rfl, rfl, fun _ => rfl, fun _ => ⟨rfl, rfl, rfl⟩⟩
theorem tset_at (t : TT) (a b x p q : Nat) : (tset t a b x).1 p q = if p = a ∧ q = b then x else t.1 p q := rfl
theorem dist_le {a b n : Nat} (ha : a < n) (hb : b < n) : dist a b < n := by
  unfold dist
  split <;> omega
theorem tok_mono {k j : Nat} {t : TT} (h : tok k t) (hk : k ≤ j) : tok j t := by
  obtain ⟨a1, a2, a3, a4, a5, a6, a7, a8, a9⟩ := h
  exact ⟨a1, a2, a3, a4, a5, a6, by omega, a8, by omega⟩
theorem act_tok {k : Nat} {d : DD} {t : TT} (h : tok k t) (hd : dok d t) : tok (k + 1) (actT d t) := by
  obtain ⟨a1, a2, a3, a4, a5, a6, a7, a8, a9⟩ := h
  obtain ⟨w, j, v⟩ := d
  match w with
  | 0 =>
    obtain ⟨h1, h2, h3⟩ : j < tM t ∧ 0 ≤ v ∧ v < tR t := hd
    have b := a6 j h1
    have hdi := dist_le (a := tL t j) (b := v.toNat) (n := 4) (by omega) (by omega)
    refine ⟨a1, a2, a3, a4, a5, fun i hi => ?_, ?_, a8, ?_⟩
    · have c := a6 i hi
      refine ⟨c.1, c.2.1, c.2.2.1, ?_, c.2.2.2.2⟩
      show (if 6 = 6 ∧ i = j then v.toNat else tL t i) < tR t
      split
      · omega
      · exact c.2.2.2.1
    · show tH t ≤ k + 1
      omega
    · show tP t + dist (tL t j) v.toNat ≤ 3 * (k + 1)
      omega
  | 1 =>
    refine ⟨a1, a2, a3, a4, a5, fun i hi => ?_, ?_, ?_, ?_⟩
    · have c := a6 i hi
      refine ⟨c.1, c.2.1, c.2.2.1, c.2.2.2.1, ?_, c.2.2.2.2.2⟩
      show (if i < tM t then (if catch_ t i = true then 2 else tC t i - 1) else tC t i) ≤ 2
      split
      · split <;> omega
      · omega
    · show tH t + 1 ≤ k + 1
      omega
    · show tS t - 1 ≤ 3
      omega
    · show tP t ≤ 3 * (k + 1)
      omega
  | 2 => exact ⟨a1, a2, a3, a4, a5, a6, by show tH t ≤ k + 1; omega, Nat.le_refl 3, by show tP t ≤ 3 * (k + 1); omega⟩
  | 3 =>
    refine ⟨a1, a2, a3, a4, a5, fun i hi => ?_, by show tH t ≤ k + 1; omega, a8, by show tP t ≤ 3 * (k + 1); omega⟩
    have c := a6 i hi
    refine ⟨c.1, c.2.1, c.2.2.1, c.2.2.2.1, ?_, c.2.2.2.2.2⟩
    show (if 7 = 7 ∧ i = j then 2 else tC t i) ≤ 2
    split <;> omega
  | 4 =>
    obtain ⟨h1, h2, h3⟩ : j < tM t ∧ -5 ≤ v ∧ v ≤ 5 := hd
    refine ⟨a1, a2, a3, a4, a5, fun i hi => ?_, by show tH t ≤ k + 1; omega, a8, by show tP t ≤ 3 * (k + 1); omega⟩
    have c := a6 i hi
    refine ⟨c.1, c.2.1, c.2.2.1, c.2.2.2.1, c.2.2.2.2.1, ?_⟩
    show -5 ≤ (if i = j then v else tV t i) ∧ (if i = j then v else tV t i) ≤ 5
    split
    · omega
    · exact c.2.2.2.2.2
  | 5 =>
    obtain ⟨h1, h2, h3⟩ : j < tR t ∧ 0 ≤ v ∧ v ≤ 30 := hd
    refine ⟨a1, a2, a3, a4, fun r hr => ?_, a6, by show tH t ≤ k + 1; omega, a8, by show tP t ≤ 3 * (k + 1); omega⟩
    have c := a5 r hr
    refine ⟨c.1, c.2.1, ?_⟩
    show (if 5 = 5 ∧ r = j then v.toNat else tD t r) ≤ 30
    split
    · omega
    · exact c.2.2
  | n + 6 => exact hd.elim
theorem Hs_all {t0 : TT} {n : Nat} {H : Nat → TT} {E : Nat → DD} (h : Hs t0 n H E) (h0 : tok 0 t0) : ∀ k, k ≤ n → tok k (H k) ∧ cst t0 (H k) := by
  intro k
  induction k with
  | zero =>
    intro _
    rw [h.1]
    exact ⟨h0, cst_rfl t0⟩
  | succ k ih =>
    intro hk
    obtain ⟨i1, i2⟩ := ih (by omega)
    obtain ⟨j1, j2⟩ := h.2 k (by omega)
    rw [j1]
    exact ⟨act_tok i1 j2, cst_trans i2 (act_cst _ _)⟩
theorem cC_cst {σ : rf_S} {t u : TT} (h : cC σ t) (g : cst t u) : cC σ u := by
  obtain ⟨g1, g2, g3, g4⟩ := g
  obtain ⟨h1, h2, h3, h4⟩ := h
  refine ⟨by rw [g1]; exact h1, by rw [g2]; exact h2, fun r hr => ?_, fun i hi => ?_⟩
  · rw [g3]
    exact h3 r (by omega)
  · obtain ⟨k1, k2, k3⟩ := g4 i
    rw [k1, k2, k3]
    exact h4 i (by omega)
theorem mC_cst {τ : rf_S} {t u : TT} (h : mC τ t) (g : cst t u) : mC τ u := by
  obtain ⟨g1, g2, g3, g4⟩ := g
  obtain ⟨h1, h2, h3, h4⟩ := h
  refine ⟨by rw [g1]; exact h1, by rw [g2]; exact h2, fun r hr => ?_, fun i hi => ?_⟩
  · rw [g3]
    exact h3 r (by omega)
  · obtain ⟨k1, k2, k3⟩ := g4 i
    rw [k1, k2, k3]
    exact h4 i (by omega)
theorem Sim_town {σ τ : rf_S} (h : Sim σ τ) : ∃ t, CT σ t ∧ MT τ 12 t := by
  obtain ⟨t0, n, H, E, h1, h2, h3, h4, ⟨d1, d2, d3, d4, d5, d6, d7, d8⟩, -⟩ := h.2.2.2
  obtain ⟨e1, e2⟩ := Hs_all d4 h1 n (Nat.le_refl n)
  have e3 := tok_mono e1 (Nat.le_trans d1 (by decide : 40 ≤ 60))
  exact ⟨H n, ⟨cC_cst h2 e2, d6, e3⟩, ⟨mC_cst h4 e2, d7, ck1_12, e3⟩⟩
/-! members, rooms, sets of members -/
theorem one_cases {σ τ : rf_S} {c : Nat} {t : TT} (hσ : CT σ t) (hτ : MT τ c t) (i : Int32) : (f_X9_isMember i σ = some 0 ∧ f_X10_isOne i τ = some 0) ∨ ∃ k, k < tM t ∧ i = nI k ∧ f_X9_isMember i σ = some 1 ∧ f_X10_isOne i τ = some 1 := by
  have hM := t_M (c_t hσ)
  unfold f_X9_isMember f_X8_members f_X10_isOne f_X10_in
  rw [c_M hσ, m_M hτ]
  simp only [Option.bind_some, sub1_lt (show tM t < 2 ^ 30 by omega)]
  rcases pk_ix i (show tM t < 2 ^ 31 by omega) with h | h | ⟨k, h1, h2⟩
  · left
    rw [if_pos h]
    exact ⟨rfl, rfl⟩
  · left
    by_cases h0 : i < 0
    · rw [if_pos h0]
      exact ⟨rfl, rfl⟩
    · rw [if_neg h0, if_pos h]
      exact ⟨rfl, rfl⟩
  · right
    refine ⟨k, h1, h2, ?_⟩
    subst h2
    have h0 : ¬ nI k < 0 := nI_pos (by omega)
    have hk : ¬ nI (tM t) ≤ nI k := nI_ge h1 (by omega)
    rw [if_neg h0, if_neg hk]
    exact ⟨rfl, rfl⟩
theorem room_cases {σ τ : rf_S} {c : Nat} {t : TT} (hσ : CT σ t) (hτ : MT τ c t) (i : Int32) : (f_X9_isRoom i σ = some 0 ∧ f_X10_isRoom i τ = some 0) ∨ ∃ k, k < tR t ∧ i = nI k ∧ f_X9_isRoom i σ = some 1 ∧ f_X10_isRoom i τ = some 1 := by
  have hM := t_R (c_t hσ)
  unfold f_X9_isRoom f_X8_rooms f_X10_isRoom f_X10_in
  rw [c_R hσ, m_R hτ]
  simp only [Option.bind_some, sub1_lt (show tR t < 2 ^ 30 by omega)]
  rcases pk_ix i (show tR t < 2 ^ 31 by omega) with h | h | ⟨k, h1, h2⟩
  · left
    rw [if_pos h]
    exact ⟨rfl, rfl⟩
  · left
    by_cases h0 : i < 0
    · rw [if_pos h0]
      exact ⟨rfl, rfl⟩
    · rw [if_neg h0, if_pos h]
      exact ⟨rfl, rfl⟩
  · right
    refine ⟨k, h1, h2, ?_⟩
    subst h2
    have h0 : ¬ nI k < 0 := nI_pos (by omega)
    have hk : ¬ nI (tR t) ≤ nI k := nI_ge h1 (by omega)
    rw [if_neg h0, if_neg hk]
    exact ⟨rfl, rfl⟩
theorem p2 : ∀ m, m < 7 → ((1 : Int32) <<< (nI m &&& 31)) - 1 = nI (2 ^ m - 1) ∧ (1 : Int32) <<< (nI m &&& 31) = nI (2 ^ m) := by decide +kernel
theorem pow6 : ∀ m, m < 7 → 2 ^ m ≤ 64 ∧ 1 ≤ 2 ^ m := by decide
theorem set_cases {σ τ : rf_S} {c : Nat} {t : TT} (hσ : CT σ t) (hτ : MT τ c t) (i : Int32) : (f_X8_isSet i σ = some 0 ∧ f_X10_isSet i τ = some 0) ∨ ∃ k, k < 2 ^ tM t ∧ i = nI k ∧ f_X8_isSet i σ = some 1 ∧ f_X10_isSet i τ = some 1 := by
  have hM := t_M (c_t hσ)
  have hp := pow6 (tM t) (by omega)
  unfold f_X8_isSet f_X8_everybody f_X10_isSet f_X10_in
  rw [c_M hσ, m_M hτ, (p2 (tM t) (by omega)).1]
  simp only [Option.bind_some]
  rcases pk_ix i (show 2 ^ tM t < 2 ^ 31 by omega) with h | h | ⟨k, h1, h2⟩
  · left
    rw [if_pos h]
    exact ⟨rfl, rfl⟩
  · left
    by_cases h0 : i < 0
    · rw [if_pos h0]
      exact ⟨rfl, rfl⟩
    · have hl : nI (2 ^ tM t - 1) < i := by
        rw [← nat_sub (show 1 ≤ 2 ^ tM t by omega)]
        exact (sub1_lt (by omega) i).mpr h
      rw [if_neg h0, if_pos hl]
      exact ⟨rfl, rfl⟩
  · right
    refine ⟨k, h1, h2, ?_⟩
    subst h2
    have h0 : ¬ nI k < 0 := nI_pos (by omega)
    have hk : ¬ nI (2 ^ tM t - 1) < nI k := fun q => by
      have := (lt_nI (by omega) (by omega)).mp q
      omega
    rw [if_neg h0, if_neg hk]
    exact ⟨rfl, rfl⟩
