/-! ===== send, most ===== -/
def encM : Option (Nat × Nat × Nat) → Int32 × Int32
  | none => (-1, 99)
  | some w => (nI w.1, nI w.2.1)
theorem m103 (l1 l2 l4 l5 t0 : Int32) (σ : rf_S) : f_X10_most_j103 l1 l2 l4 l5 t0 σ = some (.inl ((if l5 ≤ l2 then l2 else l5), t0, l4 + 1, σ)) := by
  unfold f_X10_most_j103 f_X10_most_j116 f_X10_most_j117
  by_cases e : l5 ≤ l2
  · rw [if_pos e, if_pos e]
  · rw [if_neg e, if_neg e]
theorem most_step {σ τ : rf_S} {t : TT} (h : Sim σ τ) (hτ : MT τ 12 t) (h40 : tok 40 t) (hR0 : 0 < tR t) {lim c : Nat} (hlim : lim ≤ 18) (hc : c < tR t ^ tM t) : ∃ τ', f_X10_most_b30 (nI lim) ((encM (BB t lim c)).1, (encM (BB t lim c)).2, nI c, τ) = some (.inl ((encM (BB t lim (c + 1))).1, (encM (BB t lim (c + 1))).2, nI (c + 1), τ')) ∧ Sim σ τ' ∧ MT τ' 12 t := by
  have hR := t_R (m_t hτ)
  have hM := t_M (m_t hτ)
  have hpw := pow_le hR hM
  obtain ⟨τ', u, a1, a2, a3, a4, a5⟩ := walkBy_ok h hτ h40 hR0 (c := c) (by omega)
  refine ⟨τ', ?_, a2, a3⟩
  have hS := wS_le (a := c) (m_t hτ) hR0 (Nat.le_refl (tM t))
  have hK : wC t c ≤ tR t := cnt_le _ _
  have e24 : τ'.1 13 24 = nI (wS t (tM t) c) := by
    rw [m_P a4]
    refine congrArg nI ?_
    have := a5.2.2.2.2.2.2.2.2
    rw [Nat.sub_self, sm, Nat.add_zero] at this
    exact this
  have ekn : f_X10_knownIn 13 τ' = some (bs (tR t) (wN t (tM t) c)) := by
    rw [knownIn_ok a4, a5.2.1.1]
    exact congrArg some (bs_congr fun r _ => WK_knw hM a5 r)
  obtain ⟨X, hX⟩ : ∃ X, X = (encM (BB t lim c)).1 := ⟨_, rfl⟩
  obtain ⟨Y, hY⟩ : ∃ Y, Y = (encM (BB t lim c)).2 := ⟨_, rfl⟩
  rw [← hX, ← hY]
  unfold f_X10_most_b30
  simp only
  rw [rways_ok hτ, Option.bind_some, if_neg (nI_ge hc (by omega)), a1, Option.bind_some, if_pos (show rf_ck ly1 0 13 24 = true from rfl), show (24 : Int32).toNatClampNeg = 24 from rfl, e24, ekn, Option.bind_some, mb_bs _ (by omega), Option.bind_some, if_pos (show rf_ck ly1 0 13 24 = true from rfl)]
  rw [show cnt (tR t) (wN t (tM t) c) = wC t c from rfl, BB]
  have hj92 : ∀ l2 : Int32, f_X10_most_j92 (nI lim) l2 (nI c) (nI (wC t c)) τ' = some (.inl ((if nI (wC t c) ≤ l2 then l2 else nI (wC t c)), nI (wS t (tM t) c), nI (c + 1), τ')) := by
    intro l2
    unfold f_X10_most_j92
    rw [if_pos (show rf_ck ly1 0 13 24 = true from rfl), show (24 : Int32).toNatClampNeg = 24 from rfl, e24, m103, nI_1]
  have hj102 : ∀ l2 l3 : Int32, f_X10_most_j102 (nI lim) l2 l3 (nI c) (nI (wC t c)) τ' = some (.inl ((if nI (wC t c) ≤ l2 then l2 else nI (wC t c)), l3, nI (c + 1), τ')) := by
    intro l2 l3
    unfold f_X10_most_j102
    rw [m103, nI_1]
  have hj117 : ∀ l2 l3 : Int32, f_X10_most_j117 (nI lim) l2 l3 (nI c) τ' = some (.inl (l2, l3, nI (c + 1), τ')) := by
    intro l2 l3
    unfold f_X10_most_j117
    rw [nI_1]
  by_cases far : lim < wS t (tM t) c
  · rw [if_pos (nI_lt far (by omega)), hj117, upB_far far, hX, hY]
  · rw [if_neg (nI_nlt (by omega) (by omega))]
    cases e : BB t lim c with
    | none =>
      rw [e] at hX hY
      have hX' : X = -1 := hX
      have hup : upB lim (wC t c) (wS t (tM t) c) c none = some (wC t c, wS t (tM t) c, c) := if_pos (by omega)
      rw [hX', if_pos (show (-1 : Int32) < nI (wC t c) from Int32.lt_of_lt_of_le (by decide) (nI_ge0 (by omega))), hj92, if_neg (show ¬ nI (wC t c) ≤ -1 from fun q => absurd (Int32.le_trans (nI_ge0 (by omega)) q) (by decide)), hup]
      rfl
    | some w =>
      rw [e] at hX hY
      have hX' : X = nI w.1 := hX
      have hY' : Y = nI w.2.1 := hY
      obtain ⟨w1, w2, w3⟩ := BB_ok (m_t hτ) hR0 lim c w e
      rw [hX', hY']
      have yes : (w.1 < wC t c ∨ (wC t c = w.1 ∧ wS t (tM t) c < w.2.1)) → upB lim (wC t c) (wS t (tM t) c) c (some w) = some (wC t c, wS t (tM t) c, c) := fun q => if_pos ⟨by omega, q⟩
      have no : ¬ (w.1 < wC t c ∨ (wC t c = w.1 ∧ wS t (tM t) c < w.2.1)) → upB lim (wC t c) (wS t (tM t) c) c (some w) = some w := fun q => if_neg (fun z => q z.2)
      by_cases c1 : w.1 < wC t c
      · rw [if_pos (nI_lt c1 (by omega)), hj92, if_neg (nI_ge c1 (by omega)), yes (Or.inl c1)]
        rfl
      · rw [if_neg (nI_nlt (by omega) (by omega))]
        by_cases c2 : wC t c = w.1
        · rw [if_neg (nneI c2)]
          by_cases c3 : wS t (tM t) c < w.2.1
          · rw [if_neg (nI_ge c3 (by omega)), hj92, if_pos (nI_le (by omega) (by omega)), yes (Or.inr ⟨c2, c3⟩), ← c2]
            rfl
          · rw [if_pos (nI_le (by omega) (by omega)), hj102, if_pos (nI_le (by omega) (by omega)), no (by omega)]
            rfl
        · rw [if_pos (neI (by omega) (by omega) c2), hj102, if_pos (nI_le (by omega) (by omega)), no (by omega)]
          rfl
theorem most_lp {σ τ : rf_S} {t : TT} (h : Sim σ τ) (hτ : MT τ 12 t) (h40 : tok 40 t) (hR0 : 0 < tR t) {lim : Nat} (hlim : lim ≤ 18) : ∃ τ', rf_lp (f_X10_most_b30 (nI lim)) 5000 (-1, 99, 0, τ) = some ((encM (BB t lim (tR t ^ tM t))).1, (encM (BB t lim (tR t ^ tM t))).2, τ') ∧ Sim σ τ' := by
  have hR := t_R (m_t hτ)
  have hM := t_M (m_t hτ)
  have hpw := pow_le hR hM
  have key : ∃ e, rf_lp (f_X10_most_b30 (nI lim)) 5000 (-1, 99, 0, τ) = some e ∧ (e.1 = (encM (BB t lim (tR t ^ tM t))).1 ∧ e.2.1 = (encM (BB t lim (tR t ^ tM t))).2 ∧ Sim σ e.2.2) := by
    refine lp_inv (N := 5000) (fun k (s : Int32 × Int32 × Int32 × rf_S) => s.1 = (encM (BB t lim k)).1 ∧ s.2.1 = (encM (BB t lim k)).2 ∧ s.2.2.1 = nI k ∧ Sim σ s.2.2.2 ∧ MT s.2.2.2 12 t) (tR t ^ tM t) ?_ (by omega) ⟨rfl, rfl, rfl, h, hτ⟩
    rintro k ⟨z1, z2, z3, s⟩ hk ⟨h1, h2, h3, h4, h5⟩
    simp only at h1 h2 h3 h4 h5
    subst h1 h2 h3
    by_cases e : k = tR t ^ tM t
    · right
      refine ⟨(_, _, s), ?_, by rw [← e], by rw [← e], h4⟩
      unfold f_X10_most_b30
      simp only
      rw [rways_ok h5, Option.bind_some, if_pos (nI_le (by omega) (by omega))]
    · left
      obtain ⟨τ', b1, b2, b3⟩ := most_step h4 h5 h40 hR0 hlim (show k < tR t ^ tM t by omega)
      exact ⟨_, by omega, b1, rfl, rfl, rfl, b2, b3⟩
  obtain ⟨⟨z1, z2, s⟩, k1, k2, k3, k4⟩ := key
  simp only at k2 k3 k4
  subst k2 k3
  exact ⟨s, k1, k4⟩
theorem Sim_seek {σ σ' τ : rf_S} (h : Sim σ τ) (hf : fr [45, 46, 47, 48, 49] σ σ') : Sim σ' τ := by
  refine Sim_fr h (fun c _ _ hc => hf.1 c ?_) (fun _ _ _ _ _ _ => rfl) (fun _ _ => rfl) hf.2 rfl
  simp only [List.mem_cons, List.not_mem_nil, or_false]
  omega
theorem town_or {σ τ : rf_S} {t : TT} (hσ : CT σ t) (hτ : MT τ 12 t) : (tM t = 0 ∧ f_X8_isEmpty σ = some 1 ∧ ¬ τ.1 0 17 ≠ 0) ∨ (0 < tM t ∧ 0 < tR t ∧ f_X8_isEmpty σ = some 0 ∧ τ.1 0 17 ≠ 0) := by
  have hM := t_M (c_t hσ)
  unfold f_X8_isEmpty
  rw [c_M hσ, m_M hτ]
  by_cases e : tM t = 0
  · left
    rw [e, if_neg (by decide)]
    exact ⟨rfl, rfl, by decide⟩
  · right
    have hne : nI (tM t) ≠ 0 := neI (b := 0) (by omega) (by omega) e
    rw [if_pos hne]
    exact ⟨by omega, (c_t hσ).2.2.1 (by omega), rfl, hne⟩
/-- PROMISE 29 -/
theorem sim_most {σ τ : rf_S} (h : Sim σ τ) (x : Int32) : Both (f_X9_most x σ) (f_X10_most x τ) := by
  obtain ⟨t, hσ, hτ, h40⟩ := Sim_town2 h
  unfold f_X9_most f_X10_most f_X10_in
  by_cases c1 : x < 0
  · rw [if_pos c1, if_pos c1]
    exact Both_same h
  rw [if_neg c1, if_neg c1]
  by_cases c2 : x ≤ 18
  · obtain ⟨lim, hlim, rfl⟩ := nI_of2 (M := 18) (n := 18) rfl c1 c2
    rw [if_pos c2, if_neg (Int32.not_lt.mpr c2), Option.bind_some, if_pos n10]
    rcases town_or hσ hτ with ⟨_, e1, e2⟩ | ⟨hM, hR, e1, e2⟩
    · rw [e1, if_neg e2]
      exact Both_same h
    · obtain ⟨w, hw⟩ := BB_some (c_t hσ) lim
      obtain ⟨σ', k1, k2, k3⟩ := seek_ok hσ hR hlim
      obtain ⟨τ', m1, m2⟩ := most_lp (Sim_seek h k2) hτ h40 hR hlim
      rw [hw] at k3 m1
      obtain ⟨k4, k5, -⟩ := k3
      rw [e1, if_pos e2, m1, Option.bind_some, if_pos rfl, k1, Option.bind_some, Option.bind_some, tells_ok, Option.bind_some, k5, sI_1, if_neg (by decide), k4]
      exact ⟨_, _, _, rfl, rfl, Sim_told _ m2⟩
  · rw [if_neg c2, if_pos (Int32.not_le.mp c2)]
    exact Both_same h
def encS (R : Nat) : Option (Nat × Nat × Nat) → Int32 × Int32
  | none => (-1, 99)
  | some w => if w.1 = R then (nI w.2.2, nI w.2.1) else (-1, 99)
theorem send_step {σ τ : rf_S} {t : TT} (h : Sim σ τ) (hτ : MT τ 12 t) (h40 : tok 40 t) (hR0 : 0 < tR t) {c : Nat} (hc : c < tR t ^ tM t) (p : Int32) : ∃ τ', f_X10_send_b29 p ((encS (tR t) (BB t 18 c)).1, (encS (tR t) (BB t 18 c)).2, nI c, τ) = some (.inl ((encS (tR t) (BB t 18 (c + 1))).1, (encS (tR t) (BB t 18 (c + 1))).2, nI (c + 1), τ')) ∧ Sim σ τ' ∧ MT τ' 12 t := by
  have hR := t_R (m_t hτ)
  have hM := t_M (m_t hτ)
  have hpw := pow_le hR hM
  obtain ⟨τ', u, a1, a2, a3, a4, a5⟩ := walkBy_ok h hτ h40 hR0 (c := c) (by omega)
  refine ⟨τ', ?_, a2, a3⟩
  have hS := wS_le (a := c) (m_t hτ) hR0 (Nat.le_refl (tM t))
  have hK : wC t c ≤ tR t := cnt_le _ _
  have e24 : τ'.1 13 24 = nI (wS t (tM t) c) := by
    rw [m_P a4]
    refine congrArg nI ?_
    have := a5.2.2.2.2.2.2.2.2
    rw [Nat.sub_self, sm, Nat.add_zero] at this
    exact this
  have ekn : f_X10_knownIn 13 τ' = some (bs (tR t) (wN t (tM t) c)) := by
    rw [knownIn_ok a4, a5.2.1.1]
    exact congrArg some (bs_congr fun r _ => WK_knw hM a5 r)
  have eR : τ'.1 0 16 = nI (tR t) := m_R a3
  have hfull : (bs (tR t) (wN t (tM t) c) ≠ (1 : Int32) <<< (nI (tR t) &&& 31) - 1) ↔ ¬ wC t c = tR t := not_congr (full_iff hR _)
  have hj : ∀ l2 l3 : Int32, f_X10_send_j85 p l2 l3 (nI c) τ' = some (.inl (l2, l3, nI (c + 1), τ')) := by
    intro l2 l3
    unfold f_X10_send_j85
    rw [nI_1]
  obtain ⟨X, hX⟩ : ∃ X, X = (encS (tR t) (BB t 18 c)).1 := ⟨_, rfl⟩
  obtain ⟨Y, hY⟩ : ∃ Y, Y = (encS (tR t) (BB t 18 c)).2 := ⟨_, rfl⟩
  rw [← hX, ← hY]
  unfold f_X10_send_b29
  simp only
  rw [rways_ok hτ, Option.bind_some, if_neg (nI_ge hc (by omega)), a1, Option.bind_some, if_pos (show rf_ck ly1 0 13 24 = true from rfl), show (24 : Int32).toNatClampNeg = 24 from rfl, e24, ekn, Option.bind_some, eR, if_pos (show rf_ck ly1 0 13 24 = true from rfl), hj, hj, BB]
  have near : wS t (tM t) c ≤ 18 := by omega
  have eS1 : ∀ v : Nat × Nat × Nat, v.1 = tR t → encS (tR t) (some v) = (nI v.2.2, nI v.2.1) := fun v hv => if_pos hv
  have eS0 : ∀ v : Nat × Nat × Nat, ¬ v.1 = tR t → encS (tR t) (some v) = (-1, 99) := fun v hv => if_neg hv
  cases e : BB t 18 c with
  | none =>
    rw [e] at hX hY
    have hX' : X = -1 := hX
    have hY' : Y = 99 := hY
    have hup : upB 18 (wC t c) (wS t (tM t) c) c none = some (wC t c, wS t (tM t) c, c) := if_pos near
    rw [hX', hY', if_neg (show ¬ (99 : Int32) ≤ nI (wS t (tM t) c) from nI_ge (b := 99) (by omega) (by omega)), hup]
    by_cases c1 : wC t c = tR t
    · rw [if_neg (fun q => (hfull.mp q) c1), eS1 _ c1]
    · rw [if_pos (hfull.mpr c1), eS0 _ c1]
  | some w =>
    rw [e] at hX hY
    obtain ⟨w1, w2, w3⟩ := BB_ok (m_t hτ) hR0 18 c w e
    have yes : (w.1 < wC t c ∨ (wC t c = w.1 ∧ wS t (tM t) c < w.2.1)) → upB 18 (wC t c) (wS t (tM t) c) c (some w) = some (wC t c, wS t (tM t) c, c) := fun q => if_pos ⟨near, q⟩
    have no : ¬ (w.1 < wC t c ∨ (wC t c = w.1 ∧ wS t (tM t) c < w.2.1)) → upB 18 (wC t c) (wS t (tM t) c) c (some w) = some w := fun q => if_neg (fun z => q z.2)
    by_cases cw : w.1 = tR t
    · have hX' : X = nI w.2.2 := by rw [hX, eS1 w cw]
      have hY' : Y = nI w.2.1 := by rw [hY, eS1 w cw]
      rw [hX', hY']
      by_cases c3 : wS t (tM t) c < w.2.1
      · rw [if_neg (nI_ge c3 (by omega))]
        by_cases c1 : wC t c = tR t
        · rw [if_neg (fun q => (hfull.mp q) c1), yes (Or.inr ⟨by omega, c3⟩), eS1 _ c1]
        · rw [if_pos (hfull.mpr c1), no (by omega), eS1 w cw]
      · rw [if_pos (nI_le (by omega) (by omega)), no (by omega), eS1 w cw]
    · have hX' : X = -1 := by rw [hX, eS0 w cw]
      have hY' : Y = 99 := by rw [hY, eS0 w cw]
      rw [hX', hY', if_neg (show ¬ (99 : Int32) ≤ nI (wS t (tM t) c) from nI_ge (b := 99) (by omega) (by omega))]
      by_cases c1 : wC t c = tR t
      · rw [if_neg (fun q => (hfull.mp q) c1), yes (Or.inl (by omega)), eS1 _ c1]
      · rw [if_pos (hfull.mpr c1)]
        by_cases c4 : w.1 < wC t c ∨ wC t c = w.1 ∧ wS t (tM t) c < w.2.1
        · rw [yes c4, eS0 _ c1]
        · rw [no c4, eS0 w cw]
theorem send_lp {σ τ : rf_S} {t : TT} (h : Sim σ τ) (hτ : MT τ 12 t) (h40 : tok 40 t) (hR0 : 0 < tR t) (p : Int32) : ∃ τ', rf_lp (f_X10_send_b29 p) 5000 (-1, 99, 0, τ) = some ((encS (tR t) (BB t 18 (tR t ^ tM t))).1, (encS (tR t) (BB t 18 (tR t ^ tM t))).2, τ') ∧ Sim σ τ' ∧ MT τ' 12 t := by
  have hR := t_R (m_t hτ)
  have hM := t_M (m_t hτ)
  have hpw := pow_le hR hM
  have key : ∃ e, rf_lp (f_X10_send_b29 p) 5000 (-1, 99, 0, τ) = some e ∧ (e.1 = (encS (tR t) (BB t 18 (tR t ^ tM t))).1 ∧ e.2.1 = (encS (tR t) (BB t 18 (tR t ^ tM t))).2 ∧ Sim σ e.2.2 ∧ MT e.2.2 12 t) := by
    refine lp_inv (N := 5000) (fun k (s : Int32 × Int32 × Int32 × rf_S) => s.1 = (encS (tR t) (BB t 18 k)).1 ∧ s.2.1 = (encS (tR t) (BB t 18 k)).2 ∧ s.2.2.1 = nI k ∧ Sim σ s.2.2.2 ∧ MT s.2.2.2 12 t) (tR t ^ tM t) ?_ (by omega) ⟨rfl, rfl, rfl, h, hτ⟩
    rintro k ⟨z1, z2, z3, s⟩ hk ⟨h1, h2, h3, h4, h5⟩
    simp only at h1 h2 h3 h4 h5
    subst h1 h2 h3
    by_cases e : k = tR t ^ tM t
    · right
      refine ⟨(_, _, s), ?_, by rw [← e], by rw [← e], h4, h5⟩
      unfold f_X10_send_b29
      simp only
      rw [rways_ok h5, Option.bind_some, if_pos (nI_le (by omega) (by omega))]
    · left
      obtain ⟨τ', b1, b2, b3⟩ := send_step h4 h5 h40 hR0 (show k < tR t ^ tM t by omega) p
      exact ⟨_, by omega, b1, rfl, rfl, rfl, b2, b3⟩
  obtain ⟨⟨z1, z2, s⟩, k1, k2, k3, k4, k5⟩ := key
  simp only at k2 k3 k4 k5
  subst k2 k3
  exact ⟨s, k1, k4, k5⟩
theorem row_M {j n : Nat} (hj : j < 6) (hn : n ≤ 40) (τ : rf_S) (hr : f_X10_in (nI j) 0 5 τ = some 1) : f_X10_row (nI j) (nI n) τ = some (nI n, mRow τ j (nI n)) := by
  unfold f_X10_row
  rw [hr, Option.bind_some, if_neg n10, if_pos (show nI n ≤ 40 from nI_le (b := 40) hn (by omega)), if_pos (nI_ge0 (by omega)), ck1_1, if_pos (in_ok hj (by decide)), nI_clamp (by omega), mrow_lp hj, Option.bind_some]
/-- PROMISE 28 -/
theorem sim_send {σ τ : rf_S} (h : Sim σ τ) (x : Int32) : Both (f_X9_send x σ) (f_X10_send x τ) := by
  obtain ⟨t, hσ, hτ, h40⟩ := Sim_town2 h
  have hR4 := t_R (c_t hσ)
  have hM6 := t_M (c_t hσ)
  unfold f_X9_send f_X10_send
  rw [in5]
  rcases isRow_cases x with e | ⟨j, hj, rfl, e⟩
  · rw [e, e]
    exact Both_same h
  rw [e, e, Option.bind_some, Option.bind_some, if_pos n10, if_pos n10]
  rcases town_or hσ hτ with ⟨_, e1, e2⟩ | ⟨hM, hR, e1, e2⟩
  · rw [e1, if_neg e2]
    exact Both_same h
  obtain ⟨w, hw⟩ := BB_some (c_t hσ) 18
  obtain ⟨w1, w2, w3⟩ := BB_ok (c_t hσ) hR 18 _ w hw
  have hpw := pow_le hR4 hM6
  obtain ⟨σ', k1, k2, k3⟩ := seek_ok hσ hR (lim := 18) (by omega)
  have hσ' := fr_CT hσ k2
  have hS' := Sim_seek h k2
  obtain ⟨τ', m1, m2, m3⟩ := send_lp hS' hτ h40 hR (nI j)
  rw [hw] at k3 m1
  obtain ⟨k4, k5, k6⟩ := k3
  rw [e1, if_pos e2, m1, Option.bind_some, Option.bind_some, if_pos rfl, show f_X5_seek 18 σ = some σ' from k1, Option.bind_some]
  unfold f_X8_rooms f_X8_members
  rw [Option.bind_some, Option.bind_some, c_R hσ', c_M hσ', k4]
  simp only [encS]
  by_cases cw : w.1 = tR t
  · simp only [if_pos cw]
    rw [if_pos (show nI (tR t) ≤ nI w.1 from nI_le (by omega) (by omega)), if_pos (nI_ge0 (by omega))]
    obtain ⟨τ2, u, b1, b2, b3, b4, b5⟩ := walkBy_ok m2 m3 h40 hR (c := w.2.2) (by omega)
    rw [b1, Option.bind_some, m_M b3, row_M hj (by omega) τ2 (by rw [in5]; exact e _), Option.bind_some, make_ok hj, Option.bind_some]
    have hrow : Sim (cRow σ' j (nI (tM t))) (mRow τ2 j (nI (tM t))) := Sim_row hj (by omega) b2
    have hM17 : (mRow τ2 j (nI (tM t))).1 0 17 = nI (tM t) := by
      unfold mRow
      rw [sA_1, if_neg (by decide), sI_1, if_neg (by decide)]
      exact m_M b3
    have h13 : (mRow τ2 j (nI (tM t))).1 13 = τ2.1 13 := by
      unfold mRow
      rw [sA_1, if_neg (by decide), sI_1, if_neg (by decide)]
    have hc49 : ∀ c, 10 ≤ c → (cRow σ' j (nI (tM t))).1 c = σ'.1 c := by
      intro c hc
      unfold cRow
      rw [sI_1, if_neg (by omega), sA_1, if_neg (by omega)]
    simp only
    rw [hM17, show (4 : Int32) = nI 4 from rfl, show (40 : Int32) * nI j = nI (40 * j) from pk_mul 40 j, bring_ok (a := 13) (b := 2) (A := 25) (B := 240) (i := 4) (j := 40 * j) (n := tM t) ck1_13 ck1_2 (by decide) (by omega) (by omega) (by omega) (by omega), Option.bind_some, h13]
    generalize cRow σ' j (nI (tM t)) = σr at hrow hc49 ⊢
    generalize mRow τ2 j (nI (tM t)) = τr at hrow hM17 h13 ⊢
    have key : ∃ q, rf_lp (f_X9_send_b72 (nI j)) 5000 (0, σr) = some q ∧ (fr [3 + j] σr q ∧ Sim q (rf_sA τr 2 (fun q => if 40 * j ≤ q ∧ q < 40 * j + tM t then τ2.1 13 (4 + (q - 40 * j)) else τr.1 2 q))) := by
      refine lp_inv (N := 5000) (fun k (s : Int32 × rf_S) => s.1 = nI k ∧ fr [3 + j] σr s.2 ∧ Sim s.2 (rf_sA τr 2 (fun q => if 40 * j ≤ q ∧ q < 40 * j + k then τ2.1 13 (4 + (q - 40 * j)) else τr.1 2 q))) (tM t) ?_ (by omega) ⟨rfl, fr_refl σr, ?_⟩
      · rintro k ⟨z, s⟩ hk ⟨h1, h2, h3⟩
        simp only at h1 h2 h3
        subst h1
        have hkeep : ∀ c, 10 ≤ c → s.1 c = σ'.1 c := by
          intro c hc
          rw [h2.1 c (by simp only [List.mem_cons, List.not_mem_nil, or_false]; omega), hc49 c hc]
        unfold f_X9_send_b72 f_X8_members
        simp only [Option.bind_some]
        rw [hkeep 26 (by omega), c_M hσ']
        by_cases ek : k = tM t
        · right
          refine ⟨s, ?_, h2, by rw [ek] at h3; exact h3⟩
          rw [ek, if_pos (nI_le (Nat.le_refl _) (by omega))]
        · left
          have hkM : k < tM t := by omega
          have hv : τ2.1 13 (4 + k) = nI (dg (tR t) (tM t) w.2.2 k) := by
            rw [m_L b4 (by rw [b5.2.1.2.1]; exact hkM), b5.2.2.1, if_pos (by omega)]
          refine ⟨(nI (k + 1), rf_sI s (3 + j) k (nI (dg (tR t) (tM t) w.2.2 k))), hkM, ?_, rfl, fr_sI h2 (by simp) _ _, ?_⟩
          · rw [if_neg (nI_ge hkM (by omega)), ck0_49, if_pos (in_ok (by omega) (by decide)), nI_clamp (by omega), hkeep 49 (by omega), k6 k hkM, set_ok hj (by omega), Option.bind_some, nI_1]
          · have h4 := Sim_set hj (show k < 40 by omega) (nI (dg (tR t) (tM t) w.2.2 k)) h3
            rw [sI_sA] at h4
            have ef : upd (fun q => if 40 * j ≤ q ∧ q < 40 * j + k then τ2.1 13 (4 + (q - 40 * j)) else τr.1 2 q) (40 * j + k) (nI (dg (tR t) (tM t) w.2.2 k)) = (fun q => if 40 * j ≤ q ∧ q < 40 * j + (k + 1) then τ2.1 13 (4 + (q - 40 * j)) else τr.1 2 q) := by
              funext q
              rw [upd_at]
              by_cases eq : q = 40 * j + k
              · rw [if_pos eq, if_pos (by omega), eq, show 4 + (40 * j + k - 40 * j) = 4 + k by omega, hv]
              · rw [if_neg eq]
                by_cases e3 : 40 * j ≤ q ∧ q < 40 * j + k
                · rw [if_pos e3, if_pos (by omega)]
                · rw [if_neg e3, if_neg (by omega)]
            rw [ef] at h4
            exact h4
      · show Sim σr (rf_sA τr 2 (fun q => if 40 * j ≤ q ∧ q < 40 * j + 0 then τ2.1 13 (4 + (q - 40 * j)) else τr.1 2 q))
        have ef : (fun q => if 40 * j ≤ q ∧ q < 40 * j + 0 then τ2.1 13 (4 + (q - 40 * j)) else τr.1 2 q) = τr.1 2 := by
          funext q
          rw [if_neg (by omega)]
        rw [ef, sA_self]
        exact hrow
    obtain ⟨σq, q1, q2, q3⟩ := key
    rw [q1, Option.bind_some]
    refine ⟨nI w.2.1, σq, _, ?_, rfl, q3⟩
    rw [q2.1 45 (by simp only [List.mem_cons, List.not_mem_nil, or_false]; omega), hc49 45 (by omega), k5]
  · simp only [if_neg cw]
    rw [if_neg (show ¬ nI (tR t) ≤ nI w.1 from nI_ge (by omega) (by omega)), if_neg (show ¬ (0 : Int32) ≤ -1 by decide)]
    exact Both_no m2
