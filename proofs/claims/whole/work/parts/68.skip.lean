/-! ===== reading: letters, blanks ===== -/
theorem sI_self {σ : rf_S} {c j : Nat} {x : Int32} (h : σ.1 c j = x) : rf_sI σ c j x = σ := by
  refine Prod.ext (funext fun k => funext fun i => ?_) rfl
  rw [sI_at]
  by_cases e : k = c
  · rw [if_pos e]
    by_cases e2 : i = j
    · rw [if_pos e2, e, e2, h]
    · rw [if_neg e2, e]
  · rw [if_neg e]
theorem sI_sI (σ : rf_S) (c j : Nat) (x y : Int32) : rf_sI (rf_sI σ c j x) c j y = rf_sI σ c j y := by
  refine Prod.ext (funext fun k => funext fun i => ?_) rfl
  simp only [sI_at]
  by_cases e : k = c
  · by_cases e2 : i = j
    · simp [e, e2]
    · simp [e, e2]
  · simp [e]
theorem mvC_sI {σ σ' : rf_S} (h : mvC σ σ') (j : Nat) (x : Int32) : mvC σ (rf_sI σ' 17 j x) := ⟨fun c hc => by rw [sI_1, if_neg hc]; exact h.1 c hc, h.2⟩
theorem mvC_refl (σ : rf_S) : mvC σ σ := ⟨fun _ _ => rfl, rfl⟩
theorem mvM_refl (τ : rf_S) : mvM τ τ := ⟨fun _ _ => rfl, fun _ _ => rfl, rfl⟩
theorem mvM_sI {τ τ' : rf_S} (h : mvM τ τ') (x : Int32) : mvM τ (rf_sI τ' 0 9 x) := ⟨fun c hc => by rw [sI_1, if_neg hc]; exact h.1 c hc, fun j hj => by rw [sI_at, if_pos rfl, if_neg hj]; exact h.2.1 j hj, h.2.2⟩
theorem mvC_trans {a b c : rf_S} (h : mvC a b) (g : mvC b c) : mvC a c := ⟨fun k hk => (g.1 k hk).trans (h.1 k hk), g.2.trans h.2⟩
theorem mvM_trans {a b c : rf_S} (h : mvM a b) (g : mvM b c) : mvM a c := ⟨fun k hk => (g.1 k hk).trans (h.1 k hk), fun k hk => (g.2.1 k hk).trans (h.2.1 k hk), g.2.2.trans h.2.2⟩
/-- what letterAt needs -/
def Lt (τ : rf_S) (r n : Nat) (Z : Nat → Int32) : Prop := r < 4 ∧ n ≤ 60 ∧ τ.1 0 11 = nI n ∧ τ.1 0 10 = nI (60 * r) ∧ ∀ k, k < 60 → τ.1 4 (60 * r + k) = Z k
theorem Lt_of {σ τ : rf_S} {r n p : Nat} {Z : Nat → Int32} (h : Rd σ τ r n p Z) : Lt τ r n Z := ⟨h.2.1, h.2.2.1, h.2.2.2.2.2.1, h.2.2.2.2.2.2.1, fun k hk => (h.2.2.2.2.2.2.2.1 k hk).2⟩
theorem Lt_mv {τ τ' : rf_S} {r n : Nat} {Z : Nat → Int32} (h : Lt τ r n Z) (hm : mvM τ τ') : Lt τ' r n Z := by
  obtain ⟨h1, h2, h3, h4, h5⟩ := h
  refine ⟨h1, h2, ?_, ?_, fun k hk => ?_⟩
  · rw [hm.2.1 11 (by omega)]
    exact h3
  · rw [hm.2.1 10 (by omega)]
    exact h4
  · rw [hm.1 4 (by omega)]
    exact h5 k hk
theorem letter_ok {τ : rf_S} {r n : Nat} {Z : Nat → Int32} (h : Lt τ r n Z) {k : Nat} (hk : k ≤ 100) : f_X10_letterAt (nI k) τ = some (if k < n then Z k else -1000) := by
  obtain ⟨h1, h2, h3, h4, h5⟩ := h
  unfold f_X10_letterAt
  rw [h3, h4]
  by_cases e : k < n
  · rw [if_neg (nI_ge e (by omega)), nI_add, ck1_4, if_pos (in_ok (by omega) (by decide)), nI_clamp (by omega), h5 k (by omega), if_pos e]
  · rw [if_pos (nI_le (by omega) (by omega)), if_neg e]
theorem first_ex (P : Nat → Prop) (n : Nat) : ∀ (m p : Nat), p + m = n → ∃ q, p ≤ q ∧ q ≤ n ∧ (q < n → ¬ P q) ∧ ∀ k, p ≤ k → k < q → P k := by
  intro m
  induction m with
  | zero =>
    intro p hp
    exact ⟨p, by omega, by omega, fun h => by omega, fun k a b => by omega⟩
  | succ m ih =>
    intro p hp
    by_cases e : P p
    · obtain ⟨q, q1, q2, q3, q4⟩ := ih (p + 1) (by omega)
      refine ⟨q, by omega, q2, q3, fun k a b => ?_⟩
      by_cases ek : k = p
      · rw [ek]
        exact e
      · exact q4 k (by omega) b
    · exact ⟨p, by omega, by omega, fun _ => e, fun k a b => by omega⟩
theorem skip_ok {σ τ : rf_S} {r n p : Nat} {Z : Nat → Int32} (h : Rd σ τ r n p Z) : ∃ q, p ≤ q ∧ q ≤ n ∧ (q < n → Z q ≠ 32) ∧ f_X3_skipBlanks (nI r) σ = some (rf_sI σ 17 1 (nI q)) ∧ f_X10_skip τ = some (rf_sI τ 0 9 (nI q)) ∧ Rd (rf_sI σ 17 1 (nI q)) (rf_sI τ 0 9 (nI q)) r n q Z := by
  obtain ⟨h1, h2, h3, h4, h5, h6, h7, h8, h9, h10⟩ := id h
  obtain ⟨q, q1, q2, q3, q4⟩ := first_ex (fun k => Z k = 32) n (n - p) p (by omega)
  have hL := Lt_of h
  have eZ : ∀ (x : Int32) (j : Nat), (rf_sI σ 17 1 x).1 (12 + r) j = σ.1 (12 + r) j := fun x j => by rw [sI_at, if_neg (show ¬ 12 + r = 17 by omega)]
  refine ⟨q, q1, q2, q3, ?_, ?_, Rd_mv h (mvC_sI (mvC_refl σ) _ _) (mvM_sI (mvM_refl τ) _) q2 (by rw [sI_at, if_pos rfl, if_pos rfl]) (by rw [sI_at, if_pos rfl, if_pos rfl])⟩
  · unfold f_X3_skipBlanks
    have h0 : ((0 : Int32), σ) = (nI 0, rf_sI σ 17 1 (nI (p + 0))) := Prod.ext rfl (sI_self h9).symm
    rw [h0, lp_for (N := 5000) (fun k => (nI k, rf_sI σ 17 1 (nI (p + k)))) (q - p) (e := rf_sI σ 17 1 (nI q)) ?_ ?_ (by omega)]
    · rfl
    · intro k hk
      have e16 : (rf_sI σ 17 1 (nI (p + k))).1 16 r = nI n := by rw [sI_at, if_neg (by decide), h5]
      unfold f_X3_skipBlanks_b2
      simp only
      rw [if_neg (show ¬ (60 : Int32) ≤ nI k from nI_ge (b := 60) (by omega) (by omega)), sI_at, if_pos rfl, if_pos rfl, thas_ok h2 e16, if_neg (nI_pos (by omega)), if_neg (nI_ge (show p + k < n by omega) (by omega)), Option.bind_some, if_neg n10, tget_ok h2 (by omega), Option.bind_some, eZ, (h8 _ (by omega)).1, q4 _ (by omega) (by omega), if_neg (show ¬ (32 : Int32) ≠ 32 from fun z => z rfl), nI_1, nI_1, sI_sI]
      rfl
    · have ep : p + (q - p) = q := by omega
      have e16 : (rf_sI σ 17 1 (nI q)).1 16 r = nI n := by rw [sI_at, if_neg (by decide), h5]
      unfold f_X3_skipBlanks_b2
      simp only
      rw [ep]
      by_cases e60 : q - p = 60
      · rw [e60, if_pos (show (60 : Int32) ≤ nI 60 by decide)]
      rw [if_neg (show ¬ (60 : Int32) ≤ nI (q - p) from nI_ge (b := 60) (by omega) (by omega)), sI_at, if_pos rfl, if_pos rfl, thas_ok h2 e16, if_neg (nI_pos (by omega))]
      by_cases eq : q < n
      · rw [if_neg (nI_ge eq (by omega)), Option.bind_some, if_neg n10, tget_ok h2 (by omega), Option.bind_some, eZ, (h8 _ (by omega)).1, if_pos (q3 eq)]
      · rw [if_pos (nI_le (show n ≤ q by omega) (by omega)), Option.bind_some, if_pos rfl]
  · unfold f_X10_skip
    have h0 : τ = rf_sI τ 0 9 (nI (p + 0)) := (sI_self h10).symm
    have key : rf_lp f_X10_skip_b0 5000 (rf_sI τ 0 9 (nI (p + 0))) = some (rf_sI τ 0 9 (nI q)) := by
      refine lp_for (N := 5000) (fun k => rf_sI τ 0 9 (nI (p + k))) (q - p) (fun k hk => ?_) ?_ (by omega)
      · show f_X10_skip_b0 (rf_sI τ 0 9 (nI (p + k))) = some (.inl (rf_sI τ 0 9 (nI (p + (k + 1)))))
        unfold f_X10_skip_b0
        rw [sI_at, if_pos rfl, if_pos rfl, letter_ok (Lt_mv hL (mvM_sI (mvM_refl τ) _)) (by omega), if_pos (by omega), Option.bind_some, q4 _ (by omega) (by omega), if_neg (show ¬ (32 : Int32) ≠ 32 from fun z => z rfl), nI_1, sI_sI]
        rfl
      · show f_X10_skip_b0 (rf_sI τ 0 9 (nI (p + (q - p)))) = _
        have ep : p + (q - p) = q := by omega
        unfold f_X10_skip_b0
        rw [ep, sI_at, if_pos rfl, if_pos rfl, letter_ok (Lt_mv hL (mvM_sI (mvM_refl τ) _)) (by omega), Option.bind_some]
        by_cases eq : q < n
        · rw [if_pos eq, if_pos (q3 eq)]
        · rw [if_neg eq, if_pos (by decide)]
    rw [h0, key]
    rw [← h0]
    rfl
