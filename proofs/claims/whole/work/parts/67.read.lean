/-! ===== reading a text ===== -/
theorem lp_step {S E : Type} {b : S → Option (S ⊕ E)} {s s' : S} (h : b s = some (.inl s')) (N : Nat) : rf_lp b (N + 1) s = rf_lp b N s' := by
  simp only [rf_lp, h, Option.bind_some]
theorem lp_exit {S E : Type} {b : S → Option (S ⊕ E)} {s : S} {e : E} (h : b s = some (.inr e)) (N : Nat) : rf_lp b (N + 1) s = some e := by
  simp only [rf_lp, h, Option.bind_some]
/-- both readers at place p of text r with n letters Z -/
def Rd (σ τ : rf_S) (r n p : Nat) (Z : Nat → Int32) : Prop := Sim σ τ ∧ r < 4 ∧ n ≤ 60 ∧ p ≤ n ∧ σ.1 16 r = nI n ∧ τ.1 0 11 = nI n ∧ τ.1 0 10 = nI (60 * r) ∧ (∀ k, k < 60 → σ.1 (12 + r) k = Z k ∧ τ.1 4 (60 * r + k) = Z k) ∧ σ.1 17 1 = nI p ∧ τ.1 0 9 = nI p
def PlR (σ τ : rf_S) (q : Nat) : Prop := ∃ a b, a ≤ 30 ∧ 1 ≤ b ∧ b ≤ 31 ∧ σ.1 19 q = nI a ∧ τ.1 6 (2 * q) = nI a ∧ σ.1 20 q = nI b ∧ τ.1 6 (2 * q + 1) = nI b
def PlM (σ τ : rf_S) (R q : Nat) : Prop := ∃ k a w l, k < 6 ∧ a ≤ 30 ∧ w ≤ 9 ∧ l < R ∧ (σ.1 21 q = nI k ∧ τ.1 7 (4 * q) = nI k) ∧ (σ.1 22 q = nI a ∧ τ.1 7 (4 * q + 1) = nI a) ∧ (σ.1 23 q = nI w ∧ τ.1 7 (4 * q + 2) = nI w) ∧ (σ.1 24 q = nI l ∧ τ.1 7 (4 * q + 3) = nI l)
def Pl (σ τ : rf_S) (R M : Nat) : Prop := σ.1 18 6 = nI R ∧ σ.1 18 7 = nI M ∧ τ.1 0 12 = nI R ∧ τ.1 0 13 = nI M ∧ R ≤ 4 ∧ M ≤ 6 ∧ (0 < M → 0 < R) ∧ (∀ q, q < R → PlR σ τ q) ∧ ∀ q, q < M → PlM σ τ R q
/-- only the place (and the class's number) moved -/
def mvC (σ σ' : rf_S) : Prop := (∀ c, c ≠ 17 → σ'.1 c = σ.1 c) ∧ σ'.2 = σ.2
def mvM (τ τ' : rf_S) : Prop := (∀ c, c ≠ 0 → τ'.1 c = τ.1 c) ∧ (∀ j, j ≠ 9 → τ'.1 0 j = τ.1 0 j) ∧ τ'.2 = τ.2
theorem Rd_mv {σ τ σ' τ' : rf_S} {r n p p' : Nat} {Z : Nat → Int32} (h : Rd σ τ r n p Z) (hc : mvC σ σ') (hm : mvM τ τ') (hp : p' ≤ n) (e1 : σ'.1 17 1 = nI p') (e2 : τ'.1 0 9 = nI p') : Rd σ' τ' r n p' Z := by
  obtain ⟨h1, h2, h3, h4, h5, h6, h7, h8, h9, h10⟩ := h
  obtain ⟨c1, c2⟩ := hc
  obtain ⟨m1, m2, m3⟩ := hm
  refine ⟨Sim_fr h1 (fun c _ a _ => c1 c (by omega)) (fun c a _ _ _ _ => m1 c a) (fun j hj => m2 j (by omega)) c2 m3, h2, h3, hp, ?_, ?_, ?_, ?_, e1, e2⟩
  · rw [c1 16 (by omega)]
    exact h5
  · rw [m2 11 (by omega)]
    exact h6
  · rw [m2 10 (by omega)]
    exact h7
  · intro k hk
    rw [c1 (12 + r) (by omega), m1 4 (by omega)]
    exact h8 k hk
theorem Pl_mv {σ τ σ' τ' : rf_S} {R M : Nat} (h : Pl σ τ R M) (hc : mvC σ σ') (hm : mvM τ τ') : Pl σ' τ' R M := by
  obtain ⟨c1, c2⟩ := hc
  obtain ⟨m1, m2, m3⟩ := hm
  unfold Pl PlR PlM at *
  rw [c1 18 (by omega), c1 19 (by omega), c1 20 (by omega), c1 21 (by omega), c1 22 (by omega), c1 23 (by omega), c1 24 (by omega), m1 6 (by omega), m1 7 (by omega), m2 12 (by omega), m2 13 (by omega)]
  exact h
theorem fig_cases (x : Int32) : (∃ j, j ≤ 9 ∧ x = nI (48 + j)) ∨ ((∀ τ, f_X10_in x 48 57 τ = some 0) ∧ (x - 48 < 0 ∨ ¬ x - 48 ≤ 9)) := by
  by_cases h : 48 ≤ x ∧ x ≤ 57
  · left
    obtain ⟨j, hj, rfl⟩ := nI_of2 (M := 57) (n := 57) rfl (show ¬ x < 0 from fun q => absurd (Int32.lt_of_lt_of_le q (show (0 : Int32) ≤ 48 by decide)) (Int32.not_lt.mpr h.1)) h.2
    have : 48 ≤ j := by
      have h1 := h.1
      rw [show (48 : Int32) = nI 48 from rfl, le_nI (by omega) (by omega)] at h1
      exact h1
    exact ⟨j - 48, by omega, congrArg nI (by omega)⟩
  · right
    refine ⟨fun τ => ?_, ?_⟩
    · rw [inb]
      refine congrArg some (if_neg ?_)
      simpa using h
    · by_cases h1 : x - 48 < 0
      · exact Or.inl h1
      · right
        intro h2
        obtain ⟨j, hj, e⟩ := nI_of2 (M := 9) (n := 9) rfl h1 h2
        have ex : x = nI (48 + j) := by
          have : x = (x - 48) + 48 := by simp
          rw [this, e, show (48 : Int32) = nI 48 from rfl, nI_add, Nat.add_comm]
        apply h
        rw [ex, show (48 : Int32) = nI 48 from rfl, show (57 : Int32) = nI 57 from rfl]
        exact ⟨nI_le (by omega) (by omega), nI_le (by omega) (by omega)⟩
