/-! ===== sets over members and degrees, on both sides ===== -/
theorem or0 (x : Int32) : x ||| 0 = x := by
  apply b_ext
  intro i hi
  rw [b_or, b_0, Bool.or_false]
theorem lp_bs {b : Int32 × Int32 → Option ((Int32 × Int32) ⊕ Int32)} (M : Nat) (p : Nat → Bool) (hM : M < 5000) (hs : ∀ i x, i < M → b (x, nI i) = some (.inl (x ||| (if p i = true then 1 <<< (nI i &&& 31) else 0), nI (i + 1)))) (he : ∀ x, b (x, nI M) = some (.inr x)) : rf_lp b 5000 (0, 0) = some (bs M p) :=
  lp_for (fun k => (bs k p, nI k)) M (fun k hk => hs k (bs k p) hk) (he (bs M p)) hM
theorem lp_cnt {b : Int32 × Int32 → Option ((Int32 × Int32) ⊕ Int32)} (M : Nat) (p : Nat → Bool) (hM : M < 5000) (hs : ∀ i x, i < M → b (nI x, nI i) = some (.inl (nI (x + (if p i = true then 1 else 0)), nI (i + 1)))) (he : ∀ x, b (x, nI M) = some (.inr x)) : rf_lp b 5000 (0, 0) = some (nI (cnt M p)) :=
  lp_for (fun k => (nI (cnt k p), nI k)) M (fun k hk => hs k (cnt k p) hk) (he (nI (cnt M p))) hM
def allB : Nat → (Nat → Bool) → Bool
  | 0, _ => true
  | n + 1, p => allB n p && p n
theorem allB_congr {n : Nat} {p q : Nat → Bool} (h : ∀ i, i < n → p i = q i) : allB n p = allB n q := by
  induction n with
  | zero => rfl
  | succ n ih => rw [allB, allB, ih (fun i hi => h i (by omega)), h n (by omega)]
theorem allB_iff {n : Nat} {p : Nat → Bool} : allB n p = true ↔ ∀ i, i < n → p i = true := by
  induction n with
  | zero => exact ⟨fun _ i hi => absurd hi (by omega), fun _ => rfl⟩
  | succ n ih =>
    rw [allB, Bool.and_eq_true, ih]
    constructor
    · rintro ⟨h1, h2⟩ i hi
      by_cases e : i = n
      · rw [e]
        exact h2
      · exact h1 i (by omega)
    · intro h
      exact ⟨fun i hi => h i (by omega), h n (by omega)⟩
theorem lp_all {b : Int32 × Int32 → Option ((Int32 × Int32) ⊕ Int32)} (M : Nat) (p : Nat → Bool) (hM : M < 5000) (hs : ∀ i, i < M → b (1, nI i) = some (.inl ((if p i = true then 1 else 0), nI (i + 1)))) (hz : ∀ i, i < M → b (0, nI i) = some (.inl (0, nI (i + 1)))) (he : ∀ x, b (x, nI M) = some (.inr x)) : rf_lp b 5000 (1, 0) = some (if allB M p = true then 1 else 0) := by
  refine lp_for (fun k => ((if allB k p = true then 1 else 0), nI k)) M (fun k hk => ?_) (he _) hM
  show b ((if allB k p = true then 1 else 0), nI k) = some (.inl ((if allB (k + 1) p = true then 1 else 0), nI (k + 1)))
  rw [allB]
  cases allB k p with
  | true => exact hs k hk
  | false => exact hz k hk
theorem neI {a b : Nat} (ha : a < 1000000) (hb : b < 1000000) (h : a ≠ b) : nI a ≠ nI b := fun q => h ((eq_nI (by omega) (by omega)).mp q)
theorem nneI {a b : Nat} (h : a = b) : ¬ nI a ≠ nI b := fun q => q (congrArg nI h)
/-! what the two views say -/
theorem c_M {σ : rf_S} {t : TT} (h : CT σ t) : σ.1 26 7 = nI (tM t) := h.1.2.1
theorem c_R {σ : rf_S} {t : TT} (h : CT σ t) : σ.1 26 6 = nI (tR t) := h.1.1
theorem c_N {σ : rf_S} {t : TT} (h : CT σ t) {r : Nat} (hr : r < tR t) : σ.1 28 r = nI (tN t r) := h.1.2.2.1 r hr
theorem c_D {σ : rf_S} {t : TT} (h : CT σ t) {r : Nat} (hr : r < tR t) : σ.1 33 r = nI (tD t r) := h.2.1.1 r hr
theorem c_K {σ : rf_S} {t : TT} (h : CT σ t) {i : Nat} (hi : i < tM t) : σ.1 29 i = nI (tK t i) := (h.1.2.2.2 i hi).1
theorem c_G {σ : rf_S} {t : TT} (h : CT σ t) {i : Nat} (hi : i < tM t) : σ.1 30 i = nI (tG t i) := (h.1.2.2.2 i hi).2.1
theorem c_W {σ : rf_S} {t : TT} (h : CT σ t) {i : Nat} (hi : i < tM t) : σ.1 31 i = nI (tW t i) := (h.1.2.2.2 i hi).2.2
theorem c_L {σ : rf_S} {t : TT} (h : CT σ t) {i : Nat} (hi : i < tM t) : σ.1 34 i = nI (tL t i) := (h.2.1.2.1 i hi).1
theorem c_C {σ : rf_S} {t : TT} (h : CT σ t) {i : Nat} (hi : i < tM t) : σ.1 35 i = nI (tC t i) := (h.2.1.2.1 i hi).2.1
theorem c_V {σ : rf_S} {t : TT} (h : CT σ t) {i : Nat} (hi : i < tM t) : σ.1 36 i = iI (tV t i) := (h.2.1.2.1 i hi).2.2
theorem c_H {σ : rf_S} {t : TT} (h : CT σ t) : σ.1 25 6 = nI (tH t) := h.2.1.2.2.2.1
theorem c_S {σ : rf_S} {t : TT} (h : CT σ t) : σ.1 25 7 = nI (tS t) := h.2.1.2.2.2.2.1
theorem c_P {σ : rf_S} {t : TT} (h : CT σ t) : σ.1 25 8 = nI (tP t) := h.2.1.2.2.2.2.2
theorem m_M {τ : rf_S} {c : Nat} {t : TT} (h : MT τ c t) : τ.1 0 17 = nI (tM t) := h.1.2.1
theorem m_R {τ : rf_S} {c : Nat} {t : TT} (h : MT τ c t) : τ.1 0 16 = nI (tR t) := h.1.1
theorem m_N {τ : rf_S} {c : Nat} {t : TT} (h : MT τ c t) {r : Nat} (hr : r < tR t) : τ.1 8 r = nI (tN t r) := h.1.2.2.1 r hr
theorem m_K {τ : rf_S} {c : Nat} {t : TT} (h : MT τ c t) {i : Nat} (hi : i < tM t) : τ.1 9 i = nI (tK t i) := (h.1.2.2.2 i hi).1
theorem m_G {τ : rf_S} {c : Nat} {t : TT} (h : MT τ c t) {i : Nat} (hi : i < tM t) : τ.1 10 i = nI (tG t i) := (h.1.2.2.2 i hi).2.1
theorem m_W {τ : rf_S} {c : Nat} {t : TT} (h : MT τ c t) {i : Nat} (hi : i < tM t) : τ.1 11 i = nI (tW t i) := (h.1.2.2.2 i hi).2.2
theorem m_D {τ : rf_S} {c : Nat} {t : TT} (h : MT τ c t) {r : Nat} (hr : r < tR t) : τ.1 c r = nI (tD t r) := h.2.1.1 r hr
theorem m_L {τ : rf_S} {c : Nat} {t : TT} (h : MT τ c t) {i : Nat} (hi : i < tM t) : τ.1 c (4 + i) = nI (tL t i) := (h.2.1.2.1 i hi).1
theorem m_C {τ : rf_S} {c : Nat} {t : TT} (h : MT τ c t) {i : Nat} (hi : i < tM t) : τ.1 c (10 + i) = nI (tC t i) := (h.2.1.2.1 i hi).2.1
theorem m_V {τ : rf_S} {c : Nat} {t : TT} (h : MT τ c t) {i : Nat} (hi : i < tM t) : τ.1 c (16 + i) = iI (tV t i) := (h.2.1.2.1 i hi).2.2
theorem m_H {τ : rf_S} {c : Nat} {t : TT} (h : MT τ c t) : τ.1 c 22 = nI (tH t) := h.2.1.2.2.1
theorem m_S {τ : rf_S} {c : Nat} {t : TT} (h : MT τ c t) : τ.1 c 23 = nI (tS t) := h.2.1.2.2.2.1
theorem m_P {τ : rf_S} {c : Nat} {t : TT} (h : MT τ c t) : τ.1 c 24 = nI (tP t) := h.2.1.2.2.2.2
theorem m_ck {τ : rf_S} {c : Nat} {t : TT} (h : MT τ c t) (x : Int32) : rf_ck ly1 0 c x = rf_in x 25 := h.2.2.1 x
theorem c_t {σ : rf_S} {t : TT} (h : CT σ t) : tok 60 t := h.2.2
theorem m_t {τ : rf_S} {c : Nat} {t : TT} (h : MT τ c t) : tok 60 t := h.2.2.2
theorem t_M {t : TT} (h : tok 60 t) : tM t ≤ 6 := h.2.1
theorem t_R {t : TT} (h : tok 60 t) : tR t ≤ 4 := h.1
theorem t_i {t : TT} (h : tok 60 t) {i : Nat} (hi : i < tM t) : tK t i < 6 ∧ tG t i ≤ 30 ∧ tW t i ≤ 9 ∧ tL t i < tR t ∧ tC t i ≤ 2 ∧ -5 ≤ tV t i ∧ tV t i ≤ 5 := h.2.2.2.2.2.1 i hi
theorem t_r {t : TT} (h : tok 60 t) {r : Nat} (hr : r < tR t) : 1 ≤ tN t r ∧ tN t r ≤ 31 ∧ tD t r ≤ 30 := h.2.2.2.2.1 r hr
theorem i4 (i : Nat) : (4 : Int32) + nI i = nI (4 + i) := nI_add 4 i
theorem i10 (i : Nat) : (10 : Int32) + nI i = nI (10 + i) := nI_add 10 i
theorem i16' (i : Nat) : (16 : Int32) + nI i = nI (16 + i) := nI_add 16 i
/-! who is in a room -/
theorem there_ok {σ : rf_S} {t : TT} (h : CT σ t) {r : Nat} (hr : r < 100) : f_X8_there (nI r) σ = some (bs (tM t) (fun i => decide (tL t i = r))) := by
  have hM := t_M (c_t h)
  have hR := t_R (c_t h)
  unfold f_X8_there
  rw [lp_bs (tM t) (fun i => decide (tL t i = r)) (by omega) ?_ ?_]
  · rfl
  · intro i x hi
    have hb := t_i (c_t h) hi
    unfold f_X8_there_b4 f_X8_there_j31
    simp only
    rw [c_M h, if_neg (nI_ge hi (by omega)), ck0_34, if_pos (in_ok (by omega) (by decide)), nI_clamp (by omega), c_L h hi, nI_1]
    by_cases e : tL t i = r
    · rw [if_neg (nneI e), if_pos (decide_eq_true e)]
    · rw [if_pos (neI (by omega) (by omega) e), if_neg (show ¬ decide (tL t i = r) = true by simp [e]), or0]
  · intro x
    unfold f_X8_there_b4
    simp only
    rw [c_M h, if_pos (nI_le (Nat.le_refl _) (by omega))]
theorem thereIn_ok {τ : rf_S} {c : Nat} {t : TT} (h : MT τ c t) {r : Nat} (hr : r < 100) : f_X10_thereIn c (nI r) τ = some (bs (tM t) (fun i => decide (tL t i = r))) := by
  have hM := t_M (m_t h)
  have hR := t_R (m_t h)
  unfold f_X10_thereIn
  rw [lp_bs (tM t) (fun i => decide (tL t i = r)) (by omega) ?_ ?_]
  · rfl
  · intro i x hi
    have hb := t_i (m_t h) hi
    unfold f_X10_thereIn_b5 f_X10_thereIn_j33
    simp only
    rw [m_M h, if_neg (nI_ge hi (by omega)), i4, m_ck h, if_pos (in_ok (by omega) (by decide)), nI_clamp (by omega), m_L h hi, nI_1]
    by_cases e : tL t i = r
    · rw [if_neg (nneI e), if_pos (decide_eq_true e)]
    · rw [if_pos (neI (by omega) (by omega) e), if_neg (show ¬ decide (tL t i = r) = true by simp [e])]
  · intro x
    unfold f_X10_thereIn_b5
    simp only
    rw [m_M h, if_pos (nI_le (Nat.le_refl _) (by omega))]
/-! who has a cold -/
theorem sick_ok {σ : rf_S} {c : Nat} (hc : ∀ x, rf_ck ly0 0 c x = rf_in x 6) (ha : rf_isA ly0 c = true) (hl : rf_len ly0 c = 6) {f : Nat → Nat} (hf : ∀ i, i < 6 → σ.1 c i = nI (f i) ∧ f i ≤ 2) : f_X9_sick c σ = some (bs 6 (fun i => decide (0 < f i))) := by
  unfold f_X9_sick
  rw [lp_bs 6 (fun i => decide (0 < f i)) (by omega) ?_ ?_]
  · rfl
  · intro i x hi
    unfold f_X9_sick_b4 f_X9_sick_j22
    simp only
    rw [if_pos ha, hl, if_neg (show ¬ Int32.ofNat 6 ≤ nI i from nI_ge hi (by omega)), hc, if_pos (in_ok hi (by decide)), nI_clamp (by omega), (hf i hi).1, nI_1]
    have h2 := (hf i hi).2
    by_cases e : 0 < f i
    · rw [if_neg (nI_nle e (by omega)), if_pos (decide_eq_true e)]
    · rw [show f i = 0 by omega, if_pos (show nI 0 ≤ 0 by decide), if_neg (by decide), or0]
  · intro x
    unfold f_X9_sick_b4
    simp only
    rw [if_pos ha, hl, if_pos (show Int32.ofNat 6 ≤ nI 6 by decide)]
theorem coldOnes_ok {τ : rf_S} {c : Nat} {t : TT} (h : MT τ c t) : f_X10_coldOnes c τ = some (bs (tM t) (fun i => decide (0 < tC t i))) := by
  have hM := t_M (m_t h)
  unfold f_X10_coldOnes
  rw [lp_bs (tM t) (fun i => decide (0 < tC t i)) (by omega) ?_ ?_]
  · rfl
  · intro i x hi
    have hb := t_i (m_t h) hi
    unfold f_X10_coldOnes_b4 f_X10_coldOnes_j29
    simp only
    rw [m_M h, if_neg (nI_ge hi (by omega)), i10, m_ck h, if_pos (in_ok (by omega) (by decide)), nI_clamp (by omega), m_C h hi, nI_1]
    by_cases e : 0 < tC t i
    · rw [if_neg (nI_nle e (by omega)), if_pos (decide_eq_true e)]
    · rw [show tC t i = 0 by omega, if_pos (show nI 0 ≤ 0 by decide), if_neg (by decide)]
  · intro x
    unfold f_X10_coldOnes_b4
    simp only
    rw [m_M h, if_pos (nI_le (Nat.le_refl _) (by omega))]
theorem coldIn_ok {τ : rf_S} {c : Nat} {t : TT} (h : MT τ c t) {r : Nat} (hr : r < 100) : f_X10_coldIn c (nI r) τ = some (bs (tM t) (fun i => decide (tL t i = r) && decide (0 < tC t i))) := by
  have hM := t_M (m_t h)
  have hR := t_R (m_t h)
  unfold f_X10_coldIn
  rw [lp_bs (tM t) (fun i => decide (tL t i = r) && decide (0 < tC t i)) (by omega) ?_ ?_]
  · rfl
  · intro i x hi
    have hb := t_i (m_t h) hi
    unfold f_X10_coldIn_b5 f_X10_coldIn_j42 f_X10_coldIn_j43
    simp only
    rw [m_M h, if_neg (nI_ge hi (by omega)), i4, i10, m_ck h, if_pos (in_ok (by omega) (by decide)), nI_clamp (by omega), m_L h hi, m_ck h, if_pos (in_ok (by omega) (by decide)), nI_clamp (by omega), m_C h hi, nI_1]
    by_cases e : tL t i = r
    · rw [if_neg (nneI e), decide_eq_true e, Bool.true_and]
      by_cases e2 : 0 < tC t i
      · rw [if_neg (nI_nle e2 (by omega)), if_pos (decide_eq_true e2)]
      · rw [show tC t i = 0 by omega, if_pos (show nI 0 ≤ 0 by decide), if_neg (by decide)]
    · rw [if_pos (neI (by omega) (by omega) e), if_neg (by simp [e])]
  · intro x
    unfold f_X10_coldIn_b5
    simp only
    rw [m_M h, if_pos (nI_le (Nat.le_refl _) (by omega))]
theorem bs_ext {n m : Nat} {p q : Nat → Bool} (hn : n ≤ 32) (hm : m ≤ 32) (h : ∀ i, i < 32 → (decide (i < n) && p i) = (decide (i < m) && q i)) : bs n p = bs m q := by
  apply b_ext
  intro i hi
  rw [b_bs p hn hi, b_bs q hm hi, h i hi]
theorem bs_0 {n : Nat} {p : Nat → Bool} (hn : n ≤ 32) : bs n p = 0 ↔ ∀ i, i < n → p i = false := by
  constructor
  · intro h i hi
    have := b_bs p hn (i := i) (by omega)
    rw [h, b_0] at this
    simpa [hi] using this.symm
  · intro h
    rw [bs_congr (q := fun _ => false) h, bs_false]
/-! who does it now -/
theorem doesNow_ok {σ : rf_S} {t : TT} (h : CT σ t) {i : Nat} (hi : i < tM t) : f_X8_doesNow (nI i) σ = some (if ds t i (tD t (tL t i)) = true then 1 else 0) := by
  have hM := t_M (c_t h)
  have hb := t_i (c_t h) hi
  have hR := t_R (c_t h)
  have hD := (t_r (c_t h) hb.2.2.2.1).2.2
  unfold f_X8_doesNow
  rw [does_ok h hi, Option.bind_some, ck0_34, if_pos (in_ok (by omega) (by decide)), nI_clamp (by omega), c_L h hi, ck0_33, if_pos (in_ok (by omega) (by decide)), nI_clamp (by omega), c_D h hb.2.2.2.1, bit1 _ (by omega), b_bs _ (by omega) (by omega)]
  simp only [show tD t (tL t i) < 31 by omega, decide_true, Bool.true_and]
theorem shl_b (b : Bool) (i : Nat) : ((if b = true then (1 : Int32) else 0) <<< (nI i &&& 31)) = if b = true then 1 <<< (nI i &&& 31) else 0 := by
  cases b with
  | true => rfl
  | false =>
    show (0 : Int32) <<< (nI i &&& 31) = 0
    exact Int32.zero_shiftLeft
theorem doers_ok {σ : rf_S} {t : TT} (h : CT σ t) : f_X8_doers σ = some (bs (tM t) (fun i => ds t i (tD t (tL t i)))) := by
  have hM := t_M (c_t h)
  unfold f_X8_doers
  rw [lp_bs (tM t) (fun i => ds t i (tD t (tL t i))) (by omega) ?_ ?_]
  · rfl
  · intro i x hi
    unfold f_X8_doers_b4
    simp only
    rw [c_M h, if_neg (nI_ge hi (by omega)), doesNow_ok h hi, Option.bind_some, nI_1, shl_b]
  · intro x
    unfold f_X8_doers_b4
    simp only
    rw [c_M h, if_pos (nI_le (Nat.le_refl _) (by omega))]
theorem b01 (b : Bool) {α : Type} (x y : α) : (if (if b = true then (1 : Int32) else 0) = 0 then x else y) = if b = true then y else x := by
  cases b with
  | true => exact if_neg n10
  | false => exact if_pos rfl
theorem doing_ok {τ : rf_S} {c : Nat} {t : TT} (h : MT τ c t) : f_X10_doing c τ = some (bs (tM t) (fun i => ds t i (tD t (tL t i)))) := by
  have hM := t_M (m_t h)
  unfold f_X10_doing
  rw [lp_bs (tM t) (fun i => ds t i (tD t (tL t i))) (by omega) ?_ ?_]
  · rfl
  · intro i x hi
    unfold f_X10_doing_b4 f_X10_doing_j29
    simp only
    rw [m_M h, if_neg (nI_ge hi (by omega)), mdoes_ok h hi, Option.bind_some, nI_1, b01]
    cases ds t i (tD t (tL t i)) <;> rfl
  · intro x
    unfold f_X10_doing_b4
    simp only
    rw [m_M h, if_pos (nI_le (Nat.le_refl _) (by omega))]
