/-! ===== an hour passes ===== -/
theorem bring_ok {a b A B i j n : Nat} (ha : ∀ x, rf_ck ly1 0 a x = rf_in x A) (hb : ∀ x, rf_ck ly1 0 b x = rf_in x B) (hab : a ≠ b) (hi : i + n ≤ A) (hj : j + n ≤ B) (hA : A ≤ 3000) (hB : B ≤ 3000) (τ : rf_S) : f_X10_bring a (nI i) b (nI j) (nI n) τ = some (rf_sA τ b (fun q => if j ≤ q ∧ q < j + n then τ.1 a (i + (q - j)) else τ.1 b q)) := by
  unfold f_X10_bring
  have h0 : ((0 : Int32), τ) = (nI 0, rf_sA τ b (fun q => if j ≤ q ∧ q < j + 0 then τ.1 a (i + (q - j)) else τ.1 b q)) := by
    refine Prod.ext rfl ?_
    show τ = _
    have : (fun q => if j ≤ q ∧ q < j + 0 then τ.1 a (i + (q - j)) else τ.1 b q) = τ.1 b := by
      funext q
      rw [if_neg (by omega)]
    rw [this, sA_self]
  rw [h0, lp_for (fun k => (nI k, rf_sA τ b (fun q => if j ≤ q ∧ q < j + k then τ.1 a (i + (q - j)) else τ.1 b q))) n (e := rf_sA τ b (fun q => if j ≤ q ∧ q < j + n then τ.1 a (i + (q - j)) else τ.1 b q)) ?_ ?_ (by omega)]
  · rfl
  · intro k hk
    unfold f_X10_bring_b3
    simp only
    rw [if_neg (nI_ge hk (by omega)), nI_add, nI_add, ha, if_pos (in_ok (by omega) (by omega)), hb, if_pos (in_ok (by omega) (by omega)), nI_clamp (by omega), nI_clamp (by omega), Option.bind_some, nI_1, sI_sA, sA_at, if_neg hab]
    refine congrArg (fun f => some (Sum.inl (nI (k + 1), rf_sA τ b f))) (funext fun q => ?_)
    rw [upd_at]
    by_cases e : q = j + k
    · subst e
      rw [if_pos rfl, if_pos (by omega)]
      exact congrArg (τ.1 a) (by omega)
    · rw [if_neg e]
      by_cases e2 : j ≤ q ∧ q < j + k
      · rw [if_pos e2, if_pos (by omega)]
      · rw [if_neg e2, if_neg (by omega)]
  · unfold f_X10_bring_b3
    simp only
    rw [if_pos (nI_le (Nat.le_refl n) (by omega))]
def catF (t : TT) (f : Nat → Nat) (i : Nat) : Bool := decide (f i = 0) && (List.range (tM t)).any (fun k => decide (tL t k = tL t i) && decide (0 < f k))
def pasF (t : TT) (f : Nat → Nat) (i : Nat) : Nat := if catF t f i = true then 2 else f i - 1
theorem any_f {M : Nat} {p : Nat → Bool} : (List.range M).any p = false ↔ ∀ k, k < M → p k = false := by
  rw [List.any_eq_false]
  constructor
  · intro h k hk
    simpa using h k (List.mem_range.mpr hk)
  · intro h k hk
    simpa using h k (List.mem_range.mp hk)
theorem any_bs {M : Nat} (hM : M ≤ 32) {p : Nat → Bool} : bs M p = 0 ↔ (List.range M).any p = false := by rw [bs_0 hM, any_f]
theorem ck35 {c : Nat} (hc : c = 35 ∨ c = 37) (x : Int32) : rf_ck ly0 0 c x = rf_in x 6 := by rcases hc with rfl | rfl <;> rfl
theorem a35 {c : Nat} (hc : c = 35 ∨ c = 37) : rf_isA ly0 c = true := by rcases hc with rfl | rfl <;> rfl
theorem l35 {c : Nat} (hc : c = 35 ∨ c = 37) : rf_len ly0 c = 6 := by rcases hc with rfl | rfl <;> rfl
/-- colds in a cell of the class: of members as f says, else none -/
def cold_ (σ : rf_S) (c : Nat) (t : TT) (f : Nat → Nat) : Prop := (∀ i, i < tM t → σ.1 c i = nI (f i) ∧ f i ≤ 2) ∧ ∀ i, tM t ≤ i → i < 6 → σ.1 c i = 0
theorem sickF {σ : rf_S} {c : Nat} {t : TT} {f : Nat → Nat} (hc : c = 35 ∨ c = 37) (hM : tM t ≤ 6) (h : cold_ σ c t f) : f_X9_sick c σ = some (bs (tM t) (fun i => decide (0 < f i))) := by
  rw [sick_ok (c := c) (ck35 hc) (a35 hc) (l35 hc) (f := fun i => if i < tM t then f i else 0)]
  · refine congrArg some (bs_ext (by omega) (by omega) fun i hi => ?_)
    by_cases e : i < tM t
    · simp [e, show i < 6 by omega]
    · simp [e]
  · intro i hi
    by_cases e : i < tM t
    · simp only [if_pos e]
      exact h.1 i e
    · simp only [if_neg e]
      exact ⟨h.2 i (by omega) hi, by omega⟩
theorem catchers_ok {σ : rf_S} {c : Nat} {t : TT} {f : Nat → Nat} (hc : c = 35 ∨ c = 37) (h : CT σ t) (hf : cold_ σ c t f) : f_X8_catchers c σ = some (bs (tM t) (catF t f)) := by
  have hM := t_M (c_t h)
  have hR := t_R (c_t h)
  unfold f_X8_catchers
  rw [sickF hc hM hf, Option.bind_some, lp_bs (tM t) (catF t f) (by omega) ?_ ?_]
  · rfl
  · intro i x hi
    have hb := t_i (c_t h) hi
    have h2 := (hf.1 i hi).2
    unfold f_X8_catchers_b10 f_X8_catchers_j52
    simp only
    rw [c_M h, if_neg (nI_ge hi (by omega)), ck35 hc, if_pos (in_ok (by omega) (by decide)), nI_clamp (by omega), (hf.1 i hi).1, ck0_34, if_pos (in_ok (by omega) (by decide)), c_L h hi, there_ok h (by omega), Option.bind_some, and_bs _ _ (by omega) (by omega), nI_1]
    unfold catF
    by_cases e : f i = 0
    · rw [e, if_neg (show ¬ nI 0 ≠ 0 from fun q => q rfl), decide_eq_true rfl, Bool.true_and, bs_congr (q := fun k => decide (tL t k = tL t i) && decide (0 < f k)) (n := tM t) (fun k hk => by simp [hk])]
      cases ea : (List.range (tM t)).any (fun k => decide (tL t k = tL t i) && decide (0 < f k)) with
      | true =>
        rw [if_neg (fun q => by rw [(any_bs (by omega)).mp q] at ea; exact absurd ea (by decide)), if_pos rfl]
      | false => rw [if_pos ((any_bs (by omega)).mpr ea), if_neg (by decide), or0]
    · rw [if_pos (show nI (f i) ≠ 0 from nI_ne0 (by omega) (by omega)), decide_eq_false e, Bool.false_and, if_neg (by decide), or0]
  · intro x
    unfold f_X8_catchers_b10
    simp only
    rw [c_M h, if_pos (nI_le (Nat.le_refl _) (by omega))]
theorem passColds_ok {σ : rf_S} {c : Nat} {t : TT} {f : Nat → Nat} (hc : c = 35 ∨ c = 37) (h : CT σ t) (hf : cold_ σ c t f) : f_X8_passColds c σ = some (rf_sA σ c (fun j => if j < tM t then nI (pasF t f j) else σ.1 c j)) := by
  have hM := t_M (c_t h)
  have hc26 : ¬ 26 = c := by omega
  unfold f_X8_passColds
  rw [catchers_ok hc h hf, Option.bind_some]
  have h0 : ((0 : Int32), σ) = (nI 0, rf_sA σ c (fun j => if j < 0 then nI (pasF t f j) else σ.1 c j)) := by
    refine Prod.ext rfl ?_
    show σ = _
    simp only [Nat.not_lt_zero, if_false]
    exact (sA_self σ c).symm
  rw [h0, lp_for (fun k => (nI k, rf_sA σ c (fun j => if j < k then nI (pasF t f j) else σ.1 c j))) (tM t) (e := rf_sA σ c (fun j => if j < tM t then nI (pasF t f j) else σ.1 c j)) ?_ ?_ (by omega)]
  · rfl
  · intro k hk
    have h2 := (hf.1 k hk).2
    have fin : ∀ x : Int32, x = nI (pasF t f k) → rf_sA σ c (upd (fun j => if j < k then nI (pasF t f j) else σ.1 c j) k x) = rf_sA σ c (fun j => if j < k + 1 then nI (pasF t f j) else σ.1 c j) := by
      intro x hx
      refine congrArg (rf_sA σ c) (funext fun j => ?_)
      rw [upd_at]
      by_cases e : j = k
      · rw [if_pos e, e, if_pos (by omega), hx]
      · rw [if_neg e]
        by_cases e2 : j < k
        · rw [if_pos e2, if_pos (by omega)]
        · rw [if_neg e2, if_neg (by omega)]
    have fin0 : σ.1 c k = nI (pasF t f k) → rf_sA σ c (fun j => if j < k then nI (pasF t f j) else σ.1 c j) = rf_sA σ c (fun j => if j < k + 1 then nI (pasF t f j) else σ.1 c j) := by
      intro hx
      refine congrArg (rf_sA σ c) (funext fun j => ?_)
      by_cases e2 : j < k
      · rw [if_pos e2, if_pos (by omega)]
      · by_cases e : j = k
        · rw [e, if_neg (by omega), if_pos (by omega), hx]
        · rw [if_neg e2, if_neg (by omega)]
    unfold f_X8_passColds_b8 f_X8_passColds_j48
    simp only [sA_at]
    rw [if_neg hc26, c_M h, if_neg (nI_ge hk (by omega)), bit1 _ (by omega), b_bs _ (by omega) (by omega), decide_eq_true hk, Bool.true_and, ck35 hc, if_pos (in_ok (by omega) (by decide)), nI_clamp (by omega), if_pos trivial, if_neg (Nat.lt_irrefl k), (hf.1 k hk).1, sI_sA, sI_sA, nI_1]
    cases ec : catF t f k with
    | true =>
      rw [if_pos rfl, if_neg (show ¬ (1 : Int32) ≠ 1 from fun q => q rfl), if_pos (in_ok (by omega) (by decide)), fin 2 (by unfold pasF; rw [if_pos ec]; rfl)]
    | false =>
      rw [if_neg (show ¬ false = true by decide), if_pos (show (0 : Int32) ≠ 1 by decide)]
      by_cases e : 0 < f k
      · rw [if_neg (nI_nle e (by omega)), if_pos (in_ok (by omega) (by decide)), if_pos (in_ok (by omega) (by decide)), fin _ (by unfold pasF; rw [if_neg (by rw [ec]; decide)]; exact nat_sub (show 1 ≤ f k by omega))]
      · rw [show f k = 0 by omega, if_pos (show nI 0 ≤ 0 by decide), fin0 (by rw [(hf.1 k hk).1]; unfold pasF; rw [if_neg (by rw [ec]; decide), show f k = 0 by omega])]
  · unfold f_X8_passColds_b8
    simp only [sA_at]
    rw [if_neg hc26, c_M h, if_pos (nI_le (Nat.le_refl _) (by omega))]
/-! the reference -/
theorem sA_MT {τ : rf_S} {c : Nat} {t : TT} (hc : c = 12 ∨ c = 13) (h : mC τ t) (f : Nat → Int32) : mC (rf_sA τ c f) t := by
  unfold mC at *
  simp only [sA_at, show ¬ 0 = c by omega, show ¬ 8 = c by omega, show ¬ 9 = c by omega, show ¬ 10 = c by omega, show ¬ 11 = c by omega, if_false]
  exact h
theorem ckM {c : Nat} (hc : c = 12 ∨ c = 13) (x : Int32) : rf_ck ly1 0 c x = rf_in x 25 := by rcases hc with rfl | rfl <;> rfl
theorem mpass1 {τ : rf_S} {c : Nat} {t : TT} (h : MT τ c t) : rf_lp (f_X10_pass_b4 c τ) 5000 (0, 0) = some (bs (tM t) (catF t (tC t))) := by
  have hM := t_M (m_t h)
  have hR := t_R (m_t h)
  refine lp_bs (tM t) (catF t (tC t)) (by omega) ?_ ?_
  · intro i x hi
    have hb := t_i (m_t h) hi
    unfold f_X10_pass_b4 f_X10_pass_j41 f_X10_pass_j42
    simp only
    rw [m_M h, if_neg (nI_ge hi (by omega)), i4, i10, m_ck h, if_pos (in_ok (by omega) (by decide)), nI_clamp (by omega), m_C h hi, m_ck h, if_pos (in_ok (by omega) (by decide)), nI_clamp (by omega), m_L h hi, coldIn_ok h (by omega), Option.bind_some, nI_1]
    unfold catF
    by_cases e : tC t i = 0
    · rw [e, if_neg (show ¬ nI 0 ≠ 0 from fun q => q rfl), decide_eq_true rfl, Bool.true_and]
      cases ea : (List.range (tM t)).any (fun k => decide (tL t k = tL t i) && decide (0 < tC t k)) with
      | true =>
        rw [if_neg (fun q => by rw [(any_bs (by omega)).mp q] at ea; exact absurd ea (by decide)), if_pos rfl]
      | false => rw [if_pos ((any_bs (by omega)).mpr ea), if_neg (by decide)]
    · rw [if_pos (show nI (tC t i) ≠ 0 from nI_ne0 (by omega) (by omega)), decide_eq_false e, Bool.false_and, if_neg (by decide)]
  · intro x
    unfold f_X10_pass_b4
    simp only
    rw [m_M h, if_pos (nI_le (Nat.le_refl _) (by omega))]
theorem mpass2 {τ : rf_S} {c : Nat} {t : TT} (hc : c = 12 ∨ c = 13) (h : MT τ c t) : rf_lp (f_X10_pass_b52 c (bs (tM t) (catF t (tC t)))) 5000 (0, τ) = some (rf_sA τ c (fun j => if 10 ≤ j ∧ j < 10 + tM t then nI (pasF t (tC t) (j - 10)) else τ.1 c j)) := by
  have hM := t_M (m_t h)
  have hc0 : ¬ 0 = c := by omega
  have h0 : ((0 : Int32), τ) = (nI 0, rf_sA τ c (fun j => if 10 ≤ j ∧ j < 10 + 0 then nI (pasF t (tC t) (j - 10)) else τ.1 c j)) := by
    refine Prod.ext rfl ?_
    show τ = _
    have : (fun j => if 10 ≤ j ∧ j < 10 + 0 then nI (pasF t (tC t) (j - 10)) else τ.1 c j) = τ.1 c := by
      funext q
      rw [if_neg (by omega)]
    rw [this, sA_self]
  rw [h0]
  refine lp_for (fun k => (nI k, rf_sA τ c (fun j => if 10 ≤ j ∧ j < 10 + k then nI (pasF t (tC t) (j - 10)) else τ.1 c j))) (tM t) (fun k hk => ?_) ?_ (by omega)
  · have hb := t_i (m_t h) hk
    show f_X10_pass_b52 c (bs (tM t) (catF t (tC t))) (nI k, rf_sA τ c (fun j => if 10 ≤ j ∧ j < 10 + k then nI (pasF t (tC t) (j - 10)) else τ.1 c j)) = some (.inl (nI (k + 1), rf_sA τ c (fun j => if 10 ≤ j ∧ j < 10 + (k + 1) then nI (pasF t (tC t) (j - 10)) else τ.1 c j)))
    have fin : ∀ x : Int32, x = nI (pasF t (tC t) k) → rf_sA τ c (upd (fun j => if 10 ≤ j ∧ j < 10 + k then nI (pasF t (tC t) (j - 10)) else τ.1 c j) (10 + k) x) = rf_sA τ c (fun j => if 10 ≤ j ∧ j < 10 + (k + 1) then nI (pasF t (tC t) (j - 10)) else τ.1 c j) := by
      intro x hx
      refine congrArg (rf_sA τ c) (funext fun j => ?_)
      rw [upd_at]
      by_cases e : j = 10 + k
      · rw [if_pos e, e, if_pos (by omega), hx]
        exact congrArg (fun z => nI (pasF t (tC t) z)) (by omega)
      · rw [if_neg e]
        by_cases e2 : 10 ≤ j ∧ j < 10 + k
        · rw [if_pos e2, if_pos (by omega)]
        · rw [if_neg e2, if_neg (by omega)]
    unfold f_X10_pass_b52 f_X10_pass_j98
    simp only [sA_at]
    rw [if_neg hc0, m_M h, if_neg (nI_ge hk (by omega)), has_ok _ (by omega), Option.bind_some, b_bs _ (by omega) (by omega), decide_eq_true hk, Bool.true_and, b01, i10, ckM hc, if_pos (in_ok (by omega) (by decide)), nI_clamp (by omega), if_pos trivial, if_neg (show ¬ (10 ≤ 10 + k ∧ 10 + k < 10 + k) by omega), m_C h hk, sI_sA, sI_sA, sI_sA, nI_1]
    simp only [if_pos (in_ok (i := 10 + k) (n := 25) (by omega) (by decide))]
    cases ec : catF t (tC t) k with
    | true => rw [if_pos rfl, fin 2 (by unfold pasF; rw [if_pos ec]; rfl)]
    | false =>
      rw [if_neg (show ¬ false = true by decide)]
      by_cases e : 0 < tC t k
      · rw [if_neg (nI_nle e (by omega)), fin _ (by unfold pasF; rw [if_neg (by rw [ec]; decide)]; exact nat_sub (show 1 ≤ tC t k by omega))]
      · rw [show tC t k = 0 by omega, if_pos (show nI 0 ≤ 0 by decide), fin 0 (by unfold pasF; rw [if_neg (by rw [ec]; decide), show tC t k = 0 by omega]; rfl)]
  · show f_X10_pass_b52 c (bs (tM t) (catF t (tC t))) (nI (tM t), _) = _
    unfold f_X10_pass_b52
    simp only [sA_at]
    rw [if_neg hc0, m_M h, if_pos (nI_le (Nat.le_refl _) (by omega))]
theorem pass_ok {τ : rf_S} {c : Nat} {t : TT} (hc : c = 12 ∨ c = 13) (h : MT τ c t) : ∃ g, f_X10_pass c τ = some (bs (tM t) (catF t (tC t)), rf_sA τ c g) ∧ mV g (passT t) := by
  have hM := t_M (m_t h)
  have hR := t_R (m_t h)
  obtain ⟨-, -, -, -, -, -, a7, a8, -⟩ := m_t h
  have c22 : (22 : Int32).toNatClampNeg = 22 := rfl
  have c23 : (23 : Int32).toNatClampNeg = 23 := rfl
  have i22 : rf_in 22 25 = true := rfl
  have i23 : rf_in 23 25 = true := rfl
  obtain ⟨G, hG⟩ : ∃ G : Nat → Int32, G = fun j => if 10 ≤ j ∧ j < 10 + tM t then nI (pasF t (tC t) (j - 10)) else τ.1 c j := ⟨_, rfl⟩
  have g22 : G 22 = nI (tH t) := by rw [hG]; simp only; rw [if_neg (by omega), m_H h]
  have g23 : G 23 = nI (tS t) := by rw [hG]; simp only; rw [if_neg (by omega), m_S h]
  have key : f_X10_pass c τ = some (bs (tM t) (catF t (tC t)), rf_sA τ c (upd (upd G 23 (nI (tS t - 1))) 22 (nI (tH t + 1)))) := by
    unfold f_X10_pass f_X10_pass_j122
    rw [mpass1 h, Option.bind_some, mpass2 hc h, ← hG, Option.bind_some, ckM hc, ckM hc, i22, i23, c22, c23]
    simp only [if_true, sA_at, if_pos (rfl : c = c), sI_sA, sI_at, g22, g23, upd_at, if_neg (show ¬ 22 = 23 by decide), Option.bind_some, nI_1]
    by_cases e : 0 < tS t
    · rw [if_neg (nI_nle e (by omega)), show nI (tS t) - 1 = nI (tS t - 1) from nat_sub (show 1 ≤ tS t by omega)]
    · rw [show tS t = 0 by omega, if_pos (show nI 0 ≤ 0 by decide)]
      rfl
  refine ⟨_, key, ?_⟩
  refine ⟨fun r hr => ?_, fun i hi => ⟨?_, ?_, ?_⟩, ?_, ?_, ?_⟩
  · have hr' : r < tR t := hr
    rw [upd_at, if_neg (by omega), upd_at, if_neg (by omega), hG]
    simp only
    rw [if_neg (by omega), m_D h hr']
    rfl
  · have hi' : i < tM t := hi
    rw [upd_at, if_neg (by omega), upd_at, if_neg (by omega), hG]
    simp only
    rw [if_neg (by omega), m_L h hi']
    rfl
  · have hi' : i < tM t := hi
    rw [upd_at, if_neg (by omega), upd_at, if_neg (by omega), hG]
    simp only
    rw [if_pos (by omega), show 10 + i - 10 = i by omega]
    show _ = nI (if i < tM t then (if catch_ t i = true then 2 else tC t i - 1) else tC t i)
    rw [if_pos hi']
    rfl
  · have hi' : i < tM t := hi
    rw [upd_at, if_neg (by omega), upd_at, if_neg (by omega), hG]
    simp only
    rw [if_neg (by omega), m_V h hi']
    rfl
  · rw [upd_at, if_pos rfl]
    rfl
  · rw [upd_at, if_neg (by decide), upd_at, if_pos rfl]
    rfl
  · rw [upd_at, if_neg (by decide), upd_at, if_neg (by decide), hG]
    simp only
    rw [if_neg (by omega), m_P h]
    rfl
