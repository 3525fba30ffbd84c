/-! ===== copy ===== -/
theorem sub_toInt {s m : Nat} (hs : s ≤ 100) (hm : m < 2 ^ 31) : (nI s - nI m).toInt = (s : Int) - m := by
  rw [← iI_nat, ← iI_nat, iI_sub, iI_toInt (by omega) (by omega)]
theorem hasAll_ok {r s m : Nat} (hr : r < 6) (hs : s ≤ 40) (hm : m < 2 ^ 31) {σ : rf_S} (e : σ.1 9 r = nI s) (i : Int32) : (f_X4_hasAll (nI r) i (nI m) σ = some 0 ∧ ∀ τ, f_X10_isPart i (nI m) (nI s) τ = some 0) ∨ ∃ k, i = nI k ∧ k + m ≤ s ∧ f_X4_hasAll (nI r) i (nI m) σ = some 1 ∧ ∀ τ, f_X10_isPart i (nI m) (nI s) τ = some 1 := by
  unfold f_X4_hasAll f_X10_isPart
  rw [ck0_9, if_pos (in_ok hr (by decide)), nI_clamp (by omega), e]
  by_cases h0 : i < 0
  · rw [if_pos h0]
    exact Or.inl ⟨rfl, fun τ => by rw [if_pos h0]⟩
  · obtain ⟨k, hk, rfl⟩ := nI_of h0
    have e1 : nI s - nI m < nI k ↔ (s : Int) - m < k := by
      rw [Int32.lt_iff_toInt_lt, sub_toInt (by omega) hm, nI_toInt hk]
    have e2 : nI s < nI m ↔ s < m := lt_nI (by omega) hm
    rw [if_neg h0]
    by_cases h1 : k + m ≤ s
    · refine Or.inr ⟨k, rfl, h1, ?_, fun τ => ?_⟩
      · rw [if_neg (fun q => by have := e1.mp q; omega)]
      · rw [if_neg h0, if_neg (fun q => by have := e2.mp q; omega), if_neg (fun q => by have := e1.mp q; omega)]
    · refine Or.inl ⟨?_, fun τ => ?_⟩
      · rw [if_pos (e1.mpr (by omega))]
      · rw [if_neg h0]
        by_cases h2 : s < m
        · rw [if_pos (e2.mpr h2)]
        · rw [if_neg (fun q => h2 (e2.mp q)), if_pos (e1.mpr (by omega))]
def cpR (f : Nat → Int32) (a b n : Nat) : Nat → Int32 := fun q => if b ≤ q ∧ q < b + n then f (a + (q - b)) else f q
theorem up_lp {r i t j n : Nat} (hr : r < 6) (ht : t < 6) (hi : i + n ≤ 40) (hj : j + n ≤ 40) (hd : r ≠ t ∨ j ≤ i) (τ : rf_S) : rf_lp (f_X10_copy_b113 (nI r) (nI i) (nI t) (nI j) (nI n) 0) 5000 (0, τ) = some (rf_sA τ 2 (cpR (τ.1 2) (40 * r + i) (40 * t + j) n)) := by
  have h0 : ((0 : Int32), τ) = (nI 0, rf_sA τ 2 (cpR (τ.1 2) (40 * r + i) (40 * t + j) 0)) := by
    refine Prod.ext rfl ?_
    have e : cpR (τ.1 2) (40 * r + i) (40 * t + j) 0 = τ.1 2 := by
      funext q
      unfold cpR
      rw [if_neg (by omega)]
    show τ = _
    rw [e, sA_self]
  rw [h0, lp_for (fun k => (nI k, rf_sA τ 2 (cpR (τ.1 2) (40 * r + i) (40 * t + j) k))) n (e := rf_sA τ 2 (cpR (τ.1 2) (40 * r + i) (40 * t + j) n)) ?_ ?_ (by omega)]
  · intro k hk
    unfold f_X10_copy_b113 f_X10_copy_j137
    simp only
    rw [if_neg (nI_ge hk (by omega)), if_pos trivial, nI40, nI_add, nI40, nI_add, ck1_2, ck1_2, if_pos (in_ok (by omega) (by decide)), if_pos (in_ok (by omega) (by decide)), nI_clamp (by omega), nI_clamp (by omega), nI_1, sI_sA, sA_at, if_pos rfl]
    simp only [Option.bind_some]
    congr 4
    funext q
    rw [upd_at]
    unfold cpR
    by_cases h1 : q = 40 * t + j + k
    · rw [if_pos h1, if_neg (by omega), if_pos (by omega)]
      exact congrArg (τ.1 2) (by omega)
    · rw [if_neg h1]
      by_cases h2 : 40 * t + j ≤ q ∧ q < 40 * t + j + k
      · rw [if_pos h2, if_pos (by omega)]
      · rw [if_neg h2, if_neg (by omega)]
  · unfold f_X10_copy_b113
    simp only
    rw [if_pos (nI_le (Nat.le_refl n) (by omega))]
def cpD (f : Nat → Int32) (a b n k : Nat) : Nat → Int32 := fun q => if b + (n - k) ≤ q ∧ q < b + n then f (a + (q - b)) else f q
theorem down_lp {r i j n : Nat} (hr : r < 6) (hi : i + n ≤ 40) (hj : j + n ≤ 40) (hd : i < j) (τ : rf_S) : rf_lp (f_X10_copy_b113 (nI r) (nI i) (nI r) (nI j) (nI n) 1) 5000 (0, τ) = some (rf_sA τ 2 (cpR (τ.1 2) (40 * r + i) (40 * r + j) n)) := by
  have h0 : ((0 : Int32), τ) = (nI 0, rf_sA τ 2 (cpD (τ.1 2) (40 * r + i) (40 * r + j) n 0)) := by
    refine Prod.ext rfl ?_
    have e : cpD (τ.1 2) (40 * r + i) (40 * r + j) n 0 = τ.1 2 := by
      funext q
      unfold cpD
      rw [if_neg (by omega)]
    show τ = _
    rw [e, sA_self]
  rw [h0, lp_for (fun k => (nI k, rf_sA τ 2 (cpD (τ.1 2) (40 * r + i) (40 * r + j) n k))) n (e := rf_sA τ 2 (cpR (τ.1 2) (40 * r + i) (40 * r + j) n)) ?_ ?_ (by omega)]
  · intro k hk
    have e1 : nI n - 1 - nI k = nI (n - 1 - k) := by
      rw [show (1 : Int32) = nI 1 from rfl, pk_sub (by omega), pk_sub (by omega)]
    unfold f_X10_copy_b113 f_X10_copy_j137
    simp only
    rw [if_neg (nI_ge hk (by omega)), if_neg n10, e1, nI40, nI_add, nI40, nI_add, ck1_2, ck1_2, if_pos (in_ok (by omega) (by decide)), if_pos (in_ok (by omega) (by decide)), nI_clamp (by omega), nI_clamp (by omega), nI_1, sI_sA, sA_at, if_pos rfl]
    simp only [Option.bind_some]
    congr 4
    funext q
    rw [upd_at]
    unfold cpD
    by_cases h1 : q = 40 * r + j + (n - 1 - k)
    · rw [if_pos h1, if_neg (by omega), if_pos (by omega)]
      exact congrArg (τ.1 2) (by omega)
    · rw [if_neg h1]
      by_cases h2 : 40 * r + j + (n - k) ≤ q ∧ q < 40 * r + j + n
      · rw [if_pos h2, if_pos (by omega)]
      · rw [if_neg h2, if_neg (by omega)]
  · unfold f_X10_copy_b113
    simp only
    rw [if_pos (nI_le (Nat.le_refl n) (by omega))]
    congr 3
    funext q
    unfold cpD cpR
    rw [show 40 * r + j + (n - n) = 40 * r + j by omega]
theorem move_ok {r i t j n : Nat} (hr : r < 6) (ht : t < 6) (hi : i + n ≤ 40) (hj : j + n ≤ 40) (σ : rf_S) : f_X4_move (nI r) (nI i) (nI t) (nI j) (nI n) σ = some (rf_sA σ (3 + t) (va_cpy (σ.1 (3 + r)) (σ.1 (3 + t)) i j n)) := by
  have hk : ∀ r, r < 6 → rf_kd ly0 0 (3 + r) = true ∧ rf_len ly0 (3 + r) = 40 := by decide
  unfold f_X4_move
  rw [rk2, if_pos (in_ok hr (by decide)), rk2, if_pos (in_ok ht (by decide)), nI_clamp (by omega), nI_clamp (by omega), ra2 r hr, ra2 t ht, nI_clamp (by omega), nI_clamp (by omega), nI_clamp (by omega), if_pos ?_]
  · rfl
  · unfold rf_cp
    rw [(hk r hr).1, (hk t ht).1, (hk r hr).2, (hk t ht).2, nI_clamp (by omega), nI_clamp (by omega), nI_clamp (by omega)]
    simp [nI_pos (n := i) (by omega), nI_pos (n := j) (by omega), nI_pos (n := n) (by omega), hi, hj]
theorem Sim_copy {σ τ : rf_S} {r i t j n : Nat} (hr : r < 6) (ht : t < 6) (hi : i + n ≤ 40) (hj : j + n ≤ 40) (h : Sim σ τ) : Sim (rf_sA σ (3 + t) (va_cpy (σ.1 (3 + r)) (σ.1 (3 + t)) i j n)) (rf_sA τ 2 (cpR (τ.1 2) (40 * r + i) (40 * t + j) n)) := by
  refine Sim_RT h (fun c hc => ?_) (fun c hc => ?_) rfl rfl ?_ (SimT_of h.2.2.1 (fun c h1 h2 => ?_) (fun c h1 => ?_))
  · rw [sA_1, if_neg (by omega)]
  · rw [sA_1, if_neg (by omega)]
  · intro q hq
    obtain ⟨a1, a2, a3⟩ := h.2.1 q hq
    simp only [sA_at, if_true, if_neg (show ¬ (1 : Nat) = 2 by decide), if_neg (show ¬ (9 : Nat) = 3 + t by omega)]
    refine ⟨a1, a2, fun x hx => ?_⟩
    unfold cpR
    by_cases e : q = t
    · subst e
      rw [if_pos rfl]
      by_cases h1 : j ≤ x ∧ x < j + n
      · rw [if_pos (by omega), pk_cpy_in h1.1 h1.2, show 40 * r + i + (40 * q + x - (40 * q + j)) = 40 * r + (i + (x - j)) by omega]
        exact (h.2.1 r hr).2.2 _ (by omega)
      · rw [if_neg (by omega), pk_cpy_out (by omega)]
        exact a3 x hx
    · rw [if_neg (by omega), if_neg (by omega)]
      exact a3 x hx
  · rw [sA_1, if_neg (by omega)]
  · rw [sA_1, if_neg (by omega)]
/-- PROMISE 6 -/
theorem sim_copy {σ τ : rf_S} (h : Sim σ τ) (r i t j n : Int32) : Both (f_X9_copy r i t j n σ) (f_X10_copy r i t j n τ) := by
  unfold f_X9_copy f_X10_copy
  rw [in5, in5]
  rcases isRow_cases r with e | ⟨a, ha, rfl, e⟩
  · rw [e, e]
    exact Both_same h
  rw [e, e]
  simp only [Option.bind_some]
  rw [if_neg n10, if_neg n10]
  rcases isRow_cases t with e2 | ⟨b, hb, rfl, e2⟩
  · rw [e2, e2]
    exact Both_same h
  rw [e2, e2]
  simp only [Option.bind_some]
  rw [if_pos n10, if_pos n10]
  by_cases h0 : 0 ≤ n
  · rw [if_pos h0, if_pos h0]
    obtain ⟨m, hm, rfl⟩ := nI_of (Int32.not_lt.mpr h0)
    obtain ⟨a1, a2, a3⟩ := h.2.1 a ha
    obtain ⟨b1, b2, b3⟩ := h.2.1 b hb
    unfold f_X4_isMissing
    rw [ck0_9, if_pos (in_ok ha (by decide)), nI_clamp (by omega), ck0_9, if_pos (in_ok hb (by decide)), nI_clamp (by omega), ck1_1, if_pos (in_ok ha (by decide)), ck1_1, if_pos (in_ok hb (by decide)), a1, b1]
    rcases a2 with a2 | ⟨x, hx, a2⟩
    · rw [a2, if_neg neg1_lt, if_pos (show (-1 : Int32) < 0 by decide)]
      simp only [Option.bind_some]
      rw [if_pos n10]
      exact Both_find (f := 1) (by decide) h
    · rw [a2, if_pos (nI_pos' (by omega)), if_neg (nI_pos (by omega))]
      simp only [Option.bind_some]
      rw [if_neg (by decide)]
      rcases b2 with b2 | ⟨y, hy, b2⟩
      · rw [b2, if_neg neg1_lt, if_neg neg1_lt]
        simp only [Option.bind_some]
        rw [if_neg n10]
        exact Both_find (f := 1) (by decide) h
      · rw [b2, if_pos (nI_pos' (by omega)), if_pos (nI_pos' (by omega))]
        simp only [Option.bind_some, if_true]
        rw [if_pos (in_ok ha (by decide))]
        rcases hasAll_ok ha hx hm a2 i with ⟨g1, g2⟩ | ⟨k, rfl, hk, g1, g2⟩
        · rw [g1, g2]
          exact Both_find (f := 2) (by decide) h
        · rw [g1, g2]
          simp only [Option.bind_some]
          rw [if_neg n10, if_neg n10, if_pos (in_ok hb (by decide))]
          rcases hasAll_ok hb hy hm b2 j with ⟨g3, g4⟩ | ⟨l, rfl, hl, g3, g4⟩
          · rw [g3, g4]
            exact Both_find (f := 2) (by decide) h
          · rw [g3, g4]
            simp only [Option.bind_some]
            rw [if_pos n10, if_pos n10, move_ok ha hb (by omega) (by omega)]
            have fin : ∀ B, B = some (rf_sA τ 2 (cpR (τ.1 2) (40 * a + k) (40 * b + l) m)) → Both ((some (rf_sA σ (3 + b) (va_cpy (σ.1 (3 + a)) (σ.1 (3 + b)) k l m))).bind (fun q24 => some (1, q24))) (B.bind (fun e31 => some (1, e31))) := by
              intro B hB
              rw [hB]
              exact ⟨1, _, _, rfl, rfl, Sim_copy ha hb (by omega) (by omega) h⟩
            by_cases hab : a = b
            · subst hab
              rw [if_neg (fun q => q rfl)]
              by_cases hkl : l ≤ k
              · rw [if_pos (nI_le hkl (by omega))]
                exact fin _ (up_lp ha ha (by omega) (by omega) (Or.inr hkl) τ)
              · rw [if_neg (nI_ge (by omega) (by omega))]
                exact fin _ (down_lp ha (by omega) (by omega) (by omega) τ)
            · rw [if_pos (fun q => hab ((eq_nI (by omega) (by omega)).mp q))]
              exact fin _ (up_lp ha hb (by omega) (by omega) (Or.inl hab) τ)
  · rw [if_neg h0, if_neg h0]
    exact Both_find (f := 5) (by decide) h
