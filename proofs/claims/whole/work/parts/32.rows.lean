/-! ===== rows: class against reference ===== -/
theorem f_in_r {r : Int32} {n : Nat} (hn : n < 2 ^ 30) : (r < 0 ∨ nI n ≤ r ∨ ∃ j, j < n ∧ r = nI j) := pk_ix r (by omega)
theorem in5 (r : Int32) (τ : rf_S) : f_X10_in r 0 5 τ = f_X9_isRow r τ := by
  unfold f_X10_in f_X9_isRow
  by_cases h1 : r < 0
  · rw [if_pos h1, if_pos h1]
  · rw [if_neg h1, if_neg h1]
    have e : (5 : Int32) < r ↔ 6 ≤ r := by
      rw [Int32.lt_iff_toInt_lt, Int32.le_iff_toInt_le]
      have h5 : (5 : Int32).toInt = 5 := rfl
      have h6 : (6 : Int32).toInt = 6 := rfl
      rw [h5, h6]
      omega
    by_cases h2 : (6 : Int32) ≤ r
    · rw [if_pos (e.mpr h2), if_pos h2]
    · rw [if_neg (fun q => h2 (e.mp q)), if_neg h2]
theorem in3 (r : Int32) (τ : rf_S) : f_X10_in r 0 3 τ = f_X9_isText r τ := by
  unfold f_X10_in f_X9_isText
  by_cases h1 : r < 0
  · rw [if_pos h1, if_pos h1]
  · rw [if_neg h1, if_neg h1]
    have e : (3 : Int32) < r ↔ 4 ≤ r := by
      rw [Int32.lt_iff_toInt_lt, Int32.le_iff_toInt_le]
      have h5 : (3 : Int32).toInt = 3 := rfl
      have h6 : (4 : Int32).toInt = 4 := rfl
      rw [h5, h6]
      omega
    by_cases h2 : (4 : Int32) ≤ r
    · rw [if_pos (e.mpr h2), if_pos h2]
    · rw [if_neg (fun q => h2 (e.mp q)), if_neg h2]
/-- a row's number: none, or one of the six -/
theorem isRow_cases (r : Int32) : (∀ σ, f_X9_isRow r σ = some 0) ∨ ∃ j, j < 6 ∧ r = nI j ∧ ∀ σ, f_X9_isRow r σ = some 1 := by
  rcases pk_ix r (n := 6) (by decide) with h | h | ⟨j, hj, rfl⟩
  · exact Or.inl fun σ => by unfold f_X9_isRow; rw [if_pos h]
  · refine Or.inl fun σ => ?_
    unfold f_X9_isRow
    by_cases h1 : r < 0
    · rw [if_pos h1]
    · rw [if_neg h1, if_pos (show (6 : Int32) ≤ r from h)]
  · refine Or.inr ⟨j, hj, rfl, fun σ => ?_⟩
    unfold f_X9_isRow
    rw [if_neg (nI_pos (by omega)), if_neg (show ¬ (6 : Int32) ≤ nI j from nI_ge hj (by decide))]
theorem isText_cases (r : Int32) : (∀ σ, f_X9_isText r σ = some 0) ∨ ∃ j, j < 4 ∧ r = nI j ∧ ∀ σ, f_X9_isText r σ = some 1 := by
  rcases pk_ix r (n := 4) (by decide) with h | h | ⟨j, hj, rfl⟩
  · exact Or.inl fun σ => by unfold f_X9_isText; rw [if_pos h]
  · refine Or.inl fun σ => ?_
    unfold f_X9_isText
    by_cases h1 : r < 0
    · rw [if_pos h1]
    · rw [if_neg h1, if_pos (show (4 : Int32) ≤ r from h)]
  · refine Or.inr ⟨j, hj, rfl, fun σ => ?_⟩
    unfold f_X9_isText
    rw [if_neg (nI_pos (by omega)), if_neg (show ¬ (4 : Int32) ≤ nI j from nI_ge hj (by decide))]
/-! findings -/
def cFind (σ : rf_S) (f : Nat) : rf_S := rf_sI (rf_sI σ 0 9 (nI f)) 54 f (σ.1 54 f + 1)
def mFind (τ : rf_S) (f : Nat) : rf_S := rf_sI (rf_sI τ 0 4 (nI f)) 5 f (τ.1 5 f + 1)
theorem find_ok {f : Nat} (hf : f < 6) (σ : rf_S) : f_X9_find (nI f) σ = some (-3, cFind σ f) := by
  unfold f_X9_find
  rw [ck0_54, if_pos (in_ok hf (by decide)), if_pos (in_ok hf (by decide)), nI_clamp (by omega)]
  rfl
theorem finds_ok {f : Nat} (hf : f < 6) (τ : rf_S) : f_X10_finds (nI f) τ = some (-3, mFind τ f) := by
  unfold f_X10_finds
  rw [ck1_5, if_pos (in_ok hf (by decide)), if_pos (in_ok hf (by decide)), nI_clamp (by omega)]
  rfl
theorem Sim_find {σ τ : rf_S} {f : Nat} (hf : f < 6) (h : Sim σ τ) : Sim (cFind σ f) (mFind τ f) := by
  obtain ⟨h1, h2, h3, h4⟩ := h
  refine ⟨?_, ?_, ?_, ?_⟩
  · unfold SimF cFind mFind at *
    obtain ⟨a1, a2, a3, a4, a5⟩ := h1
    refine ⟨by simpa [sI_at] using a1, by simp [sI_at], fun g hg => ?_, a4, a5⟩
    by_cases e : g = f
    · subst e
      simp [sI_at, a3 g hg]
    · simp [sI_at, e, a3 g hg]
  · intro r hr
    have := h2 r hr
    unfold cFind mFind
    simp only [sI_1, if_neg (show ¬ (1 : Nat) = 0 by decide), if_neg (show ¬ (1 : Nat) = 5 by decide), if_neg (show ¬ (2 : Nat) = 0 by decide), if_neg (show ¬ (2 : Nat) = 5 by decide), if_neg (show ¬ (9 : Nat) = 0 by decide), if_neg (show ¬ (9 : Nat) = 54 by decide), if_neg (show ¬ 3 + r = 0 by omega), if_neg (show ¬ 3 + r = 54 by omega)]
    exact this
  · intro r hr
    have := h3 r hr
    unfold cFind mFind
    simp only [sI_1, if_neg (show ¬ (3 : Nat) = 0 by decide), if_neg (show ¬ (3 : Nat) = 5 by decide), if_neg (show ¬ (4 : Nat) = 0 by decide), if_neg (show ¬ (4 : Nat) = 5 by decide), if_neg (show ¬ (16 : Nat) = 0 by decide), if_neg (show ¬ (16 : Nat) = 54 by decide), if_neg (show ¬ 12 + r = 0 by omega), if_neg (show ¬ 12 + r = 54 by omega)]
    exact this
  · refine SimW_of h4 (fun c h1 h2 _ => ?_) (fun c hc => ?_) (fun j hj => ?_)
    · unfold cFind
      simp only [sI_1, if_neg (show ¬ c = 54 by omega), if_neg (show ¬ c = 0 by omega)]
    · unfold mFind
      simp only [sI_1, if_neg (show ¬ c = 5 by omega), if_neg (show ¬ c = 0 by omega)]
    · unfold mFind
      simp only [sI_1, upd_at, if_neg (show ¬ (0 : Nat) = 5 by decide), if_true, if_neg (show ¬ j = 4 by omega)]
/-- what a call of both answers, and that they agree behind it -/
def Both (A B : Option (Int32 × rf_S)) : Prop := ∃ v σ1 τ1, A = some (v, σ1) ∧ B = some (v, τ1) ∧ Sim σ1 τ1
theorem Both_same {σ τ : rf_S} {v : Int32} (h : Sim σ τ) : Both (some (v, σ)) (some (v, τ)) := ⟨v, σ, τ, rfl, rfl, h⟩
theorem Both_find {σ τ : rf_S} {f : Nat} (hf : f < 6) (h : Sim σ τ) : Both ((f_X9_find (nI f) σ).bind (fun q => some (q.1, q.2))) ((f_X10_finds (nI f) τ).bind (fun q => some (q.1, q.2))) := by
  rw [find_ok hf, finds_ok hf]
  exact ⟨-3, _, _, rfl, rfl, Sim_find hf h⟩
/-! a row is made -/
def cRow (σ : rf_S) (r : Nat) (n : Int32) : rf_S := rf_sI (rf_sA σ (3 + r) (fun j => if j < 40 then 0 else σ.1 (3 + r) j)) 9 r n
theorem make_ok {r : Nat} (hr : r < 6) (n : Int32) (σ : rf_S) : f_X4_make (nI r) n σ = some (cRow σ r n) := by
  unfold f_X4_make
  rw [rk2, if_pos (in_ok hr (by decide)), nI_clamp (by omega), ra2 r hr, fillI_ok (ck3 r hr) (by match r, hr with | 0, _ | 1, _ | 2, _ | 3, _ | 4, _ | 5, _ => rfl) (n := 40) (by match r, hr with | 0, _ | 1, _ | 2, _ | 3, _ | 4, _ | 5, _ => rfl) (by decide)]
  simp only [Option.bind_some]
  rw [ck0_9, if_pos (in_ok hr (by decide))]
  rfl
def mRow (τ : rf_S) (r : Nat) (n : Int32) : rf_S := rf_sA (rf_sI τ 1 r n) 2 (fun j => if 40 * r ≤ j ∧ j < 40 * r + 40 then 0 else τ.1 2 j)
theorem nI40 (r k : Nat) : (40 : Int32) * nI r + nI k = nI (40 * r + k) := by
  rw [show (40 : Int32) = nI 40 from rfl, pk_mul, nI_add]
theorem nI60 (r k : Nat) : (60 : Int32) * nI r + nI k = nI (60 * r + k) := by
  rw [show (60 : Int32) = nI 60 from rfl, pk_mul, nI_add]
theorem mrow_lp {r : Nat} (hr : r < 6) (n : Int32) (τ : rf_S) : rf_lp (f_X10_row_b36 (nI r) n) 5000 (0, rf_sI τ 1 r n) = some (mRow τ r n) := by
  have h0 : ((0 : Int32), rf_sI τ 1 r n) = (nI 0, rf_sA (rf_sI τ 1 r n) 2 (fun j => if 40 * r ≤ j ∧ j < 40 * r + 0 then 0 else τ.1 2 j)) := by
    refine Prod.ext rfl ?_
    have e : (fun j => if 40 * r ≤ j ∧ j < 40 * r + 0 then (0 : Int32) else τ.1 2 j) = (rf_sI τ 1 r n).1 2 := by
      funext j
      rw [if_neg (by omega)]
      rfl
    show rf_sI τ 1 r n = _
    rw [e]
    exact (sA_self _ _).symm
  rw [h0, lp_for (fun k => (nI k, rf_sA (rf_sI τ 1 r n) 2 (fun j => if 40 * r ≤ j ∧ j < 40 * r + k then 0 else τ.1 2 j))) 40 (e := mRow τ r n) ?_ ?_ (by decide)]
  · intro k hk
    unfold f_X10_row_b36
    simp only
    rw [if_neg (show ¬ (40 : Int32) ≤ nI k from nI_ge hk (by decide)), nI40, ck1_2, if_pos (in_ok (by omega) (by decide)), nI_1, nI_clamp (by omega), sI_sA]
    congr 4
    funext j
    rw [upd_at]
    by_cases h1 : j = 40 * r + k
    · rw [if_pos h1, if_pos (by omega)]
    · by_cases h2 : 40 * r ≤ j ∧ j < 40 * r + k
      · rw [if_neg h1, if_pos h2, if_pos (by omega)]
      · rw [if_neg h1, if_neg h2, if_neg (by omega)]
  · unfold f_X10_row_b36
    simp only
    rw [if_pos (show (40 : Int32) ≤ nI 40 by decide)]
    rfl
theorem Sim_row {σ τ : rf_S} {r n : Nat} (hr : r < 6) (hn : n ≤ 40) (h : Sim σ τ) : Sim (cRow σ r (nI n)) (mRow τ r (nI n)) := by
  obtain ⟨h1, h2, h3, h4⟩ := h
  refine ⟨?_, ?_, ?_, ?_⟩
  · unfold SimF cRow mRow at *
    simp only [sI_1, sI_2, sA_1, sA_2, if_neg (show ¬ (0 : Nat) = 9 by decide), if_neg (show ¬ (0 : Nat) = 3 + r by omega), if_neg (show ¬ (0 : Nat) = 1 by decide), if_neg (show ¬ (0 : Nat) = 2 by decide), if_neg (show ¬ (5 : Nat) = 1 by decide), if_neg (show ¬ (5 : Nat) = 2 by decide), if_neg (show ¬ (54 : Nat) = 9 by decide), if_neg (show ¬ (54 : Nat) = 3 + r by omega)]
    exact h1
  · intro q hq
    obtain ⟨a1, a2, a3⟩ := h2 q hq
    unfold cRow mRow
    simp only [sI_at, sA_at, if_true, if_neg (show ¬ (1 : Nat) = 2 by decide), if_neg (show ¬ 3 + q = 9 by omega), if_neg (show ¬ (9 : Nat) = 3 + r by omega)]
    by_cases e : q = r
    · subst e
      refine ⟨by simp, Or.inr ⟨n, hn, by simp⟩, fun i hi => ?_⟩
      simp only [if_true, if_pos hi]
      rw [if_pos (by omega)]
    · simp only [if_neg e, if_neg (show ¬ 3 + q = 3 + r by omega)]
      refine ⟨a1, a2, fun i hi => ?_⟩
      rw [if_neg (by omega)]
      exact a3 i hi
  · intro q hq
    unfold cRow mRow
    simp only [sI_1, sA_1, if_neg (show ¬ (16 : Nat) = 9 by decide), if_neg (show ¬ (16 : Nat) = 3 + r by omega), if_neg (show ¬ 12 + q = 9 by omega), if_neg (show ¬ 12 + q = 3 + r by omega), if_neg (show ¬ (3 : Nat) = 2 by decide), if_neg (show ¬ (3 : Nat) = 1 by decide), if_neg (show ¬ (4 : Nat) = 2 by decide), if_neg (show ¬ (4 : Nat) = 1 by decide)]
    exact h3 q hq
  · refine SimW_of h4 (fun c h1 h2 _ => ?_) (fun c hc => ?_) (fun j hj => ?_)
    · unfold cRow
      simp only [sI_1, sA_1, if_neg (show ¬ c = 9 by omega), if_neg (show ¬ c = 3 + r by omega)]
    · unfold mRow
      simp only [sI_1, sA_1, if_neg (show ¬ c = 1 by omega), if_neg (show ¬ c = 2 by omega)]
    · rfl
/-- PROMISE 2 -/
theorem sim_row {σ τ : rf_S} (h : Sim σ τ) (r n : Int32) : Both (f_X9_row r n σ) (f_X10_row r n τ) := by
  unfold f_X9_row f_X10_row
  rw [in5]
  rcases isRow_cases r with e | ⟨j, hj, rfl, e⟩
  · rw [e, e]
    exact Both_same h
  · rw [e, e]
    simp only [Option.bind_some]
    rw [if_neg n10, if_neg n10]
    by_cases h1 : n ≤ 40
    · rw [if_pos h1, if_pos h1]
      by_cases h2 : 0 ≤ n
      · rw [if_pos h2, if_pos h2]
        obtain ⟨k, hk, rfl⟩ := nI_of2 (M := 40) (n := 40) rfl (Int32.not_lt.mpr h2) h1
        rw [make_ok hj, ck1_1, if_pos (in_ok hj (by decide)), nI_clamp (by omega), mrow_lp hj]
        exact ⟨_, _, _, rfl, rfl, Sim_row hj hk h⟩
      · rw [if_neg h2, if_neg h2]
        exact Both_find (f := 5) (by decide) h
    · rw [if_neg h1, if_neg h1]
      exact Both_same h
