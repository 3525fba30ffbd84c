/-! ===== texts; copies; means ===== -/
def cText (σ : rf_S) (r : Nat) (n : Int32) : rf_S := rf_sI (rf_sA σ (12 + r) (fun j => if j < 60 then 32 else σ.1 (12 + r) j)) 16 r n
theorem tmake_ok {r : Nat} (hr : r < 4) (n : Int32) (σ : rf_S) : f_X7_make (nI r) n σ = some (cText σ r n) := by
  unfold f_X7_make
  rw [rk11, if_pos (in_ok hr (by decide)), nI_clamp (by omega), ra11 r hr, fillB_ok (ck12 r hr) (by match r, hr with | 0, _ | 1, _ | 2, _ | 3, _ => rfl) (n := 60) (by match r, hr with | 0, _ | 1, _ | 2, _ | 3, _ => rfl) (by decide)]
  simp only [Option.bind_some]
  rw [ck0_16, if_pos (in_ok hr (by decide))]
  rfl
def mText (τ : rf_S) (r : Nat) (n : Int32) : rf_S := rf_sA (rf_sI τ 3 r n) 4 (fun j => if 60 * r ≤ j ∧ j < 60 * r + 60 then 32 else τ.1 4 j)
theorem mtext_lp {r : Nat} (hr : r < 4) (n : Int32) (τ : rf_S) : rf_lp (f_X10_text_b36 (nI r) n) 5000 (0, rf_sI τ 3 r n) = some (mText τ r n) := by
  have h0 : ((0 : Int32), rf_sI τ 3 r n) = (nI 0, rf_sA (rf_sI τ 3 r n) 4 (fun j => if 60 * r ≤ j ∧ j < 60 * r + 0 then 32 else τ.1 4 j)) := by
    refine Prod.ext rfl ?_
    have e : (fun j => if 60 * r ≤ j ∧ j < 60 * r + 0 then (32 : Int32) else τ.1 4 j) = (rf_sI τ 3 r n).1 4 := by
      funext j
      rw [if_neg (by omega)]
      rfl
    show rf_sI τ 3 r n = _
    rw [e]
    exact (sA_self _ _).symm
  rw [h0, lp_for (fun k => (nI k, rf_sA (rf_sI τ 3 r n) 4 (fun j => if 60 * r ≤ j ∧ j < 60 * r + k then 32 else τ.1 4 j))) 60 (e := mText τ r n) ?_ ?_ (by decide)]
  · intro k hk
    unfold f_X10_text_b36
    simp only
    rw [if_neg (show ¬ (60 : Int32) ≤ nI k from nI_ge hk (by decide)), nI60, ck1_4, if_pos (in_ok (by omega) (by decide)), nI_1, nI_clamp (by omega), sI_sA]
    congr 4
    funext j
    rw [upd_at]
    by_cases h1 : j = 60 * r + k
    · rw [if_pos h1, if_pos (by omega)]
    · by_cases h2 : 60 * r ≤ j ∧ j < 60 * r + k
      · rw [if_neg h1, if_pos h2, if_pos (by omega)]
      · rw [if_neg h1, if_neg h2, if_neg (by omega)]
  · unfold f_X10_text_b36
    simp only
    rw [if_pos (show (60 : Int32) ≤ nI 60 by decide)]
    rfl
theorem Sim_text {σ τ : rf_S} {r n : Nat} (hr : r < 4) (hn : n ≤ 60) (h : Sim σ τ) : Sim (cText σ r (nI n)) (mText τ r (nI n)) := by
  refine Sim_RT h (fun c hc => ?_) (fun c hc => ?_) rfl rfl (SimR_of h.2.1 (fun c h1 h2 => ?_) (fun c h1 => ?_)) ?_
  · unfold cText
    rw [sI_1, if_neg (by omega), sA_1, if_neg (by omega)]
  · unfold mText
    rw [sA_1, if_neg (by omega), sI_1, if_neg (by omega)]
  · unfold cText
    rw [sI_1, if_neg (by omega), sA_1, if_neg (by omega)]
  · unfold mText
    rw [sA_1, if_neg (by omega), sI_1, if_neg (by omega)]
  · intro q hq
    obtain ⟨a1, a2, a3⟩ := h.2.2.1 q hq
    unfold cText mText
    simp only [sI_at, sA_at, if_true, if_neg (show ¬ (3 : Nat) = 4 by decide), if_neg (show ¬ 12 + q = 16 by omega), if_neg (show ¬ (16 : Nat) = 12 + r by omega)]
    by_cases e : q = r
    · subst e
      refine ⟨by simp, Or.inr ⟨n, hn, by simp⟩, fun i hi => ?_⟩
      simp only [if_true, if_pos hi]
      rw [if_pos (by omega)]
    · simp only [if_neg e, if_neg (show ¬ 12 + q = 12 + r by omega)]
      refine ⟨a1, a2, fun i hi => ?_⟩
      rw [if_neg (by omega)]
      exact a3 i hi
/-- PROMISE 8 -/
theorem sim_text {σ τ : rf_S} (h : Sim σ τ) (r n : Int32) : Both (f_X9_text r n σ) (f_X10_text r n τ) := by
  unfold f_X9_text f_X10_text
  rw [in3]
  rcases isText_cases r with e | ⟨j, hj, rfl, e⟩
  · rw [e, e]
    exact Both_same h
  · rw [e, e]
    simp only [Option.bind_some]
    rw [if_neg n10, if_neg n10]
    by_cases h1 : n ≤ 60
    · rw [if_pos h1, if_pos h1]
      by_cases h2 : 0 ≤ n
      · rw [if_pos h2, if_pos h2]
        obtain ⟨k, hk, rfl⟩ := nI_of2 (M := 60) (n := 60) rfl (Int32.not_lt.mpr h2) h1
        rw [tmake_ok hj, ck1_3, if_pos (in_ok hj (by decide)), nI_clamp (by omega), mtext_lp hj]
        exact ⟨_, _, _, rfl, rfl, Sim_text hj hk h⟩
      · rw [if_neg h2, if_neg h2]
        exact Both_find (f := 5) (by decide) h
    · rw [if_neg h1, if_neg h1]
      exact Both_same h
/-- refused by both, or a text of n bytes -/
theorem text_cases {σ τ : rf_S} (h : Sim σ τ) (r : Int32) : (∃ v σ1 τ1, v ≠ 0 ∧ f_X9_refusedText r σ = some (v, σ1) ∧ Sim σ1 τ1 ∧ ((∀ τ, f_X9_isText r τ = some 0) ∧ v = -1 ∧ τ1 = τ ∨ ∃ j, j < 4 ∧ r = nI j ∧ (∀ τ, f_X9_isText r τ = some 1) ∧ τ.1 3 j = -1 ∧ v = -3 ∧ τ1 = mFind τ 1)) ∨ ∃ j n, j < 4 ∧ r = nI j ∧ n ≤ 60 ∧ σ.1 16 j = nI n ∧ τ.1 3 j = nI n ∧ (∀ τ, f_X9_isText r τ = some 1) ∧ f_X9_refusedText r σ = some (0, σ) := by
  rcases isText_cases r with e | ⟨j, hj, rfl, e⟩
  · refine Or.inl ⟨-1, σ, τ, by decide, ?_, h, Or.inl ⟨e, rfl, rfl⟩⟩
    unfold f_X9_refusedText
    rw [e]
    rfl
  · obtain ⟨a1, a2, a3⟩ := h.2.2.1 j hj
    rcases a2 with a2 | ⟨n, hn, a2⟩
    · refine Or.inl ⟨-3, cFind σ 1, mFind τ 1, by decide, ?_, Sim_find (by decide) h, Or.inr ⟨j, hj, rfl, e, by rw [a1, a2], rfl, rfl⟩⟩
      unfold f_X9_refusedText f_X7_isMissing
      rw [e]
      simp only [Option.bind_some]
      rw [if_pos n10, ck0_16, if_pos (in_ok hj (by decide)), nI_clamp (by omega), a2, if_neg neg1_lt]
      simp only [Option.bind_some]
      rw [if_neg n10, show (1 : Int32) = nI 1 from rfl, find_ok (by decide)]
      rfl
    · refine Or.inr ⟨j, n, hj, rfl, hn, a2, by rw [a1, a2], e, ?_⟩
      unfold f_X9_refusedText f_X7_isMissing
      rw [e]
      simp only [Option.bind_some]
      rw [if_pos n10, ck0_16, if_pos (in_ok hj (by decide)), nI_clamp (by omega), a2, if_pos (nI_pos' (by omega))]
      rfl
theorem tget_ok {r i : Nat} (hr : r < 4) (hi : i < 60) (σ : rf_S) : f_X7_get (nI r) (nI i) σ = some (σ.1 (12 + r) i) := by
  unfold f_X7_get
  rw [rk11, if_pos (in_ok hr (by decide)), nI_clamp (by omega), ra11 r hr, ck12 r hr, if_pos (in_ok hi (by decide)), nI_clamp (by omega)]
theorem b8b8 (x : Int32) : x.toInt8.toInt32.toInt8.toInt32 = x.toInt8.toInt32 := by simp
theorem tset_ok {r i : Nat} (hr : r < 4) (hi : i < 60) (v : Int32) (σ : rf_S) : f_X7_set (nI r) (nI i) v.toInt8.toInt32 σ = some (rf_sI σ (12 + r) i v.toInt8.toInt32) := by
  unfold f_X7_set
  rw [rk11, if_pos (in_ok hr (by decide)), nI_clamp (by omega), ra11 r hr, ck12 r hr, if_pos (in_ok hi (by decide)), nI_clamp (by omega), b8b8]
  rfl
theorem thas_ok {r n : Nat} (hr : r < 4) {σ : rf_S} (hn : σ.1 16 r = nI n) (i : Int32) : f_X7_has (nI r) i σ = (if i < 0 then some 0 else if nI n ≤ i then some 0 else some 1) := by
  unfold f_X7_has
  rw [ck0_16, if_pos (in_ok hr (by decide)), nI_clamp (by omega), hn]
theorem Sim_put {σ τ : rf_S} {r i : Nat} (hr : r < 4) (hi : i < 60) (v : Int32) (h : Sim σ τ) : Sim (rf_sI σ (12 + r) i v) (rf_sI τ 4 (60 * r + i) v) := by
  refine Sim_RT h (fun c hc => ?_) (fun c hc => ?_) rfl rfl (SimR_of h.2.1 (fun c h1 h2 => ?_) (fun c h1 => ?_)) ?_
  · rw [sI_1, if_neg (by omega)]
  · rw [sI_1, if_neg (by omega)]
  · rw [sI_1, if_neg (by omega)]
  · rw [sI_1, if_neg (by omega)]
  · intro q hq
    obtain ⟨a1, a2, a3⟩ := h.2.2.1 q hq
    simp only [sI_at, if_true, if_neg (show ¬ (3 : Nat) = 4 by decide), if_neg (show ¬ (16 : Nat) = 12 + r by omega)]
    refine ⟨a1, a2, fun j hj => ?_⟩
    by_cases e : q = r
    · subst e
      by_cases e2 : j = i
      · subst e2
        simp
      · rw [if_neg (by omega), if_pos rfl, if_neg e2]
        exact a3 j hj
    · rw [if_neg (by omega), if_neg (by omega)]
      exact a3 j hj
/-- PROMISE 9 -/
theorem sim_put {σ τ : rf_S} (h : Sim σ τ) (r i v : Int32) : Both (f_X9_put r i v σ) (f_X10_put r i v τ) := by
  unfold f_X9_put f_X10_put
  rw [in3]
  rcases text_cases h r with ⟨w, σ1, τ1, hv, e1, hs, ⟨e2, rfl, rfl⟩ | ⟨j, hj, rfl, e2, e3, rfl, rfl⟩⟩ | ⟨j, n, hj, rfl, hn, s1, s2, e2, e1⟩
  · rw [e1, e2]
    exact Both_no hs
  · rw [e1, e2]
    simp only [Option.bind_some]
    rw [if_neg hv, if_pos n10, ck1_3, if_pos (in_ok hj (by decide)), nI_clamp (by omega), e3, if_neg neg1_lt, show (1 : Int32) = nI 1 from rfl, finds_ok (by decide)]
    exact Both_no hs
  · rw [e1, e2]
    simp only [Option.bind_some, if_true]
    rw [if_pos n10, ck1_3, if_pos (in_ok hj (by decide)), nI_clamp (by omega), s2, if_pos (nI_pos' (by omega)), if_pos (in_ok hj (by decide)), thas_ok hj s1]
    have hh : f_X10_in i 0 (nI n - 1) τ = (if i < 0 then some 0 else if nI n ≤ i then some 0 else some 1) := by
      unfold f_X10_in
      simp only [sub1_lt (show n < 2 ^ 30 by omega)]
    rw [hh]
    rcases pk_ix i (n := n) (by omega) with h1 | h1 | ⟨k, hk, rfl⟩
    · rw [if_pos h1]
      exact Both_find (f := 2) (by decide) h
    · by_cases h0 : i < 0
      · rw [if_pos h0]
        exact Both_find (f := 2) (by decide) h
      · rw [if_neg h0, if_pos h1]
        exact Both_find (f := 2) (by decide) h
    · rw [if_neg (nI_pos (by omega)), if_neg (nI_ge hk (by omega))]
      simp only [Option.bind_some]
      rw [if_pos n10, if_pos n10, tget_ok hj (by omega)]
      simp only [Option.bind_some]
      rw [tset_ok hj (by omega), nI60, ck1_4, if_pos (in_ok (by omega) (by decide)), if_pos (in_ok (by omega) (by decide)), nI_clamp (by omega), (h.2.2.1 j hj).2.2 k (by omega)]
      exact ⟨_, _, _, rfl, rfl, Sim_put hj (by omega) _ h⟩
/-! means -/
def sumL (f : Nat → Int32) : Nat → Int64
  | 0 => 0
  | n + 1 => sumL f n + (f n).toInt64
theorem csum_ok {r n : Nat} (hr : r < 6) (hn : n ≤ 40) {σ : rf_S} (hs : σ.1 9 r = nI n) : f_X4_sum (nI r) σ = some (sumL (σ.1 (3 + r)) n) := by
  unfold f_X4_sum
  rw [show ((0 : Int64), (0 : Int32)) = (sumL (σ.1 (3 + r)) 0, nI 0) from rfl, lp_for (fun k => (sumL (σ.1 (3 + r)) k, nI k)) n (e := sumL (σ.1 (3 + r)) n) ?_ ?_ (by omega)]
  · rfl
  · intro k hk
    unfold f_X4_sum_b5
    simp only
    rw [ck0_9, if_pos (in_ok hr (by decide)), nI_clamp (by omega), hs, if_neg (nI_ge hk (by omega)), rk2, if_pos (in_ok hr (by decide)), ra2 r hr, ck3 r hr, if_pos (in_ok (by omega) (by decide)), nI_clamp (by omega), nI_1]
    rfl
  · unfold f_X4_sum_b5
    simp only
    rw [ck0_9, if_pos (in_ok hr (by decide)), nI_clamp (by omega), hs, if_pos (nI_le (Nat.le_refl n) (by omega))]
theorem msum_ok {r n : Nat} (hr : r < 6) (hn : n ≤ 40) {τ : rf_S} {f : Nat → Int32} (hs : τ.1 1 r = nI n) (hf : ∀ i, i < 40 → τ.1 2 (40 * r + i) = f i) : rf_lp (f_X10_mean_b46 (nI r) τ) 5000 (0, 0) = some (sumL f n) := by
  rw [show ((0 : Int64), (0 : Int32)) = (sumL f 0, nI 0) from rfl, lp_for (fun k => (sumL f k, nI k)) n (e := sumL f n) ?_ ?_ (by omega)]
  · intro k hk
    unfold f_X10_mean_b46
    simp only
    rw [ck1_1, if_pos (in_ok hr (by decide)), nI_clamp (by omega), hs, if_neg (nI_ge hk (by omega)), nI40, ck1_2, if_pos (in_ok (by omega) (by decide)), nI_clamp (by omega), nI_1, hf k (by omega)]
    rfl
  · unfold f_X10_mean_b46
    simp only
    rw [ck1_1, if_pos (in_ok hr (by decide)), nI_clamp (by omega), hs, if_pos (nI_le (Nat.le_refl n) (by omega))]
theorem nI_l0 {n : Nat} (h : 0 < n) (h2 : n ≤ 100) : ¬ (nI n).toInt64 = 0 := by
  rw [nI_l (by omega), show (0 : Int64) = lN 0 from rfl, lN_eq (by omega) (by decide)]
  omega
/-- PROMISE 7 -/
theorem sim_mean {σ τ : rf_S} (h : Sim σ τ) (r : Int32) : Both (f_X9_mean r σ) (f_X10_mean r τ) := by
  unfold f_X9_mean f_X10_mean
  rw [in5]
  rcases row_cases h r with ⟨v, σ1, τ1, hv, e1, hs, ⟨e2, rfl, rfl⟩ | ⟨j, hj, rfl, e2, e3, rfl, rfl⟩⟩ | ⟨j, n, hj, rfl, hn, s1, s2, e2, e1⟩
  · rw [e1, e2]
    exact Both_no hs
  · rw [e1, e2]
    simp only [Option.bind_some]
    rw [if_neg hv, if_pos n10, ck1_1, if_pos (in_ok hj (by decide)), nI_clamp (by omega), e3, if_neg neg1_lt, show (1 : Int32) = nI 1 from rfl, finds_ok (by decide)]
    exact Both_no hs
  · rw [e1, e2]
    simp only [Option.bind_some, if_true]
    rw [if_pos n10, ck1_1, if_pos (in_ok hj (by decide)), nI_clamp (by omega), s2, if_pos (nI_pos' (by omega)), if_pos (in_ok hj (by decide))]
    unfold f_X4_sizeOf
    rw [ck0_9, if_pos (in_ok hj (by decide)), nI_clamp (by omega), s1]
    simp only [Option.bind_some]
    by_cases h0 : n = 0
    · subst h0
      rw [if_neg (by decide), if_neg (by decide)]
      exact Both_find (f := 4) (by decide) h
    · have hne : nI n ≠ 0 := nI_ne0 (by omega) (by omega)
      rw [if_pos hne, if_pos hne, csum_ok hj hn s1, msum_ok hj hn s2 (h.2.1 j hj).2.2]
      simp only [Option.bind_some]
      rw [if_neg (nI_l0 (by omega) (by omega)), if_neg (nI_l0 (by omega) (by omega)), if_pos (in_ok hj (by decide))]
      exact ⟨1, _, _, rfl, rfl, Sim_told _ h⟩
