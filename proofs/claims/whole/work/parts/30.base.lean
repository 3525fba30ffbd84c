/-! ===== pure: reads of the layouts, loops, numbers ===== -/
theorem ck0_3 (x : Int32) : rf_ck ly0 0 3 x = rf_in x 40 := rfl
theorem ck0_4 (x : Int32) : rf_ck ly0 0 4 x = rf_in x 40 := rfl
theorem ck0_5 (x : Int32) : rf_ck ly0 0 5 x = rf_in x 40 := rfl
theorem ck0_6 (x : Int32) : rf_ck ly0 0 6 x = rf_in x 40 := rfl
theorem ck0_7 (x : Int32) : rf_ck ly0 0 7 x = rf_in x 40 := rfl
theorem ck0_8 (x : Int32) : rf_ck ly0 0 8 x = rf_in x 40 := rfl
theorem ck0_9 (x : Int32) : rf_ck ly0 0 9 x = rf_in x 6 := rfl
theorem ck0_12 (x : Int32) : rf_ck ly0 1 12 x = rf_in x 60 := rfl
theorem ck0_13 (x : Int32) : rf_ck ly0 1 13 x = rf_in x 60 := rfl
theorem ck0_14 (x : Int32) : rf_ck ly0 1 14 x = rf_in x 60 := rfl
theorem ck0_15 (x : Int32) : rf_ck ly0 1 15 x = rf_in x 60 := rfl
theorem ck0_16 (x : Int32) : rf_ck ly0 0 16 x = rf_in x 4 := rfl
theorem ck0_19 (x : Int32) : rf_ck ly0 0 19 x = rf_in x 4 := rfl
theorem ck0_20 (x : Int32) : rf_ck ly0 0 20 x = rf_in x 4 := rfl
theorem ck0_21 (x : Int32) : rf_ck ly0 0 21 x = rf_in x 6 := rfl
theorem ck0_22 (x : Int32) : rf_ck ly0 0 22 x = rf_in x 6 := rfl
theorem ck0_23 (x : Int32) : rf_ck ly0 0 23 x = rf_in x 6 := rfl
theorem ck0_24 (x : Int32) : rf_ck ly0 0 24 x = rf_in x 6 := rfl
theorem ck0_27 (x : Int32) : rf_ck ly0 0 27 x = rf_in x 4 := rfl
theorem ck0_28 (x : Int32) : rf_ck ly0 0 28 x = rf_in x 4 := rfl
theorem ck0_29 (x : Int32) : rf_ck ly0 0 29 x = rf_in x 6 := rfl
theorem ck0_30 (x : Int32) : rf_ck ly0 0 30 x = rf_in x 6 := rfl
theorem ck0_31 (x : Int32) : rf_ck ly0 0 31 x = rf_in x 6 := rfl
theorem ck0_32 (x : Int32) : rf_ck ly0 0 32 x = rf_in x 6 := rfl
theorem ck0_33 (x : Int32) : rf_ck ly0 0 33 x = rf_in x 4 := rfl
theorem ck0_34 (x : Int32) : rf_ck ly0 0 34 x = rf_in x 6 := rfl
theorem ck0_35 (x : Int32) : rf_ck ly0 0 35 x = rf_in x 6 := rfl
theorem ck0_36 (x : Int32) : rf_ck ly0 0 36 x = rf_in x 6 := rfl
theorem ck0_37 (x : Int32) : rf_ck ly0 0 37 x = rf_in x 6 := rfl
theorem ck0_39 (x : Int32) : rf_ck ly0 0 39 x = rf_in x 40 := rfl
theorem ck0_41 (x : Int32) : rf_ck ly0 0 41 x = rf_in x 40 := rfl
theorem ck0_42 (x : Int32) : rf_ck ly0 0 42 x = rf_in x 40 := rfl
theorem ck0_43 (x : Int32) : rf_ck ly0 0 43 x = rf_in x 40 := rfl
theorem ck0_44 (x : Int32) : rf_ck ly0 0 44 x = rf_in x 3 := rfl
theorem ck0_46 (x : Int32) : rf_ck ly0 0 46 x = rf_in x 24 := rfl
theorem ck0_47 (x : Int32) : rf_ck ly0 0 47 x = rf_in x 4 := rfl
theorem ck0_48 (x : Int32) : rf_ck ly0 0 48 x = rf_in x 6 := rfl
theorem ck0_49 (x : Int32) : rf_ck ly0 0 49 x = rf_in x 6 := rfl
theorem ck0_51 (x : Int32) : rf_ck ly0 0 51 x = rf_in x 31 := rfl
theorem ck0_52 (x : Int32) : rf_ck ly0 0 52 x = rf_in x 64 := rfl
theorem ck0_54 (x : Int32) : rf_ck ly0 0 54 x = rf_in x 6 := rfl
theorem ck1_1 (x : Int32) : rf_ck ly1 0 1 x = rf_in x 6 := rfl
theorem ck1_2 (x : Int32) : rf_ck ly1 0 2 x = rf_in x 240 := rfl
theorem ck1_3 (x : Int32) : rf_ck ly1 0 3 x = rf_in x 4 := rfl
theorem ck1_4 (x : Int32) : rf_ck ly1 0 4 x = rf_in x 240 := rfl
theorem ck1_5 (x : Int32) : rf_ck ly1 0 5 x = rf_in x 6 := rfl
theorem ck1_6 (x : Int32) : rf_ck ly1 0 6 x = rf_in x 8 := rfl
theorem ck1_7 (x : Int32) : rf_ck ly1 0 7 x = rf_in x 24 := rfl
theorem ck1_8 (x : Int32) : rf_ck ly1 0 8 x = rf_in x 4 := rfl
theorem ck1_9 (x : Int32) : rf_ck ly1 0 9 x = rf_in x 6 := rfl
theorem ck1_10 (x : Int32) : rf_ck ly1 0 10 x = rf_in x 6 := rfl
theorem ck1_11 (x : Int32) : rf_ck ly1 0 11 x = rf_in x 6 := rfl
theorem ck1_12 (x : Int32) : rf_ck ly1 0 12 x = rf_in x 25 := rfl
theorem ck1_13 (x : Int32) : rf_ck ly1 0 13 x = rf_in x 25 := rfl
theorem ck1_14 (x : Int32) : rf_ck ly1 0 14 x = rf_in x 1000 := rfl
theorem ck1_15 (x : Int32) : rf_ck ly1 0 15 x = rf_in x 75 := rfl
theorem ck1_16 (x : Int32) : rf_ck ly1 0 16 x = rf_in x 3000 := rfl
theorem ck1_17 (x : Int32) : rf_ck ly1 0 17 x = rf_in x 3 := rfl
theorem ck1_18 (x : Int32) : rf_ck ly1 0 18 x = rf_in x 6 := rfl
theorem rk2 (x : Int32) : rf_rk ly0 2 x = rf_in x 6 := rfl
theorem rk11 (x : Int32) : rf_rk ly0 11 x = rf_in x 4 := rfl
theorem rk40 (x : Int32) : rf_rk ly0 40 x = rf_in x 3 := rfl
theorem ra2 : ∀ j, j < 6 → rf_ra ly0 2 j = 3 + j := by decide
theorem ra11 : ∀ j, j < 4 → rf_ra ly0 11 j = 12 + j := by decide
theorem ra40 : ∀ j, j < 3 → rf_ra ly0 40 j = 41 + j := by decide
theorem in_ok {i n : Nat} (h : i < n) (hn : n < 2 ^ 31) : rf_in (nI i) n = true := by
  have h1 := vp_in_nI h hn
  unfold vp_in at h1
  simp only [not_or, Nat.not_le] at h1
  simp [rf_in, h1.1, h1.2]
theorem in_cl {i : Nat} (h : i < 2 ^ 31) : (nI i).toNatClampNeg = i := nI_clamp h
theorem in_iff {x : Int32} {n : Nat} (hn : n < 2 ^ 31) : rf_in x n = true ↔ ∃ j, j < n ∧ x = nI j := by
  constructor
  · intro h
    exact vp_in_of (rf_in_vp h) hn
  · rintro ⟨j, hj, rfl⟩
    exact in_ok hj hn
theorem ck3 : ∀ j, j < 6 → ∀ x, rf_ck ly0 0 (3 + j) x = rf_in x 40 := by
  intro j hj x
  match j, hj with
  | 0, _ | 1, _ | 2, _ | 3, _ | 4, _ | 5, _ => rfl
theorem ck12 : ∀ j, j < 4 → ∀ x, rf_ck ly0 1 (12 + j) x = rf_in x 60 := by
  intro j hj x
  match j, hj with
  | 0, _ | 1, _ | 2, _ | 3, _ => rfl
theorem ck41 : ∀ j, j < 3 → ∀ x, rf_ck ly0 0 (41 + j) x = rf_in x 40 := by
  intro j hj x
  match j, hj with
  | 0, _ | 1, _ | 2, _ => rfl
/-! the state: reads behind writes -/
theorem sA_1 (σ : rf_S) (c k : Nat) (f : Nat → Int32) : (rf_sA σ c f).1 k = if k = c then f else σ.1 k := rfl
theorem sA_2 (σ : rf_S) (c : Nat) (f : Nat → Int32) : (rf_sA σ c f).2 = σ.2 := rfl
theorem sI_1 (σ : rf_S) (c j k : Nat) (x : Int32) : (rf_sI σ c j x).1 k = if k = c then upd (σ.1 c) j x else σ.1 k := rfl
theorem sI_2 (σ : rf_S) (c j : Nat) (x : Int32) : (rf_sI σ c j x).2 = σ.2 := rfl
theorem sL_1 (σ : rf_S) (c j : Nat) (x : Int64) : (rf_sL σ c j x).1 = σ.1 := rfl
theorem sL_2 (σ : rf_S) (c j k : Nat) (x : Int64) : (rf_sL σ c j x).2 k = if k = c then vp_updL (σ.2 c) j x else σ.2 k := rfl
theorem upd_at (f : Nat → Int32) (k : Nat) (x : Int32) (j : Nat) : upd f k x j = if j = k then x else f j := rfl
theorem updL_at (f : Nat → Int64) (k : Nat) (x : Int64) (j : Nat) : vp_updL f k x j = if j = k then x else f j := rfl
theorem sI_at (σ : rf_S) (c j k i : Nat) (x : Int32) : (rf_sI σ c j x).1 k i = if k = c then (if i = j then x else σ.1 c i) else σ.1 k i := by
  rw [sI_1]
  by_cases h : k = c
  · rw [if_pos h, if_pos h, upd_at]
  · rw [if_neg h, if_neg h]
theorem sA_at (σ : rf_S) (c k i : Nat) (f : Nat → Int32) : (rf_sA σ c f).1 k i = if k = c then f i else σ.1 k i := by
  rw [sA_1]
  by_cases h : k = c
  · rw [if_pos h, if_pos h]
  · rw [if_neg h, if_neg h]
theorem sL_at (σ : rf_S) (c j k i : Nat) (x : Int64) : (rf_sL σ c j x).2 k i = if k = c then (if i = j then x else σ.2 c i) else σ.2 k i := by
  rw [sL_2]
  by_cases h : k = c
  · rw [if_pos h, if_pos h, updL_at]
  · rw [if_neg h, if_neg h]
theorem n10 : ¬ (1 : Int32) = 0 := by decide
theorem sA_self (σ : rf_S) (c : Nat) : rf_sA σ c (σ.1 c) = σ := by
  refine Prod.ext (funext fun k => ?_) rfl
  show (if k = c then σ.1 c else σ.1 k) = σ.1 k
  by_cases h : k = c
  · rw [if_pos h, h]
  · rw [if_neg h]
theorem sI_sA (σ : rf_S) (c : Nat) (f : Nat → Int32) (j : Nat) (x : Int32) : rf_sI (rf_sA σ c f) c j x = rf_sA σ c (upd f j x) := by
  refine Prod.ext (funext fun k => ?_) rfl
  show (if k = c then upd (if c = c then f else σ.1 c) j x else (if k = c then f else σ.1 k)) = (if k = c then upd f j x else σ.1 k)
  by_cases h : k = c
  · rw [if_pos h, if_pos h, if_pos rfl]
  · rw [if_neg h, if_neg h, if_neg h]
theorem sA_sA (σ : rf_S) (c : Nat) (f g : Nat → Int32) : rf_sA (rf_sA σ c f) c g = rf_sA σ c g := by
  refine Prod.ext (funext fun k => ?_) rfl
  show (if k = c then g else (if k = c then f else σ.1 k)) = (if k = c then g else σ.1 k)
  by_cases h : k = c
  · rw [if_pos h, if_pos h]
  · rw [if_neg h, if_neg h, if_neg h]
/-- a loop whose states are known: st 0, st 1, .. st n, then the exit -/
theorem lp_for {S E : Type} {b : S → Option (S ⊕ E)} (st : Nat → S) (n : Nat) {e : E} (hs : ∀ k, k < n → b (st k) = some (.inl (st (k + 1)))) (he : b (st n) = some (.inr e)) {N : Nat} (hN : n < N) : rf_lp b N (st 0) = some e := by
  have key : ∀ (m k N : Nat), k + m = n → m < N → rf_lp b N (st k) = some e := by
    intro m
    induction m with
    | zero =>
      intro k N hk hN
      obtain ⟨N, rfl⟩ : ∃ M, N = M + 1 := ⟨N - 1, by omega⟩
      have hk0 : k = n := by omega
      subst hk0
      simp only [rf_lp, he, Option.bind_some]
    | succ m ih =>
      intro k N hk hN
      obtain ⟨N, rfl⟩ : ∃ M, N = M + 1 := ⟨N - 1, by omega⟩
      simp only [rf_lp, hs k (by omega), Option.bind_some]
      exact ih (k + 1) N (by omega) (by omega)
  exact key n 0 N (by omega) hN
/-- a loop that leaves at its m-th state (m at most n) -/
theorem lp_inv {S E : Type} {b : S → Option (S ⊕ E)} (I : Nat → S → Prop) (n : Nat) {K : E → Prop} (hs : ∀ k s, k ≤ n → I k s → (∃ s', k < n ∧ b s = some (.inl s') ∧ I (k + 1) s') ∨ (∃ e, b s = some (.inr e) ∧ K e)) {N : Nat} (hN : n < N) {s : S} (h0 : I 0 s) : ∃ e, rf_lp b N s = some e ∧ K e := by
  have key : ∀ (m k N : Nat) (s : S), k + m = n → m < N → I k s → ∃ e, rf_lp b N s = some e ∧ K e := by
    intro m
    induction m with
    | zero =>
      intro k N s hk hN hI
      obtain ⟨N, rfl⟩ : ∃ M, N = M + 1 := ⟨N - 1, by omega⟩
      rcases hs k s (by omega) hI with ⟨s', h1, -⟩ | ⟨e, h1, h2⟩
      · omega
      · exact ⟨e, by simp only [rf_lp, h1, Option.bind_some], h2⟩
    | succ m ih =>
      intro k N s hk hN hI
      obtain ⟨N, rfl⟩ : ∃ M, N = M + 1 := ⟨N - 1, by omega⟩
      rcases hs k s (by omega) hI with ⟨s', h1, h2, h3⟩ | ⟨e, h1, h2⟩
      · obtain ⟨e, g1, g2⟩ := ih (k + 1) N s' (by omega) (by omega) h3
        exact ⟨e, by simp only [rf_lp, h2, Option.bind_some]; exact g1, g2⟩
      · exact ⟨e, by simp only [rf_lp, h1, Option.bind_some], h2⟩
  exact key n 0 N s (by omega) hN h0
/-! numbers -/
theorem le_nI {a b : Nat} (ha : a < 2 ^ 31) (hb : b < 2 ^ 31) : nI a ≤ nI b ↔ a ≤ b := nI_leI ha hb
theorem lt_nI {a b : Nat} (ha : a < 2 ^ 31) (hb : b < 2 ^ 31) : nI a < nI b ↔ a < b := nI_ltI ha hb
theorem eq_nI {a b : Nat} (ha : a < 2 ^ 31) (hb : b < 2 ^ 31) : nI a = nI b ↔ a = b := nI_eq ha hb
/-! the library's two fills -/
theorem fillI_ok {c n : Nat} (hk : ∀ x, rf_ck ly0 0 c x = rf_in x n) (ha : rf_isA ly0 c = true) (hl : rf_len ly0 c = n) (hn : n < 5000) (v : Int32) (σ : rf_S) : f_J_fillI c v σ = some (rf_sA σ c (fun j => if j < n then v else σ.1 c j)) := by
  unfold f_J_fillI
  rw [if_pos ha, hl]
  have h0 : ((0 : Int32), σ) = (nI 0, rf_sA σ c (fun j => if j < 0 then v else σ.1 c j)) := by
    refine Prod.ext rfl ?_
    show σ = _
    simp only [Nat.not_lt_zero, if_false]
    exact (sA_self σ c).symm
  rw [h0, lp_for (fun k => (nI k, rf_sA σ c (fun j => if j < k then v else σ.1 c j))) n (e := rf_sA σ c (fun j => if j < n then v else σ.1 c j)) ?_ ?_ hn]
  · rfl
  · intro k hkn
    unfold f_J_fillI_b5
    simp only
    rw [if_neg (show ¬ Int32.ofNat n ≤ nI k from nI_ge hkn (by omega)), hk, if_pos (in_ok hkn (by omega)), nI_1, nI_clamp (by omega), sI_sA]
    congr 4
    funext j
    rw [upd_at]
    by_cases h1 : j = k
    · subst h1
      simp
    · by_cases h2 : j < k
      · simp [h1, h2, Nat.lt_succ_of_lt h2]
      · simp [h1, h2, show ¬ j < k + 1 by omega]
  · unfold f_J_fillI_b5
    simp only
    rw [if_pos (show Int32.ofNat n ≤ nI n from nI_le (Nat.le_refl n) (by omega))]
theorem fillB_ok {c n : Nat} (hk : ∀ x, rf_ck ly0 1 c x = rf_in x n) (ha : rf_isA ly0 c = true) (hl : rf_len ly0 c = n) (hn : n < 5000) (v : Int32) (σ : rf_S) : f_J_fillB c v σ = some (rf_sA σ c (fun j => if j < n then v.toInt8.toInt32 else σ.1 c j)) := by
  unfold f_J_fillB
  rw [if_pos ha, hl]
  have h0 : ((0 : Int32), σ) = (nI 0, rf_sA σ c (fun j => if j < 0 then v.toInt8.toInt32 else σ.1 c j)) := by
    refine Prod.ext rfl ?_
    show σ = _
    simp only [Nat.not_lt_zero, if_false]
    exact (sA_self σ c).symm
  rw [h0, lp_for (fun k => (nI k, rf_sA σ c (fun j => if j < k then v.toInt8.toInt32 else σ.1 c j))) n (e := rf_sA σ c (fun j => if j < n then v.toInt8.toInt32 else σ.1 c j)) ?_ ?_ hn]
  · rfl
  · intro k hkn
    unfold f_J_fillB_b5
    simp only
    rw [if_neg (show ¬ Int32.ofNat n ≤ nI k from nI_ge hkn (by omega)), hk, if_pos (in_ok hkn (by omega)), nI_1, nI_clamp (by omega), sI_sA]
    congr 4
    funext j
    rw [upd_at]
    by_cases h1 : j = k
    · subst h1
      simp
    · by_cases h2 : j < k
      · simp [h1, h2, Nat.lt_succ_of_lt h2]
      · simp [h1, h2, show ¬ j < k + 1 by omega]
  · unfold f_J_fillB_b5
    simp only
    rw [if_pos (show Int32.ofNat n ≤ nI n from nI_le (Nat.le_refl n) (by omega))]
