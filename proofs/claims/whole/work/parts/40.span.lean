/-! ===== spans: the degrees at which a set of members would do as at one ===== -/
theorem cnt_bs {m n : Nat} (p : Nat → Bool) (hn : n ≤ m) (hm : m ≤ 32) : cnt m (bt (bs n p)) = cnt n p := by
  have h0 : ∀ k, cnt k (fun _ => false) = 0 := by
    intro k
    induction k with
    | zero => rfl
    | succ k ih => rw [cnt, ih]; rfl
  obtain ⟨k, rfl⟩ : ∃ k, m = n + k := ⟨m - n, by omega⟩
  rw [cnt_add, cnt_congr (q := p) (n := n), cnt_congr (q := fun _ => false) (n := k), h0]
  · rfl
  · intro i hi
    rw [b_bs p (by omega) (by omega)]
    simp [show ¬ n + i < n by omega]
  · intro i hi
    rw [b_bs p (by omega) (by omega)]
    simp [hi]
theorem and_bs {n m : Nat} (p q : Nat → Bool) (hn : n ≤ 32) (hm : m ≤ 32) : bs n p &&& bs m q = bs n (fun i => p i && (decide (i < m) && q i)) := by
  apply b_ext
  intro i hi
  rw [b_and, b_bs p hn hi, b_bs q hm hi, b_bs _ hn hi, Bool.and_assoc]
theorem sick35 {σ : rf_S} {t : TT} (h : CT σ t) : f_X9_sick 35 σ = some (bs (tM t) (fun i => decide (0 < tC t i))) := by
  have hM := t_M (c_t h)
  rw [sick_ok (c := 35) ck0_35 rfl rfl (f := fun i => if i < tM t then tC t i else 0)]
  · refine congrArg some (bs_ext (by omega) (by omega) fun i hi => ?_)
    by_cases e : i < tM t
    · simp [e, show i < 6 by omega]
    · simp [e]
  · intro i hi
    by_cases e : i < tM t
    · simp only [if_pos e]
      exact ⟨c_C h e, (t_i (c_t h) e).2.2.2.2.1⟩
    · simp only [if_neg e]
      exact ⟨h.2.1.2.2.1 i (by omega) hi, by omega⟩
theorem seen_ok (p : Nat → Bool) (b : Bool) (σ : rf_S) : f_X9_seen (bs 31 p) (if b = true then 1 else 0) σ = some (bs 31 (fun d => p d == b)) := by
  unfold f_X9_seen
  rw [b01]
  cases b with
  | true =>
    rw [if_pos rfl]
    exact congrArg some (bs_congr fun i _ => by cases p i <;> rfl)
  | false =>
    rw [if_neg (by decide)]
    refine congrArg some (b_ext fun i hi => ?_)
    rw [b_and, b_not _ hi, b_bs _ (by decide) hi, ALL i hi, b_bs _ (by decide) hi]
    by_cases e : i < 31
    · cases p i <;> simp [e]
    · simp [e]
theorem likeAt_ok {σ : rf_S} {t : TT} (h : CT σ t) {i g : Nat} (hi : i < tM t) (hg : g ≤ 30) : f_X8_likeAt (nI i) (nI g) σ = some (bs 31 (fun d => ds t i d == ds t i g)) := by
  unfold f_X8_likeAt f_X8_likeAt_j21
  rw [does_ok h hi, Option.bind_some, bit1 _ (by omega), b_bs _ (by decide) (by omega), decide_eq_true (show g < 31 by omega), Bool.true_and]
  have s1 := seen_ok (ds t i) (ds t i g) σ
  cases e : ds t i g with
  | true =>
    rw [e] at s1
    rw [if_pos rfl] at s1 ⊢
    rw [if_neg (show ¬ (1 : Int32) ≠ 1 from fun q => q rfl), s1]
    rfl
  | false =>
    rw [e] at s1
    rw [if_neg (show ¬ false = true by decide)] at s1 ⊢
    rw [if_pos (show (0 : Int32) ≠ 1 by decide), s1]
    rfl
def spanP (t : TT) (s : Int32) (g d : Nat) : Bool := allB (tM t) (fun i => !bt s i || (ds t i d == ds t i g))
theorem ALL_bs : (2147483647 : Int32) = bs 31 (fun _ => true) := by
  apply b_ext
  intro i hi
  rw [ALL i hi, b_bs _ (by decide) hi, Bool.and_true]
theorem spanAt_ok {σ : rf_S} {t : TT} (h : CT σ t) (s : Int32) {g : Nat} (hg : g ≤ 30) : f_X8_spanAt (nI g) s σ = some (bs 31 (spanP t s g)) := by
  have hM := t_M (c_t h)
  unfold f_X8_spanAt
  rw [ALL_bs]
  have key : rf_lp (f_X8_spanAt_b6 (nI g) s σ) 5000 (bs 31 (fun _ => true), 0) = some (bs 31 (spanP t s g)) := by
    refine lp_for (fun k => (bs 31 (fun d => allB k (fun i => !bt s i || (ds t i d == ds t i g))), nI k)) (tM t) (fun k hk => ?_) ?_ (by omega)
    · show f_X8_spanAt_b6 (nI g) s σ (bs 31 (fun d => allB k (fun i => !bt s i || (ds t i d == ds t i g))), nI k) = some (.inl (bs 31 (fun d => allB (k + 1) (fun i => !bt s i || (ds t i d == ds t i g))), nI (k + 1)))
      unfold f_X8_spanAt_b6 f_X8_spanAt_j38
      simp only
      rw [c_M h, if_neg (nI_ge hk (by omega)), bit1 _ (by omega), nI_1, likeAt_ok h hk hg, Option.bind_some]
      cases e : bt s k with
      | true =>
        rw [if_pos rfl, if_neg (show ¬ (1 : Int32) ≠ 1 from fun q => q rfl), and_bs _ _ (by decide) (by decide)]
        refine congrArg (fun x => some (Sum.inl (x, nI (k + 1)))) (bs_congr fun d hd => ?_)
        rw [allB, decide_eq_true hd, e]
        simp
      | false =>
        rw [if_neg (show ¬ false = true by decide), if_pos (show (0 : Int32) ≠ 1 by decide)]
        refine congrArg (fun x => some (Sum.inl (x, nI (k + 1)))) (bs_congr fun d hd => ?_)
        rw [allB, e]
        simp
    · show f_X8_spanAt_b6 (nI g) s σ (_, nI (tM t)) = _
      unfold f_X8_spanAt_b6
      simp only
      rw [c_M h, if_pos (nI_le (Nat.le_refl _) (by omega))]
      rfl
  rw [key]
  rfl
theorem has_ok (x : Int32) {i : Nat} (hi : i < 32) (τ : rf_S) : f_X10_has x (nI i) τ = some (if bt x i = true then 1 else 0) := by
  unfold f_X10_has
  rw [bit1 _ hi]
  cases bt x i with
  | true => rw [if_pos rfl, if_neg (show ¬ (1 : Int32) ≠ 1 from fun q => q rfl)]
  | false => rw [if_neg (show ¬ false = true by decide), if_pos (show (0 : Int32) ≠ 1 by decide)]
theorem b_ne (p q : Bool) : (if p = true then (1 : Int32) else 0) ≠ (if q = true then 1 else 0) ↔ ¬ (p == q) = true := by
  cases p <;> cases q <;> decide
theorem spanOf_in {τ : rf_S} {c : Nat} {t : TT} (h : MT τ c t) (s x : Int32) {g d : Nat} (hg : g ≤ 30) (hd : d ≤ 30) : rf_lp (f_X10_spanOf_b19 c s (nI g) x (nI d) τ) 5000 (1, 0) = some (if spanP t s g d = true then 1 else 0) := by
  have hM := t_M (m_t h)
  refine lp_all (tM t) (fun i => !bt s i || (ds t i d == ds t i g)) (by omega) ?_ ?_ ?_
  · intro i hi
    unfold f_X10_spanOf_b19 f_X10_spanOf_j66 f_X10_spanOf_j62 f_X10_spanOf_j67
    simp only
    rw [m_M h, if_neg (nI_ge hi (by omega)), if_neg n10, has_ok _ (by omega), Option.bind_some, b01, doesAt_ok h hi hd, doesAt_ok h hi hg, Option.bind_some, Option.bind_some, nI_1]
    simp only [b_ne]
    cases bt s i <;> cases (ds t i d == ds t i g) <;> rfl
  · intro i hi
    unfold f_X10_spanOf_b19 f_X10_spanOf_j66 f_X10_spanOf_j67
    simp only
    rw [m_M h, if_neg (nI_ge hi (by omega)), if_pos trivial, nI_1]
  · intro y
    unfold f_X10_spanOf_b19
    simp only
    rw [m_M h, if_pos (nI_le (Nat.le_refl _) (by omega))]
theorem spanOf_ok {τ : rf_S} {c : Nat} {t : TT} (h : MT τ c t) (s : Int32) {g : Nat} (hg : g ≤ 30) : f_X10_spanOf c s (nI g) τ = some (bs 31 (spanP t s g)) := by
  unfold f_X10_spanOf
  rw [lp_bs 31 (spanP t s g) (by omega) ?_ ?_]
  · rfl
  · intro d x hd
    unfold f_X10_spanOf_b6 f_X10_spanOf_j90
    simp only
    rw [if_neg (show ¬ (31 : Int32) ≤ nI d from nI_ge hd (by decide)), spanOf_in h s x hg (by omega), Option.bind_some, b01, nI_1]
    cases spanP t s g d <;> rfl
  · intro x
    unfold f_X10_spanOf_b6
    simp only
    rw [if_pos (show (31 : Int32) ≤ nI 31 by decide)]
theorem spanIn_ok {σ : rf_S} {t : TT} (h : CT σ t) (s : Int32) {r : Nat} (hr : r < tR t) : f_X8_spanIn (nI r) s σ = some (bs 31 (spanP t s (tD t r))) := by
  have hR := t_R (c_t h)
  unfold f_X8_spanIn
  rw [ck0_33, if_pos (in_ok (by omega) (by decide)), nI_clamp (by omega), c_D h hr, spanAt_ok h s (t_r (c_t h) hr).2.2]
  rfl
theorem bc_bs (p : Nat → Bool) {n : Nat} (hn : n ≤ 31) (σ : rf_S) : f_J_bitCount (bs n p) σ = some (nI (cnt n p)) := by rw [bitCount_ok, cnt_bs p (by omega) (by omega)]
theorem mb_bs (p : Nat → Bool) {n : Nat} (hn : n ≤ 31) (τ : rf_S) : f_X10_bits (bs n p) τ = some (nI (cnt n p)) := by rw [bits_ok, cnt_bs p (by omega) (by omega)]
def thr (t : TT) (r : Nat) : Int32 := bs (tM t) (fun i => decide (tL t i = r))
theorem tells_ok (x : Int32) (τ : rf_S) : f_X10_tells x τ = some (1, rf_sI τ 0 6 x) := rfl
theorem sim_span {σ τ : rf_S} (h : Sim σ τ) (r : Int32) : Both (f_X9_span r σ) (f_X10_span r τ) := by
  obtain ⟨t, hσ, hτ⟩ := Sim_town h
  have hR := t_R (c_t hσ)
  unfold f_X9_span f_X10_span
  rcases room_cases hσ hτ r with ⟨h1, h2⟩ | ⟨k, hk, rfl, h1, h2⟩
  · rw [h1, h2]
    exact Both_same h
  · rw [h1, h2]
    simp only [Option.bind_some]
    rw [if_pos n10, if_pos n10, there_ok hσ (by omega), thereIn_ok hτ (by omega), Option.bind_some, Option.bind_some, spanIn_ok hσ _ hk, ck1_12, if_pos (in_ok (by omega) (by decide)), nI_clamp (by omega), m_D hτ hk, spanOf_ok hτ _ (t_r (c_t hσ) hk).2.2, Option.bind_some, Option.bind_some, bc_bs _ (by decide), mb_bs _ (by decide), Option.bind_some, Option.bind_some, tells_ok, Option.bind_some]
    exact ⟨_, _, _, rfl, rfl, Sim_told _ h⟩
theorem sim_spanBy {σ τ : rf_S} (h : Sim σ τ) (r s : Int32) : ∃ v, f_X9_spanBy r s σ = some v ∧ f_X10_spanBy r s τ = some v := by
  obtain ⟨t, hσ, hτ⟩ := Sim_town h
  have hR := t_R (c_t hσ)
  unfold f_X9_spanBy f_X10_spanBy
  rcases room_cases hσ hτ r with ⟨h1, h2⟩ | ⟨k, hk, rfl, h1, h2⟩
  · rw [h1, h2]
    exact ⟨-1, rfl, rfl⟩
  · rw [h1, h2]
    simp only [Option.bind_some]
    rw [if_neg n10, if_neg n10]
    rcases set_cases hσ hτ s with ⟨h3, h4⟩ | ⟨j, hj, rfl, h3, h4⟩
    · rw [h3, h4]
      exact ⟨-1, rfl, rfl⟩
    · rw [h3, h4]
      simp only [Option.bind_some]
      rw [if_pos n10, if_neg n10, spanIn_ok hσ _ hk, ck1_12, if_pos (in_ok (by omega) (by decide)), nI_clamp (by omega), m_D hτ hk, spanOf_ok hτ _ (t_r (c_t hσ) hk).2.2, Option.bind_some, Option.bind_some, bc_bs _ (by decide), mb_bs _ (by decide)]
      exact ⟨_, rfl, rfl⟩
/-! the rooms that are known -/
def knw (t : TT) (r : Nat) : Bool := decide (cnt 31 (spanP t (thr t r) (tD t r)) ≤ tN t r)
theorem known_ok {σ : rf_S} {t : TT} (h : CT σ t) : f_X9_known σ = some (bs (tR t) (knw t)) := by
  have hR := t_R (c_t h)
  unfold f_X9_known
  rw [lp_bs (tR t) (knw t) (by omega) ?_ ?_]
  · rfl
  · intro r x hr
    have hb := t_r (c_t h) hr
    have hc := cnt_le 31 (spanP t (thr t r) (tD t r))
    unfold f_X9_known_b4 f_X9_known_j51 f_X8_rooms f_X8_needOf
    simp only [Option.bind_some]
    rw [c_R h, if_neg (nI_ge hr (by omega)), there_ok h (by omega), Option.bind_some, spanIn_ok h _ hr, Option.bind_some, bc_bs _ (by decide), Option.bind_some, ck0_28, if_pos (in_ok (by omega) (by decide)), nI_clamp (by omega), c_N h hr, Option.bind_some, nI_1]
    unfold knw
    by_cases e : cnt 31 (spanP t (thr t r) (tD t r)) ≤ tN t r
    · rw [decide_eq_true e, if_pos rfl]
      exact if_neg (nI_nlt e (by omega))
    · rw [decide_eq_false e, if_neg (show ¬ false = true by decide), or0]
      exact if_pos ((lt_nI (by omega) (by omega)).mpr (show tN t r < cnt 31 (spanP t (thr t r) (tD t r)) by omega))
  · intro x
    unfold f_X9_known_b4 f_X8_rooms
    simp only [Option.bind_some]
    rw [c_R h, if_pos (nI_le (Nat.le_refl _) (by omega))]
theorem knownIn_ok {τ : rf_S} {c : Nat} {t : TT} (h : MT τ c t) : f_X10_knownIn c τ = some (bs (tR t) (knw t)) := by
  have hR := t_R (m_t h)
  unfold f_X10_knownIn
  rw [lp_bs (tR t) (knw t) (by omega) ?_ ?_]
  · rfl
  · intro r x hr
    have hb := t_r (m_t h) hr
    have hc := cnt_le 31 (spanP t (thr t r) (tD t r))
    unfold f_X10_knownIn_b4 f_X10_knownIn_j46
    simp only
    rw [m_R h, if_neg (nI_ge hr (by omega)), thereIn_ok h (by omega), Option.bind_some, m_ck h, if_pos (in_ok (by omega) (by decide)), nI_clamp (by omega), m_D h hr, spanOf_ok h _ hb.2.2, Option.bind_some, mb_bs _ (by decide), Option.bind_some, ck1_8, if_pos (in_ok (by omega) (by decide)), m_N h hr, nI_1]
    unfold knw
    by_cases e : cnt 31 (spanP t (thr t r) (tD t r)) ≤ tN t r
    · rw [decide_eq_true e, if_pos rfl]
      exact if_neg (nI_nlt e (by omega))
    · rw [decide_eq_false e, if_neg (show ¬ false = true by decide)]
      exact if_pos ((lt_nI (by omega) (by omega)).mpr (show tN t r < cnt 31 (spanP t (thr t r) (tD t r)) by omega))
  · intro x
    unfold f_X10_knownIn_b4
    simp only
    rw [m_R h, if_pos (nI_le (Nat.le_refl _) (by omega))]
theorem sim_known {σ τ : rf_S} (h : Sim σ τ) : ∃ v, f_X9_known σ = some v ∧ f_X10_known τ = some v := by
  obtain ⟨t, hσ, hτ⟩ := Sim_town h
  unfold f_X10_known
  rw [known_ok hσ, knownIn_ok hτ]
  exact ⟨_, rfl, rfl⟩
