/-! ===== parts, fewest ===== -/
theorem bs_nat : ∀ (n : Nat) (p : Nat → Bool), n ≤ 6 → ∃ k, k < 2 ^ n ∧ bs n p = nI k
  | 0, p, _ => ⟨0, by decide, rfl⟩
  | n + 1, p, h => by
    obtain ⟨k, hk, e⟩ := bs_nat n p (by omega)
    have hp := pow6 n (by omega)
    rw [bs, e]
    cases p n with
    | false => exact ⟨k, by rw [Nat.pow_succ]; omega, or0 _⟩
    | true =>
      refine ⟨2 ^ n + k, by rw [Nat.pow_succ]; omega, ?_⟩
      rw [if_pos rfl, (p2 n (by omega)).2]
      apply b_ext
      intro i hi
      have e2 := Nat.two_pow_add_eq_or_of_lt hk 1
      rw [Nat.mul_one] at e2
      rw [b_or, b_nI hi, b_nI hi, b_nI hi, e2, Nat.testBit_or, Bool.or_comm]
def cu (c : Nat → Nat) (k x : Nat) : Nat := cnt k (fun d => decide (c d = x))
def Gc (c : Nat → Nat) : Nat → Nat
  | 0 => 0
  | k + 1 => max (Gc c k) (cu c (k + 1) (c k))
def Gm (c : Nat → Nat) : Nat → Nat
  | 0 => 0
  | k + 1 => max (Gm c k) (cu c 31 (c k))
def Pn (c : Nat → Nat) (d : Nat) : Bool := decide (cu c d (c d) = 0)
theorem cnt_mono {p : Nat → Bool} {k m : Nat} (h : k ≤ m) : cnt k p ≤ cnt m p := by
  obtain ⟨j, rfl⟩ : ∃ j, m = k + j := ⟨m - k, by omega⟩
  rw [cnt_add]
  omega
theorem cnt_0 {p : Nat → Bool} : ∀ {k : Nat}, cnt k p = 0 ↔ ∀ i, i < k → p i = false
  | 0 => ⟨fun _ i hi => absurd hi (by omega), fun _ => rfl⟩
  | k + 1 => by
    rw [cnt]
    constructor
    · intro h i hi
      have h1 : cnt k p = 0 := by omega
      by_cases e : i = k
      · subst e
        cases hp : p i with
        | false => rfl
        | true =>
          rw [hp, if_pos rfl] at h
          omega
      · exact cnt_0.mp h1 i (by omega)
    · intro h
      rw [cnt_0.mpr (fun i hi => h i (by omega)), h k (by omega)]
      rfl
theorem Gc_ge (c : Nat → Nat) (x : Nat) : ∀ k, cu c k x ≤ Gc c k
  | 0 => Nat.le_refl 0
  | k + 1 => by
    have ih := Gc_ge c x k
    rw [Gc]
    by_cases e : c k = x
    · subst e
      exact Nat.le_max_right _ _
    · have : cu c (k + 1) x = cu c k x := by
        unfold cu
        rw [cnt, if_neg (by simp [e])]
        rfl
      rw [this]
      exact Nat.le_trans ih (Nat.le_max_left _ _)
theorem Gc_ex (c : Nat → Nat) : ∀ k, k ≤ 31 → Gc c k ≤ Gm c 31
  | 0, _ => Nat.zero_le _
  | k + 1, h => by
    rw [Gc]
    refine Nat.max_le.mpr ⟨Gc_ex c k (by omega), ?_⟩
    have h1 : cu c (k + 1) (c k) ≤ cu c 31 (c k) := cnt_mono (by omega)
    have h2 : ∀ m, k < m → cu c 31 (c k) ≤ Gm c m := by
      intro m
      induction m with
      | zero => intro q; omega
      | succ m ih =>
        intro q
        rw [Gm]
        by_cases e : k = m
        · rw [e]
          exact Nat.le_max_right _ _
        · exact Nat.le_trans (ih (by omega)) (Nat.le_max_left _ _)
    exact Nat.le_trans h1 (h2 31 (by omega))
theorem Gm_le (c : Nat → Nat) : ∀ k, Gm c k ≤ Gc c 31
  | 0 => Nat.zero_le _
  | k + 1 => by
    rw [Gm]
    exact Nat.max_le.mpr ⟨Gm_le c k, Gc_ge c (c k) 31⟩
theorem G_eq (c : Nat → Nat) : Gc c 31 = Gm c 31 := Nat.le_antisymm (Gc_ex c 31 (Nat.le_refl _)) (Gm_le c 31)
theorem Gc_le (c : Nat → Nat) : ∀ k, Gc c k ≤ k
  | 0 => Nat.le_refl 0
  | k + 1 => by
    rw [Gc]
    exact Nat.max_le.mpr ⟨Nat.le_trans (Gc_le c k) (by omega), cnt_le _ _⟩
/-- the number of what a set does at a degree -/
def cdf (t : TT) (s : Int32) (d : Nat) : Nat := (bs (tM t) (dAt t s d)).toNatClampNeg
theorem cdf_ok {t : TT} (hM : tM t ≤ 6) (s : Int32) (d : Nat) : bs (tM t) (dAt t s d) = nI (cdf t s d) ∧ cdf t s d < 64 := by
  obtain ⟨k, hk, e⟩ := bs_nat (tM t) (dAt t s d) hM
  have hp := pow6 (tM t) (by omega)
  unfold cdf
  rw [e, nI_clamp (by omega)]
  exact ⟨rfl, by omega⟩
theorem cdf_eq {t : TT} (hM : tM t ≤ 6) (s : Int32) (g d : Nat) : spanP t s g d = decide (cdf t s d = cdf t s g) := by
  have h1 := span_iff t hM s g d
  obtain ⟨a1, a2⟩ := cdf_ok hM s d
  obtain ⟨b1, b2⟩ := cdf_ok hM s g
  rw [a1, b1, eq_nI (by omega) (by omega)] at h1
  by_cases e : cdf t s d = cdf t s g
  · rw [h1.mp e, decide_eq_true e]
  · rw [decide_eq_false e]
    cases q : spanP t s g d with
    | false => rfl
    | true => exact absurd (h1.mpr q) e
theorem msk : ∀ d, d < 31 → ((1 : Int32) <<< (nI d &&& 31)) - 1 = bs d (fun _ => true) := by decide +kernel
theorem mpartsBy_ok {τ : rf_S} {t : TT} (h : MT τ 12 t) (s : Int32) : f_X10_partsBy s τ = some (nI (100 * Gm (cdf t s) 31 + cnt 31 (Pn (cdf t s)))) := by
  have hM := t_M (m_t h)
  have hGl : ∀ k, Gm (cdf t s) k ≤ 31 := fun k => Nat.le_trans (Gm_le _ k) (Gc_le _ 31)
  unfold f_X10_partsBy
  have key : rf_lp (f_X10_partsBy_b7 s τ) 5000 (0, 0, 0) = some (nI (cnt 31 (Pn (cdf t s))), nI (Gm (cdf t s) 31)) := by
    refine lp_for (N := 5000) (fun k => (nI (cnt k (Pn (cdf t s))), nI (Gm (cdf t s) k), nI k)) 31 (fun d hd => ?_) ?_ (by omega)
    · show f_X10_partsBy_b7 s τ (nI (cnt d (Pn (cdf t s))), nI (Gm (cdf t s) d), nI d) = some (.inl (nI (cnt (d + 1) (Pn (cdf t s))), nI (Gm (cdf t s) (d + 1)), nI (d + 1)))
      have hcu : cnt 31 (spanP t s d) = cu (cdf t s) 31 (cdf t s d) := by
        unfold cu
        exact cnt_congr fun i _ => cdf_eq hM s d i
      have hcl : cu (cdf t s) 31 (cdf t s d) ≤ 31 := cnt_le _ _
      have j41 : ∀ a : Nat, f_X10_partsBy_j41 s (nI (Gm (cdf t s) d)) (nI d) (bs 31 (spanP t s d)) (nI a) (nI (cnt d (Pn (cdf t s)))) τ = some (.inl (nI (cnt d (Pn (cdf t s)) + a), nI (Gm (cdf t s) (d + 1)), nI (d + 1))) := by
        intro a
        have := hGl d
        unfold f_X10_partsBy_j41 f_X10_partsBy_j61
        rw [mb_bs _ (by decide), Option.bind_some, Option.bind_some, hcu, nI_add, nI_1, Gm]
        by_cases e : cu (cdf t s) 31 (cdf t s d) ≤ Gm (cdf t s) d
        · rw [if_pos (nI_le e (by omega)), Nat.max_eq_left e]
        · rw [if_neg (nI_ge (by omega) (by omega)), Nat.max_eq_right (by omega)]
      unfold f_X10_partsBy_b7
      simp only
      rw [if_neg (show ¬ (31 : Int32) ≤ nI d from nI_ge hd (by decide)), alikeBy_ok h s (by omega), Option.bind_some, msk d hd, and_bs _ _ (by decide) (by omega), show (0 : Int32) = nI 0 from rfl, show (1 : Int32) = nI 1 from rfl, j41, j41, cnt]
      have hz : bs 31 (fun i => spanP t s d i && (decide (i < d) && true)) = nI 0 ↔ Pn (cdf t s) d = true := by
        unfold Pn
        rw [decide_eq_true_eq]
        unfold cu
        rw [cnt_0]
        show bs 31 _ = 0 ↔ _
        rw [bs_0 (by decide)]
        constructor
        · intro q i hi
          have := q i (by omega)
          rw [cdf_eq hM] at this
          simpa [hi] using this
        · intro q i _
          rw [cdf_eq hM]
          by_cases e : i < d
          · rw [q i e]
            rfl
          · simp [e]
      by_cases e : Pn (cdf t s) d = true
      · rw [if_neg (fun q => q (hz.mpr e)), if_pos e]
      · rw [if_pos (fun q => e (hz.mp q)), if_neg e]
    · show f_X10_partsBy_b7 s τ (_, _, nI 31) = _
      unfold f_X10_partsBy_b7
      simp only
      rw [if_pos (show (31 : Int32) ≤ nI 31 by decide)]
  rw [key, Option.bind_some]
  simp only
  rw [show (100 : Int32) = nI 100 from rfl, pk_mul, nI_add]
