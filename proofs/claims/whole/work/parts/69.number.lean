/-! ===== reading: numbers ===== -/
/-- a number was read: both moved on by m, or failed: the class's answer is the reference's place -/
def NumOk (σ τ : rf_S) (r n p : Nat) (Z : Nat → Int32) (m least most : Nat) (A B : Option (Int32 × rf_S)) : Prop := ∃ σ' τ', mvC σ σ' ∧ mvM τ τ' ∧ ((∃ v, least ≤ v ∧ v ≤ most ∧ A = some (-9, σ') ∧ B = some (nI v, τ') ∧ σ'.1 17 2 = nI v ∧ p + m ≤ n ∧ σ'.1 17 1 = nI (p + m) ∧ τ'.1 0 9 = nI (p + m)) ∨ (∃ f, f ≤ n ∧ A = some (nI f, σ') ∧ B = some (-1, τ') ∧ τ'.1 0 9 = nI f))
theorem fig_sub {j : Nat} (hj : j ≤ 9) : nI (48 + j) - 48 = nI j ∧ ¬ nI (48 + j) - 48 < 0 ∧ nI (48 + j) - 48 ≤ 9 := by
  have e : nI (48 + j) - 48 = nI j := by
    rw [show (48 : Int32) = nI 48 from rfl, nat_sub (by omega)]
    exact congrArg nI (by omega)
  rw [e]
  exact ⟨rfl, nI_pos (by omega), nI_le (b := 9) hj (by omega)⟩
theorem fig_in {j : Nat} (hj : j ≤ 9) (τ : rf_S) : f_X10_in (nI (48 + j)) 48 57 τ = some 1 := by
  unfold f_X10_in
  rw [if_neg (show ¬ nI (48 + j) < 48 from nI_nlt (b := 48) (by omega) (by omega)), if_neg (show ¬ (57 : Int32) < nI (48 + j) from nI_nlt (a := 57) (by omega) (by omega))]
/-- one figure of the class: at the end, no figure, or a figure -/
theorem cfig {σ τ : rf_S} {r n p : Nat} {Z : Nat → Int32} (h : Rd σ τ r n p Z) {k m : Nat} (hk : k < m) (hm : m ≤ 2) (l4 l5 l6 : Int32) {σ' : rf_S} (hc : mvC σ σ') {j v : Nat} (hj : j ≤ n) (e1 : σ'.1 17 1 = nI j) (e2 : σ'.1 17 2 = nI v) : (j = n ∧ f_X3_readNumber_b14 (nI r) (nI m) l4 l5 l6 (nI k, σ') = some (.inr (.inr (nI n, σ')))) ∨ (j < n ∧ (∀ τ, f_X10_in (Z j) 48 57 τ = some 0) ∧ (Z j - 48 < 0 ∨ ¬ Z j - 48 ≤ 9) ∧ f_X3_readNumber_b14 (nI r) (nI m) l4 l5 l6 (nI k, σ') = some (.inr (.inr (nI j, σ')))) ∨ ∃ g, j < n ∧ g ≤ 9 ∧ Z j = nI (48 + g) ∧ f_X3_readNumber_b14 (nI r) (nI m) l4 l5 l6 (nI k, σ') = some (.inl (nI (k + 1), rf_sI (rf_sI σ' 17 2 (nI (10 * v + g))) 17 1 (nI (j + 1)))) := by
  obtain ⟨h1, h2, h3, h4, h5, h6, h7, h8, h9, h10⟩ := id h
  have e16 : σ'.1 16 r = nI n := by rw [hc.1 16 (by omega), h5]
  have eZ : ∀ i, i < 60 → σ'.1 (12 + r) i = Z i := fun i hi => by rw [hc.1 (12 + r) (by omega)]; exact (h8 i hi).1
  unfold f_X3_readNumber_b14 f_X3_readNumber_j64
  simp only
  rw [if_neg (nI_ge hk (by omega)), e1, thas_ok h2 e16, if_neg (nI_pos (by omega))]
  by_cases ej : j = n
  · left
    refine ⟨ej, ?_⟩
    unfold f_X7_sizeOf
    rw [ej, if_pos (nI_le (Nat.le_refl n) (by omega)), Option.bind_some, if_neg (show ¬ (0 : Int32) ≠ 0 from fun q => q rfl), ck0_16, if_pos (in_ok h2 (by decide)), nI_clamp (by omega), e16]
    rfl
  · right
    have hjn : j < n := by omega
    rw [if_neg (nI_ge hjn (by omega)), Option.bind_some, if_pos n10, tget_ok h2 (by omega), eZ j (by omega), Option.bind_some]
    rcases fig_cases (Z j) with ⟨g, g1, g2⟩ | ⟨g1, g2⟩
    · right
      obtain ⟨s1, s2, s3⟩ := fig_sub g1
      refine ⟨g, hjn, g1, g2, ?_⟩
      rw [g2, if_neg s2, if_pos s3, s1, e2, show (10 : Int32) * nI v = nI (10 * v) from pk_mul 10 v, nI_add, Option.bind_some, sI_at, if_pos rfl, if_neg (show ¬ 1 = 2 by decide), e1, nI_1, nI_1]
    · left
      refine ⟨hjn, g1, g2, ?_⟩
      rcases g2 with g2 | g2
      · rw [if_pos g2]
      · by_cases g3 : Z j - 48 < 0
        · rw [if_pos g3]
        · rw [if_neg g3, if_neg g2]
theorem fig1 {τ : rf_S} {r n : Nat} {Z : Nat → Int32} (h : Lt τ r n Z) {k g : Nat} (hk : k < n) (hg : g ≤ 9) (e : Z k = nI (48 + g)) : f_X10_isFigure (nI k) τ = some 1 := by
  unfold f_X10_isFigure
  rw [letter_ok h (show k ≤ 100 by have := h.2.1; omega), if_pos hk, Option.bind_some, e, fig_in hg, Option.bind_some, if_pos (Or.inr rfl)]
theorem fig0 {τ : rf_S} {r n : Nat} {Z : Nat → Int32} (h : Lt τ r n Z) {k : Nat} (hk : k ≤ 100) (e : k < n → ∀ τ, f_X10_in (Z k) 48 57 τ = some 0) : f_X10_isFigure (nI k) τ = some 0 := by
  unfold f_X10_isFigure
  rw [letter_ok h hk, Option.bind_some]
  by_cases q : k < n
  · rw [if_pos q, e q, Option.bind_some, if_pos (Or.inl rfl)]
  · rw [if_neg q, show f_X10_in (-1000) 48 57 τ = some 0 from rfl, Option.bind_some, if_pos (Or.inl rfl)]
theorem in_nI {v a b : Nat} (hv : v < 1000) (ha : a < 1000) (hb : b < 1000) (τ : rf_S) : f_X10_in (nI v) (nI a) (nI b) τ = some (if a ≤ v ∧ v ≤ b then 1 else 0) := by
  unfold f_X10_in
  by_cases h1 : a ≤ v
  · rw [if_neg (show ¬ nI v < nI a from nI_nlt h1 (by omega))]
    by_cases h2 : v ≤ b
    · rw [if_neg (show ¬ nI b < nI v from nI_nlt h2 (by omega)), if_pos ⟨h1, h2⟩]
    · rw [if_pos (show nI b < nI v from nI_lt (by omega) (by omega)), if_neg (fun q => h2 q.2)]
  · rw [if_pos (show nI v < nI a from nI_lt (by omega) (by omega)), if_neg (fun q => h1 q.1)]
theorem two_ok {σ τ : rf_S} {r n p : Nat} {Z : Nat → Int32} (h : Rd σ τ r n p Z) {least most : Nat} (hl : least < 1000) (hm : most < 1000) : NumOk σ τ r n p Z 2 least most (f_X3_readNumber (nI r) 2 (nI least) (nI most) σ) (f_X10_two (nI least) (nI most) τ) := by
  obtain ⟨h1, h2, h3, h4, h5, h6, h7, h8, h9, h10⟩ := id h
  have hL := Lt_of h
  have hc0 : mvC σ (rf_sI σ 17 2 0) := mvC_sI (mvC_refl σ) 2 0
  have a1 : (rf_sI σ 17 2 0).1 17 1 = nI p := by rw [sI_at, if_pos rfl, if_neg (by decide), h9]
  have a2 : (rf_sI σ 17 2 0).1 17 2 = nI 0 := by rw [sI_at, if_pos rfl, if_pos rfl]; rfl
  unfold f_X3_readNumber f_X10_two NumOk
  rw [h10, h9, nI_1]
  rcases cfig h (k := 0) (m := 2) (by omega) (by omega) (nI least) (nI most) (nI p) hc0 h4 a1 a2 with ⟨c1, c2⟩ | ⟨c1, c2, c3, c4⟩ | ⟨g, c1, c2, c3, c4⟩
  · have hA : rf_lp (f_X3_readNumber_b14 (nI r) 2 (nI least) (nI most) (nI p)) 5000 (0, rf_sI σ 17 2 0) = some (.inr (nI n, rf_sI σ 17 2 0)) := lp_exit c2 4999
    rw [hA, fig0 hL (by omega) (fun q => absurd q (by omega)), Option.bind_some, Option.bind_some, if_neg (show ¬ (0 : Int32) ≠ 0 from fun q => q rfl)]
    exact ⟨_, _, hc0, mvM_refl τ, Or.inr ⟨n, by omega, rfl, rfl, by rw [h10, c1]⟩⟩
  · have hA : rf_lp (f_X3_readNumber_b14 (nI r) 2 (nI least) (nI most) (nI p)) 5000 (0, rf_sI σ 17 2 0) = some (.inr (nI p, rf_sI σ 17 2 0)) := lp_exit c4 4999
    rw [hA, fig0 hL (by omega) (fun _ => c2), Option.bind_some, Option.bind_some, if_neg (show ¬ (0 : Int32) ≠ 0 from fun q => q rfl)]
    exact ⟨_, _, hc0, mvM_refl τ, Or.inr ⟨p, by omega, rfl, rfl, h10⟩⟩
  · have hA : rf_lp (f_X3_readNumber_b14 (nI r) 2 (nI least) (nI most) (nI p)) 5000 (0, rf_sI σ 17 2 0) = rf_lp (f_X3_readNumber_b14 (nI r) 2 (nI least) (nI most) (nI p)) 4999 (nI (0 + 1), rf_sI (rf_sI (rf_sI σ 17 2 0) 17 2 (nI (10 * 0 + g))) 17 1 (nI (p + 1))) := lp_step c4 4999
    rw [hA, fig1 hL c1 c2 c3, Option.bind_some, if_pos n10]
    have hc1 : mvC σ (rf_sI (rf_sI (rf_sI σ 17 2 0) 17 2 (nI (10 * 0 + g))) 17 1 (nI (p + 1))) := mvC_sI (mvC_sI hc0 _ _) _ _
    have b1 : (rf_sI (rf_sI (rf_sI σ 17 2 0) 17 2 (nI (10 * 0 + g))) 17 1 (nI (p + 1))).1 17 1 = nI (p + 1) := by rw [sI_at, if_pos rfl, if_pos rfl]
    have b2 : (rf_sI (rf_sI (rf_sI σ 17 2 0) 17 2 (nI (10 * 0 + g))) 17 1 (nI (p + 1))).1 17 2 = nI (10 * 0 + g) := by rw [sI_at, if_pos rfl, if_neg (by decide), sI_at, if_pos rfl, if_pos rfl]
    generalize rf_sI (rf_sI (rf_sI σ 17 2 0) 17 2 (nI (10 * 0 + g))) 17 1 (nI (p + 1)) = σ1 at hc1 b1 b2 ⊢
    rcases cfig h (k := 0 + 1) (m := 2) (by omega) (by omega) (nI least) (nI most) (nI p) hc1 (show p + 1 ≤ n by omega) b1 b2 with ⟨d1, d2⟩ | ⟨d1, d2, d3, d4⟩ | ⟨g', d1, d2, d3, d4⟩
    · rw [show rf_lp (f_X3_readNumber_b14 (nI r) 2 (nI least) (nI most) (nI p)) 4999 (nI (0 + 1), σ1) = some (.inr (nI n, σ1)) from lp_exit d2 4998, fig0 hL (by omega) (fun q => absurd q (by omega)), Option.bind_some, Option.bind_some, if_neg (show ¬ (0 : Int32) ≠ 0 from fun q => q rfl)]
      exact ⟨_, _, hc1, mvM_sI (mvM_refl τ) _, Or.inr ⟨n, by omega, rfl, rfl, by rw [sI_at, if_pos rfl, if_pos rfl, d1]⟩⟩
    · rw [show rf_lp (f_X3_readNumber_b14 (nI r) 2 (nI least) (nI most) (nI p)) 4999 (nI (0 + 1), σ1) = some (.inr (nI (p + 1), σ1)) from lp_exit d4 4998, fig0 hL (by omega) (fun _ => d2), Option.bind_some, Option.bind_some, if_neg (show ¬ (0 : Int32) ≠ 0 from fun q => q rfl)]
      exact ⟨_, _, hc1, mvM_sI (mvM_refl τ) _, Or.inr ⟨p + 1, by omega, rfl, rfl, by rw [sI_at, if_pos rfl, if_pos rfl]⟩⟩
    · rw [show rf_lp (f_X3_readNumber_b14 (nI r) 2 (nI least) (nI most) (nI p)) 4999 (nI (0 + 1), σ1) = rf_lp (f_X3_readNumber_b14 (nI r) 2 (nI least) (nI most) (nI p)) 4998 (nI (0 + 1 + 1), rf_sI (rf_sI σ1 17 2 (nI (10 * (10 * 0 + g) + g'))) 17 1 (nI (p + 1 + 1))) from lp_step d4 4998, fig1 hL d1 d2 d3, Option.bind_some, if_pos n10, letter_ok hL (by omega), if_pos c1, letter_ok hL (by omega), if_pos d1, Option.bind_some, Option.bind_some, c3, d3]
      have hc2 : mvC σ (rf_sI (rf_sI σ1 17 2 (nI (10 * (10 * 0 + g) + g'))) 17 1 (nI (p + 1 + 1))) := mvC_sI (mvC_sI hc1 _ _) _ _
      have f1 : (rf_sI (rf_sI σ1 17 2 (nI (10 * (10 * 0 + g) + g'))) 17 1 (nI (p + 1 + 1))).1 17 1 = nI (p + 2) := by rw [sI_at, if_pos rfl, if_pos rfl]
      have f2 : (rf_sI (rf_sI σ1 17 2 (nI (10 * (10 * 0 + g) + g'))) 17 1 (nI (p + 1 + 1))).1 17 2 = nI (10 * g + g') := by
        rw [sI_at, if_pos rfl, if_neg (by decide), sI_at, if_pos rfl, if_pos rfl]
        exact congrArg nI (by omega)
      generalize rf_sI (rf_sI σ1 17 2 (nI (10 * (10 * 0 + g) + g'))) 17 1 (nI (p + 1 + 1)) = σ2 at hc2 f1 f2 ⊢
      have ev : 10 * nI (48 + g) + nI (48 + g') - 528 = nI (10 * g + g') := by
        rw [show (10 : Int32) * nI (48 + g) = nI (10 * (48 + g)) from pk_mul 10 _, nI_add, show (528 : Int32) = nI 528 from rfl, nat_sub (by omega)]
        exact congrArg nI (by omega)
      have hx : rf_lp (f_X3_readNumber_b14 (nI r) 2 (nI least) (nI most) (nI p)) 4998 (nI (0 + 1 + 1), σ2) = some (.inl σ2) := by
        refine lp_exit ?_ 4997
        unfold f_X3_readNumber_b14
        exact if_pos (show (2 : Int32) ≤ nI 2 by decide)
      rw [hx, ev, in_nI (by omega) (by omega) (by omega), Option.bind_some, Option.bind_some]
      simp only [Sum.elim_inl]
      rw [f2]
      by_cases g1 : least ≤ 10 * g + g'
      · rw [if_neg (show ¬ nI (10 * g + g') < nI least from nI_nlt g1 (by omega))]
        by_cases g2 : 10 * g + g' ≤ most
        · rw [if_pos (show nI (10 * g + g') ≤ nI most from nI_le g2 (by omega)), if_pos (show least ≤ 10 * g + g' ∧ 10 * g + g' ≤ most from ⟨g1, g2⟩), if_pos n10]
          refine ⟨σ2, _, hc2, mvM_sI (mvM_refl τ) _, Or.inl ⟨10 * g + g', g1, g2, rfl, rfl, f2, by omega, f1, ?_⟩⟩
          rw [sI_at, if_pos rfl, if_pos rfl]
          exact nI_add p 2
        · rw [if_neg (show ¬ nI (10 * g + g') ≤ nI most from nI_ge (by omega) (by omega)), if_neg (show ¬ (least ≤ 10 * g + g' ∧ 10 * g + g' ≤ most) from fun q => g2 q.2), if_neg (show ¬ (0 : Int32) ≠ 0 from fun q => q rfl)]
          exact ⟨σ2, _, hc2, mvM_refl τ, Or.inr ⟨p, by omega, rfl, rfl, h10⟩⟩
      · rw [if_pos (show nI (10 * g + g') < nI least from nI_lt (by omega) (by omega)), if_neg (show ¬ (least ≤ 10 * g + g' ∧ 10 * g + g' ≤ most) from fun q => g1 q.1), if_neg (show ¬ (0 : Int32) ≠ 0 from fun q => q rfl)]
        exact ⟨σ2, _, hc2, mvM_refl τ, Or.inr ⟨p, by omega, rfl, rfl, h10⟩⟩
theorem one_ok {σ τ : rf_S} {r n p : Nat} {Z : Nat → Int32} (h : Rd σ τ r n p Z) {most : Nat} (hm : most ≤ 9) : NumOk σ τ r n p Z 1 0 most (f_X3_readNumber (nI r) 1 0 (nI most) σ) (f_X10_one (nI most) τ) := by
  obtain ⟨h1, h2, h3, h4, h5, h6, h7, h8, h9, h10⟩ := id h
  have hL := Lt_of h
  have hc0 : mvC σ (rf_sI σ 17 2 0) := mvC_sI (mvC_refl σ) 2 0
  have a1 : (rf_sI σ 17 2 0).1 17 1 = nI p := by rw [sI_at, if_pos rfl, if_neg (by decide), h9]
  have a2 : (rf_sI σ 17 2 0).1 17 2 = nI 0 := by rw [sI_at, if_pos rfl, if_pos rfl]; rfl
  unfold f_X3_readNumber f_X10_one NumOk
  rw [h10, h9, letter_ok hL (by omega), Option.bind_some]
  rcases cfig h (k := 0) (m := 1) (by omega) (by omega) 0 (nI most) (nI p) hc0 h4 a1 a2 with ⟨c1, c2⟩ | ⟨c1, c2, c3, c4⟩ | ⟨g, c1, c2, c3, c4⟩
  · have hA : rf_lp (f_X3_readNumber_b14 (nI r) 1 0 (nI most) (nI p)) 5000 (0, rf_sI σ 17 2 0) = some (.inr (nI n, rf_sI σ 17 2 0)) := lp_exit c2 4999
    rw [hA, if_neg (show ¬ p < n by omega), show f_X10_in (-1000 - 48) 0 (nI most) τ = some 0 from rfl, Option.bind_some, Option.bind_some, if_neg (show ¬ (0 : Int32) ≠ 0 from fun q => q rfl)]
    exact ⟨_, _, hc0, mvM_refl τ, Or.inr ⟨n, by omega, rfl, rfl, by rw [h10, c1]⟩⟩
  · have hA : rf_lp (f_X3_readNumber_b14 (nI r) 1 0 (nI most) (nI p)) 5000 (0, rf_sI σ 17 2 0) = some (.inr (nI p, rf_sI σ 17 2 0)) := lp_exit c4 4999
    have hz : f_X10_in (Z p - 48) 0 (nI most) τ = some 0 := by
      unfold f_X10_in
      rcases c3 with c3 | c3
      · rw [if_pos c3]
      · by_cases c5 : Z p - 48 < 0
        · rw [if_pos c5]
        · rw [if_neg c5, if_pos (show nI most < Z p - 48 from Int32.not_le.mp (fun q => c3 (Int32.le_trans q (show nI most ≤ 9 from nI_le (b := 9) hm (by omega)))))]
    rw [hA, if_pos c1, hz, Option.bind_some, Option.bind_some, if_neg (show ¬ (0 : Int32) ≠ 0 from fun q => q rfl)]
    exact ⟨_, _, hc0, mvM_refl τ, Or.inr ⟨p, by omega, rfl, rfl, h10⟩⟩
  · have hA : rf_lp (f_X3_readNumber_b14 (nI r) 1 0 (nI most) (nI p)) 5000 (0, rf_sI σ 17 2 0) = rf_lp (f_X3_readNumber_b14 (nI r) 1 0 (nI most) (nI p)) 4999 (nI (0 + 1), rf_sI (rf_sI (rf_sI σ 17 2 0) 17 2 (nI (10 * 0 + g))) 17 1 (nI (p + 1))) := lp_step c4 4999
    rw [hA, if_pos c1, c3, (fig_sub c2).1]
    have hc1 : mvC σ (rf_sI (rf_sI (rf_sI σ 17 2 0) 17 2 (nI (10 * 0 + g))) 17 1 (nI (p + 1))) := mvC_sI (mvC_sI hc0 _ _) _ _
    have b1 : (rf_sI (rf_sI (rf_sI σ 17 2 0) 17 2 (nI (10 * 0 + g))) 17 1 (nI (p + 1))).1 17 1 = nI (p + 1) := by rw [sI_at, if_pos rfl, if_pos rfl]
    have b2 : (rf_sI (rf_sI (rf_sI σ 17 2 0) 17 2 (nI (10 * 0 + g))) 17 1 (nI (p + 1))).1 17 2 = nI g := by
      rw [sI_at, if_pos rfl, if_neg (by decide), sI_at, if_pos rfl, if_pos rfl]
      exact congrArg nI (by omega)
    generalize rf_sI (rf_sI (rf_sI σ 17 2 0) 17 2 (nI (10 * 0 + g))) 17 1 (nI (p + 1)) = σ1 at hc1 b1 b2 ⊢
    have hx : rf_lp (f_X3_readNumber_b14 (nI r) 1 0 (nI most) (nI p)) 4999 (nI (0 + 1), σ1) = some (.inl σ1) := by
      refine lp_exit ?_ 4998
      unfold f_X3_readNumber_b14
      exact if_pos (show (1 : Int32) ≤ nI 1 by decide)
    rw [hx, show (0 : Int32) = nI 0 from rfl, in_nI (by omega) (by omega) (by omega), Option.bind_some, Option.bind_some]
    simp only [Sum.elim_inl]
    rw [b2, if_neg (show ¬ nI g < nI 0 from nI_nlt (by omega) (by omega))]
    by_cases g2 : g ≤ most
    · rw [if_pos (show nI g ≤ nI most from nI_le g2 (by omega)), if_pos (show 0 ≤ g ∧ g ≤ most from ⟨by omega, g2⟩), if_pos (show (1 : Int32) ≠ nI 0 from n10)]
      refine ⟨σ1, _, hc1, mvM_sI (mvM_refl τ) _, Or.inl ⟨g, by omega, g2, rfl, rfl, b2, by omega, b1, ?_⟩⟩
      rw [sI_at, if_pos rfl, if_pos rfl]
      exact nI_add p 1
    · rw [if_neg (show ¬ nI g ≤ nI most from nI_ge (by omega) (by omega)), if_neg (show ¬ (0 ≤ g ∧ g ≤ most) from fun q => g2 q.2), if_neg (show ¬ (0 : Int32) ≠ nI 0 from fun q => q rfl)]
      exact ⟨σ1, _, hc1, mvM_refl τ, Or.inr ⟨p, by omega, rfl, rfl, h10⟩⟩
