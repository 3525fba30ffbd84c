/-! ===== parts, fewest: the class ===== -/
theorem look_in {σ : rf_S} {t : TT} {i : Nat} (hi : i < tM t) (hM : tM t ≤ 6) : rf_lp (f_X6_look_b27 (nI i) (bs 31 (ds t i))) 5000 (0, rf_sA σ 51 (fun d => if d < 31 then bs i (fun j => ds t j d) else σ.1 51 d)) = some (rf_sA σ 51 (fun d => if d < 31 then bs (i + 1) (fun j => ds t j d) else σ.1 51 d)) := by
  have h0 : ((0 : Int32), rf_sA σ 51 (fun d => if d < 31 then bs i (fun j => ds t j d) else σ.1 51 d)) = (nI 0, rf_sA σ 51 (fun d => if d < 31 then (if d < 0 then bs (i + 1) (fun j => ds t j d) else bs i (fun j => ds t j d)) else σ.1 51 d)) := by
    simp only [Nat.not_lt_zero, if_false]
    rfl
  rw [h0, lp_for (N := 5000) (fun k => (nI k, rf_sA σ 51 (fun d => if d < 31 then (if d < k then bs (i + 1) (fun j => ds t j d) else bs i (fun j => ds t j d)) else σ.1 51 d))) 31 (e := rf_sA σ 51 (fun d => if d < 31 then (if d < 31 then bs (i + 1) (fun j => ds t j d) else bs i (fun j => ds t j d)) else σ.1 51 d)) ?_ ?_ (by omega)]
  · refine congrArg (fun f => some (rf_sA σ 51 f)) (funext fun d => ?_)
    by_cases e : d < 31
    · rw [if_pos e, if_pos e, if_pos e]
    · rw [if_neg e, if_neg e]
  · intro k hk
    unfold f_X6_look_b27
    simp only
    rw [if_neg (show ¬ (30 : Int32) < nI k from fun q => by have := (lt_nI (a := 30) (b := k) (by decide) (by omega)).mp q; omega), ck0_51, if_pos (in_ok hk (by decide)), if_pos (in_ok hk (by decide)), Option.bind_some, nI_clamp (by omega), bit1 _ (by omega), b_bs _ (by decide) (by omega), decide_eq_true hk, Bool.true_and, shl_b, nI_1, sI_sA, sA_at, if_pos rfl, if_pos hk, if_neg (Nat.lt_irrefl k)]
    refine congrArg (fun f => some (Sum.inl (nI (k + 1), rf_sA σ 51 f))) (funext fun d => ?_)
    rw [upd_at]
    by_cases e : d = k
    · subst e
      rw [if_pos rfl, if_pos hk, if_pos (show d < d + 1 by omega), bs]
    · rw [if_neg e]
      by_cases e1 : d < 31
      · rw [if_pos e1, if_pos e1]
        by_cases e2 : d < k
        · rw [if_pos e2, if_pos (by omega)]
        · rw [if_neg e2, if_neg (by omega)]
      · rw [if_neg e1, if_neg e1]
  · unfold f_X6_look_b27
    simp only
    rw [if_pos (show (30 : Int32) < nI 31 by decide)]
theorem look_ok {σ : rf_S} {t : TT} (h : CT σ t) : ∃ σ', f_X6_look σ = some σ' ∧ (∀ d, d < 31 → σ'.1 51 d = bs (tM t) (fun j => ds t j d)) ∧ fr [51] σ σ' := by
  have hM := t_M (c_t h)
  refine ⟨rf_sA σ 51 (fun d => if d < 31 then bs (tM t) (fun j => ds t j d) else σ.1 51 d), ?_, ?_, fr_sA (fr_refl σ) (by decide) _⟩
  · unfold f_X6_look
    rw [fillI_ok (c := 51) (n := 31) ck0_51 rfl rfl (by omega), Option.bind_some]
    have h0 : ((0 : Int32), rf_sA σ 51 (fun j => if j < 31 then 0 else σ.1 51 j)) = (nI 0, rf_sA σ 51 (fun d => if d < 31 then bs 0 (fun j => ds t j d) else σ.1 51 d)) := rfl
    rw [h0, lp_for (N := 5000) (fun k => (nI k, rf_sA σ 51 (fun d => if d < 31 then bs k (fun j => ds t j d) else σ.1 51 d))) (tM t) (e := rf_sA σ 51 (fun d => if d < 31 then bs (tM t) (fun j => ds t j d) else σ.1 51 d)) ?_ ?_ (by omega)]
    · rfl
    · intro k hk
      have hC : CT (rf_sA σ 51 (fun d => if d < 31 then bs k (fun j => ds t j d) else σ.1 51 d)) t := CT_fr h (fun c hc => by rw [sA_1, if_neg (by omega)])
      unfold f_X6_look_b10 f_X8_members
      simp only [Option.bind_some]
      rw [c_M hC, if_neg (nI_ge hk (by omega)), does_ok hC hk, Option.bind_some, look_in hk hM, Option.bind_some, nI_1]
    · have hC : CT (rf_sA σ 51 (fun d => if d < 31 then bs (tM t) (fun j => ds t j d) else σ.1 51 d)) t := CT_fr h (fun c hc => by rw [sA_1, if_neg (by omega)])
      unfold f_X6_look_b10 f_X8_members
      simp only [Option.bind_some]
      rw [c_M hC, if_pos (nI_le (Nat.le_refl _) (by omega))]
  · intro d hd
    rw [sA_at, if_pos rfl, if_pos hd]
theorem and_s {n : Nat} (hn : n ≤ 32) (p : Nat → Bool) (s : Int32) : bs n p &&& s = bs n (fun i => bt s i && p i) := by
  apply b_ext
  intro i hi
  rw [b_and, b_bs p hn hi, b_bs _ hn hi]
  cases bt s i <;> cases p i <;> simp
theorem cparts_ok {σ : rf_S} {t : TT} (hM : tM t ≤ 6) (hL : ∀ d, d < 31 → σ.1 51 d = bs (tM t) (fun j => ds t j d)) (s : Int32) : ∃ σ', f_X6_partsBy s σ = some (nI (cnt 31 (Pn (cdf t s))), σ') ∧ σ'.1 50 2 = nI (Gc (cdf t s) 31) ∧ fr [50, 52] σ σ' := by
  unfold f_X6_partsBy
  rw [fillI_ok (c := 52) (n := 64) ck0_52 rfl rfl (by omega), Option.bind_some]
  obtain ⟨σ0, e0⟩ : ∃ σ0, σ0 = rf_sI (rf_sA σ 52 (fun j => if j < 64 then 0 else σ.1 52 j)) 50 2 0 := ⟨_, rfl⟩
  rw [← e0]
  obtain ⟨e, l1, l2, l3, l4⟩ := lp_inv (b := f_X6_partsBy_b17 s) (fun k st => st.1 = nI (cnt k (Pn (cdf t s))) ∧ st.2.1 = nI k ∧ (∀ x, x < 64 → st.2.2.1 52 x = nI (cu (cdf t s) k x)) ∧ st.2.2.1 50 2 = nI (Gc (cdf t s) k) ∧ fr [50, 52] σ st.2.2) 31 (K := fun e => e.1 = nI (cnt 31 (Pn (cdf t s))) ∧ e.2.1 50 2 = nI (Gc (cdf t s) 31) ∧ fr [50, 52] σ e.2) (N := 5000) (fun k st hk hI => by
      obtain ⟨x, y, τ⟩ := st
      obtain ⟨i1, i2, i3, i4', i5⟩ := hI
      simp only at i1 i2 i3 i4' i5
      subst i1 i2
      by_cases e : k = 31
      · right
        subst e
        refine ⟨(nI (cnt 31 (Pn (cdf t s))), τ), ?_, rfl, i4', i5⟩
        unfold f_X6_partsBy_b17
        simp only
        rw [if_pos (show (30 : Int32) < nI 31 by decide)]
      · left
        have hk' : k < 31 := by omega
        obtain ⟨c1, c2⟩ := cdf_ok hM s k
        have hc : τ.1 51 k &&& s = nI (cdf t s k) := by
          rw [i5.1 51 (by decide), hL k hk', and_s (by omega), ← c1]
          rfl
        have hg := Gc_le (cdf t s) k
        have hcl : cu (cdf t s) k (cdf t s k) ≤ k := cnt_le _ _
        have hcs : cu (cdf t s) (k + 1) (cdf t s k) = cu (cdf t s) k (cdf t s k) + 1 := by
          unfold cu
          rw [cnt, if_pos (decide_eq_true rfl)]
        obtain ⟨τ', et⟩ : ∃ τ', τ' = rf_sI (rf_sI τ 52 (cdf t s k) (nI (cu (cdf t s) (k + 1) (cdf t s k)))) 50 2 (nI (Gc (cdf t s) (k + 1))) := ⟨_, rfl⟩
        have j46 : ∀ z, f_X6_partsBy_j46 s z (nI k) (nI (cdf t s k)) τ = some (.inl (z, nI (k + 1), τ')) := by
          intro z
          unfold f_X6_partsBy_j46
          rw [ck0_52, if_pos (in_ok c2 (by decide)), if_pos (in_ok c2 (by decide)), if_pos (in_ok c2 (by decide)), nI_clamp (by omega), i3 _ c2, nI_1, nI_1, ← hcs, sI_at, if_neg (show ¬ 50 = 52 by decide), i4', sI_at, if_pos rfl, if_pos rfl, Option.bind_some, et, Gc]
          refine congrArg (fun v => some (Sum.inl (z, nI (k + 1), rf_sI (rf_sI τ 52 (cdf t s k) (nI (cu (cdf t s) (k + 1) (cdf t s k)))) 50 2 v))) ?_
          by_cases q : Gc (cdf t s) k < cu (cdf t s) (k + 1) (cdf t s k)
          · rw [if_pos (nI_lt q (by omega)), Nat.max_eq_right (by omega)]
          · rw [if_neg (nI_nlt (by omega) (by omega)), Nat.max_eq_left (by omega)]
        refine ⟨(nI (cnt (k + 1) (Pn (cdf t s))), nI (k + 1), τ'), hk', ?_, rfl, rfl, ?_, ?_, ?_⟩
        · unfold f_X6_partsBy_b17
          simp only
          rw [if_neg (show ¬ (30 : Int32) < nI k from fun q => by have := (lt_nI (a := 30) (b := k) (by decide) (by omega)).mp q; omega), ck0_51, if_pos (in_ok hk' (by decide)), nI_clamp (by omega), hc, ck0_52, if_pos (in_ok c2 (by decide)), nI_clamp (by omega), i3 _ c2, j46, j46, nI_1, cnt]
          unfold Pn
          by_cases q : cu (cdf t s) k (cdf t s k) = 0
          · rw [q, if_neg (show ¬ nI 0 ≠ 0 from fun z => z rfl), if_pos (by decide)]
          · rw [if_pos (show nI (cu (cdf t s) k (cdf t s k)) ≠ 0 from nI_ne0 (by omega) (by omega)), if_neg (by simp [q])]
            rfl
        · intro x hx
          simp only
          rw [et, sI_at, if_neg (by decide), sI_at, if_pos rfl]
          by_cases q : x = cdf t s k
          · rw [if_pos q, q]
          · rw [if_neg q, i3 x hx]
            unfold cu
            rw [cnt, if_neg (by simp [Ne.symm q])]
            rfl
        · simp only
          rw [et, sI_at, if_pos rfl, if_pos rfl]
        · simp only
          rw [et]
          exact fr_sI (fr_sI i5 (by decide) _ _) (by decide) _ _) (by omega) (s := ((0 : Int32), (0 : Int32), σ0)) ⟨rfl, rfl, fun x hx => by
          simp only
          rw [e0, sI_at, if_neg (by decide), sA_at, if_pos rfl, if_pos hx]
          rfl, by
          simp only
          rw [e0, sI_at, if_pos rfl, if_pos rfl]
          rfl, by
          simp only
          rw [e0]
          exact fr_sI (fr_sA (fr_refl σ) (by decide) _) (by decide) _ _⟩
  obtain ⟨ea, eb⟩ := e
  simp only at l2 l3 l4
  refine ⟨eb, ?_, l3, l4⟩
  rw [l1, Option.bind_some, l2]
theorem Sim_50 {σ τ σ' : rf_S} (h : Sim σ τ) (hf : fr [50, 51, 52] σ σ') : Sim σ' τ := by
  refine Sim_fr h (fun c _ _ a => hf.1 c ?_) (fun c _ _ _ _ _ => rfl) (fun j _ => rfl) hf.2 rfl
  simp only [List.mem_cons, List.not_mem_nil, or_false]
  omega
theorem div100 {g n : Nat} (hg : g ≤ 100) (hn : n < 100) : nI (100 * g + n) / 100 = nI g ∧ nI (100 * g + n) - nI g * 100 = nI n := by
  refine ⟨?_, ?_⟩
  · rw [show (100 : Int32) = nI 100 from rfl, pk_div (by omega) (by omega) (by omega)]
    exact congrArg nI (by omega)
  · rw [show (100 : Int32) = nI 100 from rfl, pk_mul, nat_sub (by omega)]
    exact congrArg nI (by omega)
theorem sim_parts {σ τ : rf_S} (h : Sim σ τ) (x : Int32) : Both (f_X9_parts x σ) (f_X10_parts x τ) := by
  obtain ⟨t, hσ, hτ⟩ := Sim_town h
  have hM := t_M (c_t hσ)
  unfold f_X9_parts f_X10_parts f_X8_isEmpty
  rw [c_M hσ, m_M hτ]
  by_cases eM : tM t = 0
  · rw [eM, if_neg (show ¬ nI 0 ≠ 0 from fun q => q rfl), if_neg (show ¬ nI 0 ≠ 0 from fun q => q rfl)]
    exact Both_same h
  rw [if_pos (show nI (tM t) ≠ 0 from nI_ne0 (by omega) (by omega)), if_pos (show nI (tM t) ≠ 0 from nI_ne0 (by omega) (by omega))]
  simp only [Option.bind_some, if_true]
  rcases set_cases hσ hτ x with ⟨h1, h2⟩ | ⟨k, hk, rfl, h1, h2⟩
  · rw [h1, h2]
    exact Both_same h
  rw [h1, h2]
  simp only [Option.bind_some]
  obtain ⟨σ1, a1, a2, a3⟩ := look_ok hσ
  obtain ⟨σ2, b1, b2, b3⟩ := cparts_ok hM a2 (nI k)
  have g1 : Gm (cdf t (nI k)) 31 ≤ 31 := by rw [← G_eq]; exact Gc_le _ _
  have g2 : cnt 31 (Pn (cdf t (nI k))) ≤ 31 := cnt_le _ _
  obtain ⟨q1, q2⟩ := div100 (g := Gm (cdf t (nI k)) 31) (n := cnt 31 (Pn (cdf t (nI k)))) (by omega) (by omega)
  rw [if_pos n10, if_pos n10, a1, Option.bind_some, b1, Option.bind_some, mpartsBy_ok hτ, Option.bind_some, q1, q2, tells_ok, Option.bind_some]
  simp only
  rw [b2, G_eq]
  exact ⟨_, _, _, rfl, rfl, Sim_told _ (Sim_50 h (fr_trans (fr_mono a3 (by decide)) (fr_mono b3 (by decide))))⟩
