/-! ===== the class's search over the ways ===== -/
def likeC (t : TT) (σ : rf_S) : Prop := ∀ i r, i < tM t → r < tR t → σ.1 46 (4 * i + r) = bs 31 (fun d => ds t i d == ds t i (tD t r))
def spC (t : TT) (n a : Nat) (σ : rf_S) : Prop := ∀ r, r < tR t → σ.1 47 r = bs 31 (wP t n a r)
def goC (t : TT) (n a : Nat) (σ : rf_S) : Prop := ∀ j, j < n → σ.1 48 j = nI (dg (tR t) n a j)
def bestC (t : TT) (σ : rf_S) (o : Option (Nat × Nat × Nat)) : Prop := match o with
  | none => σ.1 45 4 = -1
  | some x => σ.1 45 4 = nI x.1 ∧ σ.1 45 5 = nI x.2.1 ∧ ∀ j, j < tM t → σ.1 49 j = nI (dg (tR t) (tM t) x.2.2 j)
theorem fr_CT {σ σ' : rf_S} {t : TT} (h : CT σ t) (hf : fr [45, 46, 47, 48, 49] σ σ') : CT σ' t := by
  obtain ⟨h1, h2, h3⟩ := h
  refine ⟨?_, ?_, h3⟩
  · unfold cC at *
    rw [hf.1 26 (by decide), hf.1 28 (by decide), hf.1 29 (by decide), hf.1 30 (by decide), hf.1 31 (by decide)]
    exact h1
  · unfold cS at *
    rw [hf.1 33 (by decide), hf.1 34 (by decide), hf.1 35 (by decide), hf.1 36 (by decide), hf.1 25 (by decide)]
    exact h2
theorem cmp_cnt {t : TT} {σ : rf_S} (hσ : CT σ t) {a : Nat} (hs : spC t (tM t) a σ) (p : Int32) : rf_lp (f_X5_compare_b5 p σ) 5000 (0, 0) = some (nI (wC t a)) := by
  have hR := t_R (c_t hσ)
  refine lp_cnt (tR t) (wN t (tM t) a) (by omega) ?_ ?_
  · intro i z hi
    have hb := t_r (c_t hσ) hi
    have hc := cnt_le 31 (wP t (tM t) a i)
    unfold f_X5_compare_b5 f_X8_rooms f_X8_needOf f_X5_compare_j36
    simp only [Option.bind_some]
    rw [c_R hσ, if_neg (nI_ge hi (by omega)), ck0_47, if_pos (in_ok (by omega) (by decide)), nI_clamp (by omega), hs i hi, bc_bs _ (by decide), Option.bind_some, ck0_28, if_pos (in_ok (by omega) (by decide)), c_N hσ hi, Option.bind_some, nI_1, nI_1]
    unfold wN
    by_cases e : cnt 31 (wP t (tM t) a i) ≤ tN t i
    · rw [decide_eq_true e, if_pos rfl]
      exact if_neg (nI_nlt e (by omega))
    · rw [decide_eq_false e, if_neg (show ¬ false = true by decide), Nat.add_zero]
      exact if_pos ((lt_nI (by omega) (by omega)).mpr (show tN t i < cnt 31 (wP t (tM t) a i) by omega))
  · intro z
    unfold f_X5_compare_b5 f_X8_rooms
    simp only [Option.bind_some]
    rw [c_R hσ, if_pos (nI_le (Nat.le_refl _) (by omega))]
theorem j66_ok {t : TT} {σ : rf_S} (hM : tM t ≤ 6) {a k s : Nat} (hg : goC t (tM t) a σ) : ∃ σ', f_X5_compare_j66 (nI s) (nI k) σ = some σ' ∧ fr [45, 49] σ σ' ∧ bestC t σ' (some (k, s, a)) := by
  refine ⟨rf_sA (rf_sI (rf_sI σ 45 4 (nI k)) 45 5 (nI s)) 49 (va_cpy ((rf_sI (rf_sI σ 45 4 (nI k)) 45 5 (nI s)).1 48) ((rf_sI (rf_sI σ 45 4 (nI k)) 45 5 (nI s)).1 49) 0 0 6), ?_, fr_sA (fr_sI (fr_sI (fr_refl σ) (by decide) _ _) (by decide) _ _) (by decide) _, ?_, ?_, ?_⟩
  · unfold f_X5_compare_j66
    rw [if_pos (show rf_cp ly0 48 0 49 0 6 = true from rfl), show (0 : Int32).toNatClampNeg = 0 from rfl, show (6 : Int32).toNatClampNeg = 6 from rfl, Option.bind_some]
  · rw [sA_1, if_neg (by decide), sI_at, if_pos rfl, if_neg (by decide), sI_at, if_pos rfl, if_pos rfl]
  · rw [sA_1, if_neg (by decide), sI_at, if_pos rfl, if_pos rfl]
  · intro j hj
    rw [sA_1, if_pos rfl, cpy_at, if_pos (by omega), sI_1, if_neg (by decide), sI_1, if_neg (by decide), ← hg j hj]
    exact congrArg (σ.1 48) (by omega)
theorem compare_ok {t : TT} {σ : rf_S} (hσ : CT σ t) (hR0 : 0 < tR t) {a lim : Nat} (hs : spC t (tM t) a σ) (hg : goC t (tM t) a σ) (hb : bestC t σ (BB t lim a)) (hl : wS t (tM t) a ≤ lim) : ∃ σ', f_X5_compare (nI (wS t (tM t) a)) σ = some σ' ∧ fr [45, 49] σ σ' ∧ bestC t σ' (BB t lim (a + 1)) := by
  have hR := t_R (c_t hσ)
  have hM := t_M (c_t hσ)
  have hS := wS_le (a := a) (c_t hσ) hR0 (Nat.le_refl (tM t))
  have hK : wC t a ≤ tR t := cnt_le _ _
  have up := j66_ok (k := wC t a) (s := wS t (tM t) a) hM hg
  unfold f_X5_compare
  rw [cmp_cnt hσ hs, Option.bind_some, BB]
  cases e : BB t lim a with
  | none =>
    rw [e] at hb
    have hb' : σ.1 45 4 = -1 := hb
    rw [hb', if_pos (show (-1 : Int32) < nI (wC t a) from Int32.lt_of_lt_of_le (by decide) (nI_ge0 (by omega)))]
    unfold upB
    simp only
    rw [if_pos hl]
    exact up
  | some w =>
    rw [e] at hb
    obtain ⟨hb1, hb2, hb3⟩ := id hb
    obtain ⟨w1, w2, w3⟩ := BB_ok (c_t hσ) hR0 lim a w e
    rw [hb1, hb2]
    unfold upB
    simp only
    by_cases c1 : w.1 < wC t a
    · rw [if_pos (nI_lt c1 (by omega)), if_pos ⟨hl, Or.inl c1⟩]
      exact up
    · rw [if_neg (nI_nlt (by omega) (by omega))]
      by_cases c2 : wC t a = w.1
      · rw [if_neg (nneI c2)]
        by_cases c3 : wS t (tM t) a < w.2.1
        · rw [if_neg (nI_ge c3 (by omega)), if_pos ⟨hl, Or.inr ⟨c2, c3⟩⟩]
          exact up
        · rw [if_pos (nI_le (by omega) (by omega)), if_neg (by omega)]
          exact ⟨σ, rfl, fr_refl σ, hb⟩
      · rw [if_pos (neI (by omega) (by omega) c2), if_neg (by omega)]
        exact ⟨σ, rfl, fr_refl σ, hb⟩
theorem bestC_of {t : TT} {σ σ' : rf_S} {o : Option (Nat × Nat × Nat)} (h : bestC t σ o) (e5 : σ'.1 45 = σ.1 45) (e9 : σ'.1 49 = σ.1 49) : bestC t σ' o := by
  cases o with
  | none =>
    show σ'.1 45 4 = -1
    rw [e5]
    exact h
  | some w =>
    show σ'.1 45 4 = nI w.1 ∧ σ'.1 45 5 = nI w.2.1 ∧ ∀ j, j < tM t → σ'.1 49 j = nI (dg (tR t) (tM t) w.2.2 j)
    rw [e5, e9]
    exact h
/-- what a search from a beginning does -/
def SentOk (t : TT) (σ : rf_S) (lim n a m : Nat) (A : Option rf_S) : Prop := ∃ σ', A = some σ' ∧ fr [45, 47, 48, 49] σ σ' ∧ spC t n a σ' ∧ goC t n a σ' ∧ bestC t σ' (BB t lim ((a + 1) * tR t ^ m))
theorem sent_ok (t : TT) (hR0 : 0 < tR t) (lim : Nat) (hlim : lim ≤ 18) : ∀ (m n a F : Nat) (σ : rf_S), n + m = tM t → m < F → CT σ t → likeC t σ → spC t n a σ → goC t n a σ → bestC t σ (BB t lim (a * tR t ^ m)) → SentOk t σ lim n a m (f_X5_sendFrom F (nI n) (nI (wS t n a)) (nI lim) σ) := by
  intro m
  induction m with
  | zero =>
    intro n a F σ hn hF hσ hl hs hg hb
    obtain ⟨F, rfl⟩ : ∃ G, F = G + 1 := ⟨F - 1, by omega⟩
    have en : n = tM t := by omega
    subst en
    have hR := t_R (c_t hσ)
    have hM := t_M (c_t hσ)
    have hS := wS_le (a := a) (c_t hσ) hR0 (Nat.le_refl (tM t))
    have stay : (lim < wS t (tM t) a ∨ ∃ w, BB t lim (a * tR t ^ 0) = some w ∧ w.1 = tR t ∧ w.2.1 ≤ wS t (tM t) a) → SentOk t σ lim (tM t) a 0 (some σ) := fun hp => ⟨σ, rfl, fr_refl σ, hs, hg, by rw [prune lim 0 (tM t) a (by omega) hp]; exact hb⟩
    have go : wS t (tM t) a ≤ lim → SentOk t σ lim (tM t) a 0 (f_X5_sendFrom_j26 (f_X5_sendFrom F) (nI (tM t)) (nI (wS t (tM t) a)) (nI lim) σ) := by
      intro hle
      unfold f_X5_sendFrom_j26 f_X8_members f_X5_sendFrom_j40
      rw [Option.bind_some, c_M hσ, if_pos (nI_le (Nat.le_refl _) (by omega))]
      rw [Nat.pow_zero, Nat.mul_one] at hb
      obtain ⟨σ', k1, k2, k3⟩ := compare_ok hσ hR0 hs hg hb hle
      rw [k1, Option.bind_some]
      refine ⟨σ', rfl, fr_mono k2 (by decide), fun r hr => ?_, fun j hj => ?_, ?_⟩
      · rw [k2.1 47 (by decide)]
        exact hs r hr
      · rw [k2.1 48 (by decide)]
        exact hg j hj
      · rw [Nat.pow_zero, Nat.mul_one]
        exact k3
    show SentOk t σ lim (tM t) a 0 (f_X5_sendFrom_s (f_X5_sendFrom F) (nI (tM t)) (nI (wS t (tM t) a)) (nI lim) σ)
    unfold f_X5_sendFrom_s f_X8_rooms
    by_cases c1 : lim < wS t (tM t) a
    · rw [if_pos (nI_lt c1 (by omega))]
      exact stay (Or.inl c1)
    · rw [if_neg (nI_nlt (by omega) (by omega)), Option.bind_some, c_R hσ]
      cases e : BB t lim (a * tR t ^ 0) with
      | none =>
        have hb' : σ.1 45 4 = -1 := by
          rw [e] at hb
          exact hb
        rw [hb', if_pos (show (-1 : Int32) ≠ nI (tR t) from fun z => absurd (show nI (tR t) < 0 by rw [← z]; decide) (nI_pos (by omega)))]
        exact go (by omega)
      | some w =>
        obtain ⟨w1, w2, w3⟩ := BB_ok (c_t hσ) hR0 lim _ w e
        have hb' := hb
        rw [e] at hb'
        obtain ⟨hb1, hb2, hb3⟩ := hb'
        rw [hb1, hb2]
        by_cases c2 : w.1 = tR t
        · rw [if_neg (nneI c2)]
          by_cases c3 : wS t (tM t) a < w.2.1
          · rw [if_pos (nI_lt c3 (by omega))]
            exact go (by omega)
          · rw [if_neg (nI_nlt (by omega) (by omega))]
            exact stay (Or.inr ⟨w, e, c2, by omega⟩)
        · rw [if_pos (neI (by omega) (by omega) c2)]
          exact go (by omega)
  | succ m ih =>
    intro n a F σ hn hF hσ hl hs hg hb
    obtain ⟨F, rfl⟩ : ∃ G, F = G + 1 := ⟨F - 1, by omega⟩
    have hR := t_R (c_t hσ)
    have hM := t_M (c_t hσ)
    have hnM : n < tM t := by omega
    have hS := wS_le (a := a) (c_t hσ) hR0 (show n ≤ tM t by omega)
    have hL := (t_i (c_t hσ) hnM).2.2.2.1
    have stay : (lim < wS t n a ∨ ∃ w, BB t lim (a * tR t ^ (m + 1)) = some w ∧ w.1 = tR t ∧ w.2.1 ≤ wS t n a) → SentOk t σ lim n a (m + 1) (some σ) := fun hp => ⟨σ, rfl, fr_refl σ, hs, hg, by rw [prune lim (m + 1) n a (by omega) hp]; exact hb⟩
    have go : SentOk t σ lim n a (m + 1) (f_X5_sendFrom_j26 (f_X5_sendFrom F) (nI n) (nI (wS t n a)) (nI lim) σ) := by
      unfold f_X5_sendFrom_j26 f_X8_members
      rw [Option.bind_some, c_M hσ, if_neg (nI_ge hnM (by omega)), if_pos (show nI n < 6 from nI_lt (b := 6) (by omega) (by omega))]
      have key : ∃ e, rf_lp (f_X5_sendFrom_b50 (f_X5_sendFrom F) (nI n) (nI (wS t n a)) (nI lim)) 5000 (0, σ) = some e ∧ (fr [45, 47, 48, 49] σ e ∧ spC t n a e ∧ goC t n a e ∧ bestC t e (BB t lim ((a * tR t + tR t) * tR t ^ m))) := by
        refine lp_inv (N := 5000) (fun r (s : Int32 × rf_S) => s.1 = nI r ∧ fr [45, 47, 48, 49] σ s.2 ∧ spC t n a s.2 ∧ goC t n a s.2 ∧ bestC t s.2 (BB t lim ((a * tR t + r) * tR t ^ m))) (tR t) ?_ (by omega) ⟨rfl, fr_refl σ, hs, hg, ?_⟩
        · rintro r ⟨u, s⟩ hr ⟨i1, i2, i3, i4', i5⟩
          simp only at i1 i2 i3 i4' i5
          subst i1
          have hσs : CT s t := fr_CT hσ (fr_mono i2 (by decide))
          have hls : likeC t s := fun i q hi hq => by rw [i2.1 46 (by decide)]; exact hl i q hi hq
          unfold f_X5_sendFrom_b50 f_X8_rooms
          simp only [Option.bind_some]
          rw [c_R hσs]
          by_cases e : r = tR t
          · right
            refine ⟨s, ?_, i2, i3, i4', ?_⟩
            · rw [e, if_pos (nI_le (Nat.le_refl _) (by omega))]
            · rw [e] at i5
              exact i5
          · left
            have hrR : r < tR t := by omega
            have ix : nI n * 4 + nI r = nI (4 * n + r) := by
              rw [show nI n * 4 = nI (n * 4) from pk_mul n 4, nI_add, Nat.mul_comm]
            rw [if_neg (nI_ge hrR (by omega)), ix, ck0_47, if_pos (in_ok (by omega) (by decide)), if_pos (in_ok (by omega) (by decide)), ck0_46, if_pos (in_ok (by omega) (by decide)), if_pos (in_ok (by omega) (by decide)), nI_clamp (show r < 2 ^ 31 by omega), nI_clamp (show 4 * n + r < 2 ^ 31 by omega), ck0_48, if_pos (in_ok (by omega) (by decide)), ck0_34, if_pos (in_ok (by omega) (by decide)), nI_clamp (show n < 2 ^ 31 by omega), i3 r hrR, hls n r hnM hrR, sI_1 _ 48, if_neg (show ¬ 34 = 48 by decide), sI_1 _ 47, if_neg (show ¬ 34 = 47 by decide), c_L hσs hnM]
            have habs : (if 0 ≤ nI r - nI (tL t n) then nI r - nI (tL t n) else 0 - (nI r - nI (tL t n))) = nI (dist (tL t n) r) := by
              unfold dist
              by_cases q : tL t n ≤ r
              · obtain ⟨q1, q2⟩ := abs1 q (show r ≤ 100 by omega)
                rw [if_pos q2, q1, if_pos q]
              · obtain ⟨q1, q2, -⟩ := abs2 (show r < tL t n by omega) (show tL t n ≤ 100 by omega)
                rw [if_neg q1, q2, if_neg q]
            rw [habs, nI_add, ← wS_succ hrR, nI_1, nI_1]
            obtain ⟨s2, es2⟩ : ∃ z, z = rf_sI (rf_sI s 47 r (bs 31 (wP t n a r) &&& bs 31 (fun d => ds t n d == ds t n (tD t r)))) 48 n (nI r) := ⟨_, rfl⟩
            rw [← es2]
            have hf2 : fr [47, 48] s s2 := by
              rw [es2]
              exact fr_sI (fr_sI (fr_refl s) (by decide) _ _) (by decide) _ _
            have hsp2 : spC t (n + 1) (a * tR t + r) s2 := by
              intro q hq
              rw [es2, sI_1, if_neg (by decide), sI_at, if_pos rfl]
              by_cases eq : q = r
              · rw [if_pos eq, and_bs _ _ (by decide) (by decide), eq]
                refine bs_congr fun d hd => ?_
                rw [wP_succ hrR, decide_eq_true hd]
                simp
              · rw [if_neg eq, i3 q hq]
                refine bs_congr fun d hd => ?_
                rw [wP_succ hrR, decide_eq_false (Ne.symm eq)]
                simp
            have hgo2 : goC t (n + 1) (a * tR t + r) s2 := by
              intro j hj
              rw [es2, sI_at, if_pos rfl]
              by_cases ej : j = n
              · rw [if_pos ej, ej, dg_last hrR]
              · rw [if_neg ej, dg_pre hrR (by omega), sI_1, if_neg (by decide)]
                exact i4' j (by omega)
            have hCT2 : CT s2 t := fr_CT hσs (fr_mono hf2 (by decide))
            have hl2 : likeC t s2 := fun i q hi hq => by rw [hf2.1 46 (by decide)]; exact hls i q hi hq
            have hb2 : bestC t s2 (BB t lim ((a * tR t + r) * tR t ^ m)) := bestC_of i5 (hf2.1 45 (by decide)) (hf2.1 49 (by decide))
            obtain ⟨s3, k1, k2, k3, k4, k5⟩ := ih (n + 1) (a * tR t + r) F s2 (by omega) (by omega) hCT2 hl2 hsp2 hgo2 hb2
            refine ⟨(nI (r + 1), rf_sI s3 47 r (bs 31 (wP t n a r))), hrR, ?_, rfl, ?_, ?_, ?_, ?_⟩
            · rw [k1, Option.bind_some, if_pos (in_ok (by omega) (by decide))]
            · exact fr_sI (fr_trans (fr_trans i2 (fr_mono hf2 (by decide))) k2) (by decide) _ _
            · intro q hq
              show (rf_sI s3 47 r (bs 31 (wP t n a r))).1 47 q = _
              rw [sI_at, if_pos rfl]
              by_cases eq : q = r
              · rw [if_pos eq, eq]
              · rw [if_neg eq, k3 q hq]
                refine bs_congr fun d hd => ?_
                rw [wP_succ hrR, decide_eq_false (Ne.symm eq)]
                simp
            · intro j hj
              show (rf_sI s3 47 r (bs 31 (wP t n a r))).1 48 j = _
              rw [sI_1, if_neg (by decide), k4 j (by omega), dg_pre hrR hj]
            · have e3 : bestC t s3 (BB t lim ((a * tR t + (r + 1)) * tR t ^ m)) := k5
              exact bestC_of e3 (by show (rf_sI s3 47 r _).1 45 = _; rw [sI_1, if_neg (by decide)]) (by show (rf_sI s3 47 r _).1 49 = _; rw [sI_1, if_neg (by decide)])
        · have e0 : (a * tR t + 0) * tR t ^ m = a * tR t ^ (m + 1) := by
            rw [Nat.add_zero, Nat.pow_succ, Nat.mul_comm (tR t ^ m) (tR t), ← Nat.mul_assoc]
          show bestC t σ (BB t lim ((a * tR t + 0) * tR t ^ m))
          rw [e0]
          exact hb
      obtain ⟨σe, e1, e2, e3, e4, e5⟩ := key
      rw [e1, Option.bind_some]
      refine ⟨σe, rfl, e2, e3, e4, ?_⟩
      have e0 : (a * tR t + tR t) * tR t ^ m = (a + 1) * tR t ^ (m + 1) := by
        rw [Nat.pow_succ, Nat.mul_comm (tR t ^ m) (tR t), ← Nat.mul_assoc, Nat.add_mul a 1 (tR t), Nat.one_mul]
      rw [← e0]
      exact e5
    show SentOk t σ lim n a (m + 1) (f_X5_sendFrom_s (f_X5_sendFrom F) (nI n) (nI (wS t n a)) (nI lim) σ)
    unfold f_X5_sendFrom_s f_X8_rooms
    by_cases c1 : lim < wS t n a
    · rw [if_pos (nI_lt c1 (by omega))]
      exact stay (Or.inl c1)
    · rw [if_neg (nI_nlt (by omega) (by omega)), Option.bind_some, c_R hσ]
      cases e : BB t lim (a * tR t ^ (m + 1)) with
      | none =>
        have hb' : σ.1 45 4 = -1 := by
          rw [e] at hb
          exact hb
        rw [hb', if_pos (show (-1 : Int32) ≠ nI (tR t) from fun z => absurd (show nI (tR t) < 0 by rw [← z]; decide) (nI_pos (by omega)))]
        exact go
      | some w =>
        obtain ⟨w1, w2, w3⟩ := BB_ok (c_t hσ) hR0 lim _ w e
        have hb' := hb
        rw [e] at hb'
        obtain ⟨hb1, hb2, hb3⟩ := hb'
        rw [hb1, hb2]
        by_cases c2 : w.1 = tR t
        · rw [if_neg (nneI c2)]
          by_cases c3 : wS t n a < w.2.1
          · rw [if_pos (nI_lt c3 (by omega))]
            exact go
          · rw [if_neg (nI_nlt (by omega) (by omega))]
            exact stay (Or.inr ⟨w, e, c2, by omega⟩)
        · rw [if_pos (neI (by omega) (by omega) c2)]
          exact go
theorem seek_row {t : TT} {σ : rf_S} (hσ : CT σ t) (p : Int32) {i : Nat} (hi : i < tM t) : ∃ e, rf_lp (f_X5_seek_b13 p (nI i)) 5000 (0, σ) = some e ∧ fr [46] σ e ∧ (∀ r, r < tR t → e.1 46 (4 * i + r) = bs 31 (fun d => ds t i d == ds t i (tD t r))) ∧ ∀ j, j < 4 * i → e.1 46 j = σ.1 46 j := by
  have hR := t_R (c_t hσ)
  have hM := t_M (c_t hσ)
  refine lp_inv (N := 5000) (fun k (s : Int32 × rf_S) => s.1 = nI k ∧ fr [46] σ s.2 ∧ (∀ r, r < k → s.2.1 46 (4 * i + r) = bs 31 (fun d => ds t i d == ds t i (tD t r))) ∧ ∀ j, j < 4 * i → s.2.1 46 j = σ.1 46 j) (tR t) ?_ (by omega) ⟨rfl, fr_refl σ, fun r hr => by omega, fun j _ => rfl⟩
  rintro k ⟨u, s⟩ hk ⟨h1, h2, h3, h4⟩
  simp only at h1 h2 h3 h4
  subst h1
  have hσs : CT s t := fr_CT hσ (fr_mono h2 (by decide))
  unfold f_X5_seek_b13 f_X8_rooms
  simp only [Option.bind_some]
  rw [c_R hσs]
  by_cases e : k = tR t
  · right
    rw [e, if_pos (nI_le (Nat.le_refl _) (by omega))]
    rw [e] at h3
    exact ⟨s, rfl, h2, h3, h4⟩
  · left
    have hkR : k < tR t := by omega
    have ix : nI i * 4 + nI k = nI (4 * i + k) := by
      rw [show nI i * 4 = nI (i * 4) from pk_mul i 4, nI_add, Nat.mul_comm]
    refine ⟨(nI (k + 1), rf_sI s 46 (4 * i + k) (bs 31 (fun d => ds t i d == ds t i (tD t k)))), hkR, ?_, rfl, fr_sI h2 (by decide) _ _, fun r hr => ?_, fun j hj => ?_⟩
    · rw [if_neg (nI_ge hkR (by omega)), ck0_33, if_pos (in_ok (by omega) (by decide)), nI_clamp (by omega), c_D hσs hkR, likeAt_ok hσs hi (t_r (c_t hσ) hkR).2.2, Option.bind_some, ix, ck0_46, if_pos (in_ok (by omega) (by decide)), nI_clamp (by omega), nI_1]
    · show (rf_sI s 46 (4 * i + k) _).1 46 (4 * i + r) = _
      rw [sI_at, if_pos rfl]
      by_cases er : r = k
      · rw [if_pos (by omega), er]
      · rw [if_neg (by omega)]
        exact h3 r (by omega)
    · show (rf_sI s 46 (4 * i + k) _).1 46 j = _
      rw [sI_at, if_pos rfl, if_neg (by omega)]
      exact h4 j hj
theorem seek_ok {t : TT} {σ : rf_S} (hσ : CT σ t) (hR0 : 0 < tR t) {lim : Nat} (hlim : lim ≤ 18) : ∃ σ', f_X5_seek (nI lim) σ = some σ' ∧ fr [45, 46, 47, 48, 49] σ σ' ∧ bestC t σ' (BB t lim (tR t ^ tM t)) := by
  have hR := t_R (c_t hσ)
  have hM := t_M (c_t hσ)
  have key : ∃ e, rf_lp (f_X5_seek_b2 (nI lim)) 5000 (0, σ) = some e ∧ (fr [46] σ e ∧ likeC t e) := by
    refine lp_inv (N := 5000) (fun k (s : Int32 × rf_S) => s.1 = nI k ∧ fr [46] σ s.2 ∧ ∀ i r, i < k → r < tR t → s.2.1 46 (4 * i + r) = bs 31 (fun d => ds t i d == ds t i (tD t r))) (tM t) ?_ (by omega) ⟨rfl, fr_refl σ, fun i r hi _ => by omega⟩
    rintro k ⟨u, s⟩ hk ⟨h1, h2, h3⟩
    simp only at h1 h2 h3
    subst h1
    have hσs : CT s t := fr_CT hσ (fr_mono h2 (by decide))
    unfold f_X5_seek_b2 f_X8_members
    simp only [Option.bind_some]
    rw [c_M hσs]
    by_cases e : k = tM t
    · right
      rw [e, if_pos (nI_le (Nat.le_refl _) (by omega))]
      rw [e] at h3
      exact ⟨s, rfl, h2, fun i r hi hr => h3 i r hi hr⟩
    · left
      obtain ⟨s2, k1, k2, k3, k4⟩ := seek_row hσs (nI lim) (show k < tM t by omega)
      refine ⟨(nI (k + 1), s2), by omega, ?_, rfl, fr_trans h2 k2, fun i r hi hr => ?_⟩
      · rw [if_neg (nI_ge (show k < tM t by omega) (by omega)), k1, Option.bind_some, nI_1]
      · by_cases ei : i = k
        · rw [ei]
          exact k3 r hr
        · show s2.1 46 (4 * i + r) = _
          rw [k4 _ (by omega)]
          exact h3 i r (by omega) hr
  obtain ⟨σa, a1, a2, a3⟩ := key
  unfold f_X5_seek
  rw [a1, Option.bind_some, fillI_ok (c := 47) (n := 4) ck0_47 rfl rfl (by omega), Option.bind_some]
  obtain ⟨σb, eb⟩ : ∃ z, z = rf_sI (rf_sI (rf_sA σa 47 (fun j => if j < 4 then 2147483647 else σa.1 47 j)) 45 4 (-1)) 45 5 0 := ⟨_, rfl⟩
  rw [← eb]
  have hfb : fr [45, 47] σa σb := by
    rw [eb]
    exact fr_sI (fr_sI (fr_sA (fr_refl σa) (by decide) _) (by decide) _ _) (by decide) _ _
  have hCT : CT σb t := fr_CT hσ (fr_trans (fr_mono a2 (by decide)) (fr_mono hfb (by decide)))
  have hlk : likeC t σb := fun i r hi hr => by rw [hfb.1 46 (by decide)]; exact a3 i r hi hr
  have hsp : spC t 0 0 σb := by
    intro r hr
    rw [eb, sI_1, if_neg (by decide), sI_1, if_neg (by decide), sA_1, if_pos rfl, if_pos (by omega), ALL_bs]
    rfl
  have hbest : bestC t σb (BB t lim (0 * tR t ^ tM t)) := by
    rw [Nat.zero_mul]
    show σb.1 45 4 = -1
    rw [eb, sI_at, if_pos rfl, if_neg (by decide), sI_at, if_pos rfl, if_pos rfl]
  obtain ⟨σc, k1, k2, k3, k4, k5⟩ := sent_ok t hR0 lim hlim (tM t) 0 0 8 σb (by omega) (by omega) hCT hlk hsp (fun j hj => by omega) hbest
  rw [show f_X5_sendFrom 8 0 0 (nI lim) σb = some σc from k1, Option.bind_some]
  refine ⟨σc, rfl, fr_trans (fr_trans (fr_mono a2 (by decide)) (fr_mono hfb (by decide))) (fr_mono k2 (by decide)), ?_⟩
  rw [show (0 + 1) * tR t ^ tM t = tR t ^ tM t by omega] at k5
  exact k5
