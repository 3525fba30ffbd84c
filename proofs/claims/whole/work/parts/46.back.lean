/-! ===== undo, keep, on ===== -/
theorem cpy_at {f g : Nat → Int32} {a b n k : Nat} : va_cpy f g a b n k = if b ≤ k ∧ k < b + n then f (a + (k - b)) else g k := rfl
theorem mV_congr {f g : Nat → Int32} {t : TT} (hM : tM t ≤ 6) (hR : tR t ≤ 4) (h : mV f t) (e : ∀ j, j < 25 → g j = f j) : mV g t := by
  obtain ⟨v1, v2, v3, v4, v5⟩ := h
  refine ⟨fun r hr => ?_, fun i hi => ?_, ?_, ?_, ?_⟩
  · rw [e r (by omega)]
    exact v1 r hr
  · rw [e _ (by omega), e _ (by omega), e _ (by omega)]
    exact v2 i hi
  · rw [e _ (by omega)]
    exact v3
  · rw [e _ (by omega)]
    exact v4
  · rw [e _ (by omega)]
    exact v5
theorem Sim_W {σ τ σ' τ' : rf_S} (h : Sim σ τ) (hc : ∀ c, c < 25 ∨ 44 < c → σ'.1 c = σ.1 c) (hm : ∀ c, 1 ≤ c → c ≤ 5 → τ'.1 c = τ.1 c) (h0 : ∀ j, j = 4 ∨ j = 6 → τ'.1 0 j = τ.1 0 j) (e2 : σ'.2 = σ.2) (e2' : τ'.2 = τ.2) (hW : SimW σ' τ') : Sim σ' τ' := by
  obtain ⟨⟨k1, k2, k3, k4, k5⟩, hR, hT, -⟩ := h
  refine ⟨⟨?_, ?_, ?_, ?_, ?_⟩, ?_, ?_, hW⟩
  · rw [h0 6 (by omega), hc 0 (by omega)]
    exact k1
  · rw [h0 4 (by omega), hc 0 (by omega)]
    exact k2
  · rw [hm 5 (by omega) (by omega), hc 54 (by omega)]
    exact k3
  · rw [e2, e2']
    exact k4
  · rw [e2, e2']
    exact k5
  · exact SimR_of hR (fun c a b => hc c (by omega)) (fun c a => hm c (by omega) (by omega))
  · exact SimT_of hT (fun c a b => hc c (by omega)) (fun c a => hm c (by omega) (by omega))
theorem begin_ok {σ : rf_S} {t : TT} (ht : tok 0 t) (hP : cP σ t) : ∃ σ', f_X8_begin σ = some σ' ∧ cS σ' t ∧ fr [25, 33, 34, 35, 36] σ σ' := by
  have hM := ht.2.1
  have hR := ht.1
  obtain ⟨p1, p2, p3, p4, p5, p6⟩ := hP
  obtain ⟨σa, ea⟩ : ∃ σa, σa = rf_sA σ 33 (va_cpy (σ.1 27) (σ.1 33) 0 0 4) := ⟨_, rfl⟩
  obtain ⟨σb, eb⟩ : ∃ σb, σb = rf_sA σa 34 (va_cpy (σa.1 32) (σa.1 34) 0 0 6) := ⟨_, rfl⟩
  obtain ⟨σc, ec⟩ : ∃ σc, σc = rf_sA σb 35 (fun j => if j < 6 then 0 else σb.1 35 j) := ⟨_, rfl⟩
  obtain ⟨σd, ed⟩ : ∃ σd, σd = rf_sA σc 36 (fun j => if j < 6 then 0 else σc.1 36 j) := ⟨_, rfl⟩
  refine ⟨rf_sI (rf_sI (rf_sI σd 25 6 0) 25 7 0) 25 8 0, ?_, ⟨?_, ?_, ?_, ?_, ?_, ?_⟩, ?_⟩
  · unfold f_X8_begin
    rw [if_pos (show rf_cp ly0 27 0 33 0 4 = true from rfl), show (0 : Int32).toNatClampNeg = 0 from rfl, show (4 : Int32).toNatClampNeg = 4 from rfl, show (6 : Int32).toNatClampNeg = 6 from rfl, ← ea, Option.bind_some, if_pos (show rf_cp ly0 32 0 34 0 6 = true from rfl), ← eb, Option.bind_some, fillI_ok (c := 35) (n := 6) ck0_35 rfl rfl (by omega), ← ec, Option.bind_some, fillI_ok (c := 36) (n := 6) ck0_36 rfl rfl (by omega), ← ed, Option.bind_some]
  · intro r hr
    rw [sI_at, if_neg (by decide), sI_at, if_neg (by decide), sI_at, if_neg (by decide), ed, sA_at, if_neg (by decide), ec, sA_at, if_neg (by decide), eb, sA_at, if_neg (by decide), ea, sA_at, if_pos rfl, cpy_at, if_pos (by omega), ← p1 r hr]
    exact congrArg (σ.1 27) (by omega)
  · intro i hi
    refine ⟨?_, ?_, ?_⟩
    · rw [sI_at, if_neg (by decide), sI_at, if_neg (by decide), sI_at, if_neg (by decide), ed, sA_at, if_neg (by decide), ec, sA_at, if_neg (by decide), eb, sA_at, if_pos rfl, cpy_at, if_pos (by omega), ea, sA_at, if_neg (by decide), ← p2 i hi]
      exact congrArg (σ.1 32) (by omega)
    · rw [sI_at, if_neg (by decide), sI_at, if_neg (by decide), sI_at, if_neg (by decide), ed, sA_at, if_neg (by decide), ec, sA_at, if_pos rfl, if_pos (by omega), (p3 i).1]
      rfl
    · rw [sI_at, if_neg (by decide), sI_at, if_neg (by decide), sI_at, if_neg (by decide), ed, sA_at, if_pos rfl, if_pos (by omega), (p3 i).2]
      rfl
  · intro i hi h6
    rw [sI_at, if_neg (by decide), sI_at, if_neg (by decide), sI_at, if_neg (by decide), ed, sA_at, if_neg (by decide), ec, sA_at, if_pos rfl, if_pos (by omega)]
  · rw [p4, sI_at, if_pos rfl, if_neg (by decide), sI_at, if_pos rfl, if_neg (by decide), sI_at, if_pos rfl, if_pos rfl]
    rfl
  · rw [p5, sI_at, if_pos rfl, if_neg (by decide), sI_at, if_pos rfl, if_pos rfl]
    rfl
  · rw [p6, sI_at, if_pos rfl, if_pos rfl]
    rfl
  · refine fr_sI (fr_sI (fr_sI ?_ (by decide) _ _) (by decide) _ _) (by decide) _ _
    rw [ed, ec, eb, ea]
    exact fr_sA (fr_sA (fr_sA (fr_sA (fr_refl σ) (by decide) _) (by decide) _) (by decide) _) (by decide) _
theorem dok_b {k : Nat} {d : DD} {t : TT} (ht : tok k t) (hd : dok d t) : d.1 ≤ 5 ∧ d.2.1 < 6 ∧ -5 ≤ d.2.2 ∧ d.2.2 ≤ 30 := by
  have hM := ht.2.1
  have hR := ht.1
  obtain ⟨w, j, v⟩ := d
  match w with
  | 0 =>
    obtain ⟨h1, h2, h3⟩ : j < tM t ∧ 0 ≤ v ∧ v < tR t := hd
    exact ⟨by show 0 ≤ 5; omega, by show j < 6; omega, by show -5 ≤ v; omega, by show v ≤ 30; omega⟩
  | 1 =>
    obtain ⟨h1, h2⟩ : j = 0 ∧ v = 0 := hd
    exact ⟨by show 1 ≤ 5; omega, by show j < 6; omega, by show -5 ≤ v; omega, by show v ≤ 30; omega⟩
  | 2 =>
    obtain ⟨h1, h2⟩ : j = 0 ∧ v = 0 := hd
    exact ⟨by show 2 ≤ 5; omega, by show j < 6; omega, by show -5 ≤ v; omega, by show v ≤ 30; omega⟩
  | 3 =>
    obtain ⟨h1, h2⟩ : j < tM t ∧ v = 0 := hd
    exact ⟨by show 3 ≤ 5; omega, by show j < 6; omega, by show -5 ≤ v; omega, by show v ≤ 30; omega⟩
  | 4 =>
    obtain ⟨h1, h2, h3⟩ : j < tM t ∧ -5 ≤ v ∧ v ≤ 5 := hd
    exact ⟨by show 4 ≤ 5; omega, by show j < 6; omega, by show -5 ≤ v; omega, by show v ≤ 30; omega⟩
  | 5 =>
    obtain ⟨h1, h2, h3⟩ : j < tR t ∧ 0 ≤ v ∧ v ≤ 30 := hd
    exact ⟨by show 5 ≤ 5; omega, by show j < 6; omega, by show -5 ≤ v; omega, by show v ≤ 30; omega⟩
  | n + 6 => exact hd.elim
theorem dec_ok {d : DD} (h : d.1 ≤ 5 ∧ d.2.1 < 6 ∧ -5 ≤ d.2.2 ∧ d.2.2 ≤ 30) : enc d / 10000 = nI d.1 ∧ enc d / 100 - enc d / 100 / 100 * 100 = nI d.2.1 ∧ enc d - enc d / 100 * 100 - 5 = iI d.2.2 := by
  obtain ⟨w, j, v⟩ := d
  obtain ⟨h1, h2, h3, h4⟩ : w ≤ 5 ∧ j < 6 ∧ -5 ≤ v ∧ v ≤ 30 := h
  obtain ⟨u, hu⟩ : ∃ u : Nat, u = (v + 5).toNat := ⟨_, rfl⟩
  have hv : v = (u : Int) - 5 := by omega
  have hu2 : u ≤ 35 := by omega
  have e : enc (w, j, v) = nI (10000 * w + 100 * j + u) := by
    unfold enc
    rw [← iI_nat]
    refine congrArg iI ?_
    show 10000 * (w : Int) + 100 * (j : Int) + v + 5 = _
    omega
  have d1 : nI (10000 * w + 100 * j + u) / 10000 = nI w := by
    rw [show (10000 : Int32) = nI 10000 from rfl, pk_div (by omega) (by omega) (by omega)]
    exact congrArg nI (by omega)
  have d2 : nI (10000 * w + 100 * j + u) / 100 = nI (100 * w + j) := by
    rw [show (100 : Int32) = nI 100 from rfl, pk_div (by omega) (by omega) (by omega)]
    exact congrArg nI (by omega)
  have d3 : nI (100 * w + j) / 100 = nI w := by
    rw [show (100 : Int32) = nI 100 from rfl, pk_div (by omega) (by omega) (by omega)]
    exact congrArg nI (by omega)
  refine ⟨?_, ?_, ?_⟩
  · rw [e, d1]
  · rw [e, d2, d3, show (100 : Int32) = nI 100 from rfl, pk_mul, nat_sub (by omega)]
    show _ = nI j
    exact congrArg nI (by omega)
  · rw [e, d2, show (100 : Int32) = nI 100 from rfl, pk_mul, nat_sub (by omega), show 10000 * w + 100 * j + u - (100 * w + j) * 100 = u by omega, show (5 : Int32) = iI 5 from rfl, ← iI_nat, iI_sub]
    show _ = iI v
    exact congrArg iI (by omega)
theorem goBack_ok {σ : rf_S} {t0 : TT} {n m : Nat} {H : Nat → TT} {E : Nat → DD} (h0 : tok 0 t0) (hC : cC σ t0) (hP : cP σ t0) (hH : Hs t0 n H E) (hm : m ≤ n) (hn : n ≤ 40) (hE : ∀ j, j < m → σ.1 39 j = enc (E j)) : ∃ σ', f_X1_goBack (nI m) σ = some σ' ∧ cS σ' (H m) ∧ σ'.1 38 3 = nI m ∧ fr [25, 33, 34, 35, 36, 38] σ σ' := by
  obtain ⟨σ1, a1, a2, a3⟩ := begin_ok h0 hP
  have hall := Hs_all hH h0
  obtain ⟨e, l1, l2, l3⟩ := lp_inv (b := f_X1_goBack_b6 (nI m)) (fun k s => s.1 = nI k ∧ cS s.2 (H k) ∧ fr [25, 33, 34, 35, 36] σ s.2) m (K := fun e => cS e (H m) ∧ fr [25, 33, 34, 35, 36] σ e) (N := 5000) (fun k s hk hI => by
      obtain ⟨x, s⟩ := s
      obtain ⟨i1, i2, i3⟩ := hI
      have i1' : x = nI k := i1
      subst i1'
      by_cases e : k = m
      · right
        subst e
        refine ⟨s, ?_, i2, i3⟩
        unfold f_X1_goBack_b6
        simp only
        rw [if_pos (nI_le (Nat.le_refl _) (by omega))]
      · left
        obtain ⟨b1, b2⟩ := hall k (by omega)
        obtain ⟨c1, c2⟩ := hH.2 k (by omega)
        have hCT : CT s (H k) := by
          refine ⟨cC_cst ?_ b2, i2, tok_mono b1 (by omega)⟩
          unfold cC at *
          rw [i3.1 26 (by decide), i3.1 28 (by decide), i3.1 29 (by decide), i3.1 30 (by decide), i3.1 31 (by decide)]
          exact hC
        obtain ⟨s', g1, g2, g3⟩ := act_ok hCT c2
        obtain ⟨q1, q2, q3⟩ := dec_ok (dok_b b1 c2)
        refine ⟨(nI (k + 1), s'), by omega, ?_, rfl, ?_, fr_trans i3 g3⟩
        · unfold f_X1_goBack_b6
          simp only
          rw [if_neg (nI_ge (show k < m by omega) (by omega)), ck0_39, if_pos (in_ok (by omega) (by decide)), nI_clamp (by omega), i3.1 39 (by decide), hE k (by omega), q1, q2, q3, g1, Option.bind_some, nI_1]
        · rw [c1]
          exact g2) (by omega) (s := (0, σ1)) ⟨rfl, by rw [hH.1]; exact a2, a3⟩
  refine ⟨rf_sI e 38 3 (nI m), ?_, ?_, ?_, ?_⟩
  · unfold f_X1_goBack
    rw [a1, Option.bind_some, l1]
    rfl
  · unfold cS at *
    rw [sI_1, if_neg (by decide), sI_1, if_neg (by decide), sI_1, if_neg (by decide), sI_1, if_neg (by decide), sI_1, if_neg (by decide)]
    exact l2
  · rw [sI_at, if_pos rfl, if_pos rfl]
  · exact fr_sI (fr_mono l3 (by decide)) (by decide) _ _
theorem Hs_pre {t0 : TT} {n m : Nat} {H : Nat → TT} {E : Nat → DD} (h : Hs t0 n H E) (hm : m ≤ n) : Hs t0 m H E := ⟨h.1, fun k hk => h.2 k (by omega)⟩
theorem sim_undo {σ τ : rf_S} (h : Sim σ τ) (x : Int32) : Both (f_X9_undo x σ) (f_X10_undo x τ) := by
  obtain ⟨hF, hR, hT, t0, n, H, E, w1, w2, w3, w4, ⟨d1, d2, d3, d4, d5, d6, d7, d8⟩, w5, w6⟩ := id h
  have hall := Hs_all d4 w1
  unfold f_X9_undo f_X10_undo f_X10_in
  rw [d2, d3]
  by_cases e1 : x < 0
  · rw [if_pos e1, if_pos e1]
    exact Both_same h
  rw [if_neg e1, if_neg e1]
  by_cases e2 : nI n < x
  · rw [if_pos e2, if_neg (Int32.not_le.mpr e2)]
    exact Both_same h
  rw [if_neg e2, if_pos (Int32.not_lt.mp e2)]
  have tn : (nI n).toInt = n := by rw [← iI_nat, iI_toInt (by omega) (by omega)]
  obtain ⟨m, hm, rfl⟩ := nI_of2 (M := nI n) (n := n) tn e1 (Int32.not_lt.mp e2)
  obtain ⟨σ', a1, a2, a3, a4⟩ := goBack_ok w1 w2 w3 d4 hm d1 (fun j hj => d5 j (by omega))
  have f1 := a4.1
  simp only [Option.bind_some]
  rw [a1, Option.bind_some, if_pos n10, nat_sub hm, i25]
  have fin : ∀ τ' : rf_S, (∀ c, c ≠ 0 → c ≠ 12 → τ'.1 c = τ.1 c) → (∀ j, j ≠ 25 → τ'.1 0 j = τ.1 0 j) → τ'.1 0 25 = nI m → τ'.2 = τ.2 → mV (τ'.1 12) (H m) → Sim σ' τ' := by
    intro τ' m1 m0 m25 m2 mv
    refine Sim_W h (fun c hc => f1 c ?_) (fun c _ _ => m1 c (by omega) (by omega)) (fun j hj => m0 j (by omega)) a4.2 m2 ⟨t0, m, H, E, w1, ?_, ?_, ?_, ⟨by omega, a3, m25, Hs_pre d4 hm, ?_, a2, mv, ?_⟩, ?_, ?_⟩
    · simp only [List.mem_cons, List.not_mem_nil, or_false]
      omega
    · unfold cC at *
      rw [f1 26 (by decide), f1 28 (by decide), f1 29 (by decide), f1 30 (by decide), f1 31 (by decide)]
      exact w2
    · unfold cP at *
      rw [f1 27 (by decide), f1 32 (by decide)]
      exact w3
    · unfold mC at *
      rw [m0 16 (by decide), m0 17 (by decide), m1 8 (by decide) (by decide), m1 9 (by decide) (by decide), m1 10 (by decide) (by decide), m1 11 (by decide) (by decide)]
      exact w4
    · intro j hj
      rw [f1 39 (by decide)]
      exact d5 j (by omega)
    · intro i hi
      rw [m1 14 (by decide) (by decide)]
      exact d8 i (by omega)
    · intro q
      have := w5 q
      omega
    · intro k hk
      have := w6 k hk
      unfold SimK at *
      rw [f1 44 (by decide), f1 (41 + k) (by simp only [List.mem_cons, List.not_mem_nil, or_false]; omega), m1 17 (by decide) (by decide), m1 15 (by decide) (by decide), m1 16 (by decide) (by decide)]
      exact this
  unfold f_X10_undo_j43
  by_cases e : m = n
  · subst e
    rw [if_pos (show nI (m - m) ≤ 0 by rw [Nat.sub_self]; decide)]
    refine ⟨_, _, _, rfl, rfl, fin _ ?_ ?_ ?_ ?_ ?_⟩
    · intro c a b
      rw [sI_1, if_neg a]
    · intro j a
      rw [sI_at, if_pos rfl, if_neg a]
    · rw [sI_at, if_pos rfl, if_pos rfl]
    · rfl
    · rw [sI_1, if_neg (by decide)]
      exact d7
  · rw [if_neg (nI_nle (by omega) (by omega)), show (0 : Int32) = nI 0 from rfl, show (25 : Int32) = nI 25 from rfl, bring_ok ck1_14 ck1_12 (by decide) (by omega) (by omega) (by omega) (by omega), Option.bind_some]
    refine ⟨_, _, _, rfl, rfl, fin _ ?_ ?_ ?_ ?_ ?_⟩
    · intro c a b
      rw [sI_1, if_neg a, sA_1, if_neg b]
    · intro j a
      rw [sI_at, if_pos rfl, if_neg a, sA_at, if_neg (by decide)]
    · rw [sI_at, if_pos rfl, if_pos rfl]
    · rfl
    · rw [sI_1, if_neg (by decide), sA_1, if_pos rfl]
      obtain ⟨b1, b2⟩ := hall m (by omega)
      refine mV_congr b1.2.1 b1.1 (d8 m (by omega)) (fun j hj => ?_)
      rw [if_pos (by omega)]
      exact congrArg (τ.1 14) (by omega)
