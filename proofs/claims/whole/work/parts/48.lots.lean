/-! ===== lots ===== -/
theorem lp_both {S E S' E' : Type} {b : S → Option (S ⊕ E)} {b' : S' → Option (S' ⊕ E')} (I : Nat → S → S' → Prop) (n : Nat) {K : E → E' → Prop} (hs : ∀ k s s', k < n → I k s s' → ∃ s1 s1', b s = some (.inl s1) ∧ b' s' = some (.inl s1') ∧ I (k + 1) s1 s1') (he : ∀ s s', I n s s' → ∃ e e', b s = some (.inr e) ∧ b' s' = some (.inr e') ∧ K e e') {N : Nat} (hN : n < N) {s : S} {s' : S'} (h0 : I 0 s s') : ∃ e e', rf_lp b N s = some e ∧ rf_lp b' N s' = some e' ∧ K e e' := by
  have key : ∀ (m k N : Nat) (s : S) (s' : S'), k + m = n → m < N → I k s s' → ∃ e e', rf_lp b N s = some e ∧ rf_lp b' N s' = some e' ∧ K e e' := by
    intro m
    induction m with
    | zero =>
      intro k N s s' hk hN hI
      obtain ⟨N, rfl⟩ : ∃ M, N = M + 1 := ⟨N - 1, by omega⟩
      have hk0 : k = n := by omega
      subst hk0
      obtain ⟨e, e', h1, h2, h3⟩ := he s s' hI
      exact ⟨e, e', by simp only [rf_lp, h1, Option.bind_some], by simp only [rf_lp, h2, Option.bind_some], h3⟩
    | succ m ih =>
      intro k N s s' hk hN hI
      obtain ⟨N, rfl⟩ : ∃ M, N = M + 1 := ⟨N - 1, by omega⟩
      obtain ⟨s1, s1', h1, h2, h3⟩ := hs k s s' (by omega) hI
      obtain ⟨e, e', g1, g2, g3⟩ := ih (k + 1) N s1 s1' (by omega) (by omega) h3
      exact ⟨e, e', by simp only [rf_lp, h1, Option.bind_some]; exact g1, by simp only [rf_lp, h2, Option.bind_some]; exact g2, g3⟩
  exact key n 0 N s s' (by omega) hN h0
def nxt (x : Nat) : Nat := x * 48271 % 2147483647
theorem nxt_ok {x : Nat} (hx : x < 2147483647) : lN x * 48271 - lN x * 48271 / 2147483647 * 2147483647 = lN (nxt x) ∧ nxt x < 2147483647 := by
  have hm : lN x * 48271 = lN (x * 48271) := lN_mul x 48271
  rw [hm]
  exact ⟨pk_lRem (a := x * 48271) (b := 2147483647) (by omega) (by omega) (by omega), Nat.mod_lt _ (by omega)⟩
theorem lot_ok {σ τ : rf_S} (h : Sim σ τ) {n x m : Nat} {k : Nat} (hn : σ.1 38 3 = nI n) (h40 : n < 40) (hM : σ.1 26 7 ≠ 0) (hx : x < 2147483647) (hk : k < m) (hm : m ≤ 20) : ∃ σ' τ', f_X9_lots_b60 (nI m) (lN x, nI k, σ) = some (.inl (lN (nxt x), nI (k + 1), σ')) ∧ f_X10_lots_b53 (nI m) (lN x, nI k, τ) = some (.inl (lN (nxt x), nI (k + 1), τ')) ∧ Sim σ' τ' ∧ σ'.1 38 3 = nI (n + 1) ∧ σ'.1 26 7 ≠ 0 := by
  obtain ⟨t, n', hσ, hτ, hn', s1, s2, ht, go⟩ := Sim_more h
  have hMM := t_M (c_t hσ)
  have hRR := t_R (c_t hσ)
  have en : n' = n := (eq_nI (by omega) (by omega)).mp (s1.symm.trans hn)
  subst en
  rw [c_M hσ] at hM
  have hpos : 0 < tM t := by
    rcases Nat.eq_zero_or_pos (tM t) with q | q
    · exact absurd (show nI (tM t) = 0 by rw [q]; rfl) hM
    · exact q
  have hRpos : 0 < tR t := (c_t hσ).2.2.1 hpos
  obtain ⟨x1, x2⟩ := nxt_ok hx
  obtain ⟨y, hy⟩ : ∃ y, y = nxt x := ⟨_, rfl⟩
  rw [← hy] at x1 x2 ⊢
  obtain ⟨w, hw⟩ : ∃ w, w = y / 8 % tM t := ⟨_, rfl⟩
  have hwM : w < tM t := by rw [hw]; exact Nat.mod_lt _ hpos
  have hb := t_i (c_t hσ) hwM
  have q4 : (lN y - lN y / 4 * 4).toInt32 = nI (y % 4) := by rw [show lN y - lN y / 4 * 4 = lN (y % 4) from pk_lRem (a := y) (b := 4) (by omega) (by omega) (by omega), lN_i]
  have q8 : lN y / 8 = lN (y / 8) := pk_lDiv (a := y) (b := 8) (by omega) (by omega) (by omega)
  have qw : (lN (y / 8) - lN (y / 8) / lN (tM t) * lN (tM t)).toInt32 = nI w := by rw [pk_lRem (by omega) hpos (by omega), lN_i, hw]
  have hl0 : ¬ lN (tM t) = 0 := fun q => by
    have := (pk_lEQ (a := tM t) (b := 0) (by omega) (by omega)).mp q
    omega
  have qr : ∀ a : Nat, a < 100 → nI a + 1 - (nI a + 1) / nI (tR t) * nI (tR t) = nI ((a + 1) % tR t) := fun a ha => by
    rw [nI_a1, pk_div (by omega) hRpos (by omega), pk_mul, nat_sub (by rw [Nat.mul_comm]; exact Nat.mul_div_le _ _)]
    refine congrArg nI ?_
    have := Nat.div_add_mod (a + 1) (tR t)
    rw [Nat.mul_comm] at this
    omega
  have hMT := MT_note hτ n'
  have lotC : ∀ (d : DD) (σ' : rf_S) (g : Nat → Int32), dok d t → cS σ' (actT d t) → σ'.1 38 3 = nI (n' + 1) → (∀ j, σ'.1 39 j = if j = n' then enc d else σ.1 39 j) → fr [25, 33, 34, 35, 36, 38, 39] σ σ' → mV g (actT d t) → f_X9_carryOutLot (lN y) σ = some σ' → f_X10_lots_b53 (nI m) (lN x, nI k, τ) = some (.inl (lN y, nI (k + 1), rf_sA (mNote τ n') 12 g)) → ∃ σ' τ', f_X9_lots_b60 (nI m) (lN x, nI k, σ) = some (.inl (lN y, nI (k + 1), σ')) ∧ f_X10_lots_b53 (nI m) (lN x, nI k, τ) = some (.inl (lN y, nI (k + 1), τ')) ∧ Sim σ' τ' ∧ σ'.1 38 3 = nI (n' + 1) ∧ σ'.1 26 7 ≠ 0 := by
    intro d σ' g hd a2 a3 a4 a5 g2 hC hR
    refine ⟨σ', _, ?_, hR, go d σ' g hd h40 hpos a2 a3 a4 a5 g2, a3, ?_⟩
    · unfold f_X9_lots_b60
      simp only
      rw [if_neg (nI_ge hk (by omega)), x1, hC, Option.bind_some, nI_1]
    · rw [a5.1 26 (by decide), c_M hσ]
      exact hM
  have cC0 : f_X9_carryOutLot (lN y) σ = if nI (y % 4) = 2 then (f_X1_carryOut 0 (nI w) (nI ((tL t w + 1) % tR t)) σ) else if nI (y % 4) = 3 then f_X1_carryOut 3 (nI w) 0 σ else f_X1_carryOut 1 0 0 σ := by
    unfold f_X9_carryOutLot f_X8_members f_X8_rooms
    rw [c_M hσ, c_R hσ]
    simp only [Option.bind_some]
    rw [if_neg (show ¬ nI (tM t) < 1 from nI_nlt (a := tM t) (b := 1) hpos (by omega)), if_pos (show 1 ≤ nI (tR t) from nI_le (show 1 ≤ tR t from hRpos) (by omega)), nI_l (by omega), if_neg hl0, q4, q8, qw, ck0_34, if_pos (in_ok (by omega) (by decide)), nI_clamp (by omega), c_L hσ hwM, if_neg (nI_ne0 hRpos (by omega)), qr _ (by omega)]
    split
    · cases f_X1_carryOut 0 (nI w) (nI ((tL t w + 1) % tR t)) σ <;> rfl
    · split
      · cases f_X1_carryOut 3 (nI w) 0 σ <;> rfl
      · cases f_X1_carryOut 1 0 0 σ <;> rfl
  have mL0 : f_X10_lots_b53 (nI m) (lN x, nI k, τ) = if 2 ≤ nI (y % 4) then (if nI (y % 4) ≠ 2 then some (.inl (lN y, nI (k + 1), rf_sI (mNote τ n') 12 (10 + w) 2)) else (f_X10_step 12 (nI w) (nI ((tL t w + 1) % tR t)) (mNote τ n')).bind (fun q => some (.inl (lN y, nI (k + 1), q)))) else (f_X10_pass 12 (mNote τ n')).bind (fun q => some (.inl (lN y, nI (k + 1), q.2))) := by
    unfold f_X10_lots_b53 f_X10_lots_j159
    simp only
    rw [if_neg (nI_ge hk (by omega)), note_ok s2 h40, Option.bind_some, x1, m_M hMT, m_R hMT, nI_l (by omega), if_neg hl0, q4, q8, qw, i10, i4, ck1_12, if_pos (in_ok (by omega) (by decide)), ck1_12, if_pos (in_ok (by omega) (by decide)), nI_clamp (by omega), nI_clamp (by omega), m_L hMT hwM, if_neg (nI_ne0 hRpos (by omega)), qr _ (by omega), nI_1]
  have hy4 : y % 4 = 0 ∨ y % 4 = 1 ∨ y % 4 = 2 ∨ y % 4 = 3 := by omega
  have pass : nI (y % 4) ≠ 2 → nI (y % 4) ≠ 3 → ¬ 2 ≤ nI (y % 4) → ∃ σ' τ', f_X9_lots_b60 (nI m) (lN x, nI k, σ) = some (.inl (lN y, nI (k + 1), σ')) ∧ f_X10_lots_b53 (nI m) (lN x, nI k, τ) = some (.inl (lN y, nI (k + 1), τ')) ∧ Sim σ' τ' ∧ σ'.1 38 3 = nI (n' + 1) ∧ σ'.1 26 7 ≠ 0 := by
    intro e2 e3 e4
    have hd : dok (1, 0, 0) t := ⟨rfl, rfl⟩
    obtain ⟨σ', a1, a2, a3, a4, a5⟩ := carryOut_ok hσ s1 h40 hd
    obtain ⟨g, g1, g2⟩ := pass_ok (Or.inl rfl) hMT
    refine lotC (1, 0, 0) σ' g hd a2 a3 a4 a5 g2 ?_ ?_
    · rw [cC0, if_neg e2, if_neg e3]
      exact a1
    · rw [mL0, if_neg e4, g1]
      rfl
  rcases hy4 with e | e | e | e
  · rw [e] at pass
    exact pass (by decide) (by decide) (by decide)
  · rw [e] at pass
    exact pass (by decide) (by decide) (by decide)
  · have hj : (tL t w + 1) % tR t < tR t := Nat.mod_lt _ hRpos
    obtain ⟨j, ej⟩ : ∃ j, j = (tL t w + 1) % tR t := ⟨_, rfl⟩
    rw [← ej] at hj cC0 mL0
    have hd : dok (0, w, (j : Int)) t := ⟨hwM, show (0 : Int) ≤ (j : Int) by omega, show (j : Int) < (tR t : Int) by omega⟩
    obtain ⟨σ', a1, a2, a3, a4, a5⟩ := carryOut_ok hσ s1 h40 hd
    obtain ⟨g, g1, g2⟩ := step_ok (Or.inl rfl) hMT hwM hj
    refine lotC (0, w, (j : Int)) σ' g hd a2 a3 a4 a5 g2 ?_ ?_
    · rw [cC0, e, if_pos (show nI 2 = 2 from rfl), ← iI_nat j]
      exact a1
    · rw [mL0, e, if_pos (show 2 ≤ nI 2 by decide), if_neg (show ¬ nI 2 ≠ 2 from fun q => q rfl), g1]
      rfl
  · have hd : dok (3, w, 0) t := ⟨hwM, rfl⟩
    obtain ⟨σ', a1, a2, a3, a4, a5⟩ := carryOut_ok hσ s1 h40 hd
    have g2 := mV_cold hτ.2.1 hMM hRR hwM
    refine lotC (3, w, 0) σ' _ hd a2 a3 a4 a5 g2 ?_ ?_
    · rw [cC0, e, if_neg (show ¬ nI 3 = 2 by decide), if_pos (show nI 3 = 3 from rfl)]
      exact a1
    · rw [mL0, e, if_pos (show 2 ≤ nI 3 by decide), if_pos (show nI 3 ≠ 2 by decide), sI_eq, note12]
theorem lt1 (x : Int32) : x < 1 ↔ x ≤ 0 := by
  rw [Int32.lt_iff_toInt_lt, Int32.le_iff_toInt_le]
  have a1 : (1 : Int32).toInt = 1 := rfl
  have a0 : (0 : Int32).toInt = 0 := rfl
  omega
theorem sim_lots {σ τ : rf_S} (h : Sim σ τ) (a b : Int32) : Both (f_X9_lots a b σ) (f_X10_lots a b τ) := by
  obtain ⟨t, n, hσ, hτ, hn, s1, s2, ht, go⟩ := Sim_more h
  have hMM := t_M (c_t hσ)
  unfold f_X9_lots f_X10_lots f_X10_in
  by_cases e1 : a < 1
  · rw [if_pos e1, if_pos e1]
    exact Both_same h
  rw [if_neg e1, if_neg e1]
  by_cases e2 : 20 < a
  · rw [if_pos e2, if_pos e2]
    exact Both_same h
  rw [if_neg e2, if_neg e2]
  simp only [Option.bind_some]
  rw [if_neg n10]
  by_cases e3 : b < 1
  · rw [if_pos e3, if_pos e3]
    exact Both_same h
  rw [if_neg e3, if_neg e3]
  have hl : (lg_cmp b.toInt64 2147483647 < 0) ↔ ¬ 2147483646 < b := by
    rw [lg_cmp_lt, Int64.lt_iff_toInt_lt, Int32.toInt_toInt64, Int32.lt_iff_toInt_lt]
    have a1 : (2147483646 : Int32).toInt = 2147483646 := rfl
    have a0 : (2147483647 : Int64).toInt = 2147483647 := rfl
    omega
  by_cases e4 : 2147483646 < b
  · rw [if_pos e4, if_neg (fun q => (hl.mp q) e4)]
    exact Both_same h
  rw [if_neg e4, if_pos (hl.mpr e4)]
  simp only [Option.bind_some]
  unfold f_X8_isEmpty
  rw [if_pos n10, c_M hσ, m_M hτ]
  by_cases eM : tM t = 0
  · rw [eM, if_neg (show ¬ nI 0 ≠ 0 from fun q => q rfl), if_neg (show ¬ nI 0 ≠ 0 from fun q => q rfl)]
    exact Both_same h
  rw [if_pos (show nI (tM t) ≠ 0 from nI_ne0 (by omega) (by omega)), if_pos (show nI (tM t) ≠ 0 from nI_ne0 (by omega) (by omega))]
  simp only [Option.bind_some, if_true]
  obtain ⟨m, hm, rfl⟩ := nI_of2 (M := 20) (n := 20) rfl (show ¬ a < 0 from fun q => e1 ((lt1 a).mpr (Int32.le_of_lt q))) (Int32.not_lt.mp e2)
  rw [left_ok s1 hn, s2, Option.bind_some, nI_add]
  by_cases e5 : n + m ≤ 40
  · rw [if_pos (show nI m ≤ nI (40 - n) from nI_le (by omega) (by omega)), if_pos (show nI (n + m) ≤ 40 from nI_le (b := 40) e5 (by omega))]
    obtain ⟨x, hx, rfl⟩ : ∃ x : Nat, x < 2147483647 ∧ b = nI x := by
      obtain ⟨j, j1, j2⟩ := nI_of2 (M := 2147483646) (n := 2147483646) rfl (show ¬ b < 0 from fun q => e3 ((lt1 b).mpr (Int32.le_of_lt q))) (Int32.not_lt.mp e4)
      exact ⟨j, by omega, j2⟩
    rw [nI_l (by omega)]
    obtain ⟨e, e', g1, g2, g3⟩ := lp_both (b := f_X9_lots_b60 (nI m)) (b' := f_X10_lots_b53 (nI m)) (fun k s s' => ∃ x, x < 2147483647 ∧ s.1 = lN x ∧ s'.1 = lN x ∧ s.2.1 = nI k ∧ s'.2.1 = nI k ∧ Sim s.2.2 s'.2.2 ∧ s.2.2.1 38 3 = nI (n + k) ∧ s.2.2.1 26 7 ≠ 0) m (K := fun e e' => Sim e e') (N := 5000) (fun k s s' hk hI => by
        obtain ⟨sa, sb, sc⟩ := s
        obtain ⟨ta, tb, tc⟩ := s'
        obtain ⟨x, i1, i2, i3, i4, i5, i6, i7, i8⟩ := hI
        simp only at i2 i3 i4 i5 i6 i7 i8
        subst i2 i3 i4 i5
        obtain ⟨σ', τ', k1, k2, k3, k4, k5⟩ := lot_ok i6 i7 (by omega) i8 i1 hk hm
        exact ⟨_, _, k1, k2, nxt x, (nxt_ok i1).2, rfl, rfl, rfl, rfl, k3, k4, k5⟩) (fun s s' hI => by
        obtain ⟨sa, sb, sc⟩ := s
        obtain ⟨ta, tb, tc⟩ := s'
        obtain ⟨x, i1, i2, i3, i4, i5, i6, i7, i8⟩ := hI
        simp only at i2 i3 i4 i5 i6 i7 i8
        subst i2 i3 i4 i5
        refine ⟨sc, tc, ?_, ?_, i6⟩
        · unfold f_X9_lots_b60
          simp only
          rw [if_pos (nI_le (Nat.le_refl _) (by omega))]
        · unfold f_X10_lots_b53
          simp only
          rw [if_pos (nI_le (Nat.le_refl _) (by omega))]) (by omega) (s := (lN x, 0, σ)) (s' := (lN x, 0, τ)) ⟨x, hx, rfl, rfl, rfl, rfl, h, s1, by rw [c_M hσ]; exact nI_ne0 (by omega) (by omega)⟩
    rw [g1, g2, Option.bind_some, Option.bind_some, ck1_12, if_pos (show rf_in 24 25 = true from rfl), show (24 : Int32).toNatClampNeg = 24 from rfl]
    obtain ⟨u, u1, u2⟩ := Sim_town g3
    rw [c_P u1, m_P u2]
    exact ⟨_, _, _, rfl, rfl, g3⟩
  · rw [if_neg (show ¬ nI m ≤ nI (40 - n) from nI_ge (by omega) (by omega)), if_neg (show ¬ nI (n + m) ≤ 40 from nI_ge (a := 40) (by omega) (by omega))]
    exact Both_same h
