/-! ===== soups ===== -/
/-- the soup that is left ahead of hour h, if it is served ahead of the hours of a set -/
def spL (s0 : Nat) (s : Int32) : Nat → Nat
  | 0 => s0
  | h + 1 => (if bt s h = true then 3 else spL s0 s h) - 1
def spV (s0 : Nat) (s : Int32) (h : Nat) : Nat := if bt s h = true then 3 else spL s0 s h
theorem sp_le {s0 : Nat} (h0 : s0 ≤ 3) (s : Int32) : ∀ h, spL s0 s h ≤ 3 ∧ spV s0 s h ≤ 3 := by
  intro h
  have k : spL s0 s h ≤ 3 := by
    cases h with
    | zero => exact h0
    | succ h =>
      rw [spL]
      have : spL s0 s h ≤ 3 := by
        induction h with
        | zero => exact h0
        | succ h ih =>
          rw [spL]
          split <;> omega
      split <;> omega
  refine ⟨k, ?_⟩
  unfold spV
  split <;> omega
def wdH (t : TT) (i : Nat) (s : Int32) (h : Nat) : Bool := doB (tK t i) (feelZ (tK t i) ((tG t i : Int) + tV t i) (spV (tS t) s h) (tH t + h)) (tW t i) (tD t (tL t i))
theorem feel_in {t : TT} (ht : tok 60 t) {i : Nat} (hi : i < tM t) (k : Nat) (s h : Nat) (hh : h ≤ 100) : -80 ≤ feelZ k ((tG t i : Int) + tV t i) s h ∧ feelZ k ((tG t i : Int) + tV t i) s h ≤ 80 := by
  have hb := t_i ht hi
  unfold feelZ
  have : ((h / 6 : Nat) : Int) ≤ 20 := by omega
  have : 0 ≤ ((h / 6 : Nat) : Int) := by omega
  split <;> split <;> split <;> omega
theorem stays_ok {σ : rf_S} {t : TT} (hσ : CT σ t) (h40 : tok 40 t) {i n : Nat} (hi : i < tM t) (hn : n ≤ 8) (s : Int32) (b : Bool) : f_X8_staysSo (nI i) (nI n) s (if b = true then 1 else 0) σ = some (if allB n (fun h => wdH t i s h == b) = true then 1 else 0) := by
  have hM := t_M (c_t hσ)
  have hR := t_R (c_t hσ)
  have hb := t_i (c_t hσ) hi
  have hD := (t_r (c_t hσ) hb.2.2.2.1).2.2
  obtain ⟨-, -, -, -, -, -, a7, a8, -⟩ := h40
  have hsp := sp_le a8 s
  unfold f_X8_staysSo
  rw [c_S hσ]
  have j28 : ∀ (h : Nat) (x : Nat), h ≤ 8 → x ≤ 3 → f_X8_staysSo_j28 (nI i) (nI n) s (if b = true then 1 else 0) (nI x) (nI h) σ = if (doB (tK t i) (feelZ (tK t i) ((tG t i : Int) + tV t i) x (tH t + h)) (tW t i) (tD t (tL t i)) == b) = true then some (.inl (nI (x - 1), nI (h + 1))) else some (.inr (.inr 0)) := by
    intro h x hh hx
    have hf := feel_in (c_t hσ) hi (tK t i) x (tH t + h) (by omega)
    unfold f_X8_staysSo_j28 f_X8_kindOf f_X8_markOf f_X8_widthOf
    rw [ck0_29, if_pos (in_ok (by omega) (by decide)), nI_clamp (by omega), c_K hσ hi, Option.bind_some, ck0_30, if_pos (in_ok (by omega) (by decide)), c_G hσ hi, Option.bind_some, ck0_36, if_pos (in_ok (by omega) (by decide)), c_V hσ hi, c_H hσ, nI_add, ← iI_nat (tG t i), iI_add, feeling_ok _ hb.1 (by omega) (by omega), Option.bind_some, Option.bind_some, ck0_31, if_pos (in_ok (by omega) (by decide)), c_W hσ hi, Option.bind_some, doingBy_ok hb.1 (by omega) hf.1 hf.2, Option.bind_some, ck0_34, if_pos (in_ok (by omega) (by decide)), c_L hσ hi, ck0_33, if_pos (in_ok (by omega) (by decide)), nI_clamp (by omega), c_D hσ hb.2.2.2.1, bit1 _ (by omega), b_bs _ (by decide) (by omega), decide_eq_true (show tD t (tL t i) < 31 by omega), Bool.true_and, max0s hx, nI_1]
    cases doB (tK t i) (feelZ (tK t i) ((tG t i : Int) + tV t i) x (tH t + h)) (tW t i) (tD t (tL t i)) <;> cases b <;> rfl
  obtain ⟨e, l1, l2⟩ := lp_inv (b := f_X8_staysSo_b9 (nI i) (nI n) s (if b = true then 1 else 0) σ) (fun h st => st = (nI (spL (tS t) s h), nI h) ∧ allB h (fun h => wdH t i s h == b) = true) n (K := fun e => (e = Sum.inl () ∧ allB n (fun h => wdH t i s h == b) = true) ∨ (e = Sum.inr 0 ∧ allB n (fun h => wdH t i s h == b) = false)) (N := 5000) (fun h st hh hI => by
      obtain ⟨i1, i2⟩ := hI
      subst i1
      by_cases e : h = n
      · right
        subst e
        refine ⟨Sum.inl (), ?_, Or.inl ⟨rfl, i2⟩⟩
        unfold f_X8_staysSo_b9
        simp only
        rw [if_pos (nI_le (Nat.le_refl _) (by omega))]
      · have hlt : h < n := by omega
        have body : f_X8_staysSo_b9 (nI i) (nI n) s (if b = true then 1 else 0) σ (nI (spL (tS t) s h), nI h) = f_X8_staysSo_j28 (nI i) (nI n) s (if b = true then 1 else 0) (nI (spV (tS t) s h)) (nI h) σ := by
          unfold f_X8_staysSo_b9 spV
          simp only
          rw [if_neg (nI_ge hlt (by omega)), bit1 _ (by omega)]
          cases bt s h with
          | true => exact if_neg (show ¬ (1 : Int32) ≠ 1 from fun q => q rfl)
          | false => exact if_pos (show (0 : Int32) ≠ 1 by decide)
        rw [body, j28 h _ (by omega) (hsp h).2]
        cases ew : (wdH t i s h == b) with
        | true =>
          left
          refine ⟨(nI (spL (tS t) s (h + 1)), nI (h + 1)), hlt, ?_, rfl, ?_⟩
          · exact if_pos ew
          · rw [allB, i2, ew]
            rfl
        | false =>
          right
          refine ⟨Sum.inr 0, if_neg (fun q => by unfold wdH at ew; rw [ew] at q; exact absurd q (by decide)), Or.inr ⟨rfl, ?_⟩⟩
          cases ea : allB n (fun h => wdH t i s h == b) with
          | false => rfl
          | true =>
            have := allB_iff.mp ea h hlt
            rw [ew] at this
            exact absurd this (by decide)) (by omega) (s := (nI (tS t), 0)) ⟨rfl, rfl⟩
  rw [l1, Option.bind_some]
  rcases l2 with ⟨rfl, l3⟩ | ⟨rfl, l3⟩
  · rw [l3]
    rfl
  · rw [l3]
    rfl
theorem mV_s {f : Nat → Int32} {t : TT} (h : mV f t) (hM : tM t ≤ 6) (hR : tR t ≤ 4) (x : Nat) : mV (upd f 23 (nI x)) (tset t 0 3 x) := by
  obtain ⟨v1, v2, v3, v4, v5⟩ := h
  refine ⟨fun q hq => ?_, fun q hq => ?_, ?_, ?_, ?_⟩
  · have hq' : q < tR t := hq
    rw [upd_at, if_neg (by omega)]
    exact v1 q hq'
  · have hq' : q < tM t := hq
    rw [upd_at, if_neg (by omega), upd_at, if_neg (by omega), upd_at, if_neg (by omega)]
    exact v2 q hq'
  · rw [upd_at, if_neg (by omega)]
    exact v3
  · rw [upd_at, if_pos rfl]
    rfl
  · rw [upd_at, if_neg (by omega)]
    exact v5
theorem s_tok {k x : Nat} {u : TT} (h : tok k u) (hx : x ≤ 3) : tok k (tset u 0 3 x) := by
  obtain ⟨a1, a2, a3, a4, a5, a6, a7, a8, a9⟩ := h
  exact ⟨a1, a2, a3, a4, a5, a6, a7, hx, a9⟩
theorem served_ok {σ τ : rf_S} {t : TT} (h : Sim σ τ) (hτ : MT τ 12 t) (h40 : tok 40 t) {i n : Nat} (hi : i < tM t) (hn : n ≤ 8) (s : Int32) (b : Bool) : ∃ τ', f_X10_isServed (nI i) (nI n) s (if b = true then 1 else 0) τ = some ((if allB n (fun h => wdH t i s h == b) = true then 1 else 0), τ') ∧ Sim σ τ' ∧ MT τ' 12 t := by
  obtain ⟨τ1, b1, b2, b3, b4, b5⟩ := tried_ok h hτ
  have hM := t_M (m_t hτ)
  have hR := t_R (m_t hτ)
  have hb := t_i (m_t hτ) hi
  have hD := (t_r (m_t hτ) hb.2.2.2.1).2.2
  obtain ⟨-, -, -, -, -, -, a7, a8, -⟩ := id h40
  have hsp := sp_le a8 s
  unfold f_X10_isServed
  rw [b1, Option.bind_some]
  obtain ⟨e, l1, l2, l3, l4⟩ := lp_inv (b := f_X10_isServed_b21 (nI i) (nI n) s (if b = true then 1 else 0)) (fun h st => st.1 = (if allB h (fun h => wdH t i s h == b) = true then 1 else 0) ∧ st.2.1 = nI h ∧ (∀ c, c ≠ 13 → st.2.2.1 c = τ1.1 c) ∧ st.2.2.2 = τ1.2 ∧ ∃ u, MT st.2.2 13 u ∧ tok (40 + h) u ∧ cst t u ∧ (∀ i, tL u i = tL t i) ∧ (∀ i, tV u i = tV t i) ∧ (∀ r, tD u r = tD t r) ∧ tH u = tH t + h ∧ tS u = spL (tS t) s h) n (K := fun e => e.1 = (if allB n (fun h => wdH t i s h == b) = true then 1 else 0) ∧ (∀ c, c ≠ 13 → e.2.1 c = τ1.1 c) ∧ e.2.2 = τ1.2) (N := 5000) (fun h st hh hI => by
      obtain ⟨x, y, τh⟩ := st
      obtain ⟨i1, i2, k3, k4, u, i5, i6, i7, i8, i9, k10, k11, k12⟩ := hI
      simp only at i1 i2 k3 k4 i5
      subst i1 i2
      by_cases e : h = n
      · right
        subst e
        refine ⟨((if allB h (fun h => wdH t i s h == b) = true then 1 else 0), τh), ?_, rfl, k3, k4⟩
        unfold f_X10_isServed_b21
        simp only
        rw [if_pos (nI_le (Nat.le_refl _) (by omega))]
      · left
        have hlt : h < n := by omega
        have hu := t_M (m_t i5)
        have huM : tM u = tM t := i7.2.1
        obtain ⟨u', eu⟩ : ∃ u', u' = tset u 0 3 (spV (tS t) s h) := ⟨_, rfl⟩
        have tok' : tok (40 + h) u' := by rw [eu]; exact s_tok i6 (hsp h).2
        obtain ⟨τ2, e2⟩ : ∃ τ2, τ2 = rf_sA τh 13 (upd (τh.1 13) 23 (nI (spV (tS t) s h))) := ⟨_, rfl⟩
        have hMT2 : MT τ2 13 u' := by
          rw [e2, eu]
          exact MT_sA (t := u) (u := tset u 0 3 (spV (tS t) s h)) (Or.inr rfl) i5 ⟨rfl, rfl, fun _ => rfl, fun _ => ⟨rfl, rfl, rfl⟩⟩ (tok_mono (s_tok i6 (hsp h).2) (by omega)) (mV_s i5.2.1 hu (t_R (m_t i5)) _)
        obtain ⟨g, p1, p2⟩ := pass_ok (Or.inr rfl) hMT2
        have hMT3 := MT_sA (Or.inr rfl) hMT2 (pass_cst u') (tok_mono (pass_tok tok') (by omega)) p2
        have hiu : i < tM u' := by rw [eu]; show i < tM u; omega
        have hLu : tL u' i = tL t i := by rw [eu]; exact i8 i
        have hDu : tD u' (tL t i) = tD t (tL t i) := by rw [eu]; exact k10 _
        have hRu : tL t i < tR u' := by rw [eu]; show tL t i < tR u; rw [i7.1]; exact hb.2.2.2.1
        have hwd : wd u' i (tD t (tL t i)) = wdH t i s h := by
          have k1 := i7.2.2.2 i
          have e1 : tK u' i = tK t i := by rw [eu]; exact k1.1
          have e3 : tG u' i = tG t i := by rw [eu]; exact k1.2.1
          have e4 : tW u' i = tW t i := by rw [eu]; exact k1.2.2
          have e5 : tV u' i = tV t i := by rw [eu]; exact i9 i
          have e6 : tH u' = tH t + h := by rw [eu]; exact k11
          have e7 : tS u' = spV (tS t) s h := by rw [eu]; rfl
          unfold wd wdAs wdH fIs
          rw [e1, e3, e4, e5, e6, e7]
        have j91 : ∀ z, f_X10_isServed_j91 (nI i) (nI n) s (if b = true then 1 else 0) (nI h) z τ2 = some (.inl (z, nI (h + 1), rf_sA τ2 13 g)) := by
          intro z
          unfold f_X10_isServed_j91
          rw [p1, Option.bind_some, nI_1]
        have i23 : rf_in 23 25 = true := rfl
        have c23 : (23 : Int32).toNatClampNeg = 23 := rfl
        have j53 : ∀ z, z = nI (spV (tS t) s h) → f_X10_isServed_j53 (nI i) (nI n) s (if b = true then 1 else 0) (if allB h (fun h => wdH t i s h == b) = true then 1 else 0) (nI h) z 23 τh = some (.inl ((if allB (h + 1) (fun h => wdH t i s h == b) = true then 1 else 0), nI (h + 1), rf_sA τ2 13 g)) := by
          intro z hz
          unfold f_X10_isServed_j53 f_X10_isServed_j90
          rw [ck1_13, i23, if_pos rfl, c23, hz, sI_eq, ← e2, j91, j91, i4, ck1_13, if_pos (in_ok (by omega) (by decide)), nI_clamp (by omega), m_L hMT2 hiu, hLu, ck1_13, if_pos (in_ok (by omega) (by decide)), nI_clamp (by omega), m_D hMT2 hRu, hDu, wouldAt_ok hMT2 hiu hD, Option.bind_some, hwd, allB, b01]
          simp only [b_ne]
          cases allB h (fun h => wdH t i s h == b) <;> cases (wdH t i s h == b) <;> rfl
        refine ⟨((if allB (h + 1) (fun h => wdH t i s h == b) = true then 1 else 0), nI (h + 1), rf_sA τ2 13 g), hlt, ?_, rfl, rfl, ?_, ?_, passT u', hMT3, pass_tok tok', ?_, ?_, ?_, ?_, ?_, ?_⟩
        · unfold f_X10_isServed_b21
          simp only
          rw [if_neg (nI_ge hlt (by omega)), has_ok _ (by omega), Option.bind_some, b01]
          cases e : bt s h with
          | true =>
            rw [if_pos rfl]
            exact j53 3 (by unfold spV; rw [if_pos e]; rfl)
          | false =>
            rw [if_neg (show ¬ false = true by decide), ck1_13, i23, if_pos rfl, c23, m_S i5, k12]
            exact j53 _ (by unfold spV; rw [if_neg (by rw [e]; decide)])
        · intro c hc
          simp only
          rw [sA_1, if_neg hc, e2, sA_1, if_neg hc]
          exact k3 c hc
        · show τ2.2 = τ1.2
          rw [e2]
          exact k4
        · refine cst_trans i7 (cst_trans ?_ (pass_cst u'))
          rw [eu]
          exact ⟨rfl, rfl, fun _ => rfl, fun _ => ⟨rfl, rfl, rfl⟩⟩
        · intro q
          show tL u' q = tL t q
          rw [eu]
          exact i8 q
        · intro q
          show tV u' q = tV t q
          rw [eu]
          exact i9 q
        · intro q
          show tD u' q = tD t q
          rw [eu]
          exact k10 q
        · show tH u' + 1 = tH t + (h + 1)
          rw [eu]
          show tH u + 1 = tH t + (h + 1)
          omega
        · show tS u' - 1 = spL (tS t) s (h + 1)
          rw [eu]
          rfl) (by omega) (s := (1, 0, τ1)) ⟨rfl, rfl, fun _ _ => rfl, rfl, t, b3, h40, cst_rfl t, fun _ => rfl, fun _ => rfl, fun _ => rfl, rfl, rfl⟩
  obtain ⟨ea, eb⟩ := e
  simp only at l2 l3 l4
  refine ⟨eb, ?_, ?_, ?_⟩
  · rw [l1, Option.bind_some, l2]
    cases allB n (fun h => wdH t i s h == b) <;> rfl
  · refine Sim_fr b2 (fun c _ _ _ => rfl) (fun c _ _ _ a _ => l3 c a) (fun j _ => by rw [l3 0 (by decide)]) rfl l4
  · obtain ⟨q1, q2, q3, q4⟩ := hτ
    refine ⟨?_, ?_, q3, q4⟩
    · unfold mC at *
      rw [l3 0 (by decide), l3 8 (by decide), l3 9 (by decide), l3 10 (by decide), l3 11 (by decide), b4 0 (by decide), b4 8 (by decide), b4 9 (by decide), b4 10 (by decide), b4 11 (by decide)]
      exact q1
    · rw [l3 12 (by decide), b4 12 (by decide)]
      exact q2
theorem bcN {j : Nat} (hj : j < 2 ^ 31) : cnt 32 (bt (nI j)) = cnt 31 (bt (nI j)) := by
  show cnt 31 (bt (nI j)) + (if bt (nI j) 31 = true then 1 else 0) = _
  rw [b_nI (by decide), Nat.testBit_lt_two_pow hj]
  rfl
theorem p8 : ∀ m, m < 9 → (1 : Int32) <<< (nI m &&& 31) = nI (2 ^ m) ∧ 2 ^ m ≤ 256 := by decide +kernel
theorem sim_soups {σ τ : rf_S} (h : Sim σ τ) (x y z : Int32) : Both (f_X9_soups x y z σ) (f_X10_soups x y z τ) := by
  obtain ⟨t, hσ, hτ, h40⟩ := Sim_town2 h
  have hM := t_M (c_t hσ)
  unfold f_X9_soups f_X10_soups f_X8_isEmpty
  rw [c_M hσ, m_M hτ]
  by_cases eM : tM t = 0
  · rw [eM, if_neg (show ¬ nI 0 ≠ 0 from fun q => q rfl), if_neg (show ¬ nI 0 ≠ 0 from fun q => q rfl)]
    exact Both_same h
  rw [if_pos (show nI (tM t) ≠ 0 from nI_ne0 (by omega) (by omega)), if_pos (show nI (tM t) ≠ 0 from nI_ne0 (by omega) (by omega))]
  simp only [Option.bind_some, if_true]
  rcases one_cases hσ hτ x with ⟨h1, h2⟩ | ⟨i, hi, rfl, h1, h2⟩
  · rw [h1, h2]
    exact Both_same h
  rw [h1, h2]
  simp only [Option.bind_some]
  rw [if_neg n10, if_neg n10]
  unfold f_X10_in
  by_cases e1 : y < 0
  · rw [if_pos e1, if_pos e1]
    exact Both_same h
  rw [if_neg e1, if_neg e1]
  by_cases e2 : 8 < y
  · rw [if_pos e2, if_pos e2]
    exact Both_same h
  rw [if_neg e2, if_neg e2]
  simp only [Option.bind_some]
  rw [if_neg n10]
  by_cases e3 : z < 0
  · rw [if_pos e3, if_pos e3]
    exact Both_same h
  rw [if_neg e3, if_neg e3]
  by_cases e4 : 1 < z
  · rw [if_pos e4, if_neg (Int32.not_le.mpr e4)]
    exact Both_same h
  rw [if_neg e4, if_pos (Int32.not_lt.mp e4)]
  simp only [Option.bind_some]
  rw [if_pos n10]
  obtain ⟨n, hn, rfl⟩ := nI_of2 (M := 8) (n := 8) rfl e1 (Int32.not_lt.mp e2)
  obtain ⟨w, hw, rfl⟩ := nI_of2 (M := 1) (n := 1) rfl e3 (Int32.not_lt.mp e4)
  obtain ⟨b, hb⟩ : ∃ b : Bool, nI w = if b = true then 1 else 0 := by
    rcases (show w = 0 ∨ w = 1 by omega) with rfl | rfl
    · exact ⟨false, rfl⟩
    · exact ⟨true, rfl⟩
  rw [hb]
  obtain ⟨q1, q2⟩ := p8 n (by omega)
  obtain ⟨e, e', g1, g2, g3⟩ := lp_both (b := f_X9_soups_b49 (nI i) (nI n) (if b = true then 1 else 0) σ) (b' := f_X10_soups_b45 (nI i) (nI n) (if b = true then 1 else 0)) (fun k s s' => s.2 = nI k ∧ s'.2.1 = nI k ∧ ((s.1 = -9 ∧ s'.1 = -1) ∨ ∃ j, j < 256 ∧ s.1 = nI j ∧ s'.1 = nI j) ∧ Sim σ s'.2.2 ∧ MT s'.2.2 12 t) (2 ^ n) (K := fun e e' => ((e = -9 ∧ e'.1 = -1) ∨ ∃ j, j < 256 ∧ e = nI j ∧ e'.1 = nI j) ∧ Sim σ e'.2) (N := 5000) (fun k s s' hk hI => by
      obtain ⟨sa, sb⟩ := s
      obtain ⟨ta, tb, tc⟩ := s'
      obtain ⟨i1, i2, i3, i4', i5⟩ := hI
      simp only at i1 i2 i3 i4' i5
      subst i1 i2
      obtain ⟨τ', v1, v2, v3⟩ := served_ok i4' i5 h40 hi hn (nI k) b
      have cj : ∀ q, f_X9_soups_j108 (nI i) (nI n) (if b = true then 1 else 0) q (nI k) σ = some (.inl (q, nI (k + 1))) := by
        intro q
        unfold f_X9_soups_j108
        rw [nI_1]
      have mj : ∀ q ρ, f_X10_soups_j99 (nI i) (nI n) (if b = true then 1 else 0) (nI k) q ρ = some (.inl (q, nI (k + 1), ρ)) := by
        intro q ρ
        unfold f_X10_soups_j99
        rw [nI_1]
      have cj2 : f_X9_soups_j77 (nI i) (nI n) (if b = true then 1 else 0) sa (nI k) σ = if allB n (fun h => wdH t i (nI k) h == b) = true then some (.inl (nI k, nI (k + 1))) else some (.inl (sa, nI (k + 1))) := by
        unfold f_X9_soups_j77 f_X9_soups_j82
        rw [if_neg n10, stays_ok hσ h40 hi hn, Option.bind_some, cj, cj, b01]
      have mj2 : f_X10_soups_j71 (nI i) (nI n) (if b = true then 1 else 0) ta (nI k) tc = if allB n (fun h => wdH t i (nI k) h == b) = true then some (.inl (nI k, nI (k + 1), τ')) else some (.inl (ta, nI (k + 1), τ')) := by
        unfold f_X10_soups_j71 f_X10_soups_j86 f_X10_soups_j97
        simp only [mj]
        cases b with
        | true =>
          rw [if_pos rfl] at v1 ⊢
          rw [if_neg (show ¬ (1 : Int32) ≠ 1 from fun q => q rfl), v1, Option.bind_some, b01]
        | false =>
          rw [if_neg (show ¬ false = true by decide)] at v1 ⊢
          rw [if_pos (show (0 : Int32) ≠ 1 by decide), v1, Option.bind_some, b01]
      have go2 : f_X9_soups_b49 (nI i) (nI n) (if b = true then 1 else 0) σ (sa, nI k) = f_X9_soups_j77 (nI i) (nI n) (if b = true then 1 else 0) sa (nI k) σ → f_X10_soups_b45 (nI i) (nI n) (if b = true then 1 else 0) (ta, nI k, tc) = f_X10_soups_j71 (nI i) (nI n) (if b = true then 1 else 0) ta (nI k) tc → ∃ s1 s1', f_X9_soups_b49 (nI i) (nI n) (if b = true then 1 else 0) σ (sa, nI k) = some (.inl s1) ∧ f_X10_soups_b45 (nI i) (nI n) (if b = true then 1 else 0) (ta, nI k, tc) = some (.inl s1') ∧ s1.2 = nI (k + 1) ∧ s1'.2.1 = nI (k + 1) ∧ ((s1.1 = -9 ∧ s1'.1 = -1) ∨ ∃ j, j < 256 ∧ s1.1 = nI j ∧ s1'.1 = nI j) ∧ Sim σ s1'.2.2 ∧ MT s1'.2.2 12 t := by
        intro a1 a2
        rw [a1, a2, cj2, mj2]
        cases allB n (fun h => wdH t i (nI k) h == b) with
        | true => exact ⟨_, _, if_pos rfl, if_pos rfl, rfl, rfl, Or.inr ⟨k, by omega, rfl, rfl⟩, v2, v3⟩
        | false => exact ⟨_, _, if_neg (by decide), if_neg (by decide), rfl, rfl, i3, v2, v3⟩
      rcases i3 with ⟨r1, r2⟩ | ⟨j, hj, r1, r2⟩
      · subst r1 r2
        refine go2 ?_ ?_
        · unfold f_X9_soups_b49
          simp only
          rw [q1, if_neg (nI_ge hk (by omega)), if_pos trivial]
        · unfold f_X10_soups_b45
          simp only
          rw [q1, if_neg (nI_ge hk (by omega)), if_pos (by decide)]
      · have c9 : ¬ nI j = -9 := fun q => by
          have := congrArg Int32.toInt q
          rw [nI_toInt (by omega)] at this
          have a9 : (-9 : Int32).toInt = -9 := rfl
          omega
        have cl : cnt 31 (bt (nI k)) ≤ 31 := cnt_le 31 _
        have cl2 : cnt 31 (bt (nI j)) ≤ 31 := cnt_le 31 _
        have bC : f_X9_soups_b49 (nI i) (nI n) (if b = true then 1 else 0) σ (sa, nI k) = if cnt 31 (bt (nI j)) ≤ cnt 31 (bt (nI k)) then some (.inl (sa, nI (k + 1))) else f_X9_soups_j77 (nI i) (nI n) (if b = true then 1 else 0) sa (nI k) σ := by
          unfold f_X9_soups_b49 f_X9_soups_j82
          simp only
          rw [r1, q1, if_neg (nI_ge hk (by omega)), if_neg c9, bitCount_ok, bitCount_ok, bcN (by omega), bcN (by omega), Option.bind_some, Option.bind_some, if_pos trivial, cj]
          by_cases q : cnt 31 (bt (nI j)) ≤ cnt 31 (bt (nI k))
          · rw [if_pos (nI_le q (by omega)), if_pos q]
          · rw [if_neg (nI_ge (by omega) (by omega)), if_neg q]
        have bM : f_X10_soups_b45 (nI i) (nI n) (if b = true then 1 else 0) (ta, nI k, tc) = if cnt 31 (bt (nI j)) ≤ cnt 31 (bt (nI k)) then some (.inl (ta, nI (k + 1), tc)) else f_X10_soups_j71 (nI i) (nI n) (if b = true then 1 else 0) ta (nI k) tc := by
          unfold f_X10_soups_b45 f_X10_soups_j97
          simp only
          rw [r2, q1, if_neg (nI_ge hk (by omega)), if_neg (nI_pos (by omega)), bits_ok, bits_ok, Option.bind_some, Option.bind_some, mj]
          by_cases q : cnt 31 (bt (nI j)) ≤ cnt 31 (bt (nI k))
          · rw [if_pos (nI_le q (by omega)), if_pos q]
          · rw [if_neg (nI_ge (by omega) (by omega)), if_neg q]
        by_cases q : cnt 31 (bt (nI j)) ≤ cnt 31 (bt (nI k))
        · rw [if_pos q] at bC bM
          exact ⟨_, _, bC, bM, rfl, rfl, Or.inr ⟨j, hj, r1, r2⟩, i4', i5⟩
        · rw [if_neg q] at bC bM
          exact go2 bC bM) (fun s s' hI => by
      obtain ⟨sa, sb⟩ := s
      obtain ⟨ta, tb, tc⟩ := s'
      obtain ⟨i1, i2, i3, i4', i5⟩ := hI
      simp only at i1 i2 i3 i4' i5
      subst i1 i2
      refine ⟨sa, (ta, tc), ?_, ?_, i3, i4'⟩
      · unfold f_X9_soups_b49
        simp only
        rw [q1, if_pos (nI_le (Nat.le_refl _) (by omega))]
      · unfold f_X10_soups_b45
        simp only
        rw [q1, if_pos (nI_le (Nat.le_refl _) (by omega))]) (by omega) (s := ((-9 : Int32), (0 : Int32))) (s' := ((-1 : Int32), (0 : Int32), τ)) ⟨rfl, rfl, Or.inl ⟨rfl, rfl⟩, h, hτ⟩
  obtain ⟨ea', eb'⟩ := e'
  obtain ⟨k1, k2⟩ := g3
  simp only at k1 k2
  rw [g1, g2, Option.bind_some, Option.bind_some]
  rcases k1 with ⟨r1, r2⟩ | ⟨j, hj, r1, r2⟩
  · subst r1 r2
    simp only
    rw [if_neg (show ¬ (-9 : Int32) ≠ -9 from fun q => q rfl), if_neg (by decide)]
    exact Both_same k2
  · subst r1 r2
    have c9 : nI j ≠ -9 := fun q => by
      have := congrArg Int32.toInt q
      rw [nI_toInt (by omega)] at this
      have a9 : (-9 : Int32).toInt = -9 := rfl
      omega
    simp only
    rw [if_pos c9, if_pos (nI_pos' (by omega)), bitCount_ok, bcN (by omega), Option.bind_some, tells_ok, Option.bind_some, bits_ok, Option.bind_some]
    exact ⟨_, _, _, rfl, rfl, Sim_told _ k2⟩
