/-! ===== the reference's ways ===== -/
/-- u is the town t behind the k last walks of way c -/
def WK (t : TT) (c k : Nat) (u : TT) : Prop := tok (40 + k) u ∧ cst t u ∧ (∀ i, tL u i = if tM t - k ≤ i ∧ i < tM t then dg (tR t) (tM t) c i else tL t i) ∧ (∀ q, tD u q = tD t q) ∧ (∀ i, tC u i = tC t i) ∧ u.2 = t.2 ∧ tH u = tH t ∧ tS u = tS t ∧ tP u + sm (tM t - k) (fun j => dist (tL t j) (dg (tR t) (tM t) c j)) = wS t (tM t) c
theorem WK_0 {t : TT} (h : tok 40 t) (c : Nat) : WK t c 0 (tset t 0 4 0) := by
  obtain ⟨h1, h2, h3, h4, h5, h6, h7, h8, h9⟩ := h
  refine ⟨⟨h1, h2, h3, h4, h5, h6, h7, h8, ?_⟩, ⟨rfl, rfl, fun _ => rfl, fun _ => ⟨rfl, rfl, rfl⟩⟩, fun i => ?_, fun _ => rfl, fun _ => rfl, rfl, rfl, rfl, ?_⟩
  · show 0 ≤ 3 * (40 + 0)
    omega
  · rw [if_neg (by omega)]
    rfl
  · show 0 + sm (tM t - 0) _ = _
    rw [Nat.zero_add]
    rfl
theorem mV_p0 {f : Nat → Int32} {t : TT} (h : mV f t) (hM : tM t ≤ 6) (hR : tR t ≤ 4) : mV (upd f 24 0) (tset t 0 4 0) := by
  obtain ⟨v1, v2, v3, v4, v5⟩ := h
  refine ⟨fun q hq => ?_, fun q hq => ?_, ?_, ?_, ?_⟩
  · have hq' : q < tR t := hq
    rw [upd_at, if_neg (by omega)]
    exact v1 q hq'
  · have hq' : q < tM t := hq
    rw [upd_at, if_neg (by omega), upd_at, if_neg (by omega), upd_at, if_neg (by omega)]
    exact v2 q hq'
  · rw [upd_at, if_neg (by omega)]
    exact v3
  · rw [upd_at, if_neg (by omega)]
    exact v4
  · rw [upd_at, if_pos rfl]
    rfl
theorem WK_succ {t u : TT} {c k : Nat} (hR : 0 < tR t) (hk : k < tM t) (h : WK t c k u) : WK t c (k + 1) (actT (0, tM t - 1 - k, ((c / tR t ^ k % tR t : Nat) : Int)) u) := by
  obtain ⟨h1, h2, h3, h4, h5, h6, h7, h8, h9⟩ := h
  have hd : dok (0, tM t - 1 - k, ((c / tR t ^ k % tR t : Nat) : Int)) u := by
    show tM t - 1 - k < tM u ∧ (0 : Int) ≤ ((c / tR t ^ k % tR t : Nat) : Int) ∧ ((c / tR t ^ k % tR t : Nat) : Int) < ((tR u : Nat) : Int)
    rw [h2.1, h2.2.1]
    have := Nat.mod_lt (c / tR t ^ k) hR
    omega
  have hdg : dg (tR t) (tM t) c (tM t - 1 - k) = c / tR t ^ k % tR t := by
    unfold dg
    rw [show tM t - 1 - (tM t - 1 - k) = k by omega]
  have hl : tL u (tM t - 1 - k) = tL t (tM t - 1 - k) := by rw [h3, if_neg (by omega)]
  refine ⟨act_tok h1 hd, cst_trans h2 (act_cst _ u), fun i => ?_, fun q => ?_, fun i => ?_, h6, h7, h8, ?_⟩
  · show (tset (tset u 0 4 _) 6 (tM t - 1 - k) (c / tR t ^ k % tR t)).1 6 i = _
    rw [tset_at]
    by_cases e : i = tM t - 1 - k
    · rw [if_pos ⟨rfl, e⟩, if_pos (by omega), e, hdg]
    · rw [if_neg (fun z => e z.2), tset_at, if_neg (fun z => absurd z.1 (by decide))]
      show tL u i = _
      rw [h3]
      by_cases e2 : tM t - k ≤ i ∧ i < tM t
      · rw [if_pos e2, if_pos (by omega)]
      · rw [if_neg e2, if_neg (by omega)]
  · show (tset (tset u 0 4 _) 6 (tM t - 1 - k) (c / tR t ^ k % tR t)).1 5 q = _
    rw [tset_at, if_neg (fun z => absurd z.1 (by decide)), tset_at, if_neg (fun z => absurd z.1 (by decide))]
    exact h4 q
  · show (tset (tset u 0 4 _) 6 (tM t - 1 - k) (c / tR t ^ k % tR t)).1 7 i = _
    rw [tset_at, if_neg (fun z => absurd z.1 (by decide)), tset_at, if_neg (fun z => absurd z.1 (by decide))]
    exact h5 i
  · have ep : tP (actT (0, tM t - 1 - k, ((c / tR t ^ k % tR t : Nat) : Int)) u) = tP u + dist (tL u (tM t - 1 - k)) (c / tR t ^ k % tR t) := by
      show (tset (tset u 0 4 _) 6 (tM t - 1 - k) (c / tR t ^ k % tR t)).1 0 4 = _
      rw [tset_at, if_neg (fun z => absurd z.1 (by decide)), tset_at, if_pos ⟨rfl, rfl⟩]
      rfl
    rw [ep, hl, ← h9, show tM t - k = (tM t - (k + 1)) + 1 by omega, sm, show tM t - (k + 1) = tM t - 1 - k by omega, hdg]
    omega
theorem WK_ds {t u : TT} {c k : Nat} (h : WK t c k u) (i d : Nat) : ds u i d = ds t i d := by
  obtain ⟨h1, h2, h3, h4, h5, h6, h7, h8, h9⟩ := h
  unfold ds wd wdAs fIs
  rw [h5, (h2.2.2.2 i).1, (h2.2.2.2 i).2.1, (h2.2.2.2 i).2.2, h7, h8]
  show (decide (tC t i = 0) && doB (tK t i) (feelZ (tK t i) ((tG t i : Int) + u.2 i) (tS t) (tH t)) (tW t i) d) = _
  rw [h6]
theorem WK_knw {t u : TT} {c : Nat} (hM : tM t ≤ 6) (h : WK t c (tM t) u) (r : Nat) : knw u r = wN t (tM t) c r := by
  have hd := WK_ds h
  obtain ⟨h1, h2, h3, h4, h5, h6, h7, h8, h9⟩ := h
  unfold knw wN
  rw [h2.2.2.1, h4]
  have e : ∀ d, spanP u (thr u r) (tD t r) d = wP t (tM t) c r d := by
    intro d
    unfold spanP wP
    rw [h2.2.1]
    refine allB_congr fun i hi => ?_
    unfold thr
    rw [b_bs _ (by rw [h2.2.1]; omega) (by omega), h2.2.1, decide_eq_true hi, h3, if_pos (by omega), hd, hd, Bool.true_and]
  rw [show spanP u (thr u r) (tD t r) = wP t (tM t) c r from funext e]
theorem rem_ok {a b : Nat} (ha : a < 2 ^ 31) (hb : 0 < b) (hb2 : b < 2 ^ 31) : nI a - nI a / nI b * nI b = nI (a % b) := by
  have h1 := Nat.div_add_mod a b
  rw [Nat.mul_comm] at h1
  rw [pk_div ha hb hb2, show nI (a / b) * nI b = nI (a / b * b) from pk_mul _ _, nat_sub (by omega)]
  exact congrArg nI (by omega)
theorem walkBy_ok {σ τ : rf_S} {t : TT} (h : Sim σ τ) (hτ : MT τ 12 t) (h40 : tok 40 t) (hR0 : 0 < tR t) {c : Nat} (hc : c < 2 ^ 31) : ∃ τ' u, f_X10_walkBy (nI c) τ = some τ' ∧ Sim σ τ' ∧ MT τ' 12 t ∧ MT τ' 13 u ∧ WK t c (tM t) u := by
  have hR := t_R (m_t hτ)
  have hM := t_M (m_t hτ)
  obtain ⟨τ1, a1, a2, a3, a4, a5⟩ := tried_ok h hτ
  unfold f_X10_walkBy
  rw [a1, Option.bind_some, if_pos (show rf_ck ly1 0 13 24 = true from rfl), show (24 : Int32).toNatClampNeg = 24 from rfl]
  have hM0 : (rf_sI τ1 13 24 0).1 0 17 = nI (tM t) := by
    rw [sI_1, if_neg (by decide), a4 0 (by decide)]
    exact m_M hτ
  have em : nI (tM t) - 1 = iI ((tM t : Int) - 1) := by
    rw [← iI_nat, show (1 : Int32) = iI 1 from rfl, iI_sub]
  rw [hM0, em]
  have hMT0 : MT (rf_sI τ1 13 24 0) 13 (tset t 0 4 0) := by
    rw [sI_eq]
    have hw := WK_0 h40 0
    exact MT_sA (Or.inr rfl) a3 hw.2.1 (tok_mono hw.1 (by omega)) (mV_p0 a3.2.1 hM hR)
  have key : ∃ e, rf_lp f_X10_walkBy_b32 5000 (nI c, iI ((tM t : Int) - 1), rf_sI τ1 13 24 0) = some e ∧ ((∀ q, q ≠ 13 → e.1 q = τ.1 q) ∧ e.2 = τ.2 ∧ ∃ u, MT e 13 u ∧ WK t c (tM t) u) := by
    refine lp_inv (N := 5000) (fun k (s : Int32 × Int32 × rf_S) => s.1 = nI (c / tR t ^ k) ∧ s.2.1 = iI ((tM t : Int) - 1 - k) ∧ (∀ q, q ≠ 13 → s.2.2.1 q = τ.1 q) ∧ s.2.2.2 = τ.2 ∧ ∃ u, MT s.2.2 13 u ∧ WK t c k u) (tM t) ?_ (by omega) ⟨?_, ?_, ?_, ?_, tset t 0 4 0, hMT0, WK_0 h40 c⟩
    · rintro k ⟨z, w, s⟩ hk ⟨h1, h2, h3, h4, u, h5, h6⟩
      simp only at h1 h2 h3 h4 h5
      subst h1
      subst h2
      unfold f_X10_walkBy_b32
      simp only
      by_cases e : k = tM t
      · right
        refine ⟨s, ?_, h3, h4, u, h5, by rw [e] at h6; exact h6⟩
        rw [if_pos (show iI ((tM t : Int) - 1 - k) < 0 from (iI_lt (b := 0) (by omega) (by omega) (by omega) (by omega)).mpr (by omega))]
      · left
        have hkM : k < tM t := by omega
        have ei : iI ((tM t : Int) - 1 - k) = nI (tM t - 1 - k) := by
          rw [← iI_nat]
          exact congrArg iI (by omega)
        have e16 : s.1 0 16 = nI (tR t) := by
          rw [h3 0 (by decide)]
          exact m_R hτ
        have hcd : c / tR t ^ k < 2 ^ 31 := Nat.lt_of_le_of_lt (Nat.div_le_self _ _) hc
        have hR1 : ¬ nI (tR t) = 0 := neI (b := 0) (by omega) (by omega) (by omega)
        have hlt := Nat.mod_lt (c / tR t ^ k) hR0
        obtain ⟨g, g1, g2⟩ := step_ok (c := 13) (Or.inr rfl) h5 (i := tM t - 1 - k) (r := c / tR t ^ k % tR t) (by rw [h6.2.1.2.1]; omega) (by rw [h6.2.1.1]; exact hlt)
        have hw := WK_succ hR0 hkM h6
        refine ⟨(nI (c / tR t ^ (k + 1)), iI ((tM t : Int) - 1 - (k + 1 : Nat)), rf_sA s 13 g), hkM, ?_, rfl, rfl, ?_, ?_, _, MT_sA (Or.inr rfl) h5 (act_cst _ u) (tok_mono hw.1 (by omega)) g2, hw⟩
        · rw [if_neg (show ¬ iI ((tM t : Int) - 1 - k) < 0 from fun q => by rw [ei] at q; exact nI_pos (by omega) q), e16, if_neg hR1, rem_ok hcd hR0 (by omega), ei, g1, Option.bind_some, sA_1, if_neg (show ¬ 0 = 13 by decide), e16, if_neg hR1, pk_div hcd hR0 (by omega), ← ei, show (-1 : Int32) = iI (-1) from rfl, iI_add, Nat.div_div_eq_div_mul, ← Nat.pow_succ]
          exact congrArg (fun y => some (Sum.inl (nI (c / tR t ^ (k + 1)), y, rf_sA s 13 g))) (congrArg iI (by omega))
        · intro q hq
          show (rf_sA s 13 g).1 q = _
          rw [sA_1, if_neg hq]
          exact h3 q hq
        · exact h4
    · show nI c = nI (c / tR t ^ 0)
      rw [Nat.pow_zero, Nat.div_one]
    · show iI ((tM t : Int) - 1) = iI ((tM t : Int) - 1 - (0 : Nat))
      exact congrArg iI (by omega)
    · intro q hq
      show (rf_sI τ1 13 24 0).1 q = _
      rw [sI_1, if_neg hq]
      exact a4 q hq
    · exact a5
  obtain ⟨τ2, b1, b2, b3, u, b4, b5⟩ := key
  rw [b1, Option.bind_some]
  refine ⟨τ2, u, rfl, ?_, ?_, b4, b5⟩
  · exact Sim_fr h (fun _ _ _ _ => rfl) (fun q _ _ _ hq _ => b2 q hq) (fun j _ => by rw [b2 0 (by decide)]) rfl b3
  · obtain ⟨m1, m2, m3, m4⟩ := hτ
    refine ⟨?_, ?_, m3, m4⟩
    · unfold mC at *
      rw [b2 0 (by decide), b2 8 (by decide), b2 9 (by decide), b2 10 (by decide), b2 11 (by decide)]
      exact m1
    · rw [b2 12 (by decide)]
      exact m2
theorem pow_le {R M : Nat} (hR : R ≤ 4) (hM : M ≤ 6) : R ^ M ≤ 4096 := Nat.le_trans (Nat.pow_le_pow_left hR M) (Nat.le_trans (Nat.pow_le_pow_right (by omega) hM) (by decide))
theorem rways_ok {τ : rf_S} {c0 : Nat} {t : TT} (h : MT τ c0 t) : f_X10_ways τ = some (nI (tR t ^ tM t)) := by
  have hR := t_R (m_t h)
  have hM := t_M (m_t h)
  unfold f_X10_ways
  rw [show ((1 : Int32), (0 : Int32)) = (nI (tR t ^ 0), nI 0) by rw [Nat.pow_zero]; rfl, lp_for (N := 5000) (fun k => (nI (tR t ^ k), nI k)) (tM t) (e := nI (tR t ^ tM t)) ?_ ?_ (by omega)]
  · rfl
  · intro k hk
    unfold f_X10_ways_b4
    simp only
    rw [m_M h, m_R h, if_neg (nI_ge hk (by omega)), nI_1, show nI (tR t ^ k) * nI (tR t) = nI (tR t ^ k * tR t) from pk_mul _ _, Nat.pow_succ]
  · unfold f_X10_ways_b4
    simp only
    rw [m_M h, if_pos (nI_le (Nat.le_refl _) (by omega))]
theorem cnt_full : ∀ {n : Nat} {p : Nat → Bool}, cnt n p = n ↔ ∀ i, i < n → p i = true := by
  intro n
  induction n with
  | zero => intro p; exact ⟨fun _ i hi => by omega, fun _ => rfl⟩
  | succ n ih =>
    intro p
    have hle := cnt_le n p
    constructor
    · intro h i hi
      rw [cnt] at h
      have hp : p n = true := by
        cases e : p n with
        | true => rfl
        | false =>
          rw [e] at h
          simp at h
          omega
      rw [hp, if_pos rfl] at h
      by_cases e : i = n
      · rw [e]
        exact hp
      · exact ih.mp (by omega) i (by omega)
    · intro h
      rw [cnt, ih.mpr (fun i hi => h i (by omega)), h n (by omega), if_pos rfl]
theorem full_bs : ∀ m, m < 7 → nI (2 ^ m - 1) = bs m (fun _ => true) := by decide +kernel
theorem full_iff {m : Nat} (hm : m ≤ 4) (p : Nat → Bool) : bs m p = (1 : Int32) <<< (nI m &&& 31) - 1 ↔ cnt m p = m := by
  rw [(p2 m (by omega)).1, full_bs m (by omega), cnt_full]
  constructor
  · intro h i hi
    have e : bt (bs m p) i = bt (bs m (fun _ => true)) i := by rw [h]
    rw [b_bs _ (by omega) (by omega), b_bs _ (by omega) (by omega), decide_eq_true hi] at e
    simpa using e
  · intro h
    exact bs_congr fun i hi => h i hi
