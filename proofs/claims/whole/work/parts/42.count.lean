/-! ===== counts, and the digest of all ===== -/
def snz (t : TT) (i : Nat) : Bool := decide (tK t i = 1 ∨ tK t i = 4)
theorem sneezers_ok {σ : rf_S} {t : TT} (h : CT σ t) : f_X8_sneezers σ = some (nI (cnt (tM t) (snz t))) := by
  have hM := t_M (c_t h)
  unfold f_X8_sneezers
  rw [lp_cnt (tM t) (snz t) (by omega) ?_ ?_]
  · rfl
  · intro i x hi
    have hb := t_i (c_t h) hi
    unfold f_X8_sneezers_b4 f_X8_sneezers_j30 f_X8_kindOf
    simp only
    rw [c_M h, if_neg (nI_ge hi (by omega)), ck0_29, if_pos (in_ok (by omega) (by decide)), nI_clamp (by omega), c_K h hi, Option.bind_some, isOf1 hb.1, Option.bind_some, nI_1, nI_1]
    unfold snz
    by_cases e : tK t i = 1 ∨ tK t i = 4
    · rw [if_pos e, if_neg n10, decide_eq_true e, if_pos rfl]
    · rw [if_neg e, if_pos rfl, decide_eq_false e, if_neg (show ¬ false = true by decide)]
      rfl
  · intro x
    unfold f_X8_sneezers_b4
    simp only
    rw [c_M h, if_pos (nI_le (Nat.le_refl _) (by omega))]
theorem is1 {k : Nat} (hk : k < 6) (τ : rf_S) : f_X10_is (nI k) 1 τ = some (if k = 1 ∨ k = 4 then 1 else 0) := by
  match k, hk with
  | 0, _ | 1, _ | 2, _ | 3, _ | 4, _ | 5, _ => rfl
theorem msneez_ok {τ : rf_S} {t : TT} (h : MT τ 12 t) (w : Int32) : rf_lp (f_X10_count_b4 w τ) 5000 (0, 0) = some (nI (cnt (tM t) (snz t))) := by
  have hM := t_M (m_t h)
  refine lp_cnt (tM t) (snz t) (by omega) ?_ ?_
  · intro i x hi
    have hb := t_i (m_t h) hi
    unfold f_X10_count_b4 f_X10_count_j31
    simp only
    rw [m_M h, if_neg (nI_ge hi (by omega)), ck1_9, if_pos (in_ok (by omega) (by decide)), nI_clamp (by omega), m_K h hi, is1 hb.1, Option.bind_some, nI_1, nI_1, nI_a0]
    unfold snz
    by_cases e : tK t i = 1 ∨ tK t i = 4
    · rw [if_pos e, if_neg n10, decide_eq_true e, if_pos rfl]
    · rw [if_neg e, if_pos rfl, decide_eq_false e, if_neg (show ¬ false = true by decide)]
  · intro x
    unfold f_X10_count_b4
    simp only
    rw [m_M h, if_pos (nI_le (Nat.le_refl _) (by omega))]
theorem present_ok {c n : Nat} (hc : ∀ x, rf_ck ly0 0 c x = rf_in x n) (ha : rf_isA ly0 c = true) (hl : rf_len ly0 c = n) (hn : n ≤ 100) (σ : rf_S) : f_X9_present c σ = some (nI (cnt n (fun i => decide (0 ≤ σ.1 c i)))) := by
  unfold f_X9_present
  rw [if_pos ha, hl, lp_cnt n (fun i => decide (0 ≤ σ.1 c i)) (by omega) ?_ ?_]
  · rfl
  · intro i x hi
    unfold f_X9_present_b10 f_X9_present_j30
    simp only
    rw [if_neg (show ¬ Int32.ofNat n ≤ nI i from nI_ge hi (by omega)), hc, if_pos (in_ok hi (by omega)), nI_clamp (by omega), nI_1, nI_1]
    by_cases e : 0 ≤ σ.1 c i
    · rw [if_neg (Int32.not_lt.mpr e), decide_eq_true e, if_pos rfl]
    · rw [if_pos (Int32.not_le.mp e), decide_eq_false e, if_neg (show ¬ false = true by decide)]
      rfl
  · intro x
    unfold f_X9_present_b10
    simp only
    rw [if_pos (show Int32.ofNat n ≤ nI n from nI_le (Nat.le_refl n) (by omega))]
theorem thereOf_ok {c n : Nat} (hc : ∀ x, rf_ck ly1 0 c x = rf_in x n) (ha : rf_isA ly1 c = true) (hl : rf_len ly1 c = n) (hn : n ≤ 100) (τ : rf_S) : f_X10_thereOf c τ = some (nI (cnt n (fun i => decide (0 ≤ τ.1 c i)))) := by
  unfold f_X10_thereOf
  rw [if_pos ha, hl, lp_cnt n (fun i => decide (0 ≤ τ.1 c i)) (by omega) ?_ ?_]
  · rfl
  · intro i x hi
    unfold f_X10_thereOf_b10 f_X10_thereOf_j33
    simp only
    rw [if_neg (show ¬ Int32.ofNat n ≤ nI i from nI_ge hi (by omega)), hc, if_pos (in_ok hi (by omega)), nI_clamp (by omega), nI_1, nI_1, nI_a0]
    by_cases e : 0 ≤ τ.1 c i
    · rw [if_pos e, decide_eq_true e, if_pos rfl]
    · rw [if_neg e, decide_eq_false e, if_neg (show ¬ false = true by decide)]
  · intro x
    unfold f_X10_thereOf_b10
    simp only
    rw [if_pos (show Int32.ofNat n ≤ nI n from nI_le (Nat.le_refl n) (by omega))]
theorem Sim_kept {σ τ : rf_S} (h : Sim σ τ) : ∀ k, k < 3 → τ.1 17 k = σ.1 44 k := by
  obtain ⟨t0, n, H, E, h1, h2, h3, h4, h5, h6, h7⟩ := h.2.2.2
  intro k hk
  rcases h7 k hk with ⟨a, b⟩ | ⟨m, H', E', -, a, b, c, -⟩
  · rw [a, b]
  · rw [b, c]
theorem Sim_n {σ τ : rf_S} (h : Sim σ τ) : τ.1 0 25 = σ.1 38 3 := by
  obtain ⟨t0, n, H, E, h1, h2, h3, h4, ⟨-, a, b, -⟩, -⟩ := h.2.2.2
  rw [a, b]
theorem sim_count {σ τ : rf_S} (h : Sim σ τ) (w : Int32) : ∃ v, f_X9_count w σ = some v ∧ f_X10_count w τ = some v := by
  obtain ⟨t, hσ, hτ⟩ := Sim_town h
  unfold f_X9_count f_X10_count f_X8_members f_X8_rooms
  rw [msneez_ok hτ, sneezers_ok hσ, doers_ok hσ, doing_ok hτ, present_ok (c := 9) (n := 6) ck0_9 rfl rfl (by omega), present_ok (c := 16) (n := 4) ck0_16 rfl rfl (by omega), present_ok (c := 44) (n := 3) ck0_44 rfl rfl (by omega), thereOf_ok (c := 1) (n := 6) ck1_1 rfl rfl (by omega), thereOf_ok (c := 3) (n := 4) ck1_3 rfl rfl (by omega), thereOf_ok (c := 17) (n := 3) ck1_17 rfl rfl (by omega)]
  rw [cnt_congr (q := fun i => decide (0 ≤ σ.1 9 i)) (p := fun i => decide (0 ≤ τ.1 1 i)) (n := 6) (fun i hi => by rw [(h.2.1 i hi).1]), cnt_congr (q := fun i => decide (0 ≤ σ.1 16 i)) (p := fun i => decide (0 ≤ τ.1 3 i)) (n := 4) (fun i hi => by rw [(h.2.2.1 i hi).1]), cnt_congr (q := fun i => decide (0 ≤ σ.1 44 i)) (p := fun i => decide (0 ≤ τ.1 17 i)) (n := 3) (fun i hi => by rw [Sim_kept h i hi])]
  rw [c_M hσ, c_R hσ, c_H hσ, c_P hσ, c_S hσ, m_M hτ, m_R hτ, Sim_n h, ck1_12, ck1_12, ck1_12, if_pos (show rf_in 22 25 = true from rfl), if_pos (show rf_in 23 25 = true from rfl), if_pos (show rf_in 24 25 = true from rfl), show (22 : Int32).toNatClampNeg = 22 from rfl, show (23 : Int32).toNatClampNeg = 23 from rfl, show (24 : Int32).toNatClampNeg = 24 from rfl, m_H hτ, m_S hτ, m_P hτ]
  simp only [Option.bind_some]
  by_cases e0 : w = 0
  · exact ⟨_, if_pos e0, if_pos e0⟩
  simp only [if_neg e0]
  by_cases e1 : w = 1
  · exact ⟨_, if_pos e1, if_pos e1⟩
  simp only [if_neg e1]
  by_cases e2 : w = 2
  · exact ⟨_, if_pos e2, if_pos e2⟩
  simp only [if_neg e2]
  by_cases e3 : w = 3
  · exact ⟨_, if_pos e3, if_pos e3⟩
  simp only [if_neg e3]
  by_cases e4 : w = 4
  · exact ⟨_, if_pos e4, if_pos e4⟩
  simp only [if_neg e4]
  by_cases e5 : w = 5
  · exact ⟨_, if_pos e5, if_pos e5⟩
  simp only [if_neg e5]
  by_cases e6 : w = 6
  · exact ⟨_, if_pos e6, if_pos e6⟩
  simp only [if_neg e6]
  by_cases e7 : w = 7
  · exact ⟨_, if_pos e7, if_pos e7⟩
  simp only [if_neg e7]
  by_cases e8 : w = 8
  · exact ⟨_, if_pos e8, if_pos e8⟩
  simp only [if_neg e8]
  by_cases e9 : w = 9
  · exact ⟨_, if_pos e9, if_pos e9⟩
  simp only [if_neg e9]
  by_cases e10 : w = 10
  · exact ⟨_, if_pos e10, if_pos e10⟩
  simp only [if_neg e10]
  exact ⟨_, rfl, rfl⟩
/-! ## the digest -/
def it (F : Nat → Int64 → Int64) : Nat → Int64 → Int64
  | 0, h => h
  | n + 1, h => F n (it F n h)
theorem lp_it {b : Int64 × Int32 → Option ((Int64 × Int32) ⊕ Int64)} (F : Nat → Int64 → Int64) (n : Nat) (hn : n < 5000) (h0 : Int64) (hs : ∀ k x, k < n → b (x, nI k) = some (.inl (F k x, nI (k + 1)))) (he : ∀ x, b (x, nI n) = some (.inr x)) : rf_lp b 5000 (h0, 0) = some (it F n h0) :=
  lp_for (fun k => (it F k h0, nI k)) n (fun k hk => hs k _ hk) (he _) hn
theorem getD_both {A B : Option Int32} (h : ∃ v, A = some v ∧ B = some v) : A = some (A.getD 0) ∧ B = some (A.getD 0) := by
  obtain ⟨v, rfl, rfl⟩ := h
  exact ⟨rfl, rfl⟩
def hV (v : Nat → Int32) (k : Nat) (x : Int64) : Int64 := 31 * x + (v k).toInt64
def sz (x : Int32) : Nat := if 0 ≤ x then x.toNatClampNeg else 0
theorem sz_ok {x : Int32} {m : Nat} (h : x = -1 ∨ ∃ n, n ≤ m ∧ x = nI n) (hm : m ≤ 100) : sz x ≤ m ∧ (∀ k, k < sz x → ¬ x ≤ nI k) ∧ x ≤ nI (sz x) := by
  rcases h with rfl | ⟨n, hn, rfl⟩
  · exact ⟨by show 0 ≤ m; omega, fun k hk => absurd hk (by show ¬ k < 0; omega), by decide⟩
  · have e : sz (nI n) = n := by
      unfold sz
      rw [if_pos (nI_pos' (by omega)), nI_clamp (by omega)]
    rw [e]
    exact ⟨hn, fun k hk => nI_ge hk (by omega), nI_le (Nat.le_refl n) (by omega)⟩
theorem sim_digest {σ τ : rf_S} (h : Sim σ τ) : ∃ v, f_X9_digest σ = some v ∧ f_X10_digest τ = some v := by
  obtain ⟨t, hσ, hτ⟩ := Sim_town h
  have hM := t_M (c_t hσ)
  have hR := t_R (c_t hσ)
  have a1 : ∀ x, rf_lp (f_X9_digest_b6 σ) 5000 (x, 0) = some (it (hV (fun k => (f_X9_count (nI k) σ).getD 0)) 11 x) := fun x => by
    refine lp_it _ 11 (by omega) x (fun k y hk => ?_) (fun y => ?_)
    · unfold f_X9_digest_b6 hV
      simp only
      rw [if_neg (show ¬ (10 : Int32) < nI k from nI_nlt (b := 10) (a := 10) (Nat.le_refl _) (by decide) |> fun _ => fun q => by have := (lt_nI (a := 10) (b := k) (by decide) (by omega)).mp q; omega), (getD_both (sim_count h (nI k))).1, nI_1]
      rfl
    · unfold f_X9_digest_b6
      simp only
      rw [if_pos (show (10 : Int32) < nI 11 by decide)]
  have b1 : ∀ x, rf_lp (f_X10_digest_b6 τ) 5000 (x, 0) = some (it (hV (fun k => (f_X9_count (nI k) σ).getD 0)) 11 x) := fun x => by
    refine lp_it _ 11 (by omega) x (fun k y hk => ?_) (fun y => ?_)
    · unfold f_X10_digest_b6 hV
      simp only
      rw [if_neg (show ¬ (11 : Int32) ≤ nI k from nI_ge hk (by decide)), (getD_both (sim_count h (nI k))).2, nI_1]
      rfl
    · unfold f_X10_digest_b6
      simp only
      rw [if_pos (show (11 : Int32) ≤ nI 11 by decide)]
  have a2 : ∀ r x, rf_lp (f_X9_digest_b47 (nI r) σ) 5000 (x, 0) = some (it (hV (fun k => (f_X9_room (nI r) (nI k) σ).getD 0)) 4 x) := fun r x => by
    refine lp_it _ 4 (by omega) x (fun k y hk => ?_) (fun y => ?_)
    · unfold f_X9_digest_b47 hV
      simp only
      rw [if_neg (show ¬ (3 : Int32) < nI k from fun q => by have := (lt_nI (a := 3) (b := k) (by decide) (by omega)).mp q; omega), (getD_both (sim_room h (nI r) (nI k))).1, nI_1]
      rfl
    · unfold f_X9_digest_b47
      simp only
      rw [if_pos (show (3 : Int32) < nI 4 by decide)]
  have b2 : ∀ r x, rf_lp (f_X10_digest_b44 (nI r) τ) 5000 (x, 0) = some (it (hV (fun k => (f_X9_room (nI r) (nI k) σ).getD 0)) 4 x) := fun r x => by
    refine lp_it _ 4 (by omega) x (fun k y hk => ?_) (fun y => ?_)
    · unfold f_X10_digest_b44 hV
      simp only
      rw [if_neg (show ¬ (4 : Int32) ≤ nI k from nI_ge hk (by decide)), (getD_both (sim_room h (nI r) (nI k))).2, nI_1]
      rfl
    · unfold f_X10_digest_b44
      simp only
      rw [if_pos (show (4 : Int32) ≤ nI 4 by decide)]
  have a3 : ∀ x, rf_lp (f_X9_digest_b33 σ) 5000 (x, 0) = some (it (fun r => it (hV (fun k => (f_X9_room (nI r) (nI k) σ).getD 0)) 4) (tR t) x) := fun x => by
    refine lp_it _ (tR t) (by omega) x (fun k y hk => ?_) (fun y => ?_)
    · unfold f_X9_digest_b33 f_X8_rooms
      simp only [Option.bind_some]
      rw [c_R hσ, if_neg (nI_ge hk (by omega)), a2, nI_1]
      rfl
    · unfold f_X9_digest_b33 f_X8_rooms
      simp only [Option.bind_some]
      rw [c_R hσ, if_pos (nI_le (Nat.le_refl _) (by omega))]
  have b3 : ∀ x, rf_lp (f_X10_digest_b33 τ) 5000 (x, 0) = some (it (fun r => it (hV (fun k => (f_X9_room (nI r) (nI k) σ).getD 0)) 4) (tR t) x) := fun x => by
    refine lp_it _ (tR t) (by omega) x (fun k y hk => ?_) (fun y => ?_)
    · unfold f_X10_digest_b33
      simp only
      rw [m_R hτ, if_neg (nI_ge hk (by omega)), b2, nI_1]
      rfl
    · unfold f_X10_digest_b33
      simp only
      rw [m_R hτ, if_pos (nI_le (Nat.le_refl _) (by omega))]
  have a4 : ∀ r, r < tM t → ∀ x, rf_lp (f_X9_digest_b96 (nI r) σ) 5000 (x, 0) = some (it (hV (fun k => (f_X9_ofMember (nI r) (nI k) σ).getD 0)) 8 x) := fun r hr x => by
    refine lp_it _ 8 (by omega) x (fun k y hk => ?_) (fun y => ?_)
    · unfold f_X9_digest_b96 hV
      simp only
      rw [if_neg (show ¬ (7 : Int32) < nI k from fun q => by have := (lt_nI (a := 7) (b := k) (by decide) (by omega)).mp q; omega), (getD_both (ofMember_ok hσ hτ hr (nI k))).1, nI_1]
      rfl
    · unfold f_X9_digest_b96
      simp only
      rw [if_pos (show (7 : Int32) < nI 8 by decide)]
  have b4 : ∀ r, r < tM t → ∀ x, rf_lp (f_X10_digest_b90 (nI r) τ) 5000 (x, 0) = some (it (hV (fun k => (f_X9_ofMember (nI r) (nI k) σ).getD 0)) 8 x) := fun r hr x => by
    refine lp_it _ 8 (by omega) x (fun k y hk => ?_) (fun y => ?_)
    · unfold f_X10_digest_b90 hV
      simp only
      rw [if_neg (show ¬ (8 : Int32) ≤ nI k from nI_ge hk (by decide)), (getD_both (ofMember_ok hσ hτ hr (nI k))).2, nI_1]
      rfl
    · unfold f_X10_digest_b90
      simp only
      rw [if_pos (show (8 : Int32) ≤ nI 8 by decide)]
  have a5 : ∀ x, rf_lp (f_X9_digest_b82 σ) 5000 (x, 0) = some (it (fun r => it (hV (fun k => (f_X9_ofMember (nI r) (nI k) σ).getD 0)) 8) (tM t) x) := fun x => by
    refine lp_it _ (tM t) (by omega) x (fun k y hk => ?_) (fun y => ?_)
    · unfold f_X9_digest_b82 f_X8_members
      simp only [Option.bind_some]
      rw [c_M hσ, if_neg (nI_ge hk (by omega)), a4 k hk, nI_1]
      rfl
    · unfold f_X9_digest_b82 f_X8_members
      simp only [Option.bind_some]
      rw [c_M hσ, if_pos (nI_le (Nat.le_refl _) (by omega))]
  have b5 : ∀ x, rf_lp (f_X10_digest_b79 τ) 5000 (x, 0) = some (it (fun r => it (hV (fun k => (f_X9_ofMember (nI r) (nI k) σ).getD 0)) 8) (tM t) x) := fun x => by
    refine lp_it _ (tM t) (by omega) x (fun k y hk => ?_) (fun y => ?_)
    · unfold f_X10_digest_b79
      simp only
      rw [m_M hτ, if_neg (nI_ge hk (by omega)), b4 k hk, nI_1]
      rfl
    · unfold f_X10_digest_b79
      simp only
      rw [m_M hτ, if_pos (nI_le (Nat.le_refl _) (by omega))]
  have a6 : ∀ x, rf_lp (f_X9_digest_b132 σ) 5000 (x, 0) = some (it (hV (fun k => σ.1 44 k)) 3 x) := fun x => by
    refine lp_it _ 3 (by omega) x (fun k y hk => ?_) (fun y => ?_)
    · unfold f_X9_digest_b132 hV
      simp only
      rw [if_neg (show ¬ (3 : Int32) ≤ nI k from nI_ge hk (by decide)), ck0_44, if_pos (in_ok hk (by decide)), nI_clamp (by omega), nI_1]
    · unfold f_X9_digest_b132
      simp only
      rw [if_pos (show (3 : Int32) ≤ nI 3 by decide)]
  have b6 : ∀ x, rf_lp (f_X10_digest_b126 τ) 5000 (x, 0) = some (it (hV (fun k => σ.1 44 k)) 3 x) := fun x => by
    refine lp_it _ 3 (by omega) x (fun k y hk => ?_) (fun y => ?_)
    · unfold f_X10_digest_b126 hV
      simp only
      rw [if_neg (show ¬ (3 : Int32) ≤ nI k from nI_ge hk (by decide)), ck1_17, if_pos (in_ok hk (by decide)), nI_clamp (by omega), nI_1, Sim_kept h k hk]
    · unfold f_X10_digest_b126
      simp only
      rw [if_pos (show (3 : Int32) ≤ nI 3 by decide)]
  have a7 : ∀ r, r < 6 → ∀ x, rf_lp (f_X9_digestRows_b32 (nI r) σ) 5000 (x, 0) = some (it (hV (fun k => σ.1 (3 + r) k)) (sz (σ.1 9 r)) x) := fun r hr x => by
    obtain ⟨z1, z2, z3⟩ := sz_ok (h.2.1 r hr).2.1 (by omega)
    refine lp_it _ (sz (σ.1 9 r)) (by omega) x (fun k y hk => ?_) (fun y => ?_)
    · unfold f_X9_digestRows_b32 hV f_X4_sizeOf
      simp only
      rw [ck0_9, if_pos (in_ok hr (by decide)), nI_clamp (by omega), Option.bind_some, if_neg (z2 k hk), get_ok hr (by omega), nI_1]
      rfl
    · unfold f_X9_digestRows_b32 f_X4_sizeOf
      simp only
      rw [ck0_9, if_pos (in_ok hr (by decide)), nI_clamp (by omega), Option.bind_some, if_pos z3]
  have b7 : ∀ r, r < 6 → ∀ x, rf_lp (f_X10_digest_b176 (nI r) τ) 5000 (x, 0) = some (it (hV (fun k => σ.1 (3 + r) k)) (sz (σ.1 9 r)) x) := fun r hr x => by
    obtain ⟨z1, z2, z3⟩ := sz_ok (h.2.1 r hr).2.1 (by omega)
    refine lp_it _ (sz (σ.1 9 r)) (by omega) x (fun k y hk => ?_) (fun y => ?_)
    · unfold f_X10_digest_b176 hV
      simp only
      rw [ck1_1, if_pos (in_ok hr (by decide)), nI_clamp (by omega), (h.2.1 r hr).1, if_neg (z2 k hk), nI40, ck1_2, if_pos (in_ok (by omega) (by decide)), nI_clamp (by omega), (h.2.1 r hr).2.2 k (by omega), nI_1]
    · unfold f_X10_digest_b176
      simp only
      rw [ck1_1, if_pos (in_ok hr (by decide)), nI_clamp (by omega), (h.2.1 r hr).1, if_pos z3]
  have a8 : ∀ x, rf_lp (f_X9_digestRows_b5 σ) 5000 (x, 0) = some (it (fun r y => it (hV (fun k => σ.1 (3 + r) k)) (sz (σ.1 9 r)) (31 * y + (σ.1 9 r).toInt64)) 6 x) := fun x => by
    refine lp_it _ 6 (by omega) x (fun k y hk => ?_) (fun y => ?_)
    · unfold f_X9_digestRows_b5 f_X4_sizeOf
      simp only
      rw [if_neg (show ¬ (6 : Int32) ≤ nI k from nI_ge hk (by decide)), ck0_9, if_pos (in_ok hk (by decide)), nI_clamp (by omega), Option.bind_some, a7 k hk, nI_1]
      rfl
    · unfold f_X9_digestRows_b5
      simp only
      rw [if_pos (show (6 : Int32) ≤ nI 6 by decide)]
  have b8 : ∀ x, rf_lp (f_X10_digest_b153 τ) 5000 (x, 0) = some (it (fun r y => it (hV (fun k => σ.1 (3 + r) k)) (sz (σ.1 9 r)) (31 * y + (σ.1 9 r).toInt64)) 6 x) := fun x => by
    refine lp_it _ 6 (by omega) x (fun k y hk => ?_) (fun y => ?_)
    · unfold f_X10_digest_b153
      simp only
      rw [if_neg (show ¬ (6 : Int32) ≤ nI k from nI_ge hk (by decide)), ck1_1, if_pos (in_ok hk (by decide)), nI_clamp (by omega), (h.2.1 k hk).1, b7 k hk, nI_1]
      rfl
    · unfold f_X10_digest_b153
      simp only
      rw [if_pos (show (6 : Int32) ≤ nI 6 by decide)]
  have a9 : ∀ r, r < 4 → ∀ x, rf_lp (f_X9_digestTexts_b31 (nI r) σ) 5000 (x, 0) = some (it (hV (fun k => σ.1 (12 + r) k)) (sz (σ.1 16 r)) x) := fun r hr x => by
    obtain ⟨z1, z2, z3⟩ := sz_ok (h.2.2.1 r hr).2.1 (by omega)
    refine lp_it _ (sz (σ.1 16 r)) (by omega) x (fun k y hk => ?_) (fun y => ?_)
    · unfold f_X9_digestTexts_b31 hV f_X7_sizeOf
      simp only
      rw [ck0_16, if_pos (in_ok hr (by decide)), nI_clamp (by omega), Option.bind_some, if_neg (z2 k hk), tget_ok hr (by omega), nI_1]
      rfl
    · unfold f_X9_digestTexts_b31 f_X7_sizeOf
      simp only
      rw [ck0_16, if_pos (in_ok hr (by decide)), nI_clamp (by omega), Option.bind_some, if_pos z3]
  have b9 : ∀ r, r < 4 → ∀ x, rf_lp (f_X10_digest_b243 (nI r) τ) 5000 (x, 0) = some (it (hV (fun k => σ.1 (12 + r) k)) (sz (σ.1 16 r)) x) := fun r hr x => by
    obtain ⟨z1, z2, z3⟩ := sz_ok (h.2.2.1 r hr).2.1 (by omega)
    refine lp_it _ (sz (σ.1 16 r)) (by omega) x (fun k y hk => ?_) (fun y => ?_)
    · unfold f_X10_digest_b243 hV
      simp only
      rw [ck1_3, if_pos (in_ok hr (by decide)), nI_clamp (by omega), (h.2.2.1 r hr).1, if_neg (z2 k hk), nI60, ck1_4, if_pos (in_ok (by omega) (by decide)), nI_clamp (by omega), (h.2.2.1 r hr).2.2 k (by omega), nI_1]
    · unfold f_X10_digest_b243
      simp only
      rw [ck1_3, if_pos (in_ok hr (by decide)), nI_clamp (by omega), (h.2.2.1 r hr).1, if_pos z3]
  have a0 : ∀ x, rf_lp (f_X9_digestTexts_b5 σ) 5000 (x, 0) = some (it (fun r y => it (hV (fun k => σ.1 (12 + r) k)) (sz (σ.1 16 r)) (31 * y + (σ.1 16 r).toInt64)) 4 x) := fun x => by
    refine lp_it _ 4 (by omega) x (fun k y hk => ?_) (fun y => ?_)
    · unfold f_X9_digestTexts_b5 f_X7_sizeOf
      simp only
      rw [if_neg (show ¬ (4 : Int32) ≤ nI k from nI_ge hk (by decide)), ck0_16, if_pos (in_ok hk (by decide)), nI_clamp (by omega), Option.bind_some, a9 k hk, nI_1]
      rfl
    · unfold f_X9_digestTexts_b5
      simp only
      rw [if_pos (show (4 : Int32) ≤ nI 4 by decide)]
  have b0 : ∀ x, rf_lp (f_X10_digest_b221 τ) 5000 (x, 0) = some (it (fun r y => it (hV (fun k => σ.1 (12 + r) k)) (sz (σ.1 16 r)) (31 * y + (σ.1 16 r).toInt64)) 4 x) := fun x => by
    refine lp_it _ 4 (by omega) x (fun k y hk => ?_) (fun y => ?_)
    · unfold f_X10_digest_b221
      simp only
      rw [if_neg (show ¬ (4 : Int32) ≤ nI k from nI_ge hk (by decide)), ck1_3, if_pos (in_ok hk (by decide)), nI_clamp (by omega), (h.2.2.1 k hk).1, b9 k hk, nI_1]
      rfl
    · unfold f_X10_digest_b221
      simp only
      rw [if_pos (show (4 : Int32) ≤ nI 4 by decide)]
  unfold f_X9_digest f_X9_digestRows f_X9_digestTexts f_X10_digest
  simp only [a1, b1, a3, b3, a5, b5, a6, b6, a8, b8, a0, b0, Option.bind_some]
  exact ⟨_, rfl, rfl⟩
