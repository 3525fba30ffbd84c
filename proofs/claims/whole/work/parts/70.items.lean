/-! ===== reading: an item ===== -/
def rdC (σ σ' : rf_S) : Prop := (∀ c, ¬ (17 ≤ c ∧ c ≤ 24) → σ'.1 c = σ.1 c) ∧ σ'.2 = σ.2
def rdM (τ τ' : rf_S) : Prop := (∀ c, c ≠ 0 → c ≠ 6 → c ≠ 7 → τ'.1 c = τ.1 c) ∧ (∀ j, j ≠ 9 → j ≠ 12 → j ≠ 13 → τ'.1 0 j = τ.1 0 j) ∧ τ'.2 = τ.2
theorem rdC_mv {σ σ' : rf_S} (h : mvC σ σ') : rdC σ σ' := ⟨fun c hc => h.1 c (by omega), h.2⟩
theorem rdM_mv {τ τ' : rf_S} (h : mvM τ τ') : rdM τ τ' := ⟨fun c hc _ _ => h.1 c hc, fun j hj _ _ => h.2.1 j hj, h.2.2⟩
theorem rdC_trans {a b c : rf_S} (h : rdC a b) (g : rdC b c) : rdC a c := ⟨fun k hk => (g.1 k hk).trans (h.1 k hk), g.2.trans h.2⟩
theorem rdM_trans {a b c : rf_S} (h : rdM a b) (g : rdM b c) : rdM a c := ⟨fun k h1 h2 h3 => (g.1 k h1 h2 h3).trans (h.1 k h1 h2 h3), fun k h1 h2 h3 => (g.2.1 k h1 h2 h3).trans (h.2.1 k h1 h2 h3), g.2.2.trans h.2.2⟩
theorem rdC_sI {σ σ' : rf_S} (h : rdC σ σ') (c j : Nat) (x : Int32) (hc : 17 ≤ c ∧ c ≤ 24) : rdC σ (rf_sI σ' c j x) := ⟨fun k hk => by rw [sI_1, if_neg (show ¬ k = c by omega)]; exact h.1 k hk, h.2⟩
theorem rdM_s6 {τ τ' : rf_S} (h : rdM τ τ') (j : Nat) (x : Int32) : rdM τ (rf_sI τ' 6 j x) := ⟨fun c h1 h2 h3 => by rw [sI_1, if_neg h2]; exact h.1 c h1 h2 h3, fun i h1 h2 h3 => by rw [sI_1, if_neg (by decide)]; exact h.2.1 i h1 h2 h3, h.2.2⟩
theorem rdM_s7 {τ τ' : rf_S} (h : rdM τ τ') (j : Nat) (x : Int32) : rdM τ (rf_sI τ' 7 j x) := ⟨fun c h1 h2 h3 => by rw [sI_1, if_neg h3]; exact h.1 c h1 h2 h3, fun i h1 h2 h3 => by rw [sI_1, if_neg (by decide)]; exact h.2.1 i h1 h2 h3, h.2.2⟩
theorem rdM_s0 {τ τ' : rf_S} (h : rdM τ τ') (j : Nat) (x : Int32) (hj : j = 9 ∨ j = 12 ∨ j = 13) : rdM τ (rf_sI τ' 0 j x) := ⟨fun c h1 h2 h3 => by rw [sI_1, if_neg h1]; exact h.1 c h1 h2 h3, fun i h1 h2 h3 => by rw [sI_at, if_pos rfl, if_neg (by omega)]; exact h.2.1 i h1 h2 h3, h.2.2⟩
theorem Sim_rd {σ τ σ' τ' : rf_S} (h : Sim σ τ) (hc : rdC σ σ') (hm : rdM τ τ') : Sim σ' τ' := Sim_fr h (fun c _ a _ => hc.1 c a) (fun c a b d _ _ => hm.1 c a b d) (fun j hj => hm.2.1 j (by omega) (by omega) (by omega)) hc.2 hm.2.2
theorem Rd_rd {σ τ σ' τ' : rf_S} {r n p p' : Nat} {Z : Nat → Int32} (h : Rd σ τ r n p Z) (hc : rdC σ σ') (hm : rdM τ τ') (hp : p' ≤ n) (e1 : σ'.1 17 1 = nI p') (e2 : τ'.1 0 9 = nI p') : Rd σ' τ' r n p' Z := by
  obtain ⟨h1, h2, h3, h4, h5, h6, h7, h8, h9, h10⟩ := h
  refine ⟨Sim_rd h1 hc hm, h2, h3, hp, ?_, ?_, ?_, ?_, e1, e2⟩
  · rw [hc.1 16 (by omega)]
    exact h5
  · rw [hm.2.1 11 (by omega) (by omega) (by omega)]
    exact h6
  · rw [hm.2.1 10 (by omega) (by omega) (by omega)]
    exact h7
  · intro k hk
    rw [hc.1 (12 + r) (by omega), hm.1 4 (by omega) (by omega) (by omega)]
    exact h8 k hk
theorem nI_ne9 {f : Nat} (h : f ≤ 60) : ¬ nI f = -9 := fun q => nI_pos (show f < 2 ^ 31 by omega) (by rw [q]; decide)
theorem nI_ge0 {f : Nat} (h : f < 2 ^ 31) : (0 : Int32) ≤ nI f := Int32.not_lt.mp (nI_pos h)
def ItemOk (r n : Nat) (Z : Nat → Int32) (R M : Nat) (A B : Option (Int32 × rf_S)) : Prop := (∃ σ' τ' p' R' M', A = some (-9, σ') ∧ B = some (1, τ') ∧ Rd σ' τ' r n p' Z ∧ Pl σ' τ' R' M' ∧ R' + M' = R + M + 1) ∨ (∃ f σ' τ', f ≤ n ∧ A = some (nI f, σ') ∧ B = some (0, τ') ∧ τ'.1 0 9 = nI f ∧ Sim σ' τ')
theorem room_ok {σ τ : rf_S} {r n p R : Nat} {Z : Nat → Int32} (h : Rd σ τ r n p Z) (hp : p < n) (hP : Pl σ τ R 0) (hR : R < 4) : ItemOk r n Z R 0 (f_X3_readRoom (nI r) σ) (f_X10_isRoomItem τ) := by
  obtain ⟨h1, h2, h3, h4, h5, h6, h7, h8, h9, h10⟩ := id h
  obtain ⟨p1, p2, p3, p4, p5, p6, p7, p8, p9⟩ := id hP
  unfold f_X3_readRoom f_X10_isRoomItem
  rw [h9, h10, p3, p4, nI_1, if_neg (show ¬ nI R = 4 from fun q => absurd ((eq_nI (b := 4) (by omega) (by omega)).mp q) (by omega)), if_pos (show nI 0 ≤ 0 by decide)]
  have hc0 : mvC σ (rf_sI σ 17 1 (nI (p + 1))) := mvC_sI (mvC_refl σ) _ _
  have hm0 : mvM τ (rf_sI τ 0 9 (nI (p + 1))) := mvM_sI (mvM_refl τ) _
  have hR0 := Rd_mv h hc0 hm0 (show p + 1 ≤ n by omega) (by rw [sI_at, if_pos rfl, if_pos rfl]) (by rw [sI_at, if_pos rfl, if_pos rfl])
  generalize rf_sI σ 17 1 (nI (p + 1)) = σ0 at hc0 hR0 ⊢
  generalize rf_sI τ 0 9 (nI (p + 1)) = τ0 at hm0 hR0 ⊢
  obtain ⟨σ1, τ1, hc1, hm1, hN⟩ := two_ok hR0 (least := 0) (most := 30) (by omega) (by omega)
  rcases hN with ⟨a, a1, a2, eA, eB, a3, a4, a5, a6⟩ | ⟨f, f1, eA, eB, f2⟩
  rotate_left
  · right
    refine ⟨f, σ1, τ1, f1, ?_, ?_, f2, Sim_rd h1 (rdC_mv (mvC_trans hc0 hc1)) (rdM_mv (mvM_trans hm0 hm1))⟩
    · rw [show f_X3_readNumber (nI r) 2 0 30 σ0 = _ from eA, Option.bind_some]
      exact if_neg (nI_ne9 (by omega))
    · rw [show rf_lp f_X10_isRoomItem_b29 5000 (0, τ0) = some (.inr (0, τ1)) from lp_exit (by
        unfold f_X10_isRoomItem_b29
        simp only
        rw [if_neg (by decide), show f_X10_two 0 (30 + 0) τ0 = _ from eB, Option.bind_some, if_neg (show ¬ (0 : Int32) ≤ -1 by decide)]) 4999]
      rfl
  have e12 : τ1.1 0 12 = nI R := by rw [hm1.2.1 12 (by omega), hm0.2.1 12 (by omega), p3]
  have ix : 2 * nI R = nI (2 * R) := pk_mul 2 R
  have hs1 : rf_lp f_X10_isRoomItem_b29 5000 (0, τ0) = rf_lp f_X10_isRoomItem_b29 4999 (1, rf_sI τ1 6 (2 * R) (nI a)) := by
    refine lp_step ?_ 4999
    unfold f_X10_isRoomItem_b29
    simp only
    rw [if_neg (by decide), show f_X10_two 0 (30 + 0) τ0 = _ from eB, Option.bind_some]
    simp only
    rw [if_pos (nI_ge0 (by omega)), e12, ix, show nI (2 * R) + 0 = nI (2 * R) from by simp, ck1_6, if_pos (in_ok (by omega) (by decide)), nI_clamp (by omega)]
    rfl
  rw [hs1, show f_X3_readNumber (nI r) 2 0 30 σ0 = _ from eA, Option.bind_some]
  simp only
  rw [if_pos trivial]
  have hm1' : rdM τ (rf_sI τ1 6 (2 * R) (nI a)) := rdM_s6 (rdM_mv (mvM_trans hm0 hm1)) _ _
  have hR1 := Rd_rd h (rdC_mv (mvC_trans hc0 hc1)) hm1' a4 a5 (by rw [sI_1, if_neg (by decide)]; exact a6)
  have k6 : ∀ j, (rf_sI τ1 6 (2 * R) (nI a)).1 6 j = if j = 2 * R then nI a else τ.1 6 j := by
    intro j
    rw [sI_at, if_pos rfl, hm1.1 6 (by omega), hm0.1 6 (by omega)]
  have k7 : (rf_sI τ1 6 (2 * R) (nI a)).1 7 = τ.1 7 := by
    rw [sI_1, if_neg (by decide), hm1.1 7 (by omega), hm0.1 7 (by omega)]
  have k12 : (rf_sI τ1 6 (2 * R) (nI a)).1 0 12 = nI R := by rw [sI_1, if_neg (by decide), e12]
  have k13 : (rf_sI τ1 6 (2 * R) (nI a)).1 0 13 = nI 0 := by rw [sI_1, if_neg (by decide), hm1.2.1 13 (by omega), hm0.2.1 13 (by omega), p4]
  generalize rf_sI τ1 6 (2 * R) (nI a) = τ1' at hm1' hR1 k6 k7 k12 k13 ⊢
  obtain ⟨σ2, τ2, hc2, hm2, hN⟩ := two_ok hR1 (least := 1) (most := 31) (by omega) (by omega)
  rcases hN with ⟨b, b1, b2, eA2, eB2, b3, b4, b5, b6⟩ | ⟨f, f1, eA2, eB2, f2⟩
  rotate_left
  · right
    refine ⟨f, σ2, τ2, f1, ?_, ?_, f2, Sim_rd h1 (rdC_mv (mvC_trans (mvC_trans hc0 hc1) hc2)) (rdM_trans hm1' (rdM_mv hm2))⟩
    · rw [show f_X3_readNumber (nI r) 2 1 31 σ1 = _ from eA2, Option.bind_some]
      exact if_neg (nI_ne9 (by omega))
    · rw [show rf_lp f_X10_isRoomItem_b29 4999 (1, τ1') = some (.inr (0, τ2)) from lp_exit (by
        unfold f_X10_isRoomItem_b29
        simp only
        rw [if_neg (by decide), show f_X10_two 1 (30 + 1) τ1' = _ from eB2, Option.bind_some, if_neg (show ¬ (0 : Int32) ≤ -1 by decide)]) 4998]
      rfl
  left
  have e12' : τ2.1 0 12 = nI R := by rw [hm2.2.1 12 (by omega), k12]
  have hs2 : rf_lp f_X10_isRoomItem_b29 4999 (1, τ1') = rf_lp f_X10_isRoomItem_b29 4998 (2, rf_sI τ2 6 (2 * R + 1) (nI b)) := by
    refine lp_step ?_ 4998
    unfold f_X10_isRoomItem_b29
    simp only
    rw [if_neg (by decide), show f_X10_two 1 (30 + 1) τ1' = _ from eB2, Option.bind_some]
    simp only
    rw [if_pos (nI_ge0 (by omega)), e12', ix, nI_1, ck1_6, if_pos (in_ok (by omega) (by decide)), nI_clamp (by omega)]
    rfl
  rw [hs2, show f_X3_readNumber (nI r) 2 1 31 σ1 = _ from eA2, Option.bind_some]
  simp only
  rw [if_pos trivial, a3, b3]
  have hx : rf_lp f_X10_isRoomItem_b29 4998 (2, rf_sI τ2 6 (2 * R + 1) (nI b)) = some (.inl (rf_sI τ2 6 (2 * R + 1) (nI b))) := by
    refine lp_exit ?_ 4997
    unfold f_X10_isRoomItem_b29
    exact if_pos (show (2 : Int32) ≤ 2 by decide)
  have hcc : mvC σ σ2 := mvC_trans (mvC_trans hc0 hc1) hc2
  have s6 : σ2.1 18 6 = nI R := by rw [hcc.1 18 (by omega), p1]
  have s7 : σ2.1 18 7 = nI 0 := by rw [hcc.1 18 (by omega), p2]
  have hadd : f_X2_addRoom (nI a) (nI b) σ2 = some (rf_sI (rf_sI (rf_sI σ2 19 R (nI a)) 20 R (nI b)) 18 6 (nI (R + 1))) := by
    unfold f_X2_addRoom f_X2_hasSpaceForRoom
    rw [s6, s7, if_neg (show ¬ nI 0 ≠ 0 by decide), if_neg (show ¬ (4 : Int32) ≤ nI R from nI_ge (b := 4) hR (by omega)), Option.bind_some, if_neg n10, nI_clamp (by omega), sI_1, if_neg (show ¬ 18 = 19 by decide), s6, ck0_19, ck0_20, if_pos (in_ok hR (by decide)), if_pos (in_ok hR (by decide)), Option.bind_some, nI_clamp (by omega), sI_1, if_neg (show ¬ 18 = 20 by decide), sI_1, if_neg (show ¬ 18 = 19 by decide), s6, nI_1]
  rw [hx, hadd]
  have hcf : rdC σ (rf_sI (rf_sI (rf_sI σ2 19 R (nI a)) 20 R (nI b)) 18 6 (nI (R + 1))) := rdC_sI (rdC_sI (rdC_sI (rdC_mv hcc) _ _ _ (by omega)) _ _ _ (by omega)) _ _ _ (by omega)
  have hmf : rdM τ (rf_sI (rf_sI τ2 6 (2 * R + 1) (nI b)) 0 12 (nI (R + 1))) := rdM_s0 (rdM_s6 (rdM_trans hm1' (rdM_mv hm2)) _ _) _ _ (by omega)
  refine ⟨_, rf_sI (rf_sI τ2 6 (2 * R + 1) (nI b)) 0 12 (nI (R + 1)), p + 1 + 2 + 2, R + 1, 0, rfl, ?_, Rd_rd h hcf hmf b4 ?_ ?_, ?_, by omega⟩
  · rw [Option.bind_some]
    simp only [Sum.elim_inl]
    rw [sI_1, if_neg (show ¬ 0 = 6 by decide), e12', nI_1]
  · rw [sI_1, if_neg (by decide), sI_1, if_neg (by decide), sI_1, if_neg (by decide), b5]
  · rw [sI_at, if_pos rfl, if_neg (by decide), sI_1, if_neg (by decide), b6]
  · refine ⟨?_, ?_, ?_, ?_, by omega, by omega, by omega, ?_, fun q hq => by omega⟩
    · rw [sI_at, if_pos rfl, if_pos rfl]
    · rw [sI_at, if_pos rfl, if_neg (by decide), sI_1, if_neg (by decide), sI_1, if_neg (by decide), s7]
    · rw [sI_at, if_pos rfl, if_pos rfl]
    · rw [sI_at, if_pos rfl, if_neg (by decide), sI_1, if_neg (by decide), hm2.2.1 13 (by omega), k13]
    · intro q hq
      have c19 : (rf_sI (rf_sI (rf_sI σ2 19 R (nI a)) 20 R (nI b)) 18 6 (nI (R + 1))).1 19 q = if q = R then nI a else σ.1 19 q := by
        rw [sI_1, if_neg (by decide), sI_1, if_neg (by decide), sI_at, if_pos rfl, hcc.1 19 (by omega)]
      have c20 : (rf_sI (rf_sI (rf_sI σ2 19 R (nI a)) 20 R (nI b)) 18 6 (nI (R + 1))).1 20 q = if q = R then nI b else σ.1 20 q := by
        rw [sI_1, if_neg (by decide), sI_at, if_pos rfl, sI_1, if_neg (show ¬ 20 = 19 by decide), hcc.1 20 (by omega)]
      have m6 : ∀ j, (rf_sI (rf_sI τ2 6 (2 * R + 1) (nI b)) 0 12 (nI (R + 1))).1 6 j = if j = 2 * R + 1 then nI b else if j = 2 * R then nI a else τ.1 6 j := by
        intro j
        rw [sI_1, if_neg (by decide), sI_at, if_pos rfl, hm2.1 6 (by omega), k6]
      unfold PlR
      rw [c19, c20, m6, m6]
      by_cases eq : q = R
      · rw [eq, if_pos rfl, if_pos rfl, if_neg (show ¬ 2 * R = 2 * R + 1 by omega), if_pos rfl, if_pos rfl]
        exact ⟨a, b, a2, b1, b2, rfl, rfl, rfl, rfl⟩
      · rw [if_neg eq, if_neg eq, if_neg (show ¬ 2 * q = 2 * R + 1 by omega), if_neg (show ¬ 2 * q = 2 * R by omega), if_neg (show ¬ 2 * q + 1 = 2 * R + 1 by omega), if_neg (show ¬ 2 * q + 1 = 2 * R by omega)]
        exact p8 q (by omega)
theorem member_ok {σ τ : rf_S} {r n p R M k : Nat} {Z : Nat → Int32} (h : Rd σ τ r n p Z) (hp : p < n) (hP : Pl σ τ R M) (hR : 0 < R) (hM : M < 6) (hk : k < 6) (hs : f_X10_sortBy (Z p) τ = some (nI k)) : ItemOk r n Z R M (f_X3_readMember (nI r) (nI k) σ) (f_X10_isMemberItem τ) := by
  obtain ⟨h1, h2, h3, h4, h5, h6, h7, h8, h9, h10⟩ := id h
  obtain ⟨p1, p2, p3, p4, p5, p6, p7, p8, p9⟩ := id hP
  have hL := Lt_of h
  have ix : 4 * nI M = nI (4 * M) := pk_mul 4 M
  unfold f_X3_readMember f_X10_isMemberItem
  rw [h9, h10, p3, p4, nI_1, letter_ok hL (by omega), if_pos hp, Option.bind_some, hs, Option.bind_some, if_neg (nI_pos (by omega)), if_neg (show ¬ nI R = 0 from fun q => absurd ((eq_nI (b := 0) (by omega) (by omega)).mp q) (by omega)), if_pos (show nI M ≠ 6 from neI (b := 6) (by omega) (by omega) (by omega)), ix, ck1_7, if_pos (in_ok (by omega) (by decide)), nI_clamp (by omega), Option.bind_some]
  have hc0 : mvC σ (rf_sI σ 17 1 (nI (p + 1))) := mvC_sI (mvC_refl σ) _ _
  have hm0 : rdM τ (rf_sI (rf_sI τ 0 9 (nI (p + 1))) 7 (4 * M) (nI k)) := rdM_s7 (rdM_mv (mvM_sI (mvM_refl τ) _)) _ _
  have hR0 := Rd_rd h (rdC_mv hc0) hm0 (show p + 1 ≤ n by omega) (by rw [sI_at, if_pos rfl, if_pos rfl]) (by rw [sI_1, if_neg (by decide), sI_at, if_pos rfl, if_pos rfl])
  have i7 : ∀ j, (rf_sI (rf_sI τ 0 9 (nI (p + 1))) 7 (4 * M) (nI k)).1 7 j = if j = 4 * M then nI k else τ.1 7 j := fun j => by
    rw [sI_at, if_pos rfl, sI_1, if_neg (show ¬ 7 = 0 by decide)]
  have i6 : (rf_sI (rf_sI τ 0 9 (nI (p + 1))) 7 (4 * M) (nI k)).1 6 = τ.1 6 := by rw [sI_1, if_neg (by decide), sI_1, if_neg (by decide)]
  have i12 : (rf_sI (rf_sI τ 0 9 (nI (p + 1))) 7 (4 * M) (nI k)).1 0 12 = nI R := by rw [sI_1, if_neg (by decide), sI_at, if_pos rfl, if_neg (by decide), p3]
  have i13 : (rf_sI (rf_sI τ 0 9 (nI (p + 1))) 7 (4 * M) (nI k)).1 0 13 = nI M := by rw [sI_1, if_neg (by decide), sI_at, if_pos rfl, if_neg (by decide), p4]
  generalize rf_sI σ 17 1 (nI (p + 1)) = σ0 at hc0 hR0 ⊢
  generalize rf_sI (rf_sI τ 0 9 (nI (p + 1))) 7 (4 * M) (nI k) = τ0 at hm0 hR0 i7 i6 i12 i13 ⊢
  -- the degree
  obtain ⟨σ1, τ1, hc1, hm1, hN⟩ := two_ok hR0 (least := 0) (most := 30) (by omega) (by omega)
  have st1 : ∀ (x : Int32 × rf_S), f_X10_two 0 30 τ0 = some x → f_X10_isMemberItem_b60 (nI (4 * M)) (1, τ0) = f_X10_isMemberItem_j100 (nI (4 * M)) 1 x.1 x.2 := by
    intro x hx
    unfold f_X10_isMemberItem_b60
    simp only
    rw [if_neg (by decide), if_neg (show ¬ (1 : Int32) ≠ 1 by decide), hx, Option.bind_some]
  rcases hN with ⟨a, a1, a2, eA, eB, a3, a4, a5, a6⟩ | ⟨f, f1, eA, eB, f2⟩
  rotate_left
  · right
    refine ⟨f, σ1, τ1, f1, ?_, ?_, f2, Sim_rd h1 (rdC_mv (mvC_trans hc0 hc1)) (rdM_trans hm0 (rdM_mv hm1))⟩
    · rw [show f_X3_readNumber (nI r) 2 0 30 σ0 = _ from eA, Option.bind_some]
      exact if_neg (nI_ne9 (by omega))
    · rw [show rf_lp (f_X10_isMemberItem_b60 (nI (4 * M))) 5000 (1, τ0) = some (.inr (0, τ1)) from lp_exit (by
        rw [st1 _ eB]
        unfold f_X10_isMemberItem_j100
        exact if_neg (show ¬ (0 : Int32) ≤ -1 by decide)) 4999]
      rfl
  have hs1 : rf_lp (f_X10_isMemberItem_b60 (nI (4 * M))) 5000 (1, τ0) = rf_lp (f_X10_isMemberItem_b60 (nI (4 * M))) 4999 (2, rf_sI τ1 7 (4 * M + 1) (nI a)) := by
    refine lp_step ?_ 4999
    rw [st1 _ eB]
    unfold f_X10_isMemberItem_j100
    simp only
    rw [if_pos (nI_ge0 (by omega)), nI_1, ck1_7, if_pos (in_ok (by omega) (by decide)), nI_clamp (by omega)]
    rfl
  rw [hs1, show f_X3_readNumber (nI r) 2 0 30 σ0 = _ from eA, Option.bind_some]
  simp only
  rw [if_pos trivial]
  have hc1' := mvC_trans hc0 hc1
  have hm1' : rdM τ (rf_sI τ1 7 (4 * M + 1) (nI a)) := rdM_s7 (rdM_trans hm0 (rdM_mv hm1)) _ _
  have hR1 := Rd_rd h (rdC_mv hc1') hm1' a4 a5 (by rw [sI_1, if_neg (by decide)]; exact a6)
  have j7 : ∀ j, (rf_sI τ1 7 (4 * M + 1) (nI a)).1 7 j = if j = 4 * M + 1 then nI a else if j = 4 * M then nI k else τ.1 7 j := by
    intro j
    rw [sI_at, if_pos rfl, hm1.1 7 (by omega), i7]
  have j6 : (rf_sI τ1 7 (4 * M + 1) (nI a)).1 6 = τ.1 6 := by
    rw [sI_1, if_neg (by decide), hm1.1 6 (by omega), i6]
  have j12 : (rf_sI τ1 7 (4 * M + 1) (nI a)).1 0 12 = nI R := by rw [sI_1, if_neg (by decide), hm1.2.1 12 (by omega), i12]
  have j13 : (rf_sI τ1 7 (4 * M + 1) (nI a)).1 0 13 = nI M := by rw [sI_1, if_neg (by decide), hm1.2.1 13 (by omega), i13]
  generalize rf_sI τ1 7 (4 * M + 1) (nI a) = τ1' at hm1' hR1 j7 j6 j12 j13 ⊢
  -- the width
  obtain ⟨σ2, τ2, hc2, hm2, hN⟩ := one_ok hR1 (most := 9) (by omega)
  have st2 : ∀ (x : Int32 × rf_S), f_X10_one 9 τ1' = some x → f_X10_isMemberItem_b60 (nI (4 * M)) (2, τ1') = f_X10_isMemberItem_j100 (nI (4 * M)) 2 x.1 x.2 := by
    intro x hx
    unfold f_X10_isMemberItem_b60 f_X10_isMemberItem_j97
    simp only
    rw [if_neg (by decide), if_pos (show (2 : Int32) ≠ 1 by decide), if_neg (show ¬ (2 : Int32) ≠ 2 by decide), hx, Option.bind_some]
  rcases hN with ⟨w, w1, w2, eA2, eB2, w3, w4, w5, w6⟩ | ⟨f, f1, eA2, eB2, f2⟩
  rotate_left
  · right
    refine ⟨f, σ2, τ2, f1, ?_, ?_, f2, Sim_rd h1 (rdC_mv (mvC_trans hc1' hc2)) (rdM_trans hm1' (rdM_mv hm2))⟩
    · rw [show f_X3_readNumber (nI r) 1 0 9 σ1 = _ from eA2, Option.bind_some]
      exact if_neg (nI_ne9 (by omega))
    · rw [show rf_lp (f_X10_isMemberItem_b60 (nI (4 * M))) 4999 (2, τ1') = some (.inr (0, τ2)) from lp_exit (by
        rw [st2 _ eB2]
        unfold f_X10_isMemberItem_j100
        exact if_neg (show ¬ (0 : Int32) ≤ -1 by decide)) 4998]
      rfl
  have hs2 : rf_lp (f_X10_isMemberItem_b60 (nI (4 * M))) 4999 (2, τ1') = rf_lp (f_X10_isMemberItem_b60 (nI (4 * M))) 4998 (3, rf_sI τ2 7 (4 * M + 2) (nI w)) := by
    refine lp_step ?_ 4998
    rw [st2 _ eB2]
    unfold f_X10_isMemberItem_j100
    simp only
    rw [if_pos (nI_ge0 (by omega)), show nI (4 * M) + 2 = nI (4 * M + 2) from nI_add _ 2, ck1_7, if_pos (in_ok (by omega) (by decide)), nI_clamp (by omega)]
    rfl
  rw [hs2, show f_X3_readNumber (nI r) 1 0 9 σ1 = _ from eA2, Option.bind_some]
  simp only
  rw [if_pos trivial]
  have hc2' := mvC_trans hc1' hc2
  have hm2' : rdM τ (rf_sI τ2 7 (4 * M + 2) (nI w)) := rdM_s7 (rdM_trans hm1' (rdM_mv hm2)) _ _
  have hR2 := Rd_rd h (rdC_mv hc2') hm2' w4 w5 (by rw [sI_1, if_neg (by decide)]; exact w6)
  have l7 : ∀ j, (rf_sI τ2 7 (4 * M + 2) (nI w)).1 7 j = if j = 4 * M + 2 then nI w else if j = 4 * M + 1 then nI a else if j = 4 * M then nI k else τ.1 7 j := by
    intro j
    rw [sI_at, if_pos rfl, hm2.1 7 (by omega), j7]
  have l6 : (rf_sI τ2 7 (4 * M + 2) (nI w)).1 6 = τ.1 6 := by
    rw [sI_1, if_neg (by decide), hm2.1 6 (by omega), j6]
  have l12 : (rf_sI τ2 7 (4 * M + 2) (nI w)).1 0 12 = nI R := by rw [sI_1, if_neg (by decide), hm2.2.1 12 (by omega), j12]
  have l13 : (rf_sI τ2 7 (4 * M + 2) (nI w)).1 0 13 = nI M := by rw [sI_1, if_neg (by decide), hm2.2.1 13 (by omega), j13]
  generalize rf_sI τ2 7 (4 * M + 2) (nI w) = τ2' at hm2' hR2 l7 l6 l12 l13 ⊢
  -- the room
  have er : nI R - 1 = nI (R - 1) := nat_sub (b := 1) (by omega)
  have s6' : σ2.1 18 6 = nI R := by rw [hc2'.1 18 (by omega), p1]
  obtain ⟨σ3, τ3, hc3, hm3, hN⟩ := one_ok hR2 (most := R - 1) (by omega)
  have st3 : ∀ (x : Int32 × rf_S), f_X10_one (nI (R - 1)) τ2' = some x → f_X10_isMemberItem_b60 (nI (4 * M)) (3, τ2') = f_X10_isMemberItem_j100 (nI (4 * M)) 3 x.1 x.2 := by
    intro x hx
    unfold f_X10_isMemberItem_b60 f_X10_isMemberItem_j97
    simp only
    rw [if_neg (by decide), if_pos (show (3 : Int32) ≠ 1 by decide), if_pos (show (3 : Int32) ≠ 2 by decide), l12, er, hx, Option.bind_some]
  rw [s6', er]
  rcases hN with ⟨l, y1, y2, eA3, eB3, y3, y4, y5, y6⟩ | ⟨f, f1, eA3, eB3, f2⟩
  rotate_left
  · right
    refine ⟨f, σ3, τ3, f1, ?_, ?_, f2, Sim_rd h1 (rdC_mv (mvC_trans hc2' hc3)) (rdM_trans hm2' (rdM_mv hm3))⟩
    · rw [eA3, Option.bind_some]
      exact if_neg (nI_ne9 (by omega))
    · rw [show rf_lp (f_X10_isMemberItem_b60 (nI (4 * M))) 4998 (3, τ2') = some (.inr (0, τ3)) from lp_exit (by
        rw [st3 _ eB3]
        unfold f_X10_isMemberItem_j100
        exact if_neg (show ¬ (0 : Int32) ≤ -1 by decide)) 4997]
      rfl
  left
  have hs3 : rf_lp (f_X10_isMemberItem_b60 (nI (4 * M))) 4998 (3, τ2') = rf_lp (f_X10_isMemberItem_b60 (nI (4 * M))) 4997 (4, rf_sI τ3 7 (4 * M + 3) (nI l)) := by
    refine lp_step ?_ 4997
    rw [st3 _ eB3]
    unfold f_X10_isMemberItem_j100
    simp only
    rw [if_pos (nI_ge0 (by omega)), show nI (4 * M) + 3 = nI (4 * M + 3) from nI_add _ 3, ck1_7, if_pos (in_ok (by omega) (by decide)), nI_clamp (by omega)]
    rfl
  have hx : rf_lp (f_X10_isMemberItem_b60 (nI (4 * M))) 4997 (4, rf_sI τ3 7 (4 * M + 3) (nI l)) = some (.inl (rf_sI τ3 7 (4 * M + 3) (nI l))) := by
    refine lp_exit ?_ 4996
    unfold f_X10_isMemberItem_b60
    exact if_pos (show (4 : Int32) ≤ 4 by decide)
  rw [hs3, hx, eA3, Option.bind_some, Option.bind_some]
  simp only [Sum.elim_inl]
  rw [if_pos trivial, a3, w3, y3]
  have hcc : mvC σ σ3 := mvC_trans hc2' hc3
  have s6 : σ3.1 18 6 = nI R := by rw [hcc.1 18 (by omega), p1]
  have s7 : σ3.1 18 7 = nI M := by rw [hcc.1 18 (by omega), p2]
  have hadd : f_X2_addMember (nI k) (nI a) (nI w) (nI l) σ3 = some (rf_sI (rf_sI (rf_sI (rf_sI (rf_sI σ3 21 M (nI k)) 22 M (nI a)) 23 M (nI w)) 24 M (nI l)) 18 7 (nI (M + 1))) := by
    unfold f_X2_addMember f_X2_hasSpaceForMember
    rw [s6, s7, if_neg (show ¬ nI R ≤ 0 from nI_ge (a := 0) hR (by omega)), if_neg (show ¬ (6 : Int32) ≤ nI M from nI_ge (b := 6) hM (by omega)), Option.bind_some, if_neg n10, nI_clamp (by omega), sI_1, if_neg (show ¬ 18 = 21 by decide), s7, ck0_21, ck0_22, if_pos (in_ok hM (by decide)), if_pos (in_ok hM (by decide)), Option.bind_some, nI_clamp (by omega), sI_1, if_neg (show ¬ 18 = 22 by decide), sI_1, if_neg (show ¬ 18 = 21 by decide), s7, nI_clamp (by omega), sI_1, if_neg (show ¬ 18 = 23 by decide), sI_1, if_neg (show ¬ 18 = 22 by decide), sI_1, if_neg (show ¬ 18 = 21 by decide), s7, ck0_23, ck0_24, if_pos (in_ok hM (by decide)), if_pos (in_ok hM (by decide)), Option.bind_some, nI_clamp (by omega), sI_1, if_neg (show ¬ 18 = 24 by decide), sI_1, if_neg (show ¬ 18 = 23 by decide), sI_1, if_neg (show ¬ 18 = 22 by decide), sI_1, if_neg (show ¬ 18 = 21 by decide), s7, nI_1]
  rw [hadd]
  have hcf : rdC σ (rf_sI (rf_sI (rf_sI (rf_sI (rf_sI σ3 21 M (nI k)) 22 M (nI a)) 23 M (nI w)) 24 M (nI l)) 18 7 (nI (M + 1))) := rdC_sI (rdC_sI (rdC_sI (rdC_sI (rdC_sI (rdC_mv hcc) _ _ _ (by omega)) _ _ _ (by omega)) _ _ _ (by omega)) _ _ _ (by omega)) _ _ _ (by omega)
  have hmf : rdM τ (rf_sI (rf_sI τ3 7 (4 * M + 3) (nI l)) 0 13 (nI (M + 1))) := rdM_s0 (rdM_s7 (rdM_trans hm2' (rdM_mv hm3)) _ _) _ _ (by omega)
  have q18 : ∀ j, (rf_sI (rf_sI (rf_sI (rf_sI (rf_sI σ3 21 M (nI k)) 22 M (nI a)) 23 M (nI w)) 24 M (nI l)) 18 7 (nI (M + 1))).1 18 j = if j = 7 then nI (M + 1) else σ.1 18 j := by
    intro j
    rw [sI_at, if_pos rfl, sI_1, if_neg (show ¬ 18 = 24 by decide), sI_1, if_neg (show ¬ 18 = 23 by decide), sI_1, if_neg (show ¬ 18 = 22 by decide), sI_1, if_neg (show ¬ 18 = 21 by decide), hcc.1 18 (by omega)]
  have q19 : (rf_sI (rf_sI (rf_sI (rf_sI (rf_sI σ3 21 M (nI k)) 22 M (nI a)) 23 M (nI w)) 24 M (nI l)) 18 7 (nI (M + 1))).1 19 = σ.1 19 := by
    rw [sI_1, if_neg (by decide), sI_1, if_neg (by decide), sI_1, if_neg (by decide), sI_1, if_neg (by decide), sI_1, if_neg (by decide), hcc.1 19 (by omega)]
  have q20 : (rf_sI (rf_sI (rf_sI (rf_sI (rf_sI σ3 21 M (nI k)) 22 M (nI a)) 23 M (nI w)) 24 M (nI l)) 18 7 (nI (M + 1))).1 20 = σ.1 20 := by
    rw [sI_1, if_neg (by decide), sI_1, if_neg (by decide), sI_1, if_neg (by decide), sI_1, if_neg (by decide), sI_1, if_neg (by decide), hcc.1 20 (by omega)]
  have q21 : ∀ j, (rf_sI (rf_sI (rf_sI (rf_sI (rf_sI σ3 21 M (nI k)) 22 M (nI a)) 23 M (nI w)) 24 M (nI l)) 18 7 (nI (M + 1))).1 21 j = if j = M then nI k else σ.1 21 j := by
    intro j
    rw [sI_1, if_neg (by decide), sI_1, if_neg (by decide), sI_1, if_neg (by decide), sI_1, if_neg (by decide), sI_at, if_pos rfl, hcc.1 21 (by omega)]
  have q22 : ∀ j, (rf_sI (rf_sI (rf_sI (rf_sI (rf_sI σ3 21 M (nI k)) 22 M (nI a)) 23 M (nI w)) 24 M (nI l)) 18 7 (nI (M + 1))).1 22 j = if j = M then nI a else σ.1 22 j := by
    intro j
    rw [sI_1, if_neg (by decide), sI_1, if_neg (by decide), sI_1, if_neg (by decide), sI_at, if_pos rfl, sI_1, if_neg (show ¬ 22 = 21 by decide), hcc.1 22 (by omega)]
  have q23 : ∀ j, (rf_sI (rf_sI (rf_sI (rf_sI (rf_sI σ3 21 M (nI k)) 22 M (nI a)) 23 M (nI w)) 24 M (nI l)) 18 7 (nI (M + 1))).1 23 j = if j = M then nI w else σ.1 23 j := by
    intro j
    rw [sI_1, if_neg (by decide), sI_1, if_neg (by decide), sI_at, if_pos rfl, sI_1, if_neg (show ¬ 23 = 22 by decide), sI_1, if_neg (show ¬ 23 = 21 by decide), hcc.1 23 (by omega)]
  have q24 : ∀ j, (rf_sI (rf_sI (rf_sI (rf_sI (rf_sI σ3 21 M (nI k)) 22 M (nI a)) 23 M (nI w)) 24 M (nI l)) 18 7 (nI (M + 1))).1 24 j = if j = M then nI l else σ.1 24 j := by
    intro j
    rw [sI_1, if_neg (by decide), sI_at, if_pos rfl, sI_1, if_neg (show ¬ 24 = 23 by decide), sI_1, if_neg (show ¬ 24 = 22 by decide), sI_1, if_neg (show ¬ 24 = 21 by decide), hcc.1 24 (by omega)]
  have q1 : (rf_sI (rf_sI (rf_sI (rf_sI (rf_sI σ3 21 M (nI k)) 22 M (nI a)) 23 M (nI w)) 24 M (nI l)) 18 7 (nI (M + 1))).1 17 1 = nI (p + 1 + 2 + 1 + 1) := by
    rw [sI_1, if_neg (by decide), sI_1, if_neg (by decide), sI_1, if_neg (by decide), sI_1, if_neg (by decide), sI_1, if_neg (by decide), y5]
  generalize rf_sI (rf_sI (rf_sI (rf_sI (rf_sI σ3 21 M (nI k)) 22 M (nI a)) 23 M (nI w)) 24 M (nI l)) 18 7 (nI (M + 1)) = σf at hcf q18 q19 q20 q21 q22 q23 q24 q1 ⊢
  have m7 : ∀ j, (rf_sI (rf_sI τ3 7 (4 * M + 3) (nI l)) 0 13 (nI (M + 1))).1 7 j = if j = 4 * M + 3 then nI l else if j = 4 * M + 2 then nI w else if j = 4 * M + 1 then nI a else if j = 4 * M then nI k else τ.1 7 j := by
    intro j
    rw [sI_1, if_neg (by decide), sI_at, if_pos rfl, hm3.1 7 (by omega), l7]
  have m6 : (rf_sI (rf_sI τ3 7 (4 * M + 3) (nI l)) 0 13 (nI (M + 1))).1 6 = τ.1 6 := by
    rw [sI_1, if_neg (by decide), sI_1, if_neg (by decide), hm3.1 6 (by omega), l6]
  refine ⟨σf, rf_sI (rf_sI τ3 7 (4 * M + 3) (nI l)) 0 13 (nI (M + 1)), p + 1 + 2 + 1 + 1, R, M + 1, rfl, ?_, Rd_rd h hcf hmf y4 q1 ?_, ?_, by omega⟩
  · rw [sI_1, if_neg (show ¬ 0 = 7 by decide), hm3.2.1 13 (by omega), l13, nI_1]
  · rw [sI_at, if_pos rfl, if_neg (by decide), sI_1, if_neg (by decide), y6]
  · refine ⟨?_, ?_, ?_, ?_, by omega, by omega, by omega, ?_, ?_⟩
    · rw [q18, if_neg (by decide), p1]
    · rw [q18, if_pos rfl]
    · rw [sI_at, if_pos rfl, if_neg (by decide), sI_1, if_neg (by decide), hm3.2.1 12 (by omega), l12]
    · rw [sI_at, if_pos rfl, if_pos rfl]
    · intro q hq
      unfold PlR
      rw [q19, q20, m6]
      exact p8 q hq
    · intro q hq
      unfold PlM
      rw [q21, q22, q23, q24, m7, m7, m7, m7]
      by_cases eq : q = M
      · rw [eq, if_pos rfl, if_pos rfl, if_pos rfl, if_pos rfl, if_neg (show ¬ 4 * M = 4 * M + 3 by omega), if_neg (show ¬ 4 * M = 4 * M + 2 by omega), if_neg (show ¬ 4 * M = 4 * M + 1 by omega), if_pos rfl, if_neg (show ¬ 4 * M + 1 = 4 * M + 3 by omega), if_neg (show ¬ 4 * M + 1 = 4 * M + 2 by omega), if_pos rfl, if_neg (show ¬ 4 * M + 2 = 4 * M + 3 by omega), if_pos rfl, if_pos rfl]
        exact ⟨k, a, w, l, hk, a2, w2, by omega, ⟨rfl, rfl⟩, ⟨rfl, rfl⟩, ⟨rfl, rfl⟩, rfl, rfl⟩
      · rw [if_neg eq, if_neg eq, if_neg eq, if_neg eq, if_neg (show ¬ 4 * q = 4 * M + 3 by omega), if_neg (show ¬ 4 * q = 4 * M + 2 by omega), if_neg (show ¬ 4 * q = 4 * M + 1 by omega), if_neg (show ¬ 4 * q = 4 * M by omega), if_neg (show ¬ 4 * q + 1 = 4 * M + 3 by omega), if_neg (show ¬ 4 * q + 1 = 4 * M + 2 by omega), if_neg (show ¬ 4 * q + 1 = 4 * M + 1 by omega), if_neg (show ¬ 4 * q + 1 = 4 * M by omega), if_neg (show ¬ 4 * q + 2 = 4 * M + 3 by omega), if_neg (show ¬ 4 * q + 2 = 4 * M + 2 by omega), if_neg (show ¬ 4 * q + 2 = 4 * M + 1 by omega), if_neg (show ¬ 4 * q + 2 = 4 * M by omega), if_neg (show ¬ 4 * q + 3 = 4 * M + 3 by omega), if_neg (show ¬ 4 * q + 3 = 4 * M + 2 by omega), if_neg (show ¬ 4 * q + 3 = 4 * M + 1 by omega), if_neg (show ¬ 4 * q + 3 = 4 * M by omega)]
        exact p9 q (by omega)
