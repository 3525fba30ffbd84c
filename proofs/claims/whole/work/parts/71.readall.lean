/-! ===== reading: a whole text ===== -/
theorem sort_cases (x : Int32) (σ τ : rf_S) : (f_X3_kindBySign x σ = some (-9) ∧ f_X10_sortBy x τ = some (-1)) ∨ ∃ k, k < 6 ∧ f_X3_kindBySign x σ = some (nI k) ∧ f_X10_sortBy x τ = some (nI k) := by
  unfold f_X3_kindBySign f_X10_sortBy
  by_cases h0 : x = 111
  · exact Or.inr ⟨0, by omega, by rw [h0]; rfl, by rw [h0]; rfl⟩
  by_cases h1 : x = 115
  · exact Or.inr ⟨1, by omega, by rw [h1]; rfl, by rw [h1]; rfl⟩
  by_cases h2 : x = 116
  · exact Or.inr ⟨2, by omega, by rw [h2]; rfl, by rw [h2]; rfl⟩
  by_cases h3 : x = 109
  · exact Or.inr ⟨3, by omega, by rw [h3]; rfl, by rw [h3]; rfl⟩
  by_cases h4 : x = 102
  · exact Or.inr ⟨4, by omega, by rw [h4]; rfl, by rw [h4]; rfl⟩
  by_cases h5 : x = 97
  · exact Or.inr ⟨5, by omega, by rw [h5]; rfl, by rw [h5]; rfl⟩
  left
  rw [if_neg (Ne.symm h0), if_neg (Ne.symm h1), if_neg (Ne.symm h2), if_neg (Ne.symm h3), if_neg (Ne.symm h4), if_neg (Ne.symm h5), if_pos h0, if_pos h1, if_pos h2, if_pos h3, if_pos h4, if_pos h5]
  exact ⟨rfl, rfl⟩
theorem item_ok {σ τ : rf_S} {r n p R M : Nat} {Z : Nat → Int32} (h : Rd σ τ r n p Z) (hp : p < n) (hP : Pl σ τ R M) : ItemOk r n Z R M (f_X3_readItem (nI r) σ) (if Z p ≠ 114 then f_X10_isMemberItem τ else f_X10_isRoomItem τ) := by
  obtain ⟨h1, h2, h3, h4, h5, h6, h7, h8, h9, h10⟩ := id h
  obtain ⟨p1, p2, p3, p4, p5, p6, p7, p8, p9⟩ := id hP
  have hL := Lt_of h
  have no : ∀ (A B : Option (Int32 × rf_S)), A = some (nI p, σ) → B = some (0, τ) → ItemOk r n Z R M A B := fun A B hA hB => Or.inr ⟨p, σ, τ, by omega, hA, hB, h10, h1⟩
  unfold f_X3_readItem
  rw [h9, tget_ok h2 (by omega), (h8 p (by omega)).1, Option.bind_some]
  by_cases e : Z p ≠ 114
  · rw [if_pos e, if_pos e]
    rcases sort_cases (Z p) σ τ with ⟨s1, s2⟩ | ⟨k, hk, s1, s2⟩
    · refine no _ _ ?_ ?_
      · rw [s1, Option.bind_some, if_pos rfl]
        unfold f_X3_readItem_j67 f_X3_readItem_j68
        rw [if_pos rfl, h9]
      · unfold f_X10_isMemberItem
        rw [h10, letter_ok hL (by omega), if_pos hp, Option.bind_some, s2, Option.bind_some, if_pos (by decide)]
    · have hm0 : f_X10_isMemberItem τ = if nI R = 0 then some (0, τ) else if nI M ≠ 6 then f_X10_isMemberItem τ else some (0, τ) := by
        by_cases a : nI R = 0
        · rw [if_pos a]
          unfold f_X10_isMemberItem
          rw [h10, letter_ok hL (by omega), if_pos hp, Option.bind_some, s2, Option.bind_some, if_neg (nI_pos (by omega)), p3, if_pos a]
        · rw [if_neg a]
          by_cases b : nI M ≠ 6
          · rw [if_pos b]
          · rw [if_neg b]
            unfold f_X10_isMemberItem
            rw [h10, letter_ok hL (by omega), if_pos hp, Option.bind_some, s2, Option.bind_some, if_neg (nI_pos (by omega)), p3, p4, if_neg a, if_neg b]
      rw [s1, Option.bind_some, if_neg (nI_ne9 (by omega))]
      unfold f_X2_hasSpaceForMember
      rw [p1, p2]
      by_cases a : R = 0
      · refine no _ _ ?_ ?_
        · rw [if_pos (show nI R ≤ 0 by rw [a]; decide), Option.bind_some, if_pos rfl]
          unfold f_X3_readItem_j67 f_X3_readItem_j68
          rw [if_pos rfl, h9]
        · rw [hm0, if_pos (by rw [a]; rfl)]
      · rw [if_neg (show ¬ nI R ≤ 0 from nI_ge (a := 0) (by omega) (by omega))]
        by_cases b : M = 6
        · refine no _ _ ?_ ?_
          · rw [if_pos (show (6 : Int32) ≤ nI M by rw [b]; decide), Option.bind_some, if_pos rfl]
            unfold f_X3_readItem_j67 f_X3_readItem_j68
            rw [if_pos rfl, h9]
          · rw [hm0, if_neg (show ¬ nI R = 0 from fun q => absurd ((eq_nI (b := 0) (by omega) (by omega)).mp q) (by omega)), if_neg (show ¬ nI M ≠ 6 by rw [b]; decide)]
        · rw [if_neg (show ¬ (6 : Int32) ≤ nI M from nI_ge (b := 6) (by omega) (by omega)), Option.bind_some, if_neg n10]
          unfold f_X3_readItem_j68
          rw [if_neg n10]
          have := member_ok h hp hP (by omega) (by omega) hk s2
          revert this
          generalize f_X3_readMember (nI r) (nI k) σ = A
          intro this
          cases A with
          | none => exact this
          | some q => exact this
  · have e' : Z p = 114 := Classical.byContradiction e
    rw [if_neg e, if_neg e]
    unfold f_X2_hasSpaceForRoom
    rw [p1, p2]
    by_cases a : M = 0
    · subst a
      rw [if_neg (show ¬ nI 0 ≠ 0 by decide)]
      by_cases b : R = 4
      · refine no _ _ ?_ ?_
        · rw [if_pos (show (4 : Int32) ≤ nI R by rw [b]; decide), Option.bind_some, if_pos rfl]
        · unfold f_X10_isRoomItem
          rw [p3, if_pos (by rw [b]; rfl)]
      · rw [if_neg (show ¬ (4 : Int32) ≤ nI R from nI_ge (b := 4) (by omega) (by omega)), Option.bind_some, if_neg n10]
        have := room_ok h hp hP (by omega)
        revert this
        generalize f_X3_readRoom (nI r) σ = A
        intro this
        cases A with
        | none => exact this
        | some q => exact this
    · refine no _ _ ?_ ?_
      · rw [if_pos (show nI M ≠ 0 from neI (b := 0) (by omega) (by omega) a), Option.bind_some, if_pos rfl]
      · unfold f_X10_isRoomItem
        rw [p3, p4]
        by_cases b : nI R = 4
        · rw [if_pos b]
        · rw [if_neg b, if_neg (show ¬ nI M ≤ 0 from nI_ge (a := 0) (by omega) (by omega))]
abbrev rdG (e : rf_S ⊕ (Int32 × rf_S)) : Option (Int32 × rf_S) := Sum.elim (fun z19 => if (z19.1 0 13) ≠ 0 then (some ((-9), z19)) else (some ((z19.1 0 11), z19))) (fun y21 => some y21) e
def RdEnd (v : Int32) (σ' τ' : rf_S) : Prop := Sim σ' τ' ∧ (v = -9 → ∃ R M, 0 < M ∧ Pl σ' τ' R M)
theorem items_ok (r n : Nat) (Z : Nat → Int32) : ∀ (m : Nat) (σ τ τ' : rf_S) (p R M NC NM : Nat), R + M + m = 10 → m < NC → m < NM → Rd σ τ r n p Z → Pl σ τ R M → f_X10_skip τ = some τ' → ∃ v σf τf, rf_lp (f_X3_read_b21 (nI r) (nI n)) NC (nI (R + M), σ) = some (.inr (v, σf)) ∧ (rf_lp f_X10_read_b37 NM τ').bind rdG = some (v, τf) ∧ RdEnd v σf τf := by
  intro m
  induction m with
  | zero =>
    intro σ τ τ' p R M NC NM hm hNC hNM h hP hs
    obtain ⟨NC, rfl⟩ : ∃ x, NC = x + 1 := ⟨NC - 1, by omega⟩
    obtain ⟨NM, rfl⟩ : ∃ x, NM = x + 1 := ⟨NM - 1, by omega⟩
    obtain ⟨q, q1, q2, q3, eC, eM, hR⟩ := skip_ok h
    have et : rf_sI τ 0 9 (nI q) = τ' := Option.some.inj (eM.symm.trans hs)
    rw [et] at hR eM
    have hPl : Pl (rf_sI σ 17 1 (nI q)) τ' R M := Pl_mv hP (mvC_sI (mvC_refl σ) _ _) (et ▸ mvM_sI (mvM_refl τ) _)
    generalize rf_sI σ 17 1 (nI q) = σ1 at hR eC hPl
    clear hs eM et
    obtain ⟨g1, g2, g3, g4, g5, g6, g7, g8, g9, g10⟩ := id hR
    obtain ⟨p1, p2, p3, p4, p5, p6, p7, p8, p9⟩ := id hPl
    have hM : M = 6 := by omega
    by_cases eq : q < n
    · rcases item_ok hR eq hPl with ⟨σ2, τ2, p', R', M', -, -, -, hP2, e⟩ | ⟨f, σ2, τ2, f1, eA, eB, f2, hS⟩
      · have := hP2.2.2.2.2.1
        have := hP2.2.2.2.2.2.1
        omega
      · refine ⟨nI f, σ2, τ2, lp_exit ?_ NC, ?_, hS, fun z => absurd z (nI_ne9 (by omega))⟩
        · unfold f_X3_read_b21
          simp only
          rw [if_neg (show ¬ (10 : Int32) < nI (R + M) from nI_nlt (a := 10) (by omega) (by omega)), eC, Option.bind_some, g9, if_pos (nI_lt eq (by omega)), eA, Option.bind_some]
          exact if_neg (nI_ne9 (by omega))
        · rw [lp_exit (e := .inr (nI f, τ2)) ?_ NM]
          · rfl
          · unfold f_X10_read_b37
            rw [g6, g10, if_neg (nI_ge eq (by omega)), letter_ok (Lt_of hR) (by omega), if_pos eq, Option.bind_some]
            by_cases ez : Z q ≠ 114
            · rw [if_pos ez] at eB ⊢
              rw [eB, Option.bind_some]
              unfold f_X10_read_j72
              rw [if_neg (by simp), f2]
            · rw [if_neg ez] at eB ⊢
              rw [eB, Option.bind_some]
              unfold f_X10_read_j72
              rw [if_neg (by simp), f2]
    · refine ⟨-9, σ1, τ', lp_exit ?_ NC, ?_, g1, fun _ => ⟨R, M, by omega, hPl⟩⟩
      · unfold f_X3_read_b21
        simp only
        rw [if_neg (show ¬ (10 : Int32) < nI (R + M) from nI_nlt (a := 10) (by omega) (by omega)), eC, Option.bind_some, g9, if_neg (nI_nlt (by omega) (by omega)), p2, if_pos (show nI M ≠ 0 from neI (b := 0) (by omega) (by omega) (by omega))]
      · rw [lp_exit (e := .inl τ') ?_ NM]
        · rw [Option.bind_some]
          simp only [rdG, Sum.elim_inl]
          rw [p4, if_pos (show nI M ≠ 0 from neI (b := 0) (by omega) (by omega) (by omega))]
        · unfold f_X10_read_b37
          rw [g6, g10, if_pos (nI_le (by omega) (by omega))]
  | succ m ih =>
    intro σ τ τ' p R M NC NM hm hNC hNM h hP hs
    obtain ⟨NC, rfl⟩ : ∃ x, NC = x + 1 := ⟨NC - 1, by omega⟩
    obtain ⟨NM, rfl⟩ : ∃ x, NM = x + 1 := ⟨NM - 1, by omega⟩
    obtain ⟨q, q1, q2, q3, eC, eM, hR⟩ := skip_ok h
    have et : rf_sI τ 0 9 (nI q) = τ' := Option.some.inj (eM.symm.trans hs)
    rw [et] at hR eM
    have hPl : Pl (rf_sI σ 17 1 (nI q)) τ' R M := Pl_mv hP (mvC_sI (mvC_refl σ) _ _) (et ▸ mvM_sI (mvM_refl τ) _)
    generalize rf_sI σ 17 1 (nI q) = σ1 at hR eC hPl
    clear hs eM et
    obtain ⟨g1, g2, g3, g4, g5, g6, g7, g8, g9, g10⟩ := id hR
    obtain ⟨p1, p2, p3, p4, p5, p6, p7, p8, p9⟩ := id hPl
    by_cases eq : q < n
    · rcases item_ok hR eq hPl with ⟨σ2, τ2, p', R', M', eA, eB, hR2, hP2, e⟩ | ⟨f, σ2, τ2, f1, eA, eB, f2, hS⟩
      · obtain ⟨q', q1', q2', q3', eC', eM', hR'⟩ := skip_ok hR2
        obtain ⟨v, σf, τf, i1, i2, i3⟩ := ih σ2 τ2 _ p' R' M' NC NM (by omega) (by omega) (by omega) hR2 hP2 eM'
        refine ⟨v, σf, τf, ?_, ?_, i3⟩
        · rw [lp_step (s' := (nI (R' + M'), σ2)) ?_ NC]
          · exact i1
          · unfold f_X3_read_b21
            simp only
            rw [if_neg (show ¬ (10 : Int32) < nI (R + M) from nI_nlt (a := 10) (by omega) (by omega)), eC, Option.bind_some, g9, if_pos (nI_lt eq (by omega)), eA, Option.bind_some, nI_1, e]
            exact if_pos rfl
        · rw [lp_step (s' := rf_sI τ2 0 9 (nI q')) ?_ NM]
          · exact i2
          · unfold f_X10_read_b37
            rw [g6, g10, if_neg (nI_ge eq (by omega)), letter_ok (Lt_of hR) (by omega), if_pos eq, Option.bind_some]
            by_cases ez : Z q ≠ 114
            · rw [if_pos ez] at eB ⊢
              rw [eB, Option.bind_some]
              unfold f_X10_read_j72
              rw [if_pos (show ((1 : Int32), τ2).1 ≠ 0 from n10), eM', Option.bind_some]
            · rw [if_neg ez] at eB ⊢
              rw [eB, Option.bind_some]
              unfold f_X10_read_j72
              rw [if_pos (show ((1 : Int32), τ2).1 ≠ 0 from n10), eM', Option.bind_some]
      · refine ⟨nI f, σ2, τ2, lp_exit ?_ NC, ?_, hS, fun z => absurd z (nI_ne9 (by omega))⟩
        · unfold f_X3_read_b21
          simp only
          rw [if_neg (show ¬ (10 : Int32) < nI (R + M) from nI_nlt (a := 10) (by omega) (by omega)), eC, Option.bind_some, g9, if_pos (nI_lt eq (by omega)), eA, Option.bind_some]
          exact if_neg (nI_ne9 (by omega))
        · rw [lp_exit (e := .inr (nI f, τ2)) ?_ NM]
          · rfl
          · unfold f_X10_read_b37
            rw [g6, g10, if_neg (nI_ge eq (by omega)), letter_ok (Lt_of hR) (by omega), if_pos eq, Option.bind_some]
            by_cases ez : Z q ≠ 114
            · rw [if_pos ez] at eB ⊢
              rw [eB, Option.bind_some]
              unfold f_X10_read_j72
              rw [if_neg (by simp), f2]
            · rw [if_neg ez] at eB ⊢
              rw [eB, Option.bind_some]
              unfold f_X10_read_j72
              rw [if_neg (by simp), f2]
    · have hend : ∃ v, (if nI M ≠ 0 then some (Sum.inr (α := Int32 × rf_S) (Sum.inr (α := rf_S) ((-9 : Int32), σ1))) else some (Sum.inr (Sum.inr (nI n, σ1)))) = some (Sum.inr (Sum.inr (v, σ1))) ∧ (if nI M ≠ 0 then some ((-9 : Int32), τ') else some (nI n, τ')) = some (v, τ') ∧ (v = -9 → 0 < M) := by
        by_cases a : M = 0
        · refine ⟨nI n, ?_, ?_, fun z => absurd z (nI_ne9 (by omega))⟩
          · rw [if_neg (show ¬ nI M ≠ 0 by rw [a]; decide)]
          · rw [if_neg (show ¬ nI M ≠ 0 by rw [a]; decide)]
        · refine ⟨-9, ?_, ?_, fun _ => by omega⟩
          · rw [if_pos (show nI M ≠ 0 from neI (b := 0) (by omega) (by omega) (by omega))]
          · rw [if_pos (show nI M ≠ 0 from neI (b := 0) (by omega) (by omega) (by omega))]
      obtain ⟨v, v1, v2, v3⟩ := hend
      refine ⟨v, σ1, τ', lp_exit ?_ NC, ?_, g1, fun z => ⟨R, M, v3 z, hPl⟩⟩
      · unfold f_X3_read_b21
        simp only
        rw [if_neg (show ¬ (10 : Int32) < nI (R + M) from nI_nlt (a := 10) (by omega) (by omega)), eC, Option.bind_some, g9, if_neg (nI_nlt (by omega) (by omega)), p2]
        exact v1
      · rw [lp_exit (e := .inl τ') ?_ NM]
        · rw [Option.bind_some]
          simp only [rdG, Sum.elim_inl]
          rw [p4, g6]
          exact v2
        · unfold f_X10_read_b37
          rw [g6, g10, if_pos (nI_le (by omega) (by omega))]
theorem read_ok {σ τ : rf_S} (h : Sim σ τ) {r n : Nat} (hr : r < 4) (hn : n ≤ 60) (e : σ.1 16 r = nI n) : ∃ v σf τf, f_X3_read (nI r) σ = some (v, σf) ∧ f_X10_read (nI r) τ = some (v, τf) ∧ RdEnd v σf τf := by
  obtain ⟨a1, a2, a3⟩ := h.2.2.1 r hr
  unfold f_X3_read f_X10_read f_X2_clear f_X7_sizeOf
  rw [Option.bind_some, ck0_16, if_pos (in_ok hr (by decide)), nI_clamp (by omega), Option.bind_some, ck1_3, if_pos (in_ok hr (by decide)), Option.bind_some, sI_1, if_neg (show ¬ 16 = 17 by decide), sI_1, if_neg (show ¬ 16 = 18 by decide), sI_1, if_neg (show ¬ 16 = 18 by decide), e, sI_1 τ, if_neg (show ¬ 3 = 0 by decide), a1, e, show (60 : Int32) * nI r = nI (60 * r) from pk_mul 60 r]
  have hc : rdC σ (rf_sI (rf_sI (rf_sI σ 18 6 0) 18 7 0) 17 1 0) := rdC_sI (rdC_sI (rdC_sI (rdC_mv (mvC_refl σ)) _ _ _ (by omega)) _ _ _ (by omega)) _ _ _ (by omega)
  have hS : Sim (rf_sI (rf_sI (rf_sI σ 18 6 0) 18 7 0) 17 1 0) (rf_sI (rf_sI (rf_sI (rf_sI (rf_sI τ 0 10 (nI (60 * r))) 0 11 (nI n)) 0 9 0) 0 12 0) 0 13 0) := by
    refine Sim_fr h (fun c _ b _ => hc.1 c b) (fun c b _ _ _ _ => ?_) (fun j hj => ?_) rfl rfl
    · simp only [sI_1]
      rw [if_neg b, if_neg b, if_neg b, if_neg b, if_neg b]
    · simp only [sI_at, if_true]
      rw [if_neg (by omega), if_neg (by omega), if_neg (by omega), if_neg (by omega), if_neg (by omega)]
  have hRd : Rd (rf_sI (rf_sI (rf_sI σ 18 6 0) 18 7 0) 17 1 0) (rf_sI (rf_sI (rf_sI (rf_sI (rf_sI τ 0 10 (nI (60 * r))) 0 11 (nI n)) 0 9 0) 0 12 0) 0 13 0) r n 0 (fun k => σ.1 (12 + r) k) := by
    refine ⟨hS, hr, hn, by omega, ?_, ?_, ?_, ?_, ?_, ?_⟩
    · rw [hc.1 16 (by omega), e]
    · rw [sI_at, if_pos rfl, if_neg (by decide), sI_at, if_pos rfl, if_neg (by decide), sI_at, if_pos rfl, if_neg (by decide), sI_at, if_pos rfl, if_pos rfl]
    · rw [sI_at, if_pos rfl, if_neg (by decide), sI_at, if_pos rfl, if_neg (by decide), sI_at, if_pos rfl, if_neg (by decide), sI_at, if_pos rfl, if_neg (by decide), sI_at, if_pos rfl, if_pos rfl]
    · intro k hk
      rw [hc.1 (12 + r) (by omega), sI_1, if_neg (by decide), sI_1, if_neg (by decide), sI_1, if_neg (by decide), sI_1, if_neg (by decide), sI_1, if_neg (by decide)]
      exact ⟨rfl, a3 k hk⟩
    · rw [sI_at, if_pos rfl, if_pos rfl]
      rfl
    · rw [sI_at, if_pos rfl, if_neg (by decide), sI_at, if_pos rfl, if_neg (by decide), sI_at, if_pos rfl, if_pos rfl]
      rfl
  have hPl : Pl (rf_sI (rf_sI (rf_sI σ 18 6 0) 18 7 0) 17 1 0) (rf_sI (rf_sI (rf_sI (rf_sI (rf_sI τ 0 10 (nI (60 * r))) 0 11 (nI n)) 0 9 0) 0 12 0) 0 13 0) 0 0 := by
    refine ⟨?_, ?_, ?_, ?_, by omega, by omega, by omega, fun q hq => by omega, fun q hq => by omega⟩
    · rw [sI_1, if_neg (by decide), sI_at, if_pos rfl, if_neg (by decide), sI_at, if_pos rfl, if_pos rfl]
      rfl
    · rw [sI_1, if_neg (by decide), sI_at, if_pos rfl, if_pos rfl]
      rfl
    · rw [sI_at, if_pos rfl, if_neg (by decide), sI_at, if_pos rfl, if_pos rfl]
      rfl
    · rw [sI_at, if_pos rfl, if_pos rfl]
      rfl
  obtain ⟨q, q1, q2, q3, eC, eM, hR⟩ := skip_ok hRd
  obtain ⟨v, σf, τf, i1, i2, i3⟩ := items_ok r n _ 10 _ _ _ 0 0 0 5000 5000 (by omega) (by omega) (by omega) hRd hPl eM
  refine ⟨v, σf, τf, ?_, ?_, i3⟩
  · rw [show rf_lp (f_X3_read_b21 (nI r) (nI n)) 5000 (0, rf_sI (rf_sI (rf_sI σ 18 6 0) 18 7 0) 17 1 0) = _ from i1]
    rfl
  · rw [eM, Option.bind_some]
    exact i2
/-- PROMISE 10 -/
theorem sim_fault {σ τ : rf_S} (h : Sim σ τ) (r : Int32) : Both (f_X9_fault r σ) (f_X10_fault r τ) := by
  unfold f_X9_fault f_X10_fault
  rw [in3]
  rcases text_cases h r with ⟨w, σ1, τ1, hv, e1, hs, ⟨e2, rfl, rfl⟩ | ⟨j, hj, rfl, e2, e3, rfl, rfl⟩⟩ | ⟨j, n, hj, rfl, hn, s1, s2, e2, e1⟩
  · rw [e1, e2]
    exact Both_no hs
  · rw [e1, e2]
    simp only [Option.bind_some]
    rw [if_neg hv, if_pos n10, ck1_3, if_pos (in_ok hj (by decide)), nI_clamp (by omega), e3, if_neg neg1_lt, show (1 : Int32) = nI 1 from rfl, finds_ok (by decide)]
    exact Both_no hs
  · rw [e1, e2]
    simp only [Option.bind_some, if_true]
    rw [if_pos n10, ck1_3, if_pos (in_ok hj (by decide)), nI_clamp (by omega), s2, if_pos (nI_pos' (by omega))]
    obtain ⟨v, σf, τf, i1, i2, i3⟩ := read_ok h hj hn s1
    rw [i1, i2]
    exact ⟨v, σf, τf, rfl, rfl, i3.1⟩
