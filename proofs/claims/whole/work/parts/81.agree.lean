/-! ===== every call agrees ===== -/
theorem both_op {A B : Option (Int32 × rf_S)} (h : Both A B) : ∃ v σ1 τ1, A.map (fun q => (Value.int q.1, q.2)) = some (v, σ1) ∧ B.map (fun q => (Value.int q.1, q.2)) = some (v, τ1) ∧ Sim σ1 τ1 := by
  obtain ⟨v, σ1, τ1, h1, h2, h3⟩ := h
  exact ⟨.int v, σ1, τ1, by rw [h1]; rfl, by rw [h2]; rfl, h3⟩
theorem pure_op {σ τ : rf_S} (hs : Sim σ τ) {A B : Option Int32} (h : ∃ v, A = some v ∧ B = some v) : ∃ v σ1 τ1, A.map (fun q => (Value.int q, σ)) = some (v, σ1) ∧ B.map (fun q => (Value.int q, τ)) = some (v, τ1) ∧ Sim σ1 τ1 := by
  obtain ⟨v, h1, h2⟩ := h
  exact ⟨.int v, σ, τ, by rw [h1]; rfl, by rw [h2]; rfl, hs⟩
theorem pure_opL {σ τ : rf_S} (hs : Sim σ τ) {A B : Option Int64} (h : ∃ v, A = some v ∧ B = some v) : ∃ v σ1 τ1, A.map (fun q => (Value.long q, σ)) = some (v, σ1) ∧ B.map (fun q => (Value.long q, τ)) = some (v, τ1) ∧ Sim σ1 τ1 := by
  obtain ⟨v, h1, h2⟩ := h
  exact ⟨.long v, σ, τ, by rw [h1]; rfl, by rw [h2]; rfl, hs⟩
theorem hsim (k : Nat) (a : Nat → Int32) (σ τ : rf_S) (hk : k < 47) (h : Sim σ τ) : ∃ v σ1 τ1, opC k a σ = some (v, σ1) ∧ opM k a τ = some (v, τ1) ∧ Sim σ1 τ1 := by
  match k, hk with
  | 0, _ => exact both_op (sim_row h (a 1) (a 2))
  | 1, _ => exact both_op (sim_lay h (a 1) (a 2) (a 3))
  | 2, _ => exact both_op (sim_at h (a 1) (a 2))
  | 3, _ => exact both_op (sim_tear h (a 1))
  | 4, _ => exact both_op (sim_copy h (a 1) (a 2) (a 3) (a 4) (a 5))
  | 5, _ => exact both_op (sim_mean h (a 1))
  | 6, _ => exact both_op (sim_text h (a 1) (a 2))
  | 7, _ => exact both_op (sim_put h (a 1) (a 2) (a 3))
  | 8, _ => exact both_op (sim_fault h (a 1))
  | 9, _ => exact both_op (sim_town h (a 1))
  | 10, _ => exact both_op (sim_member h (a 1) (a 2))
  | 11, _ => exact pure_op h (sim_room h (a 1) (a 2))
  | 12, _ => exact both_op (sim_mark h (a 1) (a 2))
  | 13, _ => exact both_op (sim_walk h (a 1) (a 2))
  | 14, _ => exact both_op (sim_hour h)
  | 15, _ => exact both_op (sim_soup h)
  | 16, _ => exact both_op (sim_cold h (a 1))
  | 17, _ => exact both_op (sim_love h (a 1) (a 2))
  | 18, _ => exact both_op (sim_fire h (a 1) (a 2))
  | 19, _ => exact both_op (sim_undo h (a 1))
  | 20, _ => exact both_op (sim_keep h (a 1))
  | 21, _ => exact both_op (sim_on h (a 1))
  | 22, _ => exact both_op (sim_span h (a 1))
  | 23, _ => exact pure_op h (sim_spanBy h (a 1) (a 2))
  | 24, _ => exact pure_op h (sim_known h)
  | 25, _ => exact both_op (sim_box h (a 1) (a 2))
  | 26, _ => exact both_op (sim_send h (a 1))
  | 27, _ => exact both_op (sim_most h (a 1))
  | 28, _ => exact both_op (sim_parts h (a 1))
  | 29, _ => exact both_op (sim_fewest h)
  | 30, _ => exact pure_op h (sim_alike h (a 1))
  | 31, _ => exact both_op (sim_fits h (a 1))
  | 32, _ => exact both_op (sim_tickled h (a 1))
  | 33, _ => exact both_op (sim_shifts h (a 1) (a 2))
  | 34, _ => exact both_op (sim_kinds h (a 1) (a 2))
  | 35, _ => exact both_op (sim_spreads h (a 1))
  | 36, _ => exact both_op (sim_soups h (a 1) (a 2) (a 3))
  | 37, _ => exact both_op (sim_odds h (a 1) (a 2))
  | 38, _ => exact both_op (sim_mid h (a 1) (a 2))
  | 39, _ => exact both_op (sim_lots h (a 1) (a 2))
  | 40, _ => exact pure_op h (sim_asked h)
  | 41, _ => exact pure_opL h (sim_upper h)
  | 42, _ => exact pure_opL h (sim_lower h)
  | 43, _ => exact pure_op h (sim_count h (a 1))
  | 44, _ => exact pure_op h (sim_finding h)
  | 45, _ => exact pure_op h (sim_findings h (a 1))
  | 46, _ => exact pure_opL h (sim_digest h)
  | j + 47, hk => exact absurd hk (by omega)
