theorem sim_start : Sim st0 st1 := by
  refine ⟨⟨rfl, rfl, fun f _ => rfl, rfl, rfl⟩, fun r hr => ?_, fun r hr => ?_, ?_⟩
  · match r, hr with
    | 0, _ | 1, _ | 2, _ | 3, _ | 4, _ | 5, _ => exact ⟨rfl, Or.inl rfl, fun i _ => rfl⟩
    | j + 6, hr => exact absurd hr (by omega)
  · match r, hr with
    | 0, _ | 1, _ | 2, _ | 3, _ => exact ⟨rfl, Or.inl rfl, fun i _ => rfl⟩
    | j + 4, hr => exact absurd hr (by omega)
  · refine ⟨(fun _ _ => 0, fun _ => 0), 0, fun _ => (fun _ _ => 0, fun _ => 0), fun _ => (0, 0, 0), ?_, ?_, ?_, ?_, ?_, fun _ => rfl, fun k hk => Or.inl ?_⟩
    · exact ⟨Nat.zero_le _, Nat.zero_le _, fun h => absurd h (by decide), fun _ => rfl, fun r h => absurd h (Nat.not_lt_zero _), fun i h => absurd h (Nat.not_lt_zero _), Nat.le_refl _, Nat.zero_le _, Nat.zero_le _⟩
    · exact ⟨rfl, rfl, fun r h => absurd h (Nat.not_lt_zero _), fun i h => absurd h (Nat.not_lt_zero _)⟩
    · exact ⟨fun r h => absurd h (Nat.not_lt_zero _), fun i h => absurd h (Nat.not_lt_zero _), fun i => ⟨rfl, rfl⟩, rfl, rfl, rfl⟩
    · exact ⟨rfl, rfl, fun r h => absurd h (Nat.not_lt_zero _), fun i h => absurd h (Nat.not_lt_zero _)⟩
    · refine ⟨Nat.zero_le _, rfl, rfl, ⟨rfl, fun k hk => absurd hk (by omega)⟩, fun j hj => absurd hj (by omega), ⟨fun r h => absurd h (Nat.not_lt_zero _), fun i h => absurd h (Nat.not_lt_zero _), fun i _ _ => rfl, rfl, rfl, rfl⟩, ⟨fun r h => absurd h (Nat.not_lt_zero _), fun i h => absurd h (Nat.not_lt_zero _), rfl, rfl, rfl⟩, fun i hi => absurd hi (by omega)⟩
    · match k, hk with
      | 0, _ | 1, _ | 2, _ => exact ⟨rfl, rfl⟩
      | j + 3, hk => exact absurd hk (by omega)
