/-! ===== all ways to send them: numbers ===== -/
/-- the j-th of n figures of a in base R, the highest first -/
def dg (R n a j : Nat) : Nat := a / R ^ (n - 1 - j) % R
theorem dg_last {R n a r : Nat} (hr : r < R) : dg R (n + 1) (a * R + r) n = r := by
  unfold dg
  rw [show n + 1 - 1 - n = 0 by omega, Nat.pow_zero, Nat.div_one, Nat.mul_comm, Nat.mul_add_mod]
  exact Nat.mod_eq_of_lt hr
theorem dg_pre {R n a r j : Nat} (hr : r < R) (hj : j < n) : dg R (n + 1) (a * R + r) j = dg R n a j := by
  unfold dg
  have e : (a * R + r) / R = a := by
    rw [Nat.mul_comm, Nat.mul_add_div (by omega), Nat.div_eq_of_lt hr, Nat.add_zero]
  rw [show n + 1 - 1 - j = (n - 1 - j) + 1 by omega, Nat.pow_succ, Nat.mul_comm (R ^ (n - 1 - j)) R, ← Nat.div_div_eq_div_mul, e]
theorem dg_lt {R n a j : Nat} (hR : 0 < R) : dg R n a j < R := Nat.mod_lt _ hR
def sm : Nat → (Nat → Nat) → Nat
  | 0, _ => 0
  | n + 1, f => sm n f + f n
theorem sm_congr {n : Nat} {f g : Nat → Nat} (h : ∀ i, i < n → f i = g i) : sm n f = sm n g := by
  induction n with
  | zero => rfl
  | succ n ih => rw [sm, sm, ih (fun i hi => h i (by omega)), h n (by omega)]
theorem sm_le {n b : Nat} {f : Nat → Nat} (h : ∀ i, i < n → f i ≤ b) : sm n f ≤ b * n := by
  induction n with
  | zero => exact Nat.zero_le _
  | succ n ih =>
    have h1 := ih (fun i hi => h i (by omega))
    have h2 := h n (by omega)
    rw [sm, Nat.mul_succ]
    omega
/-- the steps of the first n -/
def wS (t : TT) (n a : Nat) : Nat := sm n (fun j => dist (tL t j) (dg (tR t) n a j))
/-- the degrees left in room r by the first n -/
def wP (t : TT) (n a r d : Nat) : Bool := allB n (fun j => !decide (dg (tR t) n a j = r) || (ds t j d == ds t j (tD t r)))
def wN (t : TT) (n a r : Nat) : Bool := decide (cnt 31 (wP t n a r) ≤ tN t r)
def wC (t : TT) (a : Nat) : Nat := cnt (tR t) (wN t (tM t) a)
theorem wS_succ {t : TT} {n a r : Nat} (hr : r < tR t) : wS t (n + 1) (a * tR t + r) = wS t n a + dist (tL t n) r := by
  unfold wS
  rw [sm, dg_last hr]
  exact congrArg (· + _) (sm_congr fun i hi => by rw [dg_pre hr hi])
theorem wP_succ {t : TT} {n a r q d : Nat} (hr : r < tR t) : wP t (n + 1) (a * tR t + r) q d = (wP t n a q d && (!decide (r = q) || (ds t n d == ds t n (tD t q)))) := by
  unfold wP
  rw [allB, dg_last hr]
  exact congrArg (· && _) (allB_congr fun i hi => by rw [dg_pre hr hi])
theorem dist_le3 {t : TT} (ht : tok 60 t) {i r : Nat} (hi : i < tM t) (hr : r < tR t) : dist (tL t i) r ≤ 3 := by
  have h1 := dist_le (t_i ht hi).2.2.2.1 hr
  have := t_R ht
  omega
theorem wS_le {t : TT} (ht : tok 60 t) (hR : 0 < tR t) {n a : Nat} (hn : n ≤ tM t) : wS t n a ≤ 3 * n := by
  unfold wS
  exact sm_le fun i hi => dist_le3 ht (by omega) (dg_lt hR)
/-- the best so far: rooms known, steps, which way -/
def upB (lim k s c : Nat) : Option (Nat × Nat × Nat) → Option (Nat × Nat × Nat)
  | none => if s ≤ lim then some (k, s, c) else none
  | some x => if s ≤ lim ∧ (x.1 < k ∨ (k = x.1 ∧ s < x.2.1)) then some (k, s, c) else some x
def BB (t : TT) (lim : Nat) : Nat → Option (Nat × Nat × Nat)
  | 0 => none
  | c + 1 => upB lim (wC t c) (wS t (tM t) c) c (BB t lim c)
theorem upB_far {lim k s c : Nat} (h : lim < s) (o : Option (Nat × Nat × Nat)) : upB lim k s c o = o := by
  cases o with
  | none => exact if_neg (by omega)
  | some x => exact if_neg (by omega)
theorem BB_ok {t : TT} (ht : tok 60 t) (hR : 0 < tR t) (lim : Nat) : ∀ (c : Nat) (x : Nat × Nat × Nat), BB t lim c = some x → x.1 ≤ tR t ∧ x.2.1 ≤ 18 ∧ x.2.2 < c := by
  intro c
  induction c with
  | zero =>
    intro x h
    cases h
  | succ c ih =>
    intro x h
    have h1 : wC t c ≤ tR t := cnt_le _ _
    have h2 : wS t (tM t) c ≤ 3 * tM t := wS_le ht hR (Nat.le_refl _)
    have h3 := t_M ht
    rw [BB] at h
    cases e : BB t lim c with
    | none =>
      rw [e] at h
      unfold upB at h
      simp only at h
      split at h
      · cases h
        exact ⟨h1, by show wS t (tM t) c ≤ 18; omega, by show c < c + 1; omega⟩
      · cases h
    | some y =>
      rw [e] at h
      unfold upB at h
      simp only at h
      split at h
      · cases h
        exact ⟨h1, by show wS t (tM t) c ≤ 18; omega, by show c < c + 1; omega⟩
      · cases h
        have := ih x e
        exact ⟨this.1, this.2.1, by omega⟩
/-- nothing better lies behind a beginning that is too far -/
theorem prune {t : TT} (lim : Nat) : ∀ (m n a : Nat), n + m = tM t → (lim < wS t n a ∨ ∃ x, BB t lim (a * tR t ^ m) = some x ∧ x.1 = tR t ∧ x.2.1 ≤ wS t n a) → BB t lim ((a + 1) * tR t ^ m) = BB t lim (a * tR t ^ m) := by
  intro m
  induction m with
  | zero =>
    intro n a hn h
    rw [Nat.pow_zero, Nat.mul_one, Nat.mul_one] at *
    have en : n = tM t := by omega
    subst en
    rw [BB]
    rcases h with h | ⟨x, h1, h2, h3⟩
    · exact upB_far h _
    · rw [h1]
      have h4 : wC t a ≤ tR t := cnt_le _ _
      exact if_neg (by omega)
  | succ m ih =>
    intro n a hn h
    have key : ∀ r, r ≤ tR t → BB t lim ((a * tR t + r) * tR t ^ m) = BB t lim (a * tR t ^ (m + 1)) := by
      intro r
      induction r with
      | zero =>
        intro _
        rw [Nat.add_zero, Nat.pow_succ, Nat.mul_comm (tR t ^ m) (tR t), ← Nat.mul_assoc]
      | succ r ihr =>
        intro hr
        have e := ihr (by omega)
        rw [← e, show a * tR t + (r + 1) = a * tR t + r + 1 by omega]
        refine ih (n + 1) (a * tR t + r) (by omega) ?_
        rw [wS_succ (show r < tR t by omega), e]
        rcases h with h | ⟨x, h1, h2, h3⟩
        · exact Or.inl (by omega)
        · exact Or.inr ⟨x, h1, h2, by omega⟩
    rw [← key (tR t) (Nat.le_refl _)]
    congr 1
    rw [Nat.pow_succ, Nat.mul_comm (tR t ^ m) (tR t), ← Nat.mul_assoc, Nat.add_mul, Nat.one_mul]
/-- to stay at home is a way -/
def hmC (t : TT) : Nat → Nat
  | 0 => 0
  | n + 1 => hmC t n * tR t + tL t n
theorem hm_ok {t : TT} (ht : tok 60 t) : ∀ n, n ≤ tM t → hmC t n < tR t ^ n ∧ ∀ j, j < n → dg (tR t) n (hmC t n) j = tL t j := by
  intro n
  induction n with
  | zero =>
    intro _
    exact ⟨by rw [hmC, Nat.pow_zero]; omega, fun j hj => by omega⟩
  | succ n ih =>
    intro hn
    obtain ⟨h1, h2⟩ := ih (by omega)
    have hl := (t_i ht (show n < tM t by omega)).2.2.2.1
    refine ⟨?_, fun j hj => ?_⟩
    · rw [hmC, Nat.pow_succ]
      have : (hmC t n + 1) * tR t ≤ tR t ^ n * tR t := Nat.mul_le_mul_right _ h1
      rw [Nat.add_mul, Nat.one_mul] at this
      omega
    · rw [hmC]
      by_cases e : j = n
      · rw [e, dg_last hl]
      · rw [dg_pre hl (by omega)]
        exact h2 j (by omega)
theorem upB_some {lim k s c : Nat} {o : Option (Nat × Nat × Nat)} (h : o.isSome = true) : (upB lim k s c o).isSome = true := by
  cases o with
  | none => cases h
  | some x =>
    unfold upB
    simp only
    split <;> rfl
theorem BB_some {t : TT} (ht : tok 60 t) (lim : Nat) : ∃ x, BB t lim (tR t ^ tM t) = some x := by
  obtain ⟨h1, h2⟩ := hm_ok ht (tM t) (Nat.le_refl _)
  have h0 : wS t (tM t) (hmC t (tM t)) = 0 := by
    unfold wS
    have : ∀ n, n ≤ tM t → sm n (fun j => dist (tL t j) (dg (tR t) (tM t) (hmC t (tM t)) j)) = 0 := by
      intro n
      induction n with
      | zero => intro _; rfl
      | succ n ih =>
        intro hn
        rw [sm, ih (by omega), h2 n (by omega)]
        unfold dist
        rw [if_pos (Nat.le_refl _)]
        omega
    exact this _ (Nat.le_refl _)
  have key : ∀ k, (BB t lim (hmC t (tM t) + 1 + k)).isSome = true := by
    intro k
    induction k with
    | zero =>
      rw [Nat.add_zero, BB, h0]
      cases BB t lim (hmC t (tM t)) with
      | none =>
        unfold upB
        simp only
        rw [if_pos (by omega)]
        rfl
      | some x => exact upB_some rfl
    | succ k ih =>
      rw [show hmC t (tM t) + 1 + (k + 1) = (hmC t (tM t) + 1 + k) + 1 by omega, BB]
      exact upB_some ih
  have := key (tR t ^ tM t - (hmC t (tM t) + 1))
  rw [show hmC t (tM t) + 1 + (tR t ^ tM t - (hmC t (tM t) + 1)) = tR t ^ tM t by omega] at this
  exact Option.isSome_iff_exists.mp this
