/-! ===== what one feels, and at which degrees one does it ===== -/
def feelZ (k : Nat) (b : Int) (s h : Nat) : Int := b + (if 0 < s then 1 else 0) + (if k = 3 ∨ k = 5 then 2 else 0) - (if k = 5 then ((h / 6 : Nat) : Int) else 0)
def doB (k : Nat) (f : Int) (w d : Nat) : Bool := if k = 1 then decide ((d : Int) ≤ f) else if k = 2 then decide (f ≤ d) && decide ((d : Int) ≤ f + w) else if k = 4 then decide (f < d) else decide (f ≤ d)
def fIs (t : TT) (i k : Nat) (sh : Int) : Int := feelZ k (tG t i + sh) (tS t) (tH t)
def wdAs (t : TT) (i k : Nat) (sh : Int) (d : Nat) : Bool := doB k (fIs t i k sh) (tW t i) d
def wd (t : TT) (i d : Nat) : Bool := wdAs t i (tK t i) (tV t i) d
def ds (t : TT) (i d : Nat) : Bool := decide (tC t i = 0) && wd t i d
/-- the class's view of a town, and the reference's (its state in cell c) -/
def CT (σ : rf_S) (t : TT) : Prop := cC σ t ∧ cS σ t ∧ tok 60 t
def MT (τ : rf_S) (c : Nat) (t : TT) : Prop := mC τ t ∧ mV (τ.1 c) t ∧ (∀ x, rf_ck ly1 0 c x = rf_in x 25) ∧ tok 60 t
theorem n5 {k : Nat} (j : Nat) (hk : k < 100) (hj : j < 100) : (nI k = nI j) ↔ k = j := eq_nI (by omega) (by omega)
theorem n5k1 {k : Nat} (hk : k < 6) : (nI k = (1 : Int32)) ↔ k = 1 := n5 1 (by omega) (by omega)
theorem n5k2 {k : Nat} (hk : k < 6) : (nI k = (2 : Int32)) ↔ k = 2 := n5 2 (by omega) (by omega)
theorem n5k3 {k : Nat} (hk : k < 6) : (nI k = (3 : Int32)) ↔ k = 3 := n5 3 (by omega) (by omega)
theorem n5k4 {k : Nat} (hk : k < 6) : (nI k = (4 : Int32)) ↔ k = 4 := n5 4 (by omega) (by omega)
theorem n5k5 {k : Nat} (hk : k < 6) : (nI k = (5 : Int32)) ↔ k = 5 := n5 5 (by omega) (by omega)
theorem isOf_ok {k j : Nat} (hk : k < 6) (hj : j < 6) (σ : rf_S) : f_X9_isOfKind (nI k) (nI j) σ = some (if k = j ∨ j = 0 ∨ (k = 4 ∧ j = 1) ∨ (k = 5 ∧ j = 3) then 1 else 0) := by
  unfold f_X9_isOfKind f_X9_isOfKind_j19
  have e0 : (0 : Int32) = nI 0 := rfl
  have e1 : (1 : Int32) = nI 1 := rfl
  have e3 : (3 : Int32) = nI 3 := rfl
  have e4 : (4 : Int32) = nI 4 := rfl
  have e5 : (5 : Int32) = nI 5 := rfl
  match k, j, hk, hj with
  | 0, 0, _, _ | 0, 1, _, _ | 0, 2, _, _ | 0, 3, _, _ | 0, 4, _, _ | 0, 5, _, _ | 1, 0, _, _ | 1, 1, _, _ | 1, 2, _, _ | 1, 3, _, _ | 1, 4, _, _ | 1, 5, _, _ | 2, 0, _, _ | 2, 1, _, _ | 2, 2, _, _ | 2, 3, _, _ | 2, 4, _, _ | 2, 5, _, _ | 3, 0, _, _ | 3, 1, _, _ | 3, 2, _, _ | 3, 3, _, _ | 3, 4, _, _ | 3, 5, _, _ | 4, 0, _, _ | 4, 1, _, _ | 4, 2, _, _ | 4, 3, _, _ | 4, 4, _, _ | 4, 5, _, _ | 5, 0, _, _ | 5, 1, _, _ | 5, 2, _, _ | 5, 3, _, _ | 5, 4, _, _ | 5, 5, _, _ => rfl
theorem isOf3 {k : Nat} (hk : k < 6) (σ : rf_S) : f_X9_isOfKind (nI k) 3 σ = some (if k = 3 ∨ k = 5 then 1 else 0) := by
  match k, hk with
  | 0, _ | 1, _ | 2, _ | 3, _ | 4, _ | 5, _ => rfl
theorem isOf1 {k : Nat} (hk : k < 6) (σ : rf_S) : f_X9_isOfKind (nI k) 1 σ = some (if k = 1 ∨ k = 4 then 1 else 0) := by
  match k, hk with
  | 0, _ | 1, _ | 2, _ | 3, _ | 4, _ | 5, _ => rfl
theorem div6 {h : Nat} (hh : h ≤ 100) : nI h / 6 = nI (h / 6) := pk_div (by omega) (by decide) (by decide)
theorem feeling_ok {k s h : Nat} (b : Int) (hk : k < 6) (hs : s < 100) (hh : h ≤ 100) (σ : rf_S) : f_X8_feeling (nI k) (iI b) (nI s) (nI h) σ = some (iI (feelZ k b s h)) := by
  have j23 : ∀ (x : Int), f_X8_feeling_j23 (nI k) (nI h) (iI x) σ = some (iI (x - (if k = 5 then ((h / 6 : Nat) : Int) else 0))) := by
    intro x
    unfold f_X8_feeling_j23
    by_cases e : k = 5
    · subst e
      rw [if_neg (fun q => q rfl), if_pos rfl, div6 hh, ← iI_nat, iI_sub]
    · rw [if_pos (show nI k ≠ 5 from fun q => e ((n5 5 (by omega) (by omega)).mp q)), if_neg e, Int.sub_zero]
  have j20 : ∀ (x : Int), f_X8_feeling_j20 (nI k) (nI h) (iI x) σ = some (iI (x + 2 - (if k = 5 then ((h / 6 : Nat) : Int) else 0))) := by
    intro x
    unfold f_X8_feeling_j20
    rw [show (2 : Int32) = iI 2 from rfl, iI_add, j23]
  have j10 : ∀ (x : Int), f_X8_feeling_j10 (nI k) (nI h) (iI x) σ = some (iI (x + (if k = 3 ∨ k = 5 then 2 else 0) - (if k = 5 then ((h / 6 : Nat) : Int) else 0))) := by
    intro x
    unfold f_X8_feeling_j10
    by_cases e3 : k = 3
    · rw [if_pos (show nI k = 3 from (n5k3 hk).mpr e3), j20, if_pos (show k = 3 ∨ k = 5 from Or.inl e3)]
    · rw [if_neg (show ¬ nI k = 3 from fun q => e3 ((n5k3 hk).mp q))]
      by_cases e5 : k = 5
      · rw [if_neg (show ¬ nI k ≠ 5 from fun q => q ((n5k5 hk).mpr e5)), j20, if_pos (show k = 3 ∨ k = 5 from Or.inr e5)]
      · rw [if_pos (show nI k ≠ 5 from fun q => e5 ((n5k5 hk).mp q)), j23, if_neg (show ¬ (k = 3 ∨ k = 5) from fun q => q.elim e3 e5), Int.add_zero]
  unfold f_X8_feeling
  by_cases e : 0 < s
  · rw [if_neg (nI_nle e (by omega)), show (1 : Int32) = iI 1 from rfl, iI_add, j10]
    unfold feelZ
    rw [if_pos e]
  · have e0 : s = 0 := by omega
    subst e0
    rw [if_pos (by decide), j10]
    unfold feelZ
    rw [if_neg e, Int.add_zero]
theorem ALL : ∀ i, i < 32 → bt 2147483647 i = decide (i < 31) := by decide +kernel
theorem iIs {f : Int} (h1 : -100 ≤ f) (h2 : f ≤ 100) {g : Int} (h3 : -100 ≤ g) (h4 : g ≤ 100) : (iI f ≤ iI g ↔ f ≤ g) ∧ (iI f < iI g ↔ f < g) ∧ (iI f = iI g ↔ f = g) := ⟨iI_le (by omega) (by omega) (by omega) (by omega), iI_lt (by omega) (by omega) (by omega) (by omega), iI_eq (by omega) (by omega) (by omega) (by omega)⟩
theorem j65_ok {n : Nat} {m : Int} (hn : n ≤ 100) (h1 : -100 ≤ m) (h2 : m ≤ 30) (σ : rf_S) : f_X8_doingBy_j65 (nI n) (iI m) σ = some (bs 31 (fun d => decide (n ≤ d) && decide ((d : Int) ≤ m))) := by
  unfold f_X8_doingBy_j65
  have e : nI n ≤ iI m ↔ (n : Int) ≤ m := by
    rw [← iI_nat]
    exact (iIs (f := n) (by omega) (by omega) (g := m) (by omega) (by omega)).1
  by_cases c : (n : Int) ≤ m
  · rw [if_pos (e.mpr c)]
    obtain ⟨q, hq, rfl⟩ : ∃ q : Nat, q ≤ 30 ∧ m = q := ⟨m.toNat, by omega, by omega⟩
    have e30 : (30 : Int32) - iI (q : Int) = nI (30 - q) := by
      rw [iI_nat, show (30 : Int32) = nI 30 from rfl, nat_sub (by omega)]
    rw [e30]
    refine congrArg some ?_
    apply b_ext
    intro i hi
    rw [b_and, b_shl n (by omega) _ hi, b_sshr (30 - q) (by omega) _ hi, b_bs _ (by decide) hi]
    by_cases hni : n ≤ i
    · rw [ALL (i - n) (by omega)]
      by_cases hiq : i ≤ q
      · rw [if_pos (show 30 - q + i < 32 by omega), ALL _ (by omega), decide_eq_true hni, decide_eq_true (show i - n < 31 by omega), decide_eq_true (show 30 - q + i < 31 by omega), decide_eq_true (show i < 31 by omega), decide_eq_true (show (i : Int) ≤ (q : Int) by omega)]
        rfl
      · have z : (if 30 - q + i < 32 then bt 2147483647 (30 - q + i) else bt 2147483647 31) = false := by
          by_cases g : 30 - q + i < 32
          · rw [if_pos g, ALL _ g]
            exact decide_eq_false (by omega)
          · rw [if_neg g, ALL 31 (by decide)]
            rfl
        rw [z, decide_eq_false (show ¬ (i : Int) ≤ (q : Int) by omega), Bool.and_false, Bool.and_false, Bool.and_false]
    · rw [decide_eq_false hni, Bool.false_and, Bool.false_and, Bool.false_and, Bool.and_false]
  · rw [if_neg (fun q => c (e.mp q))]
    refine congrArg some ?_
    apply b_ext
    intro i hi
    rw [b_0, b_bs _ (by decide) hi]
    by_cases g : n ≤ i
    · rw [decide_eq_false (show ¬ (i : Int) ≤ m by omega), Bool.and_false, Bool.and_false]
    · rw [decide_eq_false g, Bool.false_and, Bool.and_false]
theorem rng_ok {a b : Int} (a1 : -100 ≤ a) (a2 : a ≤ 100) (b1 : -100 ≤ b) (b2 : b ≤ 100) (σ : rf_S) : f_X8_doingBy_j41 (iI a) (iI b) σ = some (bs 31 (fun d => decide (a ≤ (d : Int)) && decide ((d : Int) ≤ b))) := by
  have e0 : 0 ≤ iI a ↔ 0 ≤ a := (iIs (f := 0) (by omega) (by omega) a1 a2).1
  have e30 : iI b ≤ 30 ↔ b ≤ 30 := (iIs b1 b2 (g := 30) (by omega) (by omega)).1
  obtain ⟨n, hn, en, ea⟩ : ∃ n : Nat, n ≤ 100 ∧ f_X8_doingBy_j41 (iI a) (iI b) σ = f_X8_doingBy_j50 (iI b) (nI n) σ ∧ ∀ d : Nat, (n ≤ d ↔ a ≤ (d : Int)) := by
    by_cases c : 0 ≤ a
    · refine ⟨a.toNat, by omega, ?_, fun d => by omega⟩
      have ia : iI a = nI a.toNat := by
        rw [← iI_nat]
        congr 1
        omega
      rw [← ia]
      exact if_pos (e0.mpr c)
    · exact ⟨0, by omega, if_neg (fun q => c (e0.mp q)), fun d => by omega⟩
  obtain ⟨m, h1, h2, em, eb⟩ : ∃ m : Int, -100 ≤ m ∧ m ≤ 30 ∧ f_X8_doingBy_j50 (iI b) (nI n) σ = f_X8_doingBy_j65 (nI n) (iI m) σ ∧ ∀ d : Nat, d < 31 → ((d : Int) ≤ m ↔ (d : Int) ≤ b) := by
    by_cases c : b ≤ 30
    · exact ⟨b, b1, c, if_pos (e30.mpr c), fun d _ => Iff.rfl⟩
    · exact ⟨30, by omega, by omega, if_neg (fun q => c (e30.mp q)), fun d hd => by omega⟩
  rw [en, em, j65_ok hn h1 h2]
  refine congrArg some (bs_congr fun d hd => ?_)
  show (decide (n ≤ d) && decide ((d : Int) ≤ m)) = (decide (a ≤ (d : Int)) && decide ((d : Int) ≤ b))
  rw [decide_eq_decide.mpr (ea d), decide_eq_decide.mpr (eb d hd)]
theorem b_not (x : Int32) {i : Nat} (hi : i < 32) : bt (x ^^^ (-1)) i = !bt x i := by
  rw [b_xor, b_m1 i hi]
  cases bt x i <;> rfl
theorem doingBy_ok {k w : Nat} {f : Int} (hk : k < 6) (hw : w ≤ 9) (h1 : -80 ≤ f) (h2 : f ≤ 80) (σ : rf_S) : f_X8_doingBy (nI k) (iI f) (nI w) σ = some (bs 31 (doB k f w)) := by
  have u3 : f_X8_doingBy_j41 0 (iI f) σ = some (bs 31 (fun d => decide ((0 : Int) ≤ (d : Int)) && decide ((d : Int) ≤ f))) := rng_ok (a := 0) (b := f) (by omega) (by omega) (by omega) (by omega) σ
  have u1 : f_X8_doingBy_j41 (iI f + 1) 30 σ = some (bs 31 (fun d => decide (f + 1 ≤ (d : Int)) && decide ((d : Int) ≤ 30))) := by
    rw [show (1 : Int32) = iI 1 from rfl, iI_add]
    exact rng_ok (a := f + 1) (b := 30) (by omega) (by omega) (by omega) (by omega) σ
  have u2 : f_X8_doingBy_j41 (iI f) (iI f + nI w) σ = some (bs 31 (fun d => decide (f ≤ (d : Int)) && decide ((d : Int) ≤ f + w))) := by
    rw [← iI_nat, iI_add]
    exact rng_ok (a := f) (b := f + w) (by omega) (by omega) (by omega) (by omega) σ
  have u0 : f_X8_doingBy_j41 (iI f) 30 σ = some (bs 31 (fun d => decide (f ≤ (d : Int)) && decide ((d : Int) ≤ 30))) := rng_ok (a := f) (b := 30) (by omega) (by omega) (by omega) (by omega) σ
  unfold f_X8_doingBy
  by_cases c1 : k = 1
  · rw [if_neg (show ¬ nI k ≠ 1 from fun q => q ((n5k1 hk).mpr c1)), u3]
    refine congrArg some (bs_congr fun d hd => ?_)
    unfold doB
    rw [if_pos c1, decide_eq_true (show (0 : Int) ≤ (d : Int) by omega), Bool.true_and]
  · rw [if_pos (show nI k ≠ 1 from fun q => c1 ((n5k1 hk).mp q))]
    by_cases c4 : k = 4
    · rw [if_neg (show ¬ nI k ≠ 4 from fun q => q ((n5k4 hk).mpr c4)), u1]
      refine congrArg some (bs_congr fun d hd => ?_)
      unfold doB
      rw [if_neg c1, if_neg (show ¬ k = 2 by omega), if_pos c4, decide_eq_true (show (d : Int) ≤ 30 by omega), Bool.and_true]
      exact decide_eq_decide.mpr ⟨fun q => by omega, fun q => by omega⟩
    · rw [if_pos (show nI k ≠ 4 from fun q => c4 ((n5k4 hk).mp q))]
      by_cases c2 : k = 2
      · rw [if_neg (show ¬ nI k ≠ 2 from fun q => q ((n5k2 hk).mpr c2)), u2]
        refine congrArg some (bs_congr fun d hd => ?_)
        unfold doB
        rw [if_neg c1, if_pos c2]
      · rw [if_pos (show nI k ≠ 2 from fun q => c2 ((n5k2 hk).mp q)), u0]
        refine congrArg some (bs_congr fun d hd => ?_)
        unfold doB
        rw [if_neg c1, if_neg c2, if_neg c4, decide_eq_true (show (d : Int) ≤ 30 by omega), Bool.and_true]
theorem fIs_in {t : TT} (h : tok 60 t) {i k : Nat} (hi : i < tM t) {sh : Int} (s1 : -5 ≤ sh) (s2 : sh ≤ 5) : -80 ≤ fIs t i k sh ∧ fIs t i k sh ≤ 80 := by
  obtain ⟨a1, a2, a3, a4, a5, a6, a7, a8, a9⟩ := h
  have b2 := (a6 i hi).2.1
  unfold fIs feelZ
  have : ((tH t / 6 : Nat) : Int) ≤ 40 := by omega
  have : 0 ≤ ((tH t / 6 : Nat) : Int) := by omega
  split <;> split <;> split <;> omega
/-! the class -/
theorem wouldAs_ok {σ : rf_S} {t : TT} (h : CT σ t) {i k : Nat} (hi : i < tM t) (hk : k < 6) {sh : Int} (s1 : -5 ≤ sh) (s2 : sh ≤ 5) : f_X8_wouldAs (nI i) (nI k) (iI sh) σ = some (bs 31 (wdAs t i k sh)) := by
  obtain ⟨⟨c1, c2, c3, c4⟩, ⟨d1, d2, d3, d4, d5, d6⟩, ht⟩ := h
  obtain ⟨a1, a2, a3, a4, a5, a6, a7, a8, a9⟩ := id ht
  obtain ⟨k1, k2, k3⟩ := c4 i hi
  have b := a6 i hi
  unfold f_X8_wouldAs f_X8_markOf f_X8_widthOf
  rw [ck0_30, if_pos (in_ok (by omega) (by decide)), nI_clamp (by omega), k2, ck0_31, if_pos (in_ok (by omega) (by decide)), k3, d4, d5]
  simp only [Option.bind_some]
  rw [← iI_nat (tG t i), iI_add, feeling_ok _ hk (by omega) (by omega)]
  simp only [Option.bind_some]
  have hf := fIs_in ht hi (k := k) s1 s2
  have := doingBy_ok (f := fIs t i k sh) hk (show tW t i ≤ 9 by omega) hf.1 hf.2 σ
  unfold fIs at this
  rw [this]
  rfl
theorem would_ok {σ : rf_S} {t : TT} (h : CT σ t) {i : Nat} (hi : i < tM t) : f_X8_would (nI i) σ = some (bs 31 (wd t i)) := by
  obtain ⟨⟨c1, c2, c3, c4⟩, ⟨d1, d2, d3, d4, d5, d6⟩, ht⟩ := id h
  obtain ⟨a1, a2, a3, a4, a5, a6, a7, a8, a9⟩ := ht
  obtain ⟨k1, k2, k3⟩ := c4 i hi
  have b := a6 i hi
  unfold f_X8_would f_X8_kindOf
  rw [ck0_29, if_pos (in_ok (by omega) (by decide)), nI_clamp (by omega), k1, ck0_36, Option.bind_some, if_pos (in_ok (by omega) (by decide)), (d2 i hi).2.2]
  rw [wouldAs_ok h hi b.1 b.2.2.2.2.2.1 b.2.2.2.2.2.2]
  rfl
theorem bs_false (n : Nat) : bs n (fun _ => false) = 0 := by
  induction n with
  | zero => rfl
  | succ n ih => rw [bs, ih, if_neg (by decide)]; rfl
theorem does_ok {σ : rf_S} {t : TT} (h : CT σ t) {i : Nat} (hi : i < tM t) : f_X8_does (nI i) σ = some (bs 31 (ds t i)) := by
  obtain ⟨⟨c1, c2, c3, c4⟩, ⟨d1, d2, d3, d4, d5, d6⟩, ht⟩ := id h
  obtain ⟨a1, a2, a3, a4, a5, a6, a7, a8, a9⟩ := ht
  have b := a6 i hi
  have hw : ((f_X8_kindOf (nI i) σ).bind (fun q3 => if rf_ck ly0 0 36 (nI i) = true then ((f_X8_wouldAs (nI i) q3 (σ.1 36 (nI i).toNatClampNeg) σ).bind (fun q6 => some q6)) else none)) = some (bs 31 (wd t i)) := would_ok h hi
  unfold f_X8_does
  rw [hw, ck0_35, if_pos (in_ok (by omega) (by decide)), nI_clamp (by omega), (d2 i hi).2.1]
  by_cases e : tC t i = 0
  · rw [e, if_pos (by decide)]
    refine congrArg some (bs_congr fun d hd => ?_)
    unfold ds
    simp [e]
  · rw [if_neg (nI_nle (by omega) (by omega))]
    rw [← bs_false 31]
    refine congrArg some (bs_congr fun d hd => ?_)
    unfold ds
    simp [e]
/-! the reference -/
theorem feelsBy_ok {τ : rf_S} {c : Nat} {t : TT} (h : MT τ c t) {k : Nat} (hk : k < 6) (b : Int) : f_X10_feelsBy c (nI k) (iI b) τ = some (iI (feelZ k b (tS t) (tH t))) := by
  obtain ⟨m1, ⟨v1, v2, v3, v4, v5⟩, hc, ⟨a1, a2, a3, a4, a5, a6, a7, a8, a9⟩⟩ := h
  have c22 : (22 : Int32).toNatClampNeg = 22 := rfl
  have c23 : (23 : Int32).toNatClampNeg = 23 := rfl
  have i22 : rf_in 22 25 = true := rfl
  have i23 : rf_in 23 25 = true := rfl
  have j31 : ∀ x y : Int, f_X10_feelsBy_j31 c (nI k) (iI y) (iI x) τ = some (iI (x + y - (if k = 5 then ((tH t / 6 : Nat) : Int) else 0))) := by
    intro x y
    unfold f_X10_feelsBy_j31
    rw [hc, i22, if_pos rfl, c22, v3, div6 (by omega)]
    by_cases e : k = 5
    · subst e
      rw [if_neg (fun q => q rfl), if_pos rfl, ← iI_nat, iI_add, iI_sub]
    · rw [if_pos (show nI k ≠ 5 from fun q => e ((n5 5 (by omega) (by omega)).mp q)), if_neg e, iI_add, Int.sub_zero]
  have j13 : ∀ x y : Int, f_X10_feelsBy_j13 c (nI k) (iI y) (iI x) τ = some (iI (x + y + (if k = 3 ∨ k = 5 then 2 else 0) - (if k = 5 then ((tH t / 6 : Nat) : Int) else 0))) := by
    intro x y
    unfold f_X10_feelsBy_j13 f_X10_feelsBy_j26
    rw [iI_add, show (2 : Int32) = iI 2 from rfl, show (0 : Int32) = iI 0 from rfl, j31, j31]
    by_cases e : k = 3
    · subst e
      rw [if_pos (show nI 3 = 3 from rfl), if_pos (Or.inl rfl)]
    · rw [if_neg (show ¬ nI k = 3 from fun q => e ((n5k3 hk).mp q))]
      by_cases e5 : k = 5
      · subst e5
        rw [if_neg (fun q => q rfl), if_pos (Or.inr rfl)]
      · rw [if_pos (show nI k ≠ 5 from fun q => e5 ((n5k5 hk).mp q)), if_neg e5, if_neg (show ¬ (k = 3 ∨ k = 5) by omega)]
  unfold f_X10_feelsBy
  rw [hc, i23, if_pos rfl, c23, v4]
  by_cases e : 0 < tS t
  · rw [if_neg (nI_nle e (by omega)), show (1 : Int32) = iI 1 from rfl, j13]
    unfold feelZ
    rw [if_pos e]
  · rw [show tS t = 0 by omega, if_pos (by decide), show (0 : Int32) = iI 0 from rfl, j13]
    rfl
theorem doesBy_ok {k w d : Nat} {f : Int} (hk : k < 6) (hw : w ≤ 9) (hd : d ≤ 30) (h1 : -80 ≤ f) (h2 : f ≤ 80) (τ : rf_S) : f_X10_doesBy (nI k) (iI f) (nI w) (nI d) τ = some (if doB k f w d = true then 1 else 0) := by
  unfold f_X10_doesBy doB
  simp only [n5k1 hk, n5k2 hk, n5k3 hk, n5k4 hk, n5k5 hk]
  rw [← iI_nat d, ← iI_nat w, iI_add]
  have e1 := iIs (f := f) (by omega) (by omega) (g := d) (by omega) (by omega)
  have e2 := iIs (f := d) (by omega) (by omega) (g := f) (by omega) (by omega)
  have e3 := iIs (f := f + w) (by omega) (by omega) (g := d) (by omega) (by omega)
  simp only [e1.1, e1.2.1, e2.1, e2.2.1, e3.2.1]
  by_cases c1 : k = 1
  · simp only [if_pos c1]
    by_cases q : f < d
    · simp [q, show ¬ (d : Int) ≤ f by omega]
    · simp [q, show (d : Int) ≤ f by omega]
  · simp only [if_neg c1]
    by_cases c2 : k = 2
    · simp only [if_pos c2]
      by_cases q : (d : Int) < f
      · simp [q, show ¬ f ≤ (d : Int) by omega]
      · by_cases q2 : f + w < d
        · simp [q, q2, show ¬ (d : Int) ≤ f + w by omega]
        · simp [q, q2, show (d : Int) ≤ f + w by omega, show f ≤ (d : Int) by omega]
    · simp only [if_neg c2]
      by_cases c4 : k = 4
      · subst c4
        simp only [if_neg (show ¬ (4 : Nat) = 3 by decide), if_true]
        by_cases q : (d : Int) ≤ f
        · simp [q, show ¬ f < (d : Int) by omega]
        · simp [q, show f < (d : Int) by omega]
      · simp only [if_neg c4]
        by_cases q : (d : Int) < f
        · simp [q, show ¬ f ≤ (d : Int) by omega]
        · simp [q, show f ≤ (d : Int) by omega]
theorem bz (b : Bool) : (if b = true then (1 : Int32) else 0) = 0 ∨ (if b = true then (1 : Int32) else 0) = 1 := by cases b <;> simp
theorem i16 (k i : Nat) : nI k + nI i = nI (k + i) := nI_add k i
theorem feels_ok {τ : rf_S} {c : Nat} {t : TT} (h : MT τ c t) {i : Nat} (hi : i < tM t) : f_X10_feels c (nI i) τ = some (iI (fIs t i (tK t i) (tV t i))) := by
  obtain ⟨⟨m1, m2, m3, m4⟩, ⟨v1, v2, v3, v4, v5⟩, hc, ht⟩ := id h
  obtain ⟨a1, a2, a3, a4, a5, a6, a7, a8, a9⟩ := ht
  obtain ⟨k1, k2, k3⟩ := m4 i hi
  have b := a6 i hi
  unfold f_X10_feels
  rw [show (16 : Int32) = nI 16 from rfl, i16, ck1_9, if_pos (in_ok (by omega) (by decide)), ck1_10, if_pos (in_ok (by omega) (by decide)), hc, if_pos (in_ok (by omega) (by decide)), nI_clamp (by omega), nI_clamp (by omega), k1, k2, (v2 i hi).2.2, ← iI_nat (tG t i), iI_add, feelsBy_ok h b.1]
  rfl
theorem wouldAt_ok {τ : rf_S} {c : Nat} {t : TT} (h : MT τ c t) {i d : Nat} (hi : i < tM t) (hd : d ≤ 30) : f_X10_wouldAt c (nI i) (nI d) τ = some (if wd t i d = true then 1 else 0) := by
  obtain ⟨⟨m1, m2, m3, m4⟩, ⟨v1, v2, v3, v4, v5⟩, hc, ht⟩ := id h
  obtain ⟨a1, a2, a3, a4, a5, a6, a7, a8, a9⟩ := id ht
  obtain ⟨k1, k2, k3⟩ := m4 i hi
  have b := a6 i hi
  unfold f_X10_wouldAt
  rw [ck1_9, if_pos (in_ok (by omega) (by decide)), nI_clamp (by omega), k1, feels_ok h hi]
  simp only [Option.bind_some]
  have hf := fIs_in ht hi (k := tK t i) b.2.2.2.2.2.1 b.2.2.2.2.2.2
  rw [ck1_11, if_pos (in_ok (by omega) (by decide)), k3, doesBy_ok b.1 (by omega) hd hf.1 hf.2]
  simp only [Option.bind_some]
  rw [if_pos (bz _)]
  rfl
theorem doesAt_ok {τ : rf_S} {c : Nat} {t : TT} (h : MT τ c t) {i d : Nat} (hi : i < tM t) (hd : d ≤ 30) : f_X10_doesAt c (nI i) (nI d) τ = some (if ds t i d = true then 1 else 0) := by
  obtain ⟨⟨m1, m2, m3, m4⟩, ⟨v1, v2, v3, v4, v5⟩, hc, ht⟩ := id h
  obtain ⟨a1, a2, a3, a4, a5, a6, a7, a8, a9⟩ := ht
  have b := a6 i hi
  unfold f_X10_doesAt
  rw [show (10 : Int32) = nI 10 from rfl, i16, hc, if_pos (in_ok (by omega) (by decide)), nI_clamp (by omega), (v2 i hi).2.1, wouldAt_ok h hi hd]
  by_cases e : tC t i = 0
  · rw [e, if_neg (fun q => q rfl)]
    simp only [Option.bind_some]
    unfold ds
    cases wd t i d <;> simp [e]
  · rw [if_pos (nI_ne0 (by omega) (by omega))]
    unfold ds
    simp [e]
theorem mdoes_ok {τ : rf_S} {c : Nat} {t : TT} (h : MT τ c t) {i : Nat} (hi : i < tM t) : f_X10_does c (nI i) τ = some (if ds t i (tD t (tL t i)) = true then 1 else 0) := by
  obtain ⟨⟨m1, m2, m3, m4⟩, ⟨v1, v2, v3, v4, v5⟩, hc, ht⟩ := id h
  obtain ⟨a1, a2, a3, a4, a5, a6, a7, a8, a9⟩ := ht
  have b := a6 i hi
  unfold f_X10_does
  rw [show (4 : Int32) = nI 4 from rfl, i16, hc, if_pos (in_ok (by omega) (by decide)), nI_clamp (by omega), (v2 i hi).1, hc, if_pos (in_ok (by omega) (by decide)), nI_clamp (by omega), v1 _ b.2.2.2.1, doesAt_ok h hi (a5 _ b.2.2.2.1).2.2]
  simp only [Option.bind_some]
  rw [if_pos (bz _)]
