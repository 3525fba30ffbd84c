/-! ===== the town as numbers, and when class and reference agree ===== -/
def iI (z : Int) : Int32 := Int32.ofInt z
theorem iI_nat (n : Nat) : iI (n : Int) = nI n := by
  unfold iI nI
  exact Int32.ofInt_eq_ofNat
theorem iI_toInt {z : Int} (h1 : -2 ^ 31 ≤ z) (h2 : z < 2 ^ 31) : (iI z).toInt = z := by
  unfold iI
  rw [Int32.toInt_ofInt, show Int32.size = 4294967296 from rfl]
  exact Int.bmod_eq_of_le (by omega) (by omega)
theorem iI_of (x : Int32) : iI x.toInt = x := by
  unfold iI
  exact Int32.ofInt_toInt x
theorem iI_add (a b : Int) : iI a + iI b = iI (a + b) := by
  unfold iI
  exact (Int32.ofInt_add a b).symm
theorem iI_sub (a b : Int) : iI a - iI b = iI (a - b) := by
  unfold iI
  exact (Int32.ofInt_sub a b).symm
theorem iI_neg (a : Int) : - iI a = iI (-a) := by
  unfold iI
  exact (Int32.ofInt_neg a).symm
theorem iI_mul (a b : Int) : iI a * iI b = iI (a * b) := by
  unfold iI
  exact (Int32.ofInt_mul a b).symm
theorem iI_lt {a b : Int} (ha1 : -2 ^ 31 ≤ a) (ha2 : a < 2 ^ 31) (hb1 : -2 ^ 31 ≤ b) (hb2 : b < 2 ^ 31) : iI a < iI b ↔ a < b := by
  rw [Int32.lt_iff_toInt_lt, iI_toInt ha1 ha2, iI_toInt hb1 hb2]
theorem iI_le {a b : Int} (ha1 : -2 ^ 31 ≤ a) (ha2 : a < 2 ^ 31) (hb1 : -2 ^ 31 ≤ b) (hb2 : b < 2 ^ 31) : iI a ≤ iI b ↔ a ≤ b := by
  rw [Int32.le_iff_toInt_le, iI_toInt ha1 ha2, iI_toInt hb1 hb2]
theorem iI_eq {a b : Int} (ha1 : -2 ^ 31 ≤ a) (ha2 : a < 2 ^ 31) (hb1 : -2 ^ 31 ≤ b) (hb2 : b < 2 ^ 31) : iI a = iI b ↔ a = b := by
  constructor
  · intro h
    have := congrArg Int32.toInt h
    rwa [iI_toInt ha1 ha2, iI_toInt hb1 hb2] at this
  · intro h
    rw [h]
/-- a town: rooms, members, hour, soup, steps; needs, kinds, marks, widths; degrees, places, colds; shifts -/
abbrev TT : Type := (Nat → Nat → Nat) × (Nat → Int)
abbrev tR (t : TT) : Nat := t.1 0 0
abbrev tM (t : TT) : Nat := t.1 0 1
abbrev tH (t : TT) : Nat := t.1 0 2
abbrev tS (t : TT) : Nat := t.1 0 3
abbrev tP (t : TT) : Nat := t.1 0 4
abbrev tN (t : TT) (r : Nat) : Nat := t.1 1 r
abbrev tK (t : TT) (i : Nat) : Nat := t.1 2 i
abbrev tG (t : TT) (i : Nat) : Nat := t.1 3 i
abbrev tW (t : TT) (i : Nat) : Nat := t.1 4 i
abbrev tD (t : TT) (r : Nat) : Nat := t.1 5 r
abbrev tL (t : TT) (i : Nat) : Nat := t.1 6 i
abbrev tC (t : TT) (i : Nat) : Nat := t.1 7 i
abbrev tV (t : TT) (i : Nat) : Int := t.2 i
def tset (t : TT) (a b x : Nat) : TT := (fun p q => if p = a ∧ q = b then x else t.1 p q, t.2)
/-- what holds of every town; k: how many deeds -/
def tok (k : Nat) (t : TT) : Prop := tR t ≤ 4 ∧ tM t ≤ 6 ∧ (0 < tM t → 0 < tR t) ∧ (tM t = 0 → tR t = 0) ∧ (∀ r, r < tR t → 1 ≤ tN t r ∧ tN t r ≤ 31 ∧ tD t r ≤ 30) ∧ (∀ i, i < tM t → tK t i < 6 ∧ tG t i ≤ 30 ∧ tW t i ≤ 9 ∧ tL t i < tR t ∧ tC t i ≤ 2 ∧ -5 ≤ tV t i ∧ tV t i ≤ 5) ∧ tH t ≤ k ∧ tS t ≤ 3 ∧ tP t ≤ 3 * k
/-- who gets a cold as an hour passes -/
def catch_ (t : TT) (i : Nat) : Bool := decide (tC t i = 0) && (List.range (tM t)).any (fun k => decide (tL t k = tL t i) && decide (0 < tC t k))
def passT (t : TT) : TT := (fun p q => if p = 7 then (if q < tM t then (if catch_ t q = true then 2 else tC t q - 1) else t.1 p q) else if p = 0 ∧ q = 2 then tH t + 1 else if p = 0 ∧ q = 3 then tS t - 1 else t.1 p q, t.2)
def dist (a b : Nat) : Nat := if a ≤ b then b - a else a - b
/-- a deed: what, who, how much -/
abbrev DD : Type := Nat × Nat × Int
def actT (d : DD) (t : TT) : TT := match d.1 with
  | 0 => tset (tset t 0 4 (tP t + dist (tL t d.2.1) d.2.2.toNat)) 6 d.2.1 d.2.2.toNat
  | 1 => passT t
  | 2 => tset t 0 3 3
  | 3 => tset t 7 d.2.1 2
  | 4 => (t.1, fun i => if i = d.2.1 then d.2.2 else t.2 i)
  | _ => tset t 5 d.2.1 d.2.2.toNat
def dok (d : DD) (t : TT) : Prop := match d.1 with
  | 0 => d.2.1 < tM t ∧ 0 ≤ d.2.2 ∧ d.2.2 < tR t
  | 1 => d.2.1 = 0 ∧ d.2.2 = 0
  | 2 => d.2.1 = 0 ∧ d.2.2 = 0
  | 3 => d.2.1 < tM t ∧ d.2.2 = 0
  | 4 => d.2.1 < tM t ∧ -5 ≤ d.2.2 ∧ d.2.2 ≤ 5
  | 5 => d.2.1 < tR t ∧ 0 ≤ d.2.2 ∧ d.2.2 ≤ 30
  | _ => False
def enc (d : DD) : Int32 := iI (10000 * d.1 + 100 * d.2.1 + d.2.2 + 5)
/-- n deeds from a town on -/
def Hs (t0 : TT) (n : Nat) (H : Nat → TT) (E : Nat → DD) : Prop := H 0 = t0 ∧ ∀ k, k < n → H (k + 1) = actT (E k) (H k) ∧ dok (E k) (H k)
/-! the class's town, and its plan -/
def cC (σ : rf_S) (t : TT) : Prop := σ.1 26 6 = nI (tR t) ∧ σ.1 26 7 = nI (tM t) ∧ (∀ r, r < tR t → σ.1 28 r = nI (tN t r)) ∧ ∀ i, i < tM t → σ.1 29 i = nI (tK t i) ∧ σ.1 30 i = nI (tG t i) ∧ σ.1 31 i = nI (tW t i)
def cS (σ : rf_S) (t : TT) : Prop := (∀ r, r < tR t → σ.1 33 r = nI (tD t r)) ∧ (∀ i, i < tM t → σ.1 34 i = nI (tL t i) ∧ σ.1 35 i = nI (tC t i) ∧ σ.1 36 i = iI (tV t i)) ∧ (∀ i, tM t ≤ i → i < 6 → σ.1 35 i = 0) ∧ σ.1 25 6 = nI (tH t) ∧ σ.1 25 7 = nI (tS t) ∧ σ.1 25 8 = nI (tP t)
def cP (σ : rf_S) (t : TT) : Prop := (∀ r, r < tR t → σ.1 27 r = nI (tD t r)) ∧ (∀ i, i < tM t → σ.1 32 i = nI (tL t i)) ∧ (∀ i, tC t i = 0 ∧ tV t i = 0) ∧ tH t = 0 ∧ tS t = 0 ∧ tP t = 0
/-! the reference's -/
def mC (τ : rf_S) (t : TT) : Prop := τ.1 0 16 = nI (tR t) ∧ τ.1 0 17 = nI (tM t) ∧ (∀ r, r < tR t → τ.1 8 r = nI (tN t r)) ∧ ∀ i, i < tM t → τ.1 9 i = nI (tK t i) ∧ τ.1 10 i = nI (tG t i) ∧ τ.1 11 i = nI (tW t i)
def mV (f : Nat → Int32) (t : TT) : Prop := (∀ r, r < tR t → f r = nI (tD t r)) ∧ (∀ i, i < tM t → f (4 + i) = nI (tL t i) ∧ f (10 + i) = nI (tC t i) ∧ f (16 + i) = iI (tV t i)) ∧ f 22 = nI (tH t) ∧ f 23 = nI (tS t) ∧ f 24 = nI (tP t)
/-! agreement -/
def SimF (σ τ : rf_S) : Prop := τ.1 0 6 = σ.1 0 10 ∧ τ.1 0 4 = σ.1 0 9 ∧ (∀ f, f < 6 → τ.1 5 f = σ.1 54 f) ∧ τ.2 0 7 = σ.2 53 0 ∧ τ.2 0 8 = σ.2 53 1
def SimR (σ τ : rf_S) : Prop := ∀ r, r < 6 → τ.1 1 r = σ.1 9 r ∧ (σ.1 9 r = -1 ∨ ∃ n, n ≤ 40 ∧ σ.1 9 r = nI n) ∧ ∀ i, i < 40 → τ.1 2 (40 * r + i) = σ.1 (3 + r) i
def SimT (σ τ : rf_S) : Prop := ∀ r, r < 4 → τ.1 3 r = σ.1 16 r ∧ (σ.1 16 r = -1 ∨ ∃ n, n ≤ 60 ∧ σ.1 16 r = nI n) ∧ ∀ i, i < 60 → τ.1 4 (60 * r + i) = σ.1 (12 + r) i
def SimK (σ τ : rf_S) (t0 : TT) (k : Nat) : Prop := (σ.1 44 k = -1 ∧ τ.1 17 k = -1) ∨ ∃ (n : Nat) (H : Nat → TT) (E : Nat → DD), (tM t0 = 0 → n = 0) ∧ n ≤ 40 ∧ σ.1 44 k = nI n ∧ τ.1 17 k = nI n ∧ Hs t0 n H E ∧ (∀ j, j < n → σ.1 (41 + k) j = enc (E j)) ∧ mV (fun j => τ.1 15 (25 * k + j)) (H n) ∧ ∀ i, i < n → mV (fun j => τ.1 16 (1000 * k + 25 * i + j)) (H i)
def SimD (σ τ : rf_S) (t0 : TT) (n : Nat) (H : Nat → TT) (E : Nat → DD) : Prop := n ≤ 40 ∧ σ.1 38 3 = nI n ∧ τ.1 0 25 = nI n ∧ Hs t0 n H E ∧ (∀ j, j < n → σ.1 39 j = enc (E j)) ∧ cS σ (H n) ∧ mV (τ.1 12) (H n) ∧ ∀ i, i < n → mV (fun j => τ.1 14 (25 * i + j)) (H i)
def SimW (σ τ : rf_S) : Prop := ∃ (t0 : TT) (n : Nat) (H : Nat → TT) (E : Nat → DD), tok 0 t0 ∧ cC σ t0 ∧ cP σ t0 ∧ mC τ t0 ∧ SimD σ τ t0 n H E ∧ (tM t0 = 0 → n = 0) ∧ ∀ k, k < 3 → SimK σ τ t0 k
def Sim (σ τ : rf_S) : Prop := SimF σ τ ∧ SimR σ τ ∧ SimT σ τ ∧ SimW σ τ
/-- only these cells count for the town -/
theorem SimW_of {σ τ σ' τ' : rf_S} (h : SimW σ τ) (hc : ∀ c, 25 ≤ c → c ≤ 44 → c ≠ 37 → σ'.1 c = σ.1 c) (hm : ∀ c, c = 8 ∨ c = 9 ∨ c = 10 ∨ c = 11 ∨ c = 12 ∨ c = 14 ∨ c = 15 ∨ c = 16 ∨ c = 17 → τ'.1 c = τ.1 c) (h0 : ∀ j, j = 16 ∨ j = 17 ∨ j = 25 → τ'.1 0 j = τ.1 0 j) : SimW σ' τ' := by
  obtain ⟨t0, n, H, E, h1, h2, h3, h4, h5, h5', h6⟩ := h
  refine ⟨t0, n, H, E, h1, ?_, ?_, ?_, ?_, h5', ?_⟩
  · unfold cC at *
    rw [hc 26 (by omega) (by omega) (by omega), hc 28 (by omega) (by omega) (by omega), hc 29 (by omega) (by omega) (by omega), hc 30 (by omega) (by omega) (by omega), hc 31 (by omega) (by omega) (by omega)]
    exact h2
  · unfold cP at *
    rw [hc 27 (by omega) (by omega) (by omega), hc 32 (by omega) (by omega) (by omega)]
    exact h3
  · unfold mC at *
    rw [h0 16 (by omega), h0 17 (by omega), hm 8 (by omega), hm 9 (by omega), hm 10 (by omega), hm 11 (by omega)]
    exact h4
  · unfold SimD cS at *
    rw [hc 38 (by omega) (by omega) (by omega), h0 25 (by omega), hc 39 (by omega) (by omega) (by omega), hc 33 (by omega) (by omega) (by omega), hc 34 (by omega) (by omega) (by omega), hc 35 (by omega) (by omega) (by omega), hc 36 (by omega) (by omega) (by omega), hc 25 (by omega) (by omega) (by omega), hm 12 (by omega), hm 14 (by omega)]
    exact h5
  · intro k hk
    have h7 := h6 k hk
    unfold SimK at *
    rw [hc 44 (by omega) (by omega) (by omega), hc (41 + k) (by omega) (by omega) (by omega), hm 17 (by omega), hm 15 (by omega), hm 16 (by omega)]
    exact h7
