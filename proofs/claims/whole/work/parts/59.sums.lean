/-! ===== sums over subsets, turned by xor; Euclid's steps ===== -/
def sumN (F : Nat → Nat) : Nat → Nat
  | 0 => 0
  | n + 1 => sumN F n + F n
theorem sumN_pad {F : Nat → Nat} {n m : Nat} (h : n ≤ m) (h0 : ∀ k, n ≤ k → k < m → F k = 0) : sumN F m = sumN F n := by
  obtain ⟨j, rfl⟩ : ∃ j, m = n + j := ⟨m - n, by omega⟩
  induction j with
  | zero => rfl
  | succ j ih =>
    show sumN F (n + j) + F (n + j) = _
    rw [ih (by omega) (fun k a b => h0 k a (by omega)), h0 (n + j) (by omega) (by omega)]
    rfl
theorem sumN_congr {F G : Nat → Nat} {n : Nat} (h : ∀ k, k < n → F k = G k) : sumN F n = sumN G n := by
  induction n with
  | zero => rfl
  | succ n ih => rw [sumN, sumN, ih (fun k hk => h k (by omega)), h n (by omega)]
theorem sum64 (g : Nat → Nat) : sumN g 64 = g 0 + g 1 + g 2 + g 3 + g 4 + g 5 + g 6 + g 7 + g 8 + g 9 + g 10 + g 11 + g 12 + g 13 + g 14 + g 15 + g 16 + g 17 + g 18 + g 19 + g 20 + g 21 + g 22 + g 23 + g 24 + g 25 + g 26 + g 27 + g 28 + g 29 + g 30 + g 31 + g 32 + g 33 + g 34 + g 35 + g 36 + g 37 + g 38 + g 39 + g 40 + g 41 + g 42 + g 43 + g 44 + g 45 + g 46 + g 47 + g 48 + g 49 + g 50 + g 51 + g 52 + g 53 + g 54 + g 55 + g 56 + g 57 + g 58 + g 59 + g 60 + g 61 + g 62 + g 63 := by
  show 0 + g 0 + g 1 + g 2 + g 3 + g 4 + g 5 + g 6 + g 7 + g 8 + g 9 + g 10 + g 11 + g 12 + g 13 + g 14 + g 15 + g 16 + g 17 + g 18 + g 19 + g 20 + g 21 + g 22 + g 23 + g 24 + g 25 + g 26 + g 27 + g 28 + g 29 + g 30 + g 31 + g 32 + g 33 + g 34 + g 35 + g 36 + g 37 + g 38 + g 39 + g 40 + g 41 + g 42 + g 43 + g 44 + g 45 + g 46 + g 47 + g 48 + g 49 + g 50 + g 51 + g 52 + g 53 + g 54 + g 55 + g 56 + g 57 + g 58 + g 59 + g 60 + g 61 + g 62 + g 63 = _
  rw [Nat.zero_add]
theorem sumx0 (g : Nat → Nat) : sumN (fun k => g (k ^^^ 1)) 64 = sumN g 64 := by
  rw [sum64 g, sum64]
  show g 1 + g 0 + g 3 + g 2 + g 5 + g 4 + g 7 + g 6 + g 9 + g 8 + g 11 + g 10 + g 13 + g 12 + g 15 + g 14 + g 17 + g 16 + g 19 + g 18 + g 21 + g 20 + g 23 + g 22 + g 25 + g 24 + g 27 + g 26 + g 29 + g 28 + g 31 + g 30 + g 33 + g 32 + g 35 + g 34 + g 37 + g 36 + g 39 + g 38 + g 41 + g 40 + g 43 + g 42 + g 45 + g 44 + g 47 + g 46 + g 49 + g 48 + g 51 + g 50 + g 53 + g 52 + g 55 + g 54 + g 57 + g 56 + g 59 + g 58 + g 61 + g 60 + g 63 + g 62 = _
  omega
theorem sumx1 (g : Nat → Nat) : sumN (fun k => g (k ^^^ 2)) 64 = sumN g 64 := by
  rw [sum64 g, sum64]
  show g 2 + g 3 + g 0 + g 1 + g 6 + g 7 + g 4 + g 5 + g 10 + g 11 + g 8 + g 9 + g 14 + g 15 + g 12 + g 13 + g 18 + g 19 + g 16 + g 17 + g 22 + g 23 + g 20 + g 21 + g 26 + g 27 + g 24 + g 25 + g 30 + g 31 + g 28 + g 29 + g 34 + g 35 + g 32 + g 33 + g 38 + g 39 + g 36 + g 37 + g 42 + g 43 + g 40 + g 41 + g 46 + g 47 + g 44 + g 45 + g 50 + g 51 + g 48 + g 49 + g 54 + g 55 + g 52 + g 53 + g 58 + g 59 + g 56 + g 57 + g 62 + g 63 + g 60 + g 61 = _
  omega
theorem sumx2 (g : Nat → Nat) : sumN (fun k => g (k ^^^ 4)) 64 = sumN g 64 := by
  rw [sum64 g, sum64]
  show g 4 + g 5 + g 6 + g 7 + g 0 + g 1 + g 2 + g 3 + g 12 + g 13 + g 14 + g 15 + g 8 + g 9 + g 10 + g 11 + g 20 + g 21 + g 22 + g 23 + g 16 + g 17 + g 18 + g 19 + g 28 + g 29 + g 30 + g 31 + g 24 + g 25 + g 26 + g 27 + g 36 + g 37 + g 38 + g 39 + g 32 + g 33 + g 34 + g 35 + g 44 + g 45 + g 46 + g 47 + g 40 + g 41 + g 42 + g 43 + g 52 + g 53 + g 54 + g 55 + g 48 + g 49 + g 50 + g 51 + g 60 + g 61 + g 62 + g 63 + g 56 + g 57 + g 58 + g 59 = _
  omega
theorem sumx3 (g : Nat → Nat) : sumN (fun k => g (k ^^^ 8)) 64 = sumN g 64 := by
  rw [sum64 g, sum64]
  show g 8 + g 9 + g 10 + g 11 + g 12 + g 13 + g 14 + g 15 + g 0 + g 1 + g 2 + g 3 + g 4 + g 5 + g 6 + g 7 + g 24 + g 25 + g 26 + g 27 + g 28 + g 29 + g 30 + g 31 + g 16 + g 17 + g 18 + g 19 + g 20 + g 21 + g 22 + g 23 + g 40 + g 41 + g 42 + g 43 + g 44 + g 45 + g 46 + g 47 + g 32 + g 33 + g 34 + g 35 + g 36 + g 37 + g 38 + g 39 + g 56 + g 57 + g 58 + g 59 + g 60 + g 61 + g 62 + g 63 + g 48 + g 49 + g 50 + g 51 + g 52 + g 53 + g 54 + g 55 = _
  omega
theorem sumx4 (g : Nat → Nat) : sumN (fun k => g (k ^^^ 16)) 64 = sumN g 64 := by
  rw [sum64 g, sum64]
  show g 16 + g 17 + g 18 + g 19 + g 20 + g 21 + g 22 + g 23 + g 24 + g 25 + g 26 + g 27 + g 28 + g 29 + g 30 + g 31 + g 0 + g 1 + g 2 + g 3 + g 4 + g 5 + g 6 + g 7 + g 8 + g 9 + g 10 + g 11 + g 12 + g 13 + g 14 + g 15 + g 48 + g 49 + g 50 + g 51 + g 52 + g 53 + g 54 + g 55 + g 56 + g 57 + g 58 + g 59 + g 60 + g 61 + g 62 + g 63 + g 32 + g 33 + g 34 + g 35 + g 36 + g 37 + g 38 + g 39 + g 40 + g 41 + g 42 + g 43 + g 44 + g 45 + g 46 + g 47 = _
  omega
theorem sumx5 (g : Nat → Nat) : sumN (fun k => g (k ^^^ 32)) 64 = sumN g 64 := by
  rw [sum64 g, sum64]
  show g 32 + g 33 + g 34 + g 35 + g 36 + g 37 + g 38 + g 39 + g 40 + g 41 + g 42 + g 43 + g 44 + g 45 + g 46 + g 47 + g 48 + g 49 + g 50 + g 51 + g 52 + g 53 + g 54 + g 55 + g 56 + g 57 + g 58 + g 59 + g 60 + g 61 + g 62 + g 63 + g 0 + g 1 + g 2 + g 3 + g 4 + g 5 + g 6 + g 7 + g 8 + g 9 + g 10 + g 11 + g 12 + g 13 + g 14 + g 15 + g 16 + g 17 + g 18 + g 19 + g 20 + g 21 + g 22 + g 23 + g 24 + g 25 + g 26 + g 27 + g 28 + g 29 + g 30 + g 31 = _
  omega
theorem xor_ex : ∀ D, D < 64 → D = 0 ∨ ∃ b, b < 6 ∧ (2 ^ b) ^^^ D < D ∧ D = (2 ^ b) ^^^ ((2 ^ b) ^^^ D) := by decide +kernel
theorem sumxb (b : Nat) (hb : b < 6) (G : Nat → Nat) : sumN (fun k => G (k ^^^ 2 ^ b)) 64 = sumN G 64 := by
  match b, hb with
  | 0, _ => rw [show (2 : Nat) ^ 0 = 1 from rfl, sumx0 G]
  | 1, _ => rw [show (2 : Nat) ^ 1 = 2 from rfl, sumx1 G]
  | 2, _ => rw [show (2 : Nat) ^ 2 = 4 from rfl, sumx2 G]
  | 3, _ => rw [show (2 : Nat) ^ 3 = 8 from rfl, sumx3 G]
  | 4, _ => rw [show (2 : Nat) ^ 4 = 16 from rfl, sumx4 G]
  | 5, _ => rw [show (2 : Nat) ^ 5 = 32 from rfl, sumx5 G]
theorem sumx (g : Nat → Nat) : ∀ D, D < 64 → sumN (fun k => g (k ^^^ D)) 64 = sumN g 64 := by
  intro D
  induction D using Nat.strongRecOn with
  | ind D ih =>
    intro hD
    rcases xor_ex D hD with rfl | ⟨b, hb, h1, h2⟩
    · exact sumN_congr fun k _ => by rw [Nat.xor_zero]
    · have i1 := ih _ h1 (by omega)
      obtain ⟨G, hG⟩ : ∃ G : Nat → Nat, G = fun j => g (j ^^^ ((2 ^ b) ^^^ D)) := ⟨_, rfl⟩
      have e : (fun k => g (k ^^^ D)) = fun k => G (k ^^^ 2 ^ b) := by
        funext k
        rw [hG]
        show g (k ^^^ D) = g ((k ^^^ 2 ^ b) ^^^ ((2 ^ b) ^^^ D))
        rw [Nat.xor_assoc, ← h2]
      rw [e, sumxb b hb G, hG, i1]
/-- Euclid ends in just m steps with g -/
def Eu : Nat → Nat → Nat → Nat → Prop
  | 0, a, b, g => b = 0 ∧ g = a
  | m + 1, a, b, g => b ≠ 0 ∧ Eu m b (a % b) g
theorem Eu_ex : ∀ n a b, b < 2 ^ n → ∃ m g, m ≤ 2 * n ∧ Eu m a b g
  | 0, a, b, h => ⟨0, a, by omega, by rw [Nat.pow_zero] at h; omega, rfl⟩
  | n + 1, a, b, h => by
    by_cases e : b = 0
    · exact ⟨0, a, by omega, e, rfl⟩
    · have h1 : a % b < b := Nat.mod_lt _ (by omega)
      by_cases e2 : a % b = 0
      · exact ⟨1, b, by omega, e, e2, rfl⟩
      · have h2 : b % (a % b) < a % b := Nat.mod_lt _ (by omega)
        have h3 := Nat.div_add_mod b (a % b)
        have h4 : 1 ≤ b / (a % b) := (Nat.one_le_div_iff (by omega)).mpr (by omega)
        have h5 : a % b * 1 ≤ a % b * (b / (a % b)) := Nat.mul_le_mul_left _ h4
        have h6 : b % (a % b) < 2 ^ n := by
          rw [Nat.pow_succ] at h
          omega
        obtain ⟨m, g, m1, m2⟩ := Eu_ex n (a % b) (b % (a % b)) h6
        exact ⟨m + 2, g, by omega, e, e2, m2⟩
theorem Eu_pos : ∀ {m a b g : Nat}, Eu m a b g → 0 < a ∨ 0 < b → 0 < g
  | 0, a, b, g, h, hp => by
    obtain ⟨h1, h2⟩ := h
    omega
  | m + 1, a, b, g, h, _ => Eu_pos h.2 (Or.inl (Nat.pos_of_ne_zero h.1))
