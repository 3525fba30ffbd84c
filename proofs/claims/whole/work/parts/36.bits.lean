/-! ===== Int32 by its bits: bt x i ===== -/
def bt (x : Int32) (i : Nat) : Bool := x.toBitVec.getLsbD i
theorem b_ext {x y : Int32} (h : ∀ i, i < 32 → bt x i = bt y i) : x = y := Int32.toBitVec_inj.mp (BitVec.eq_of_getLsbD_eq (fun i hi => h i hi))
theorem b_or (x y : Int32) (i : Nat) : bt (x ||| y) i = (bt x i || bt y i) := by unfold bt; rw [Int32.toBitVec_or, BitVec.getLsbD_or]
theorem b_and (x y : Int32) (i : Nat) : bt (x &&& y) i = (bt x i && bt y i) := by unfold bt; rw [Int32.toBitVec_and, BitVec.getLsbD_and]
theorem b_xor (x y : Int32) (i : Nat) : bt (x ^^^ y) i = (bt x i ^^ bt y i) := by unfold bt; rw [Int32.toBitVec_xor, BitVec.getLsbD_xor]
theorem b_big {x : Int32} {i : Nat} (h : 32 ≤ i) : bt x i = false := BitVec.getLsbD_of_ge _ _ h
theorem b_255 (i : Nat) : bt 255 i = decide (i < 8) := by
  rcases Nat.lt_or_ge i 32 with h | h
  · exact (by decide +kernel : ∀ i, i < 32 → bt 255 i = decide (i < 8)) i h
  · rw [b_big h, decide_eq_false (by omega)]
theorem b_65535 (i : Nat) : bt 65535 i = decide (i < 16) := by
  rcases Nat.lt_or_ge i 32 with h | h
  · exact (by decide +kernel : ∀ i, i < 32 → bt 65535 i = decide (i < 16)) i h
  · rw [b_big h, decide_eq_false (by omega)]
theorem b_m1 : ∀ i, i < 32 → bt (-1) i = true := by decide +kernel
theorem b_0 (i : Nat) : bt 0 i = false := BitVec.getLsbD_zero
theorem s_l : ∀ n, n < 32 → ((nI n &&& 31).toBitVec.smod 32).toNat = n := by decide +kernel
theorem s_u : ∀ n, n < 32 → (((nI n).toUInt32 &&& Int32.toUInt32 31).toBitVec % 32).toNat = n := by decide +kernel
theorem b_shl (n : Nat) (hn : n < 32) (x : Int32) {i : Nat} (hi : i < 32) : bt (x <<< (nI n &&& 31)) i = (decide (n ≤ i) && bt x (i - n)) := by
  unfold bt
  rw [Int32.toBitVec_shiftLeft]
  show (x.toBitVec <<< ((nI n &&& 31).toBitVec.smod 32).toNat).getLsbD i = _
  rw [s_l n hn, BitVec.getLsbD_shiftLeft]
  rcases Nat.lt_or_ge i n with h | h
  · simp [h, Nat.not_le.mpr h]
  · simp [hi, h, Nat.not_lt.mpr h]
theorem b_ushr (n : Nat) (hn : n < 32) (x : Int32) (i : Nat) : bt ((x.toUInt32 >>> ((nI n).toUInt32 &&& Int32.toUInt32 31)).toInt32) i = bt x (n + i) := by
  show (x.toUInt32 >>> ((nI n).toUInt32 &&& Int32.toUInt32 31)).toBitVec.getLsbD i = x.toUInt32.toBitVec.getLsbD (n + i)
  rw [UInt32.toBitVec_shiftRight]
  show (x.toUInt32.toBitVec >>> (((nI n).toUInt32 &&& Int32.toUInt32 31).toBitVec % 32).toNat).getLsbD i = _
  rw [s_u n hn, BitVec.getLsbD_ushiftRight]
theorem b_sshr (n : Nat) (hn : n < 32) (x : Int32) {i : Nat} (hi : i < 32) : bt (x >>> (nI n &&& 31)) i = if n + i < 32 then bt x (n + i) else bt x 31 := by
  unfold bt
  rw [Int32.toBitVec_shiftRight]
  show (x.toBitVec.sshiftRight ((nI n &&& 31).toBitVec.smod 32).toNat).getLsbD i = _
  rw [s_l n hn, BitVec.getLsbD_sshiftRight, BitVec.msb_eq_getLsbD_last]
  simp [hi]
theorem b_shl8 (x : Int32) {i : Nat} (hi : i < 32) : bt (x <<< ((8 : Int32) &&& 31)) i = (decide (8 ≤ i) && bt x (i - 8)) := b_shl 8 (by omega) x hi
theorem nx_and (a b : Nat) : nI a &&& nI b = nI (a &&& b) := by
  apply Int32.toBitVec_inj.1
  show BitVec.ofNat 32 a &&& BitVec.ofNat 32 b = BitVec.ofNat 32 (a &&& b)
  apply BitVec.eq_of_getLsbD_eq
  intro i hi
  simp [hi]
theorem nx_xor (a b : Nat) : nI a ^^^ nI b = nI (a ^^^ b) := by
  apply Int32.toBitVec_inj.1
  show BitVec.ofNat 32 a ^^^ BitVec.ofNat 32 b = BitVec.ofNat 32 (a ^^^ b)
  apply BitVec.eq_of_getLsbD_eq
  intro i hi
  simp [hi]
/-! ===== sets of bits, and how many ===== -/
def bs : Nat → (Nat → Bool) → Int32
  | 0, _ => 0
  | n + 1, p => bs n p ||| (if p n = true then 1 <<< (nI n &&& 31) else 0)
def cnt : Nat → (Nat → Bool) → Nat
  | 0, _ => 0
  | n + 1, p => cnt n p + (if p n = true then 1 else 0)
theorem b_1 : ∀ i, i < 32 → bt 1 i = decide (i = 0) := by decide +kernel
theorem b_one {n : Nat} (hn : n < 32) {i : Nat} (hi : i < 32) : bt (1 <<< (nI n &&& 31)) i = decide (i = n) := by
  rw [b_shl n hn 1 hi]
  by_cases h : n ≤ i
  · rw [b_1 (i - n) (by omega)]
    by_cases e : i = n
    · subst e
      simp
    · simp [h, e, show ¬ i - n = 0 by omega]
  · simp [h, show ¬ i = n by omega]
theorem b_bs : ∀ {n : Nat} (p : Nat → Bool), n ≤ 32 → ∀ {i : Nat}, i < 32 → bt (bs n p) i = (decide (i < n) && p i)
  | 0, p, _, i, hi => by simp [bs, b_0]
  | n + 1, p, hn, i, hi => by
    rw [bs, b_or, b_bs p (by omega) hi]
    by_cases hp : p n = true
    · rw [if_pos hp, b_one (by omega) hi]
      by_cases e : i = n
      · subst e
        simp [hp]
      · by_cases h : i < n
        · simp [h, Nat.lt_succ_of_lt h, e]
        · simp [h, e, show ¬ i < n + 1 by omega]
    · rw [if_neg hp, b_0, Bool.or_false]
      by_cases e : i = n
      · subst e
        simp [Bool.eq_false_iff.mpr hp]
      · by_cases h : i < n
        · simp [h, Nat.lt_succ_of_lt h]
        · simp [h, show ¬ i < n + 1 by omega]
theorem bs_congr {n : Nat} {p q : Nat → Bool} (h : ∀ i, i < n → p i = q i) : bs n p = bs n q := by
  induction n with
  | zero => rfl
  | succ n ih => rw [bs, bs, ih (fun i hi => h i (by omega)), h n (by omega)]
theorem cnt_congr {n : Nat} {p q : Nat → Bool} (h : ∀ i, i < n → p i = q i) : cnt n p = cnt n q := by
  induction n with
  | zero => rfl
  | succ n ih => rw [cnt, cnt, ih (fun i hi => h i (by omega)), h n (by omega)]
theorem cnt_le : ∀ (n : Nat) (p : Nat → Bool), cnt n p ≤ n
  | 0, _ => Nat.le_refl 0
  | n + 1, p => by
    have := cnt_le n p
    rw [cnt]
    split <;> omega
/-- one bit read -/
theorem bit1 (x : Int32) {d : Nat} (hd : d < 32) : (x >>> (nI d &&& 31)) &&& 1 = if bt x d = true then 1 else 0 := by
  apply b_ext
  intro i hi
  rw [b_and, b_sshr d hd x hi, b_1 i hi]
  by_cases e : i = 0
  · subst e
    rw [if_pos (by omega)]
    cases h : bt x d <;> simp [h, b_0, b_1]
  · simp only [e, decide_false, Bool.and_false]
    cases h : bt x d
    · simp [b_0]
    · simp [b_1 i hi, e]
theorem bit1_eq1 (x : Int32) {d : Nat} (hd : d < 32) : (x >>> (nI d &&& 31)) &&& 1 = 1 ↔ bt x d = true := by
  rw [bit1 x hd]
  cases bt x d <;> simp
theorem b_nI {n i : Nat} (hi : i < 32) : bt (nI n) i = n.testBit i := by
  show (BitVec.ofNat 32 n).getLsbD i = _
  rw [BitVec.getLsbD_ofNat]
  simp [hi]
/-! the reference's count -/
theorem bits_ok (x : Int32) (τ : rf_S) : f_X10_bits x τ = some (nI (cnt 31 (bt x))) := by
  unfold f_X10_bits
  rw [show ((0 : Int32), (0 : Int32)) = (nI (cnt 0 (bt x)), nI 0) from rfl, lp_for (fun k => (nI (cnt k (bt x)), nI k)) 31 (e := nI (cnt 31 (bt x))) ?_ ?_ (by decide)]
  · rfl
  · intro k hk
    unfold f_X10_bits_b4
    simp only
    rw [if_neg (show ¬ (31 : Int32) ≤ nI k from nI_ge hk (by decide)), bit1 x (by omega), nI_1, cnt]
    congr 4
    rw [← nI_add]
    cases bt x k <;> rfl
  · unfold f_X10_bits_b4
    simp only
    rw [if_pos (show (31 : Int32) ≤ nI 31 by decide)]
/-! the library's count: bytes -/
theorem and_app {k a c : Nat} (b d : Nat) (ha : a < 2 ^ k) (hc : c < 2 ^ k) : (2 ^ k * b + a) &&& (2 ^ k * d + c) = 2 ^ k * (b &&& d) + (a &&& c) := by
  apply Nat.eq_of_testBit_eq
  intro i
  rw [Nat.testBit_and, Nat.testBit_two_pow_mul_add _ ha, Nat.testBit_two_pow_mul_add _ hc, Nat.testBit_two_pow_mul_add _ (Nat.lt_of_le_of_lt Nat.and_le_left ha)]
  by_cases h : i < k
  · simp [h]
  · simp [h]
def w1 (m n : Nat) : Nat := n - (n / 2 &&& m)
def w2 (m n : Nat) : Nat := (n &&& m) + (n / 4 &&& m)
theorem w1_app {k : Nat} (m2 : Nat) {m1 a : Nat} (b : Nat) (ha : a < 2 ^ (k + 1)) (hm : m1 < 2 ^ k) : w1 (2 ^ (k + 1) * m2 + m1) (2 ^ (k + 1) * b + a) = 2 ^ (k + 1) * w1 m2 b + w1 m1 a := by
  unfold w1
  have e1 : (2 ^ (k + 1) * b + a) / 2 = 2 ^ (k + 1) * (b / 2) + (2 ^ k * (b % 2) + a / 2) := by
    rw [Nat.pow_succ]
    have : 2 ^ k * 2 * b = 2 * (2 ^ k * b) := by rw [Nat.mul_comm (2 ^ k) 2, Nat.mul_assoc]
    have h2 : 2 ^ k * b = 2 ^ k * (2 * (b / 2) + b % 2) := by congr 1; omega
    rw [Nat.mul_add] at h2
    have h3 : 2 ^ k * (2 * (b / 2)) = 2 ^ k * 2 * (b / 2) := by rw [Nat.mul_assoc]
    omega
  have e2 : 2 ^ k * (b % 2) + a / 2 < 2 ^ (k + 1) := by
    rw [Nat.pow_succ] at ha ⊢
    have : 2 ^ k * (b % 2) ≤ 2 ^ k * 1 := Nat.mul_le_mul_left _ (by omega)
    omega
  have e3 : m1 < 2 ^ (k + 1) := by rw [Nat.pow_succ]; omega
  have e4 : (2 ^ k * (b % 2) + a / 2) &&& m1 = a / 2 &&& m1 := by
    have h1 : a / 2 < 2 ^ k := by rw [Nat.pow_succ] at ha; omega
    have := and_app (b % 2) 0 h1 hm
    simpa using this
  rw [e1, and_app (b / 2) m2 e2 e3, e4]
  have h1 : b / 2 &&& m2 ≤ b := Nat.le_trans Nat.and_le_left (Nat.div_le_self b 2)
  have h2 : a / 2 &&& m1 ≤ a := Nat.le_trans Nat.and_le_left (Nat.div_le_self a 2)
  have h3 : 2 ^ (k + 1) * (b - (b / 2 &&& m2)) = 2 ^ (k + 1) * b - 2 ^ (k + 1) * (b / 2 &&& m2) := Nat.mul_sub ..
  have h4 : 2 ^ (k + 1) * (b / 2 &&& m2) ≤ 2 ^ (k + 1) * b := Nat.mul_le_mul_left _ h1
  omega
theorem w2_app {k : Nat} (m2 : Nat) {m1 a : Nat} (b : Nat) (ha : a < 2 ^ (k + 2)) (hm : m1 < 2 ^ k) : w2 (2 ^ (k + 2) * m2 + m1) (2 ^ (k + 2) * b + a) = 2 ^ (k + 2) * w2 m2 b + w2 m1 a := by
  unfold w2
  have hp : 2 ^ (k + 2) = 4 * 2 ^ k := by rw [Nat.pow_add]; omega
  have e1 : (2 ^ (k + 2) * b + a) / 4 = 2 ^ (k + 2) * (b / 4) + (2 ^ k * (b % 4) + a / 4) := by
    rw [hp]
    have h2 : 2 ^ k * b = 2 ^ k * (4 * (b / 4) + b % 4) := by congr 1; omega
    rw [Nat.mul_add] at h2
    have h3 : 2 ^ k * (4 * (b / 4)) = 4 * 2 ^ k * (b / 4) := by rw [← Nat.mul_assoc, Nat.mul_comm (2 ^ k) 4]
    have h4 : 4 * 2 ^ k * b = 4 * (2 ^ k * b) := Nat.mul_assoc ..
    omega
  have h1 : a / 4 < 2 ^ k := by rw [hp] at ha; omega
  have e2 : 2 ^ k * (b % 4) + a / 4 < 2 ^ (k + 2) := by
    rw [hp]
    have : 2 ^ k * (b % 4) ≤ 2 ^ k * 3 := Nat.mul_le_mul_left _ (by omega)
    omega
  have e3 : m1 < 2 ^ (k + 2) := by rw [hp]; omega
  have e4 : (2 ^ k * (b % 4) + a / 4) &&& m1 = a / 4 &&& m1 := by
    have := and_app (b % 4) 0 h1 hm
    simpa using this
  rw [e1, and_app b m2 ha e3, and_app (b / 4) m2 e2 e3, e4, Nat.mul_add]
  omega
def pop8 (b : Nat) : Nat := w2 51 (w1 85 b)
def nib (b : Nat) : Nat := pop8 b % 16 + pop8 b / 16
theorem pop8_le : ∀ b, b < 256 → w1 85 b < 256 ∧ pop8 b % 16 ≤ 4 ∧ pop8 b / 16 ≤ 4 ∧ nib b = cnt 8 (fun i => b.testBit i) := by decide +kernel
theorem app4 (m a b c d : Nat) (f : Nat → Nat → Nat) (h : ∀ (m2 m1 b a : Nat), a < 256 → m1 = m → f (256 * m2 + m1) (256 * b + a) = 256 * f m2 b + f m1 a) (ha : a < 256) (hb : b < 256) (hc : c < 256) : f (256 * (256 * (256 * m + m) + m) + m) (256 * (256 * (256 * d + c) + b) + a) = 256 * (256 * (256 * f m d + f m c) + f m b) + f m a := by
  rw [h _ _ _ _ ha rfl, h _ _ _ _ hb rfl, h _ _ _ _ hc rfl]
theorem swar {a b c d : Nat} (ha : a < 256) (hb : b < 256) (hc : c < 256) (hd : d < 256) : w2 858993459 (w1 1431655765 (256 * (256 * (256 * d + c) + b) + a)) = 256 * (256 * (256 * pop8 d + pop8 c) + pop8 b) + pop8 a := by
  have h1 := app4 85 a b c d w1 (fun m2 m1 b a h1 h2 => w1_app (k := 7) m2 b h1 (by rw [h2]; decide)) ha hb hc
  have h2 := app4 51 (w1 85 a) (w1 85 b) (w1 85 c) (w1 85 d) w2 (fun m2 m1 b a h1 h2 => w2_app (k := 6) m2 b h1 (by rw [h2]; decide)) (pop8_le a ha).1 (pop8_le b hb).1 (pop8_le c hc).1
  rw [show (1431655765 : Nat) = 256 * (256 * (256 * 85 + 85) + 85) + 85 from rfl, h1, show (858993459 : Nat) = 256 * (256 * (256 * 51 + 51) + 51) + 51 from rfl, h2]
  rfl
theorem swar3 {a b c d : Nat} (ha : a % 16 ≤ 4 ∧ a / 16 ≤ 4) (hb : b % 16 ≤ 4 ∧ b / 16 ≤ 4) (hc : c % 16 ≤ 4 ∧ c / 16 ≤ 4) (hd : d % 16 ≤ 4 ∧ d / 16 ≤ 4) : ((256 * (256 * (256 * d + c) + b) + a) + (256 * (256 * (256 * d + c) + b) + a) / 16) &&& 252645135 = 256 * (256 * (256 * (d % 16 + d / 16) + (c % 16 + c / 16)) + (b % 16 + b / 16)) + (a % 16 + a / 16) := by
  have m15 : ∀ x : Nat, x &&& 15 = x % 16 := fun x => Nat.and_two_pow_sub_one_eq_mod x 4
  have e0 : (256 * (256 * (256 * d + c) + b) + a) + (256 * (256 * (256 * d + c) + b) + a) / 16 = 2 ^ 8 * (2 ^ 8 * (2 ^ 8 * (d + d / 16) + (c + c / 16 + 16 * (d % 16))) + (b + b / 16 + 16 * (c % 16))) + (a + a / 16 + 16 * (b % 16)) := by omega
  rw [e0, show (252645135 : Nat) = 2 ^ 8 * (2 ^ 8 * (2 ^ 8 * 15 + 15) + 15) + 15 from rfl, and_app _ _ (by omega) (by decide), and_app _ _ (by omega) (by decide), and_app _ _ (by omega) (by decide), m15, m15, m15, m15]
  have r1 : (a + a / 16 + 16 * (b % 16)) % 16 = a % 16 + a / 16 := by omega
  have r2 : (b + b / 16 + 16 * (c % 16)) % 16 = b % 16 + b / 16 := by omega
  have r3 : (c + c / 16 + 16 * (d % 16)) % 16 = c % 16 + c / 16 := by omega
  have r4 : (d + d / 16) % 16 = d % 16 + d / 16 := by omega
  rw [r1, r2, r3, r4]
theorem cnt_add (p : Nat → Bool) (n : Nat) : ∀ m, cnt (n + m) p = cnt n p + cnt m (fun i => p (n + i))
  | 0 => rfl
  | m + 1 => by
    rw [← Nat.add_assoc, cnt, cnt, cnt_add p n m]
    omega
theorem tb_lo (x a : Nat) (ha : a < 256) : ∀ i, i < 8 → (256 * x + a).testBit i = a.testBit i := by
  intro i hi
  have := Nat.testBit_two_pow_mul_add x (i := 8) ha i
  rw [if_pos hi] at this
  exact this
theorem tb_hi (x a : Nat) (ha : a < 256) : ∀ i, (256 * x + a).testBit (8 + i) = x.testBit i := by
  intro i
  have := Nat.testBit_two_pow_mul_add x (i := 8) ha (8 + i)
  rw [if_neg (by omega), show 8 + i - 8 = i by omega] at this
  exact this
theorem cnt32 {a b c d : Nat} (ha : a < 256) (hb : b < 256) (hc : c < 256) (hd : d < 256) : cnt 32 (fun i => (256 * (256 * (256 * d + c) + b) + a).testBit i) = nib a + nib b + nib c + nib d := by
  rw [show 32 = 8 + (8 + (8 + 8)) from rfl, cnt_add, cnt_add, cnt_add]
  rw [cnt_congr (tb_lo _ _ ha)]
  simp only [tb_hi _ _ ha]
  rw [cnt_congr (tb_lo _ _ hb)]
  simp only [tb_hi _ _ hb]
  rw [cnt_congr (tb_lo _ _ hc)]
  simp only [tb_hi _ _ hc]
  rw [(pop8_le a ha).2.2.2, (pop8_le b hb).2.2.2, (pop8_le c hc).2.2.2, (pop8_le d hd).2.2.2]
  change cnt 8 (fun i => a.testBit i) + (cnt 8 (fun i => b.testBit i) + (cnt 8 (fun i => c.testBit i) + cnt 8 (fun i => d.testBit i))) = _
  omega
theorem ush_nat (x : Int32) {k : Nat} (hk : k < 32) : (x.toUInt32 >>> ((nI k).toUInt32 &&& Int32.toUInt32 31)).toInt32.toBitVec.toNat = x.toBitVec.toNat / 2 ^ k := pk_ushr x (nI k) k (s_u k hk)
theorem nI_nat (x : Int32) : nI x.toBitVec.toNat = x := by
  apply Int32.toBitVec_inj.mp
  show BitVec.ofNat 32 x.toBitVec.toNat = x.toBitVec
  simp
theorem nI_tn {n : Nat} (h : n < 2 ^ 32) : (nI n).toBitVec.toNat = n := pk_tn h
theorem ushN {n k : Nat} (hn : n < 2 ^ 32) (hk : k < 32) : ((nI n).toUInt32 >>> ((nI k).toUInt32 &&& Int32.toUInt32 31)).toInt32 = nI (n / 2 ^ k) := pk_ushrN hn (nI k) k (s_u k hk)
theorem div_and_le (n k m : Nat) : n / k &&& m ≤ n := Nat.le_trans Nat.and_le_left (Nat.div_le_self n k)
theorem nat_sub {a b : Nat} (h : b ≤ a) : nI a - nI b = nI (a - b) := pk_sub h
/-- Integer.bitCount -/
theorem bitCount_ok (x : Int32) (σ : rf_S) : f_J_bitCount x σ = some (nI (cnt 32 (bt x))) := by
  obtain ⟨n, hn, rfl⟩ : ∃ n, n < 2 ^ 32 ∧ x = nI n := ⟨x.toBitVec.toNat, x.toBitVec.isLt, (nI_nat x).symm⟩
  have hbb : ∀ i, i < 32 → bt (nI n) i = n.testBit i := fun i hi => b_nI hi
  rw [cnt_congr hbb]
  clear hbb
  obtain ⟨a, b, c, d, ha, hb, hc, hd, rfl⟩ : ∃ a b c d : Nat, a < 256 ∧ b < 256 ∧ c < 256 ∧ d < 256 ∧ n = 256 * (256 * (256 * d + c) + b) + a := ⟨n % 256, n / 256 % 256, n / 65536 % 256, n / 16777216, by omega, by omega, by omega, by omega, by omega⟩
  have h32 := cnt32 ha hb hc hd
  change cnt 32 (Nat.testBit (256 * (256 * (256 * d + c) + b) + a)) = _ at h32
  rw [h32]
  clear h32
  obtain ⟨-, pa1, pa2, pa3⟩ := pop8_le a ha
  obtain ⟨-, pb1, pb2, pb3⟩ := pop8_le b hb
  obtain ⟨-, pc1, pc2, pc3⟩ := pop8_le c hc
  obtain ⟨-, pd1, pd2, pd3⟩ := pop8_le d hd
  have hs := swar ha hb hc hd
  generalize hN : 256 * (256 * (256 * d + c) + b) + a = N at hn hs
  have q1 : nI N - ((((nI N).toUInt32 >>> ((1 : Int32).toUInt32 &&& Int32.toUInt32 31)).toInt32) &&& 1431655765) = nI (w1 1431655765 N) := by
    rw [show (1 : Int32) = nI 1 from rfl, ushN hn (by decide), show (1431655765 : Int32) = nI 1431655765 from rfl, nx_and, nat_sub (by rw [show 2 ^ 1 = 2 from rfl]; exact div_and_le N 2 _)]
    rfl
  unfold f_J_bitCount
  rw [q1]
  have hw1 : w1 1431655765 N < 2 ^ 32 := Nat.lt_of_le_of_lt (Nat.sub_le _ _) hn
  generalize hA : w1 1431655765 N = A at hs hw1
  have q2 : (nI A &&& 858993459) + ((((nI A).toUInt32 >>> ((2 : Int32).toUInt32 &&& Int32.toUInt32 31)).toInt32) &&& 858993459) = nI (w2 858993459 A) := by
    rw [show (2 : Int32) = nI 2 from rfl, ushN hw1 (by decide), show (858993459 : Int32) = nI 858993459 from rfl, nx_and, nx_and, nI_add]
    rfl
  rw [q2, hs]
  generalize hB : 256 * (256 * (256 * pop8 d + pop8 c) + pop8 b) + pop8 a = B
  have hB2 : B < 2 ^ 32 := by omega
  have q3 : (nI B + (((nI B).toUInt32 >>> ((4 : Int32).toUInt32 &&& Int32.toUInt32 31)).toInt32)) &&& 252645135 = nI (256 * (256 * (256 * nib d + nib c) + nib b) + nib a) := by
    rw [show (4 : Int32) = nI 4 from rfl, ushN hB2 (by decide), show (252645135 : Int32) = nI 252645135 from rfl, nI_add, nx_and, ← hB, show 2 ^ 4 = 16 from rfl, swar3 ⟨pa1, pa2⟩ ⟨pb1, pb2⟩ ⟨pc1, pc2⟩ ⟨pd1, pd2⟩]
    rfl
  rw [q3]
  have na : nib a ≤ 8 := by unfold nib; omega
  have nb : nib b ≤ 8 := by unfold nib; omega
  have nc : nib c ≤ 8 := by unfold nib; omega
  have nd : nib d ≤ 8 := by unfold nib; omega
  generalize nib a = x at na
  generalize nib b = y at nb
  generalize nib c = z at nc
  generalize nib d = w at nd
  rw [show (8 : Int32) = nI 8 from rfl, show (16 : Int32) = nI 16 from rfl, ushN (by omega) (by decide), nI_add, ushN (by omega) (by decide), nI_add, show (63 : Int32) = nI 63 from rfl, nx_and, show 63 = 2 ^ 6 - 1 from rfl, Nat.and_two_pow_sub_one_eq_mod]
  have k1 : (256 * (256 * (256 * w + z) + y) + x) / 2 ^ 8 = 65536 * w + 256 * z + y := by omega
  rw [k1]
  have k2 : (256 * (256 * (256 * w + z) + y) + x + (65536 * w + 256 * z + y)) / 2 ^ 16 = 256 * w + z + w := by omega
  rw [k2]
  have k3 : (256 * (256 * (256 * w + z) + y) + x + (65536 * w + 256 * z + y) + (256 * w + z + w)) % 2 ^ 6 = x + y + z + w := by omega
  rw [k3]
