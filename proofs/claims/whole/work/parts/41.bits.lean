-- bits of whole numbers
def kz_t (x : Int) (i : Nat) : Bool := decide (x / 2 ^ i % 2 = 1)
theorem kz_mod {x : Int} {w i : Nat} (h : i < w) : x % 2 ^ w / 2 ^ i % 2 = x / 2 ^ i % 2 := by
  obtain ⟨d, rfl⟩ : ∃ d, w = i + (d + 1) := ⟨w - i - 1, by omega⟩
  have hp : (0 : Int) < 2 ^ i := Int.pow_pos (by decide)
  have e1 : x = x % 2 ^ (i + (d + 1)) + 2 ^ i * (2 ^ d * 2 * (x / 2 ^ (i + (d + 1)))) := by
    have h0 := Int.emod_add_mul_ediv x (2 ^ (i + (d + 1)))
    have e : (2 : Int) ^ (i + (d + 1)) = 2 ^ i * (2 ^ d * 2) := by rw [Int.pow_add, Int.pow_succ]
    rw [← Int.mul_assoc, ← e]
    exact h0.symm
  have e2 : x / 2 ^ i = x % 2 ^ (i + (d + 1)) / 2 ^ i + 2 * (2 ^ d * (x / 2 ^ (i + (d + 1)))) := by
    conv => lhs; rw [e1]
    rw [Int.add_mul_ediv_left _ _ (by omega)]
    congr 1
    rw [Int.mul_comm (2 ^ d) 2, Int.mul_assoc]
  rw [e2]
  omega
theorem kz_tb {x : Int} {w i : Nat} (h : i < w) : (BitVec.ofInt w x).getLsbD i = kz_t x i := by
  unfold kz_t
  rw [BitVec.getLsbD, Nat.testBit_eq_decide_div_mod_eq, BitVec.toNat_ofInt]
  have hp : (0 : Int) < 2 ^ w := Int.pow_pos (by decide)
  have e0 : ((2 ^ w : Nat) : Int) = 2 ^ w := by norm_cast
  have h0 : 0 ≤ x % 2 ^ w := Int.emod_nonneg _ (by omega)
  have key : (((x % ((2 ^ w : Nat) : Int)).toNat / 2 ^ i % 2 : Nat) : Int) = x / 2 ^ i % 2 := by
    rw [e0, ← kz_mod h]
    rw [Int.natCast_emod, Int.natCast_ediv, Int.toNat_of_nonneg h0]
    norm_cast
  congr 1
  apply propext
  constructor
  · intro q
    rw [← key, q]
    rfl
  · intro q
    rw [q] at key
    exact_mod_cast key
theorem kz_ti32 {b : BitVec 32} {i : Nat} (h : i < 32) : kz_t b.toInt i = b.getLsbD i := by
  rw [← kz_tb h, BitVec.ofInt_toInt]
theorem kz_ti64 {b : BitVec 64} {i : Nat} (h : i < 64) : kz_t b.toInt i = b.getLsbD i := by
  rw [← kz_tb h, BitVec.ofInt_toInt]
theorem kz_and {x y : Int} {i : Nat} (h : i < 32) : kz_t (kp_and x y) i = (kz_t x i && kz_t y i) := by
  show kz_t (BitVec.ofInt 32 x &&& BitVec.ofInt 32 y).toInt i = _
  rw [kz_ti32 h, BitVec.getLsbD_and, kz_tb h, kz_tb h]
theorem kz_or {x y : Int} {i : Nat} (h : i < 32) : kz_t (kp_or x y) i = (kz_t x i || kz_t y i) := by
  show kz_t (BitVec.ofInt 32 x ||| BitVec.ofInt 32 y).toInt i = _
  rw [kz_ti32 h, BitVec.getLsbD_or, kz_tb h, kz_tb h]
theorem kz_xor {x y : Int} {i : Nat} (h : i < 32) : kz_t (kp_xor x y) i = (kz_t x i ^^ kz_t y i) := by
  show kz_t (BitVec.ofInt 32 x ^^^ BitVec.ofInt 32 y).toInt i = _
  rw [kz_ti32 h, BitVec.getLsbD_xor, kz_tb h, kz_tb h]
theorem kz_andL {x y : Int} {i : Nat} (h : i < 64) : kz_t (kp_andL x y) i = (kz_t x i && kz_t y i) := by
  show kz_t (BitVec.ofInt 64 x &&& BitVec.ofInt 64 y).toInt i = _
  rw [kz_ti64 h, BitVec.getLsbD_and, kz_tb h, kz_tb h]
theorem kz_orL {x y : Int} {i : Nat} (h : i < 64) : kz_t (kp_orL x y) i = (kz_t x i || kz_t y i) := by
  show kz_t (BitVec.ofInt 64 x ||| BitVec.ofInt 64 y).toInt i = _
  rw [kz_ti64 h, BitVec.getLsbD_or, kz_tb h, kz_tb h]
theorem kz_xorL {x y : Int} {i : Nat} (h : i < 64) : kz_t (kp_xorL x y) i = (kz_t x i ^^ kz_t y i) := by
  show kz_t (BitVec.ofInt 64 x ^^^ BitVec.ofInt 64 y).toInt i = _
  rw [kz_ti64 h, BitVec.getLsbD_xor, kz_tb h, kz_tb h]
theorem kz_nat (n i : Nat) : kz_t (n : Int) i = n.testBit i := by
  unfold kz_t
  rw [Nat.testBit_eq_decide_div_mod_eq]
  congr 1
  apply propext
  norm_cast
theorem kz_m1 (i : Nat) : kz_t (-1) i = true := by
  unfold kz_t
  have hp : (0 : Int) < 2 ^ i := Int.pow_pos (by decide)
  have e : (-1 : Int) / 2 ^ i = -1 := by
    rw [Int.ediv_eq_iff_of_pos hp]
    omega
  rw [e]
  decide
theorem kz_0 (i : Nat) : kz_t 0 i = false := by
  unfold kz_t
  rw [Int.zero_ediv]
  decide
theorem kz_ext {k : Nat} {x y : Int} (hx : 0 ≤ x ∧ x < 2 ^ k) (hy : 0 ≤ y ∧ y < 2 ^ k) (h : ∀ i, i < k → kz_t x i = kz_t y i) : x = y := by
  obtain ⟨a, rfl⟩ := Int.eq_ofNat_of_zero_le hx.1
  obtain ⟨b, rfl⟩ := Int.eq_ofNat_of_zero_le hy.1
  have ha : a < 2 ^ k := by exact_mod_cast hx.2
  have hb : b < 2 ^ k := by exact_mod_cast hy.2
  congr 1
  apply Nat.eq_of_testBit_eq
  intro i
  by_cases hi : i < k
  · have := h i hi
    rwa [kz_nat, kz_nat] at this
  · have hk : 2 ^ k ≤ 2 ^ i := Nat.pow_le_pow_right (by decide) (by omega)
    rw [Nat.testBit_lt_two_pow (by omega), Nat.testBit_lt_two_pow (by omega)]
theorem kz_big {k i : Nat} {x : Int} (hx : 0 ≤ x ∧ x < 2 ^ k) (h : k ≤ i) : kz_t x i = false := by
  obtain ⟨a, rfl⟩ := Int.eq_ofNat_of_zero_le hx.1
  have ha : a < 2 ^ k := by exact_mod_cast hx.2
  have hk : 2 ^ k ≤ 2 ^ i := Nat.pow_le_pow_right (by decide) h
  rw [kz_nat, Nat.testBit_lt_two_pow (by omega)]
/-- a number whose bits from k on are none (up to the sign's) is small -/
theorem kz_small32 {k : Nat} (hk : k ≤ 31) {x : Int} (hx : kp_in x) (h : ∀ i, k ≤ i → i < 32 → kz_t x i = false) : 0 ≤ x ∧ x < 2 ^ k := by
  have h31 := h 31 hk (by decide)
  have h0 : 0 ≤ x := by
    unfold kz_t at h31
    have := hx.1
    have h2 := of_decide_eq_false h31
    omega
  obtain ⟨a, rfl⟩ := Int.eq_ofNat_of_zero_le h0
  refine ⟨h0, ?_⟩
  have ha : a < 2 ^ k := by
    apply Nat.lt_pow_two_of_testBit
    intro i hi
    by_cases hq : i < 32
    · rw [← kz_nat]; exact h i hi hq
    · have : (2 : Nat) ^ 31 ≤ 2 ^ i := Nat.pow_le_pow_right (by decide) (by omega)
      have h3 := hx.2
      exact Nat.testBit_lt_two_pow (by omega)
  exact_mod_cast ha
theorem kz_small64 {k : Nat} (hk : k ≤ 63) {x : Int} (hx : kp_inL x) (h : ∀ i, k ≤ i → i < 64 → kz_t x i = false) : 0 ≤ x ∧ x < 2 ^ k := by
  have h31 := h 63 hk (by decide)
  have h0 : 0 ≤ x := by
    unfold kz_t at h31
    have := hx.1
    have h2 := of_decide_eq_false h31
    omega
  obtain ⟨a, rfl⟩ := Int.eq_ofNat_of_zero_le h0
  refine ⟨h0, ?_⟩
  have ha : a < 2 ^ k := by
    apply Nat.lt_pow_two_of_testBit
    intro i hi
    by_cases hq : i < 64
    · rw [← kz_nat]; exact h i hi hq
    · have : (2 : Nat) ^ 63 ≤ 2 ^ i := Nat.pow_le_pow_right (by decide) (by omega)
      have h3 := hx.2
      exact Nat.testBit_lt_two_pow (by omega)
  exact_mod_cast ha
theorem kz_toInt32 (b : BitVec 32) : kp_in b.toInt := by
  have h1 := BitVec.le_toInt b
  have h2 := BitVec.toInt_lt (x := b)
  exact ⟨by omega, by omega⟩
theorem kz_toInt64 (b : BitVec 64) : kp_inL b.toInt := by
  have h1 := BitVec.le_toInt b
  have h2 := BitVec.toInt_lt (x := b)
  exact ⟨by omega, by omega⟩
theorem kz_and_in (x y : Int) : kp_in (kp_and x y) := kz_toInt32 _
theorem kz_or_in (x y : Int) : kp_in (kp_or x y) := kz_toInt32 _
theorem kz_xor_in (x y : Int) : kp_in (kp_xor x y) := kz_toInt32 _
theorem kz_andL_in (x y : Int) : kp_inL (kp_andL x y) := kz_toInt64 _
theorem kz_orL_in (x y : Int) : kp_inL (kp_orL x y) := kz_toInt64 _
theorem kz_xorL_in (x y : Int) : kp_inL (kp_xorL x y) := kz_toInt64 _
theorem kz_mask (k i : Nat) : kz_t (2 ^ k - 1) i = decide (i < k) := by
  have hp : 0 < 2 ^ k := Nat.pow_pos (by decide)
  have e : (2 : Int) ^ k - 1 = ((2 ^ k - 1 : Nat) : Int) := by
    rw [Int.natCast_sub (by omega)]
    norm_cast
  rw [e, kz_nat, Nat.testBit_two_pow_sub_one]
theorem kz_modb {x : Int} {k i : Nat} : kz_t (x % 2 ^ k) i = (decide (i < k) && kz_t x i) := by
  by_cases h : i < k
  · unfold kz_t
    rw [kz_mod h]
    simp [h]
  · have hp : (0 : Int) < 2 ^ k := Int.pow_pos (by decide)
    rw [kz_big ⟨Int.emod_nonneg _ (by omega), Int.emod_lt_of_pos _ hp⟩ (by omega)]
    simp [h]
theorem kz_andm {x : Int} {k : Nat} (hk : k ≤ 31) : kp_and x (2 ^ k - 1) = x % 2 ^ k := by
  have hp : (0 : Int) < 2 ^ k := Int.pow_pos (by decide)
  refine kz_ext (k := k) (kz_small32 hk (kz_and_in _ _) (fun i h1 h2 => ?_)) ⟨Int.emod_nonneg _ (by omega), Int.emod_lt_of_pos _ hp⟩ (fun i hi => ?_)
  · rw [kz_and h2, kz_mask]
    simp; omega
  · rw [kz_and (by omega), kz_mask, kz_modb]
    simp [hi]
theorem kz_andmL {x : Int} {k : Nat} (hk : k ≤ 63) : kp_andL x (2 ^ k - 1) = x % 2 ^ k := by
  have hp : (0 : Int) < 2 ^ k := Int.pow_pos (by decide)
  refine kz_ext (k := k) (kz_small64 hk (kz_andL_in _ _) (fun i h1 h2 => ?_)) ⟨Int.emod_nonneg _ (by omega), Int.emod_lt_of_pos _ hp⟩ (fun i hi => ?_)
  · rw [kz_andL h2, kz_mask]
    simp; omega
  · rw [kz_andL (by omega), kz_mask, kz_modb]
    simp [hi]
theorem kz_and1 (x : Int) : kp_and x 1 = x % 2 := kz_andm (k := 1) (by decide)
theorem kz_and255 (x : Int) : kp_and x 255 = x % 256 := kz_andm (k := 8) (by decide)
theorem kz_andL1 (x : Int) : kp_andL x 1 = x % 2 := kz_andmL (k := 1) (by decide)
theorem kz_andL255 (x : Int) : kp_andL x 255 = x % 256 := kz_andmL (k := 8) (by decide)
theorem kz_shr {x : Int} {n i : Nat} : kz_t (x / 2 ^ n) i = kz_t x (n + i) := by
  unfold kz_t
  have hp : (0 : Int) < 2 ^ n := Int.pow_pos (by decide)
  rw [Int.ediv_ediv, if_neg (fun z => absurd z.1 (by omega)), Int.sub_zero, ← Int.pow_add]
theorem kz_shl {x : Int} {n i : Nat} : kz_t (x * 2 ^ n) i = (decide (n ≤ i) && kz_t x (i - n)) := by
  by_cases h : n ≤ i
  · obtain ⟨d, rfl⟩ : ∃ d, i = n + d := ⟨i - n, by omega⟩
    have hp : (2 : Int) ^ n ≠ 0 := by have : (0 : Int) < 2 ^ n := Int.pow_pos (by decide); omega
    rw [← kz_shr, Int.mul_ediv_cancel _ hp, Nat.add_sub_cancel_left]
    simp
  · unfold kz_t
    obtain ⟨d, rfl⟩ : ∃ d, n = i + (d + 1) := ⟨n - i - 1, by omega⟩
    have hp : (2 : Int) ^ i ≠ 0 := by have : (0 : Int) < 2 ^ i := Int.pow_pos (by decide); omega
    have e : x * 2 ^ (i + (d + 1)) = 2 * (x * 2 ^ d) * 2 ^ i := by
      rw [Int.pow_add, Int.pow_succ, Int.mul_assoc, Int.mul_assoc, ← Int.mul_assoc 2 x, Int.mul_comm 2 x, Int.mul_assoc x 2]
      congr 1
      rw [Int.mul_comm (2 ^ i), Int.mul_comm (2 ^ d) 2, Int.mul_assoc]
    rw [e, Int.mul_ediv_cancel _ hp]
    simp [h]
theorem kz_pw (n i : Nat) : kz_t (2 ^ n) i = decide (n = i) := by
  have e : (2 : Int) ^ n = ((2 ^ n : Nat) : Int) := by norm_cast
  rw [e, kz_nat, Nat.testBit_two_pow]
theorem kz_pw1 (n i : Nat) : kz_t (1 * 2 ^ n) i = decide (n = i) := by rw [Int.one_mul, kz_pw]
theorem kz_pwle {n k : Nat} (h : n < k) : (0 : Int) ≤ 2 ^ n ∧ (2 : Int) ^ n < 2 ^ k := by
  have h1 : (0 : Int) < 2 ^ n := Int.pow_pos (by decide)
  have h2 : (2 : Nat) ^ n < 2 ^ k := Nat.pow_lt_pow_right (by decide) h
  exact ⟨by omega, by exact_mod_cast h2⟩
theorem kz_bit01 {x : Int} {n : Nat} : x / 2 ^ n % 2 = if kz_t x n = true then 1 else 0 := by
  unfold kz_t
  by_cases h : x / 2 ^ n % 2 = 1
  · simp [h]
  · simp [h]; omega
