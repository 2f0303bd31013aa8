-- values as whole numbers, worlds by a layout, the rows over them
def kp_iv (x : Int) : Value := .int (Int32.ofInt x)
def kp_jv (x : Int) : Value := .long (Int64.ofInt x)
abbrev kp_W : Type := Nat → Nat → Int
abbrev kp_R : Type := Option (Int × kp_W)
abbrev kp_in (x : Int) : Prop := -2147483648 ≤ x ∧ x ≤ 2147483647
abbrev kp_inL (x : Int) : Prop := -9223372036854775808 ≤ x ∧ x ≤ 9223372036854775807
def kp_up (σ : kp_W) (k j : Nat) (x : Int) : kp_W := fun a b => if a = k ∧ b = j then x else σ a b
def kp_cp (σ : kp_W) (k1 : Nat) (f : Nat → Int) (sp dp n : Nat) : kp_W := fun a b => if a = k1 ∧ dp ≤ b ∧ b < dp + n then f (sp + (b - dp)) else σ a b
-- the words of the functional programs
def kp_ck (c : Prop) [Decidable c] (k : kp_R) : kp_R := if c then k else none
def kp_lt {τ : Type} (v : τ) (f : τ → kp_R) : kp_R := f v
def kp_jn {τ : Type} (f : τ) (g : τ → kp_R) : kp_R := g f
def kp_bd (x : kp_R) (f : Int → kp_W → kp_R) : kp_R := match x with
  | none => none
  | some p => f p.1 p.2
def kp_eq (x y : Int) (a b : kp_R) : kp_R := if kp_in x ∧ kp_in y then (if x = y then a else b) else none
def kp_ls (x y : Int) (a b : kp_R) : kp_R := if kp_in x ∧ kp_in y then (if x < y then a else b) else none
def kp_and (x y : Int) : Int := (Int32.ofInt x &&& Int32.ofInt y).toInt
def kp_or (x y : Int) : Int := (Int32.ofInt x ||| Int32.ofInt y).toInt
def kp_xor (x y : Int) : Int := (Int32.ofInt x ^^^ Int32.ofInt y).toInt
def kp_andL (x y : Int) : Int := (Int64.ofInt x &&& Int64.ofInt y).toInt
def kp_orL (x y : Int) : Int := (Int64.ofInt x ||| Int64.ofInt y).toInt
def kp_xorL (x y : Int) : Int := (Int64.ofInt x ^^^ Int64.ofInt y).toInt
def kp_cmp (x y : Int) : Int := if x < y then -1 else if x = y then 0 else 1
def kp_max (x y : Int) : Int := if x < y then y else x
def kp_min (x y : Int) : Int := if y < x then y else x
def kp_abs (x : Int) : Int := if 0 ≤ x then x else -x
theorem kp_ck_s {c : Prop} [Decidable c] {k : kp_R} {o : Int × kp_W} (h : kp_ck c k = some o) : c ∧ k = some o := by
  unfold kp_ck at h
  split at h
  · exact ⟨‹_›, h⟩
  · cases h
theorem kp_ck_i {c : Prop} [Decidable c] {k : kp_R} {o : Int × kp_W} (hc : c) (h : k = some o) : kp_ck c k = some o := by
  unfold kp_ck
  rw [if_pos hc]
  exact h
theorem kp_lt_s {τ : Type} {v : τ} {f : τ → kp_R} {o : Int × kp_W} (h : kp_lt v f = some o) : f v = some o := h
theorem kp_jn_s {τ : Type} {f : τ} {g : τ → kp_R} {o : Int × kp_W} (h : kp_jn f g = some o) : ∃ j, j = f ∧ g j = some o := ⟨f, rfl, h⟩
theorem kp_bd_s {x : kp_R} {f : Int → kp_W → kp_R} {o : Int × kp_W} (h : kp_bd x f = some o) : ∃ r σ, x = some (r, σ) ∧ f r σ = some o := by
  unfold kp_bd at h
  split at h
  · cases h
  · exact ⟨_, _, rfl, h⟩
theorem kp_eq_s {x y : Int} {a b : kp_R} {o : Int × kp_W} (h : kp_eq x y a b = some o) : kp_in x ∧ kp_in y ∧ (x = y → a = some o) ∧ (¬ x = y → b = some o) := by
  unfold kp_eq at h
  split at h
  · rename_i hi
    refine ⟨hi.1, hi.2, fun e => ?_, fun e => ?_⟩
    · rw [if_pos e] at h; exact h
    · rw [if_neg e] at h; exact h
  · cases h
theorem kp_ls_s {x y : Int} {a b : kp_R} {o : Int × kp_W} (h : kp_ls x y a b = some o) : kp_in x ∧ kp_in y ∧ (x < y → a = some o) ∧ (¬ x < y → b = some o) := by
  unfold kp_ls at h
  split at h
  · rename_i hi
    refine ⟨hi.1, hi.2, fun e => ?_, fun e => ?_⟩
    · rw [if_pos e] at h; exact h
    · rw [if_neg e] at h; exact h
  · cases h
-- numbers
theorem kp_ti {x : Int} (h : kp_in x) : (Int32.ofInt x).toInt = x := Int32.toInt_ofInt_of_le (by have := h.1; omega) (by have := h.2; omega)
theorem kp_tiL {x : Int} (h : kp_inL x) : (Int64.ofInt x).toInt = x := Int64.toInt_ofInt_of_le (by have := h.1; omega) (by have := h.2; omega)
theorem kp_cl {x : Int} (h : kp_in x) : (Int32.ofInt x).toNatClampNeg = x.toNat := by
  show (Int32.ofInt x).toInt.toNat = _
  rw [kp_ti h]
theorem kp_lt_i {x y : Int} (hx : kp_in x) (hy : kp_in y) : Int32.ofInt x < Int32.ofInt y ↔ x < y := by
  rw [Int32.lt_iff_toInt_lt, kp_ti hx, kp_ti hy]
theorem kp_le_i {x y : Int} (hx : kp_in x) (hy : kp_in y) : Int32.ofInt x ≤ Int32.ofInt y ↔ x ≤ y := by
  rw [Int32.le_iff_toInt_le, kp_ti hx, kp_ti hy]
theorem kp_eq_i {x y : Int} (hx : kp_in x) (hy : kp_in y) : Int32.ofInt x = Int32.ofInt y ↔ x = y := by
  rw [← Int32.toInt_inj, kp_ti hx, kp_ti hy]
theorem kp_0 : (0 : Int32) = Int32.ofInt 0 := rfl
theorem kp_in0 : kp_in 0 := by decide
theorem kp_vin {x n : Int} (h : 0 ≤ x ∧ x < n) (hn : n ≤ 2147483647) : vp_in (Int32.ofInt x) n.toNat := by
  rw [vp_in_iff, kp_ti ⟨by omega, by omega⟩]
  exact ⟨h.1, by omega⟩
theorem kp_clx {x n : Int} (h : 0 ≤ x ∧ x < n) (hn : n ≤ 2147483647) : (Int32.ofInt x).toNatClampNeg = x.toNat := kp_cl ⟨by omega, by omega⟩
theorem kp_toNat {x : Int} (h : 0 ≤ x) : ((x.toNat : Nat) : Int) = x := Int.toNat_of_nonneg h
theorem kp_nI {x : Int} (h : 0 ≤ x) : Int32.ofInt x = nI x.toNat := by
  unfold nI
  rw [← Int32.ofInt_eq_ofNat, kp_toNat h]
theorem kp_div {x y : Int} (hx : 0 ≤ x ∧ x ≤ 2147483647) (hy : 0 < y ∧ y ≤ 2147483647) : Int32.ofInt x / Int32.ofInt y = Int32.ofInt (x / y) := by
  have h0 : (0 : Int) ≤ x / y := Int.ediv_nonneg hx.1 (by omega)
  rw [kp_nI hx.1, kp_nI (x := y) (by omega), kp_nI h0, pk_div (by omega) (by omega) (by omega)]
  congr 1
  have e : x / y = ((x.toNat / y.toNat : Nat) : Int) := by
    rw [Int.natCast_ediv, kp_toNat hx.1, kp_toNat (x := y) (by omega)]
  rw [e]
  rfl
theorem kp_rem {x y : Int} (hx : 0 ≤ x ∧ x ≤ 2147483647) (hy : 0 < y ∧ y ≤ 2147483647) : Int32.ofInt x - Int32.ofInt x / Int32.ofInt y * Int32.ofInt y = Int32.ofInt (x % y) := by
  rw [kp_div hx hy, ← Int32.ofInt_mul, ← Int32.ofInt_sub]
  congr 1
  have := Int.emod_def x y
  rw [this, Int.mul_comm]
theorem kp_sh {y : Int} (h : 0 ≤ y ∧ y < 32) : ∃ n : Nat, n < 32 ∧ y = (n : Int) ∧ y.toNat = n ∧ ((Int32.ofInt y &&& 31).toBitVec.smod 32).toNat = n ∧ Int32.ofInt y &&& 31 = nI n := by
  obtain ⟨n, rfl⟩ := Int.eq_ofNat_of_zero_le h.1
  have hn : n < 32 := by omega
  have key : ∀ n : Nat, n < 32 → ((Int32.ofInt (n : Int) &&& 31).toBitVec.smod 32).toNat = n ∧ Int32.ofInt (n : Int) &&& 31 = nI n := by decide +kernel
  exact ⟨n, hn, rfl, rfl, (key n hn).1, (key n hn).2⟩
theorem kp_ishr {x y : Int} (hx : kp_in x) (hy : 0 ≤ y ∧ y < 32) : Int32.ofInt x >>> (Int32.ofInt y &&& 31) = Int32.ofInt (x / 2 ^ y.toNat) := by
  obtain ⟨n, hn, rfl, e, hs, -⟩ := kp_sh hy
  rw [← Int32.toInt_inj, pk_shr _ _ n hs, kp_ti hx, e, Int.shiftRight_eq_div_pow]
  have hp : (0 : Int) < 2 ^ n := Int.pow_pos (by decide)
  have b : kp_in (x / ((2 ^ n : Nat) : Int)) := by
    have e2 : ((2 ^ n : Nat) : Int) = 2 ^ n := by norm_cast
    rw [e2]
    refine ⟨?_, ?_⟩
    · refine Int.le_ediv_of_mul_le hp ?_
      have h1 : (1 : Int) ≤ 2 ^ n := hp
      have := hx.1
      have h2 : (-2147483648 : Int) * 2 ^ n ≤ -2147483648 * 1 := Int.mul_le_mul_of_nonpos_left (by decide) h1
      omega
    · have h3 : x / 2 ^ n ≤ 2147483647 / 2 ^ n := Int.ediv_le_ediv hp hx.2
      have h4 : (2147483647 : Int) / 2 ^ n ≤ 2147483647 := Int.ediv_le_self _ (by decide)
      omega
  have e2 : ((2 ^ n : Nat) : Int) = 2 ^ n := by norm_cast
  rw [e2] at b ⊢
  rw [kp_ti b]
theorem kp_ishl {x y : Int} (hy : 0 ≤ y ∧ y < 32) : Int32.ofInt x <<< (Int32.ofInt y &&& 31) = Int32.ofInt (x * 2 ^ y.toNat) := by
  obtain ⟨n, hn, rfl, e, hs, he⟩ := kp_sh hy
  rw [e]
  apply Int32.toBitVec.inj
  rw [Int32.toBitVec_shiftLeft, BitVec.shiftLeft_eq', hs, Int32.toBitVec_ofInt, Int32.toBitVec_ofInt, BitVec.shiftLeft_eq_mul_twoPow, BitVec.ofInt_mul]
  congr 1
  apply BitVec.eq_of_toNat_eq
  rw [BitVec.toNat_twoPow, BitVec.toNat_ofInt]
  have e3 : ((2 : Int) ^ n) = ((2 ^ n : Nat) : Int) := by norm_cast
  rw [e3]
  omega
theorem kp_shL {y : Int} (h : 0 ≤ y ∧ y < 64) : ∃ n : Nat, n < 64 ∧ y = (n : Int) ∧ y.toNat = n ∧ (((Int32.ofInt y).toInt64 &&& 63).toBitVec.smod 64).toNat = n := by
  obtain ⟨n, rfl⟩ := Int.eq_ofNat_of_zero_le h.1
  have hn : n < 64 := by omega
  have key : ∀ n : Nat, n < 64 → (((Int32.ofInt (n : Int)).toInt64 &&& 63).toBitVec.smod 64).toNat = n := by decide +kernel
  exact ⟨n, hn, rfl, rfl, key n hn⟩
theorem kp_lshl {x y : Int} (hy : 0 ≤ y ∧ y < 64) : Int64.ofInt x <<< ((Int32.ofInt y).toInt64 &&& 63) = Int64.ofInt (x * 2 ^ y.toNat) := by
  obtain ⟨n, hn, rfl, e, hs⟩ := kp_shL hy
  rw [e]
  apply Int64.toBitVec.inj
  rw [Int64.toBitVec_shiftLeft, BitVec.shiftLeft_eq', hs, Int64.toBitVec_ofInt, Int64.toBitVec_ofInt, BitVec.shiftLeft_eq_mul_twoPow, BitVec.ofInt_mul]
  congr 1
  apply BitVec.eq_of_toNat_eq
  rw [BitVec.toNat_twoPow, BitVec.toNat_ofInt]
  have e3 : ((2 : Int) ^ n) = ((2 ^ n : Nat) : Int) := by norm_cast
  rw [e3]
  omega
theorem kp_lshr {x y : Int} (hx : kp_inL x) (hy : 0 ≤ y ∧ y < 64) : Int64.ofInt x >>> ((Int32.ofInt y).toInt64 &&& 63) = Int64.ofInt (x / 2 ^ y.toNat) := by
  obtain ⟨n, hn, rfl, e, hs⟩ := kp_shL hy
  rw [e, ← Int64.toInt_inj]
  have hp : (0 : Int) < 2 ^ n := Int.pow_pos (by decide)
  have b : kp_inL (x / 2 ^ n) := by
    refine ⟨?_, ?_⟩
    · refine Int.le_ediv_of_mul_le hp ?_
      have h1 : (1 : Int) ≤ 2 ^ n := hp
      have := hx.1
      have h2 : (-9223372036854775808 : Int) * 2 ^ n ≤ -9223372036854775808 * 1 := Int.mul_le_mul_of_nonpos_left (by decide) h1
      omega
    · have h3 : x / 2 ^ n ≤ 9223372036854775807 / 2 ^ n := Int.ediv_le_ediv hp hx.2
      have h4 : (9223372036854775807 : Int) / 2 ^ n ≤ 9223372036854775807 := Int.ediv_le_self _ (by decide)
      omega
  rw [kp_tiL b]
  show (Int64.ofInt x >>> ((Int32.ofInt (n : Int)).toInt64 &&& 63)).toBitVec.toInt = _
  rw [Int64.toBitVec_shiftRight, BitVec.sshiftRight_eq', hs, BitVec.toInt_sshiftRight, Int.shiftRight_eq_div_pow]
  have e1 : (Int64.ofInt x).toBitVec.toInt = x := kp_tiL hx
  have e2 : ((2 ^ n : Nat) : Int) = 2 ^ n := by norm_cast
  rw [e1, e2]
theorem kp_lcmp {x y : Int} (hx : kp_inL x) (hy : kp_inL y) : lg_cmp (Int64.ofInt x) (Int64.ofInt y) = Int32.ofInt (kp_cmp x y) := by
  have h1 : Int64.ofInt x > Int64.ofInt y ↔ y < x := by
    show Int64.ofInt y < Int64.ofInt x ↔ _
    rw [Int64.lt_iff_toInt_lt, kp_tiL hx, kp_tiL hy]
  have h2 : Int64.ofInt x = Int64.ofInt y ↔ x = y := by rw [← Int64.toInt_inj, kp_tiL hx, kp_tiL hy]
  unfold lg_cmp kp_cmp
  by_cases a : y < x
  · rw [if_pos (h1.mpr a), if_neg (by omega), if_neg (by omega)]; rfl
  · rw [if_neg (fun z => a (h1.mp z))]
    by_cases b : x = y
    · rw [if_pos (h2.mpr b), if_neg (by omega), if_pos b]; rfl
    · rw [if_neg (fun z => b (h2.mp z)), if_pos (by omega)]; rfl
theorem kp_i2l {x : Int} (hx : kp_in x) : (Int32.ofInt x).toInt64 = Int64.ofInt x := by
  rw [← Int64.ofInt_int32ToInt, kp_ti hx]
theorem kp_and_i (x y : Int) : Int32.ofInt x &&& Int32.ofInt y = Int32.ofInt (kp_and x y) := (Int32.ofInt_toInt _).symm
theorem kp_or_i (x y : Int) : Int32.ofInt x ||| Int32.ofInt y = Int32.ofInt (kp_or x y) := (Int32.ofInt_toInt _).symm
theorem kp_xor_i (x y : Int) : Int32.ofInt x ^^^ Int32.ofInt y = Int32.ofInt (kp_xor x y) := (Int32.ofInt_toInt _).symm
theorem kp_and_l (x y : Int) : Int64.ofInt x &&& Int64.ofInt y = Int64.ofInt (kp_andL x y) := (Int64.ofInt_toInt _).symm
theorem kp_or_l (x y : Int) : Int64.ofInt x ||| Int64.ofInt y = Int64.ofInt (kp_orL x y) := (Int64.ofInt_toInt _).symm
theorem kp_xor_l (x y : Int) : Int64.ofInt x ^^^ Int64.ofInt y = Int64.ofInt (kp_xorL x y) := (Int64.ofInt_toInt _).symm
-- worlds
abbrev kp_D : Type := Nat × Nat × List (Option Nat)
def kp_fl (ad : Nat → Nat) (f : Nat → Int) : Nat → List (Option Nat) → List Value
  | _, [] => []
  | i, none :: l => kp_iv (f i) :: kp_fl ad f (i + 1) l
  | i, some r :: l => .ref (ad r) :: kp_fl ad f (i + 1) l
abbrev kp_X : Type := va_G × (Nat → Nat) × (Nat → ClassId) × (Nat → Nat) × (Nat → Nat) × (Nat → Nat)
def kp_ad (X : kp_X) : Nat → Nat := X.2.1
def kp_cy (X : kp_X) : Nat → ClassId := X.2.2.1
def kp_tt (X : kp_X) : Nat → Nat := X.2.2.2.1
def kp_sK (X : kp_X) : Nat → Nat := X.2.2.2.2.1
def kp_sV (X : kp_X) : Nat → Nat := X.2.2.2.2.2
def kp_ce (X : kp_X) (d : kp_D) (f : Nat → Int) : va_E := match d.1 with
  | 0 => .inr (d.2.1, kp_fl (kp_ad X) f 0 d.2.2)
  | 1 => .inl (kp_cy X 0, d.2.1, .inl fun j => Int32.ofInt (f j))
  | 2 => .inl (kp_cy X 1, d.2.1, .inr (.inl fun j => Int64.ofInt (f j)))
  | _ => .inl (kp_cy X 2, d.2.1, .inl fun j => Int32.ofInt (f j))
def kp_ws (X : kp_X) (lay : Nat → kp_D) (N : Nat) (σ : kp_W) : va_W := (List.range N).map fun k => (kp_ad X k, kp_ce X (lay k) (σ k))
def kp_A (X : kp_X) (N : Nat) : Nat → Prop := fun q => ∃ k, k < N ∧ q = kp_ad X k
def kp_inj (X : kp_X) (N : Nat) : Prop := ∀ i j, i < N → j < N → kp_ad X i = kp_ad X j → i = j
def kp_tys (X : kp_X) : List (ClassId × FieldType) := [(kp_cy X 0, .int), (kp_cy X 1, .long), (kp_cy X 2, .boolean)]
def kp_tn : Nat → String × String := fun _ => ("KnockPipes", "WITHOUT")
def kp_tb : Nat → List Int := fun _ => [3, 1, 1, 4, 1]
def kp_st : List (List Nat) := [[110, 112, 107, 118, 116], [60, 61, 62], [103, 114, 111, 119, 32, 104, 111, 108, 100, 32, 119, 97, 114, 109, 32, 99, 111, 111, 108, 32, 105, 114, 111, 110, 32, 97, 105, 114, 32, 32, 104, 101, 97, 114, 32], [111, 108, 100, 32], [101, 97, 114, 32], [103, 114, 111, 119, 32], [119, 97, 114, 109, 32], [99, 111, 111, 108, 32], [105, 114, 111, 110, 32], [97, 105, 114, 32]]
def kp_len : List Nat := kp_st.map List.length
def kp_byt : List (List Int32) := kp_st.map fun l => l.map Int32.ofNat
def kp_sr : List (String × Nat × String × Nat) := [("KnockPipes$Reader", 92, "npkvt", 0), ("KnockPipes$Reader", 98, "<=>", 1), ("KnockPipes$Reader", 72, "grow hold warm cool iron air  hear ", 2), ("KnockPipesModel", 94, "npkvt", 0), ("KnockPipesModel", 100, "<=>", 1), ("KnockPipesModel", 112, "old ", 3), ("KnockPipesModel", 118, "ear ", 4), ("KnockPipesModel", 123, "grow ", 5), ("KnockPipesModel", 128, "warm ", 6), ("KnockPipesModel", 130, "cool ", 7), ("KnockPipesModel", 132, "iron ", 8), ("KnockPipesModel", 134, "air ", 9)]
def kp_nm : List (String × Nat × MethodName × String) := [("KnockPipes", 13, yX1_init, "KnockPipes"), ("KnockPipes", 27, yX5_init, "KnockPipes"), ("KnockPipes", 34, yX6_init, "KnockPipes"), ("KnockPipes", 41, yX0_init, "KnockPipes"), ("KnockPipes$Acts", 38, yX9_isKind, "KnockPipes"), ("KnockPipes$Home", 17, yX7_init, "KnockPipes"), ("KnockPipes$Home", 31, yX3_init, "KnockPipes"), ("KnockPipes$Home", 38, yX4_init, "KnockPipes"), ("KnockPipes$Reader", 20, yX7_init, "KnockPipes"), ("KnockPipes$Acts", 46, yX9_above, "KnockPipes")]
def kp_nf : List (String × Nat × String × String × String × String) := [("KnockPipes$House", 37, "KnockPipes", "WITHOUT", "[I", "KnockPipes")]
def kp_ST (X : kp_X) (A : Nat → Prop) (U : State) (H : Heap) : Prop :=
  (∀ i, i < 1 → va_Z (kp_tn i).1 (kp_tn i).2 "[I" (.ref (kp_tt X i)) A U H ∧ va_T .int (kp_tt X i) (kp_tb i).length (fun j => kp_iv ((kp_tb i).getD j 0)) A U H) ∧
  vk_S 10 kp_len kp_byt (kp_sK X) (kp_sV X) A U H ∧ va_Z "java/lang/String" "COMPACT_STRINGS" "Z" (.int 1) A U H ∧
  va_Zq "jdk/internal/util/Preconditions" "SIOOBE_FORMATTER" "Ljava/util/function/BiFunction;" A U H ∧
  (∀ q ∈ kp_sr, vk_R q.1 q.2.1 q.2.2.1 (kp_sK X q.2.2.2) U) ∧ (∀ q ∈ kp_nm, va_Nw (.methodLinkNest q.1 q.2.1 q.2.2.1 q.2.2.2) U) ∧
  ∀ q ∈ kp_nf, va_Nw (.fieldLinkNest q.1 q.2.1 q.2.2.1 q.2.2.2.1 q.2.2.2.2.1 q.2.2.2.2.2) U
def kp_G (X : kp_X) (N : Nat) (s : State) : Prop := va_K X.1 vwCl (kp_tys X) s ∧ kp_inj X N ∧ kp_ST X (kp_A X N) s s.heap
def kp_H (X : kp_X) (lay : Nat → kp_D) (N : Nat) (s : State) (σ : kp_W) (H : Heap) (locs : List Loc) : Prop := va_P X.1 vwCl (kp_ws X lay N σ) H ∧ va_S (kp_A X N) s.heap H locs
def kp_B (X : kp_X) (lay : Nat → kp_D) (N : Nat) (σ : kp_W) (U : State) : Prop := va_P X.1 vwCl (kp_ws X lay N σ) U.heap ∧ kp_G X N U
theorem kp_ws_at {X : kp_X} {lay : Nat → kp_D} {N : Nat} {σ : kp_W} {k : Nat} (h : k < N) : (kp_ws X lay N σ)[k]? = some (kp_ad X k, kp_ce X (lay k) (σ k)) := by
  unfold kp_ws
  rw [List.getElem?_map, List.getElem?_range h]
  rfl
theorem kp_ws_some {X : kp_X} {lay : Nat → kp_D} {N : Nat} {σ : kp_W} {k : Nat} {q : Nat × va_E} (h : (kp_ws X lay N σ)[k]? = some q) : k < N ∧ q = (kp_ad X k, kp_ce X (lay k) (σ k)) := by
  have hk : k < N := by
    have := (List.getElem?_eq_some_iff.mp h).1
    simpa [kp_ws] using this
  rw [kp_ws_at hk] at h
  exact ⟨hk, (Option.some.inj h).symm⟩
theorem kp_ws_len {X : kp_X} {lay : Nat → kp_D} {N : Nat} {σ : kp_W} : (kp_ws X lay N σ).length = N := by simp [kp_ws]
theorem kp_ws_set {X : kp_X} {lay : Nat → kp_D} {N : Nat} {σ σ' : kp_W} {k : Nat} {e : va_E} (hk : k < N) (he : kp_ce X (lay k) (σ' k) = e) (hne : ∀ j, j ≠ k → σ' j = σ j) : (kp_ws X lay N σ).set k (kp_ad X k, e) = kp_ws X lay N σ' := by
  apply List.ext_getElem?
  intro i
  by_cases hi : i = k
  · subst hi
    rw [List.getElem?_set_self (by rw [kp_ws_len]; exact hk), kp_ws_at hk, he]
  · rw [List.getElem?_set_ne (Ne.symm hi)]
    by_cases hN : i < N
    · rw [kp_ws_at hN, kp_ws_at hN, hne i hi]
    · rw [List.getElem?_eq_none (by rw [kp_ws_len]; omega), List.getElem?_eq_none (by rw [kp_ws_len]; omega)]
theorem kp_up_ne {σ : kp_W} {k i j : Nat} {x : Int} (h : j ≠ k) : kp_up σ k i x j = σ j := by
  funext b
  unfold kp_up
  rw [if_neg (fun z => h z.1)]
theorem kp_up_eq {σ : kp_W} {k i j : Nat} {x : Int} : kp_up σ k i x k j = if j = i then x else σ k j := by
  unfold kp_up
  by_cases h : j = i
  · rw [if_pos ⟨rfl, h⟩, if_pos h]
  · rw [if_neg (fun z => h z.2), if_neg h]
theorem kp_cp_ne {σ : kp_W} {k : Nat} {f : Nat → Int} {sp dp n j : Nat} (h : j ≠ k) : kp_cp σ k f sp dp n j = σ j := by
  funext b
  unfold kp_cp
  rw [if_neg (fun z => h z.1)]
theorem kp_cp_eq {σ : kp_W} {k : Nat} {f : Nat → Int} {sp dp n j : Nat} : kp_cp σ k f sp dp n k j = if dp ≤ j ∧ j < dp + n then f (sp + (j - dp)) else σ k j := by
  unfold kp_cp
  by_cases h : dp ≤ j ∧ j < dp + n
  · rw [if_pos ⟨rfl, h⟩, if_pos h]
  · rw [if_neg (fun z => h z.2), if_neg h]
theorem kp_ws_D {X : kp_X} {lay : Nat → kp_D} {N : Nat} {σ : kp_W} (hi : kp_inj X N) : va_D (kp_A X N) (kp_ws X lay N σ) := by
  refine ⟨fun i j p q h1 h2 h3 => ?_, fun k q h => ?_⟩
  · obtain ⟨a, rfl⟩ := kp_ws_some h1
    obtain ⟨b, rfl⟩ := kp_ws_some h2
    exact hi i j a b h3
  · obtain ⟨a, rfl⟩ := kp_ws_some h
    exact ⟨k, a, rfl⟩
theorem kp_fl_get (ad : Nat → Nat) (f : Nat → Int) : ∀ (l : List (Option Nat)) (i j : Nat), (kp_fl ad f i l)[j]? = (l[j]?).map (fun o => match o with | none => kp_iv (f (i + j)) | some r => .ref (ad r))
  | [], i, j => by simp [kp_fl]
  | none :: l, i, 0 => by simp [kp_fl]
  | some r :: l, i, 0 => by simp [kp_fl]
  | none :: l, i, j + 1 => by
    rw [kp_fl, List.getElem?_cons_succ, List.getElem?_cons_succ, kp_fl_get ad f l (i + 1) j, show i + 1 + j = i + (j + 1) by omega]
  | some r :: l, i, j + 1 => by
    rw [kp_fl, List.getElem?_cons_succ, List.getElem?_cons_succ, kp_fl_get ad f l (i + 1) j, show i + 1 + j = i + (j + 1) by omega]
theorem kp_fl_len (ad : Nat → Nat) (f : Nat → Int) : ∀ (l : List (Option Nat)) (i : Nat), (kp_fl ad f i l).length = l.length
  | [], i => rfl
  | none :: l, i => by rw [kp_fl, List.length_cons, List.length_cons, kp_fl_len ad f l (i + 1)]
  | some r :: l, i => by rw [kp_fl, List.length_cons, List.length_cons, kp_fl_len ad f l (i + 1)]
theorem kp_fl_set {ad : Nat → Nat} {σ : kp_W} {k j : Nat} {x : Int} {rs : List (Option Nat)} (hr : rs[j]? = some none) : kp_fl ad (kp_up σ k j x k) 0 rs = (kp_fl ad (σ k) 0 rs).set j (kp_iv x) := by
  have hj : j < rs.length := (List.getElem?_eq_some_iff.mp hr).1
  apply List.ext_getElem?
  intro i
  by_cases hi : i = j
  · subst hi
    rw [List.getElem?_set_self (by rw [kp_fl_len]; exact hj), kp_fl_get, hr]
    simp [kp_up_eq]
  · rw [List.getElem?_set_ne (Ne.symm hi), kp_fl_get, kp_fl_get]
    congr 1
    funext o
    cases o with
    | none => simp [kp_up_eq, hi]
    | some r => rfl
theorem kp_ST.kept {X : kp_X} {A : Nat → Prop} {U : State} {H H1 : Heap} (h : kp_ST X A U H) (hq : ∀ a : Nat, a < H.size → ¬ A a → H1[a]? = H[a]?) : kp_ST X A U H1 := by
  obtain ⟨h1, h2, h3, h4, h5, h6, h7⟩ := h
  refine ⟨fun i hi => ⟨(h1 i hi).1.kept hq, (h1 i hi).2.kept hq⟩, h2.kept hq, h3.kept hq, h4.kept hq, h5, h6, h7⟩
theorem kp_ST.warm {X : kp_X} {A : Nat → Prop} {u U : State} {H : Heap} (hW : u.WarmedH U.vm) (h : kp_ST X A u H) : kp_ST X A U H := by
  obtain ⟨h1, h2, h3, h4, h5, h6, h7⟩ := h
  refine ⟨fun i hi => ⟨(h1 i hi).1.moved hW.alike, (h1 i hi).2.moved hW.alike⟩, h2.moved hW.alike, h3.moved hW.alike, h4.moved hW.alike, fun q hq => (h5 q hq).warm hW, fun q hq => (h6 q hq).warmM hW, fun q hq => (h7 q hq).warmF hW⟩
theorem kp_ST.same {X : kp_X} {A : Nat → Prop} {u U : State} {H : Heap} (hv : U.vm = u.vm) (h : kp_ST X A u H) : kp_ST X A U H := by
  obtain ⟨h1, h2, h3, h4, h5, h6, h7⟩ := h
  have ha : u.vm.Alike U.vm := by rw [hv]; exact Vm.Alike.refl u.vm
  refine ⟨fun i hi => ⟨(h1 i hi).1.moved ha, (h1 i hi).2.moved ha⟩, h2.moved ha, h3.moved ha, h4.moved ha, fun q hq => (h5 q hq).same hv, fun q hq => (h6 q hq).same rfl hv.symm, fun q hq => (h7 q hq).same rfl hv.symm⟩
theorem kp_B_blind {X : kp_X} {lay : Nat → kp_D} {N : Nat} {σ : kp_W} {av : List Value} : FrameBlind (va_Pc av (kp_B X lay N σ)) := by
  intro a U g mk h
  obtain ⟨h1, hP, hK, hi, hT⟩ := h
  exact ⟨h1, hP, va_K.moved (u := U) (U := U.calling g mk a) (Vm.Alike.refl U.vm) hK, hi, hT.same (u := U) (U := U.calling g mk a) rfl⟩
theorem kp_B_of {X : kp_X} {lay : Nat → kp_D} {N : Nat} {s U : State} {σ : kp_W} {H : Heap} {locs : List Loc} (G : kp_G X N s) (h : kp_H X lay N s σ H locs) (hU : U.heap = H) (hW : s.WarmedH U.vm) : kp_B X lay N σ U := by
  refine ⟨by rw [hU]; exact h.1, va_K.moved hW.alike G.1, G.2.1, ?_⟩
  rw [hU]
  exact (G.2.2.warm hW).kept (fun a ha hA => h.2.2.1 a ha hA)
