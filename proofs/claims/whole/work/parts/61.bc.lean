-- bits counted
theorem z_bcA : (List.range 4096).all (fun n => decide (kp_bc (n : Int) = kz_pc (n : Int))) = true := by decide +kernel
theorem z_bc {x : Int} (h : 0 ≤ x ∧ x < 4096) : kp_bc x = kz_pc x := by
  have h1 := List.all_eq_true.mp z_bcA x.toNat (List.mem_range.mpr (by omega))
  have h2 := of_decide_eq_true h1
  rw [Int.toNat_of_nonneg h.1] at h2
  exact h2
-- a long of forty bits: its ones counted by bytes
def zb_B (a b c d e : Nat) : Nat := a + 256 * (b + 256 * (c + 256 * (d + 256 * (e + 256 * 0))))
def zb_S (n : Nat) : Nat → Nat
  | 0 => 0
  | k + 1 => zb_S n k + n / 2 ^ k % 2
def zb_1 (a : Nat) : Nat := a - (a / 2 &&& 85)
def zb_2 (a : Nat) : Nat := (zb_1 a &&& 51) + (zb_1 a / 4 &&& 51)
def zb_3 (a : Nat) : Nat := (zb_2 a + zb_2 a / 16) &&& 15
theorem zb_f : ∀ a, a < 256 → (a / 2 &&& 85) ≤ a ∧ zb_1 a < 256 ∧ zb_2 a < 69 ∧ zb_2 a % 16 < 5 ∧ zb_3 a = zb_S a 8 ∧ zb_3 a < 9 := by decide +kernel
theorem zb_s1f : ∀ a, a < 256 → ∀ r, r < 2 → (a / 2 + 128 * r) &&& 85 = a / 2 &&& 85 := by decide +kernel
theorem zb_s2f : ∀ a, a < 256 → ∀ r, r < 4 → (a / 4 + 64 * r) &&& 51 = a / 4 &&& 51 := by decide +kernel
theorem zb_s3f : ∀ a, a < 69 → ∀ r, r < 5 → (a + a / 16 + 16 * r) &&& 15 = (a + a / 16) &&& 15 := by decide +kernel
theorem zb_and {a m : Nat} (X M : Nat) (ha : a < 256) (hm : m < 256) : (a + 256 * X) &&& (m + 256 * M) = (a &&& m) + 256 * (X &&& M) := by
  have hr : a &&& m < 256 := Nat.lt_of_le_of_lt Nat.and_le_left ha
  refine Nat.eq_of_testBit_eq (fun j => ?_)
  have h1 : (256 * X + a).testBit j = if j < 8 then a.testBit j else X.testBit (j - 8) := Nat.testBit_two_pow_mul_add X (i := 8) ha j
  have h2 : (256 * M + m).testBit j = if j < 8 then m.testBit j else M.testBit (j - 8) := Nat.testBit_two_pow_mul_add M (i := 8) hm j
  have h3 : (256 * (X &&& M) + (a &&& m)).testBit j = if j < 8 then (a &&& m).testBit j else (X &&& M).testBit (j - 8) := Nat.testBit_two_pow_mul_add (X &&& M) (i := 8) hr j
  rw [Nat.testBit_and, Nat.add_comm a, Nat.add_comm m, Nat.add_comm (a &&& m), h1, h2, h3]
  by_cases h : j < 8
  · simp only [h, if_true, Nat.testBit_and]
  · simp only [h, if_false, Nat.testBit_and]
theorem zb_s1 {a : Nat} (X M : Nat) (ha : a < 256) : (a + 256 * X) / 2 &&& (85 + 256 * M) = (a / 2 &&& 85) + 256 * (X / 2 &&& M) := by
  have e : (a + 256 * X) / 2 = (a / 2 + 128 * (X % 2)) + 256 * (X / 2) := by omega
  rw [e, zb_and _ _ (by omega) (by decide), zb_s1f a ha _ (by omega)]
theorem zb_s2 {a : Nat} (X M : Nat) (ha : a < 256) : (a + 256 * X) / 4 &&& (51 + 256 * M) = (a / 4 &&& 51) + 256 * (X / 4 &&& M) := by
  have e : (a + 256 * X) / 4 = (a / 4 + 64 * (X % 4)) + 256 * (X / 4) := by omega
  rw [e, zb_and _ _ (by omega) (by decide), zb_s2f a ha _ (by omega)]
theorem zb_s3 {a : Nat} (X M : Nat) (ha : a < 69) (hX : X % 16 < 5) : ((a + 256 * X) + (a + 256 * X) / 16) &&& (15 + 256 * M) = ((a + a / 16) &&& 15) + 256 * ((X + X / 16) &&& M) := by
  have e : (a + 256 * X) + (a + 256 * X) / 16 = (a + a / 16 + 16 * (X % 16)) + 256 * (X + X / 16) := by omega
  rw [e, zb_and _ _ (by omega) (by decide), zb_s3f a ha _ hX]
theorem zb_m1 : 6148914691236517205 = 85 + 256 * (85 + 256 * (85 + 256 * (85 + 256 * (85 + 256 * 5592405)))) := by decide
theorem zb_m2 : 3689348814741910323 = 51 + 256 * (51 + 256 * (51 + 256 * (51 + 256 * (51 + 256 * 3355443)))) := by decide
theorem zb_m3 : 1085102592571150095 = 15 + 256 * (15 + 256 * (15 + 256 * (15 + 256 * (15 + 256 * 986895)))) := by decide
section ZB
variable {a b c d e : Nat}
theorem zb_n1 (ha : a < 256) (hb : b < 256) (hc : c < 256) (hd : d < 256) (he : e < 256) : zb_B a b c d e - (zb_B a b c d e / 2 &&& 6148914691236517205) = zb_B (zb_1 a) (zb_1 b) (zb_1 c) (zb_1 d) (zb_1 e) := by
  have fa := (zb_f a ha).1
  have fb := (zb_f b hb).1
  have fc := (zb_f c hc).1
  have fd := (zb_f d hd).1
  have fe := (zb_f e he).1
  have h0 : 0 / 2 &&& 5592405 = 0 := by decide
  have k : zb_B a b c d e / 2 &&& 6148914691236517205 = (a / 2 &&& 85) + 256 * ((b / 2 &&& 85) + 256 * ((c / 2 &&& 85) + 256 * ((d / 2 &&& 85) + 256 * ((e / 2 &&& 85) + 256 * 0)))) := by
    rw [zb_m1]
    unfold zb_B
    rw [zb_s1 _ _ ha, zb_s1 _ _ hb, zb_s1 _ _ hc, zb_s1 _ _ hd, zb_s1 _ _ he, h0]
  rw [k]
  unfold zb_B zb_1
  generalize a / 2 &&& 85 = a1 at *
  generalize b / 2 &&& 85 = b1 at *
  generalize c / 2 &&& 85 = c1 at *
  generalize d / 2 &&& 85 = d1 at *
  generalize e / 2 &&& 85 = e1 at *
  omega
theorem zb_n2 (ha : a < 256) (hb : b < 256) (hc : c < 256) (hd : d < 256) (he : e < 256) : (zb_B a b c d e &&& 3689348814741910323) + (zb_B a b c d e / 4 &&& 3689348814741910323) = zb_B ((a &&& 51) + (a / 4 &&& 51)) ((b &&& 51) + (b / 4 &&& 51)) ((c &&& 51) + (c / 4 &&& 51)) ((d &&& 51) + (d / 4 &&& 51)) ((e &&& 51) + (e / 4 &&& 51)) := by
  have h0 : 0 / 4 &&& 3355443 = 0 := by decide
  have h1 : 0 &&& 3355443 = 0 := by decide
  have k : zb_B a b c d e / 4 &&& 3689348814741910323 = (a / 4 &&& 51) + 256 * ((b / 4 &&& 51) + 256 * ((c / 4 &&& 51) + 256 * ((d / 4 &&& 51) + 256 * ((e / 4 &&& 51) + 256 * 0)))) := by
    rw [zb_m2]
    unfold zb_B
    rw [zb_s2 _ _ ha, zb_s2 _ _ hb, zb_s2 _ _ hc, zb_s2 _ _ hd, zb_s2 _ _ he, h0]
  have j : zb_B a b c d e &&& 3689348814741910323 = (a &&& 51) + 256 * ((b &&& 51) + 256 * ((c &&& 51) + 256 * ((d &&& 51) + 256 * ((e &&& 51) + 256 * 0)))) := by
    have q : 51 < 256 := by decide
    rw [zb_m2]
    unfold zb_B
    rw [zb_and _ _ ha q, zb_and _ _ hb q, zb_and _ _ hc q, zb_and _ _ hd q, zb_and _ _ he q, h1]
  rw [k, j]
  unfold zb_B
  generalize a / 4 &&& 51 = a1
  generalize b / 4 &&& 51 = b1
  generalize c / 4 &&& 51 = c1
  generalize d / 4 &&& 51 = d1
  generalize e / 4 &&& 51 = e1
  generalize a &&& 51 = a2
  generalize b &&& 51 = b2
  generalize c &&& 51 = c2
  generalize d &&& 51 = d2
  generalize e &&& 51 = e2
  omega
theorem zb_n3 (ha : a < 69) (hb : b < 69) (hc : c < 69) (hd : d < 69) (he : e < 69) (gb : b % 16 < 5) (gc : c % 16 < 5) (gd : d % 16 < 5) (ge : e % 16 < 5) : (zb_B a b c d e + zb_B a b c d e / 16) &&& 1085102592571150095 = zb_B ((a + a / 16) &&& 15) ((b + b / 16) &&& 15) ((c + c / 16) &&& 15) ((d + d / 16) &&& 15) ((e + e / 16) &&& 15) := by
  have h0 : (0 + 0 / 16) &&& 986895 = 0 := by decide
  rw [zb_m3]
  unfold zb_B
  rw [zb_s3 _ _ ha (by omega), zb_s3 _ _ hb (by omega), zb_s3 _ _ hc (by omega), zb_s3 _ _ hd (by omega), zb_s3 _ _ he (by omega), h0]
theorem zb_n5 (ha : a < 9) (hb : b < 9) (hc : c < 9) (hd : d < 9) (he : e < 9) : zb_B a b c d e + zb_B a b c d e / 256 = zb_B (a + b) (b + c) (c + d) (d + e) e := by
  unfold zb_B
  omega
theorem zb_n6 (ha : a < 18) (hb : b < 18) (hc : c < 18) (hd : d < 18) (he : e < 18) : zb_B a b c d e + zb_B a b c d e / 65536 = zb_B (a + c) (b + d) (c + e) d e := by
  unfold zb_B
  omega
theorem zb_n7 (ha : a < 36) (hb : b < 36) (hc : c < 36) (hd : d < 36) (he : e < 36) : zb_B a b c d e + zb_B a b c d e / 4294967296 = zb_B (a + e) b c d e := by
  unfold zb_B
  omega
theorem zb_lt (ha : a < 256) (hb : b < 256) (hc : c < 256) (hd : d < 256) (he : e < 256) : zb_B a b c d e < 2 ^ 64 := by
  unfold zb_B
  omega
theorem zb_S8 {X : Nat} (ha : a < 256) : zb_S (a + 256 * X) 8 = zb_S a 8 := by
  have h : ∀ j, j < 8 → (a + 256 * X) / 2 ^ j % 2 = a / 2 ^ j % 2 := by
    intro j hj
    match j, hj with
    | 0, _ => omega
    | 1, _ => omega
    | 2, _ => omega
    | 3, _ => omega
    | 4, _ => omega
    | 5, _ => omega
    | 6, _ => omega
    | 7, _ => omega
  show ((((((((0 + _) + _) + _) + _) + _) + _) + _) + _) = ((((((((0 + _) + _) + _) + _) + _) + _) + _) + _)
  rw [h 0 (by decide), h 1 (by decide), h 2 (by decide), h 3 (by decide), h 4 (by decide), h 5 (by decide), h 6 (by decide), h 7 (by decide)]
theorem zb_Ss {X : Nat} (ha : a < 256) : ∀ m : Nat, zb_S (a + 256 * X) (8 + m) = zb_S a 8 + zb_S X m
  | 0 => zb_S8 ha
  | m + 1 => by
    have ih := zb_Ss (X := X) ha m
    have hq : (a + 256 * X) / 2 ^ (8 + m) = X / 2 ^ m := by
      rw [Nat.pow_add, ← Nat.div_div_eq_div_mul]
      have : (a + 256 * X) / 2 ^ 8 = X := by omega
      rw [this]
    show zb_S (a + 256 * X) (8 + m) + (a + 256 * X) / 2 ^ (8 + m) % 2 = zb_S a 8 + (zb_S X m + X / 2 ^ m % 2)
    rw [ih, hq, Nat.add_assoc]
theorem zb_S40 (ha : a < 256) (hb : b < 256) (hc : c < 256) (hd : d < 256) (he : e < 256) : zb_S (zb_B a b c d e) 40 = zb_3 a + (zb_3 b + (zb_3 c + (zb_3 d + zb_3 e))) := by
  show zb_S (a + 256 * (b + 256 * (c + 256 * (d + 256 * (e + 256 * 0))))) (8 + (8 + (8 + (8 + (8 + 0))))) = _
  rw [zb_Ss ha, zb_Ss hb, zb_Ss hc, zb_Ss hd, zb_Ss he, (zb_f a ha).2.2.2.2.1, (zb_f b hb).2.2.2.2.1, (zb_f c hc).2.2.2.2.1, (zb_f d hd).2.2.2.2.1, (zb_f e he).2.2.2.2.1]
  rfl
def zb_u (z : Int64) : Nat := z.toUInt64.toNat
theorem zb_ua (x y : Int64) : zb_u (x + y) = (zb_u x + zb_u y) % 2 ^ 64 := by
  show (x.toUInt64 + y.toUInt64).toNat = _
  exact UInt64.toNat_add _ _
theorem zb_us {x y : Int64} (h : zb_u y ≤ zb_u x) : zb_u (x - y) = zb_u x - zb_u y := by
  show (x.toUInt64 - y.toUInt64).toNat = _
  exact UInt64.toNat_sub_of_le _ _ (UInt64.le_iff_toNat_le.mpr h)
theorem zb_un (x y : Int64) : zb_u (x &&& y) = zb_u x &&& zb_u y := by
  show (x.toUInt64 &&& y.toUInt64).toNat = _
  exact UInt64.toNat_and _ _
theorem zb_sL (x : Int64) (k : Int32) (K : UInt64) (hk : k.toInt64.toUInt64 &&& Int64.toUInt64 63 = K) : zb_u (kp_sL x k) = zb_u x >>> (K.toNat % 64) := by
  unfold kp_sL
  rw [hk]
  show (x.toUInt64 >>> K).toNat = _
  exact UInt64.toNat_shiftRight _ _
theorem zb_sL1 (x : Int64) : zb_u (kp_sL x 1) = zb_u x / 2 := by
  rw [zb_sL x 1 1 (by decide), show (1 : UInt64).toNat % 64 = 1 from by decide, Nat.shiftRight_eq_div_pow]
theorem zb_sL2 (x : Int64) : zb_u (kp_sL x 2) = zb_u x / 4 := by
  rw [zb_sL x 2 2 (by decide), show (2 : UInt64).toNat % 64 = 2 from by decide, Nat.shiftRight_eq_div_pow]
theorem zb_sL4 (x : Int64) : zb_u (kp_sL x 4) = zb_u x / 16 := by
  rw [zb_sL x 4 4 (by decide), show (4 : UInt64).toNat % 64 = 4 from by decide, Nat.shiftRight_eq_div_pow]
theorem zb_sL8 (x : Int64) : zb_u (kp_sL x 8) = zb_u x / 256 := by
  rw [zb_sL x 8 8 (by decide), show (8 : UInt64).toNat % 64 = 8 from by decide, Nat.shiftRight_eq_div_pow]
theorem zb_sL16 (x : Int64) : zb_u (kp_sL x 16) = zb_u x / 65536 := by
  rw [zb_sL x 16 16 (by decide), show (16 : UInt64).toNat % 64 = 16 from by decide, Nat.shiftRight_eq_div_pow]
theorem zb_sL32 (x : Int64) : zb_u (kp_sL x 32) = zb_u x / 4294967296 := by
  rw [zb_sL x 32 32 (by decide), show (32 : UInt64).toNat % 64 = 32 from by decide, Nat.shiftRight_eq_div_pow]
theorem zb_l1 : zb_u 6148914691236517205 = 6148914691236517205 := by decide +kernel
theorem zb_l2 : zb_u 3689348814741910323 = 3689348814741910323 := by decide +kernel
theorem zb_l3 : zb_u 1085102592571150095 = 1085102592571150095 := by decide +kernel
variable {x : Int64}
theorem zb_c1 (ha : a < 256) (hb : b < 256) (hc : c < 256) (hd : d < 256) (he : e < 256) (h : zb_u x = zb_B a b c d e) : zb_u (kp_c1 x) = zb_B (zb_1 a) (zb_1 b) (zb_1 c) (zb_1 d) (zb_1 e) := by
  have hs : zb_u (kp_sL x 1 &&& 6148914691236517205) = zb_u x / 2 &&& 6148914691236517205 := by rw [zb_un, zb_sL1, zb_l1]
  have hle : zb_u (kp_sL x 1 &&& 6148914691236517205) ≤ zb_u x := by
    rw [hs]
    exact Nat.le_trans Nat.and_le_left (Nat.div_le_self _ _)
  unfold kp_c1
  rw [zb_us hle, hs, h]
  exact zb_n1 ha hb hc hd he
theorem zb_c2 (ha : a < 256) (hb : b < 256) (hc : c < 256) (hd : d < 256) (he : e < 256) (h : zb_u x = zb_B (zb_1 a) (zb_1 b) (zb_1 c) (zb_1 d) (zb_1 e)) : zb_u (kp_c2 x) = zb_B (zb_2 a) (zb_2 b) (zb_2 c) (zb_2 d) (zb_2 e) := by
  have L := zb_lt (Nat.lt_trans (zb_f a ha).2.2.1 (by decide)) (Nat.lt_trans (zb_f b hb).2.2.1 (by decide)) (Nat.lt_trans (zb_f c hc).2.2.1 (by decide)) (Nat.lt_trans (zb_f d hd).2.2.1 (by decide)) (Nat.lt_trans (zb_f e he).2.2.1 (by decide))
  have k := zb_n2 (zb_f a ha).2.1 (zb_f b hb).2.1 (zb_f c hc).2.1 (zb_f d hd).2.1 (zb_f e he).2.1
  unfold kp_c2
  rw [zb_ua, zb_un, zb_un, zb_sL2, zb_l2, h, k]
  exact Nat.mod_eq_of_lt L
theorem zb_c3 (ha : a < 256) (hb : b < 256) (hc : c < 256) (hd : d < 256) (he : e < 256) (h : zb_u x = zb_B (zb_2 a) (zb_2 b) (zb_2 c) (zb_2 d) (zb_2 e)) : zb_u (kp_c3 x) = zb_B (zb_3 a) (zb_3 b) (zb_3 c) (zb_3 d) (zb_3 e) := by
  obtain ⟨-, -, fa, ga, -, -⟩ := zb_f a ha
  obtain ⟨-, -, fb, gb, -, -⟩ := zb_f b hb
  obtain ⟨-, -, fc, gc, -, -⟩ := zb_f c hc
  obtain ⟨-, -, fd, gd, -, -⟩ := zb_f d hd
  obtain ⟨-, -, fe, ge, -, -⟩ := zb_f e he
  have L : zb_B (zb_2 a) (zb_2 b) (zb_2 c) (zb_2 d) (zb_2 e) + zb_B (zb_2 a) (zb_2 b) (zb_2 c) (zb_2 d) (zb_2 e) / 16 < 2 ^ 64 := by
    unfold zb_B
    omega
  have k := zb_n3 fa fb fc fd fe gb gc gd ge
  unfold kp_c3
  rw [zb_un, zb_ua, zb_sL4, zb_l3, h, Nat.mod_eq_of_lt L, k]
  rfl
theorem zb_c4 (ha : a < 9) (hb : b < 9) (hc : c < 9) (hd : d < 9) (he : e < 9) (h : zb_u x = zb_B a b c d e) : zb_u (kp_c6 (kp_c5 (kp_c4 x))) = zb_B (a + b + (c + d) + e) (b + c + (d + e)) (c + d + e) (d + e) e := by
  have h4 : zb_u (kp_c4 x) = zb_B (a + b) (b + c) (c + d) (d + e) e := by
    unfold kp_c4
    rw [zb_ua, zb_sL8, h, zb_n5 ha hb hc hd he]
    exact Nat.mod_eq_of_lt (zb_lt (by omega) (by omega) (by omega) (by omega) (by omega))
  have h5 : zb_u (kp_c5 (kp_c4 x)) = zb_B (a + b + (c + d)) (b + c + (d + e)) (c + d + e) (d + e) e := by
    unfold kp_c5
    rw [zb_ua, zb_sL16, h4, zb_n6 (by omega) (by omega) (by omega) (by omega) (by omega)]
    exact Nat.mod_eq_of_lt (zb_lt (by omega) (by omega) (by omega) (by omega) (by omega))
  unfold kp_c6
  rw [zb_ua, zb_sL32, h5, zb_n7 (by omega) (by omega) (by omega) (by omega) (by omega)]
  exact Nat.mod_eq_of_lt (zb_lt (by omega) (by omega) (by omega) (by omega) (by omega))
theorem zb_t (w : Int64) : (w.toInt32 &&& 127).toInt = ((zb_u w % 128 : Nat) : Int) := by
  have q : ((w.toInt32 &&& 127).toBitVec).toNat = zb_u w % 128 := by
    show ((w.toBitVec.signExtend 32) &&& 127#32).toNat = _
    rw [BitVec.toNat_and, BitVec.signExtend_eq_setWidth_of_le _ (by decide), BitVec.toNat_setWidth]
    show (zb_u w % 2 ^ 32) &&& (2 ^ 7 - 1) = _
    rw [Nat.and_two_pow_sub_one_eq_mod]
    omega
  show BitVec.toInt ((w.toInt32 &&& 127).toBitVec) = _
  rw [BitVec.toInt_eq_toNat_of_lt (by rw [q]; omega), q]
end ZB
theorem zb_bits (n : Nat) : ∀ k : Nat, kp_smN (fun t => (n : Int) / 2 ^ (Int.toNat t) % 2) k = ((zb_S n k : Nat) : Int)
  | 0 => rfl
  | k + 1 => by
    have ih := zb_bits n k
    show kp_smN _ k + (n : Int) / 2 ^ k % 2 = ((zb_S n k + n / 2 ^ k % 2 : Nat) : Int)
    rw [ih]
    push_cast
    rfl
theorem z_bcL {x : Int} (h : 0 ≤ x ∧ x < 1099511627776) : kp_bcL x = kp_sm (fun t => x / 2 ^ (Int.toNat t) % 2) 40 := by
  obtain ⟨n, rfl⟩ : ∃ n : Nat, x = (n : Int) := ⟨x.toNat, by omega⟩
  have hn : n < 1099511627776 := by omega
  have hu : zb_u (Int64.ofInt (n : Int)) = n := by
    show (BitVec.ofInt 64 (n : Int)).toNat = n
    rw [BitVec.toNat_ofInt]
    omega
  obtain ⟨a, b, c, d, e, ha, hb, hc, hd, he, hB⟩ : ∃ a b c d e : Nat, a < 256 ∧ b < 256 ∧ c < 256 ∧ d < 256 ∧ e < 256 ∧ n = zb_B a b c d e := ⟨n % 256, n / 256 % 256, n / 65536 % 256, n / 16777216 % 256, n / 4294967296, by omega, by omega, by omega, by omega, by omega, by unfold zb_B; omega⟩
  have h3 := zb_c3 ha hb hc hd he (zb_c2 ha hb hc hd he (zb_c1 ha hb hc hd he (hu.trans hB)))
  have fa := (zb_f a ha).2.2.2.2.2
  have fb := (zb_f b hb).2.2.2.2.2
  have fc := (zb_f c hc).2.2.2.2.2
  have fd := (zb_f d hd).2.2.2.2.2
  have fe := (zb_f e he).2.2.2.2.2
  have h6 := zb_c4 fa fb fc fd fe h3
  have hs := zb_bits n 40
  have h40 := zb_S40 ha hb hc hd he
  rw [← hB] at h40
  unfold kp_bcL
  rw [zb_t, h6]
  show _ = kp_smN (fun t => (n : Int) / 2 ^ (Int.toNat t) % 2) 40
  rw [hs, h40]
  congr 1
  unfold zb_B
  omega
