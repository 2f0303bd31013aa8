-- the reference: what goes, how loud, what is heard
def kz_Fq (b σ : kp_W) : Prop := (∀ a, a ≠ 0 → a ≠ 3 → a ≠ 4 → a ≠ 5 → a ≠ 6 → σ a = b a) ∧ ∀ j, j ≠ 11 → j ≠ 12 → j ≠ 13 → σ 0 j = b 0 j
theorem z_knS {A : kz_A} {q l n t : Int} (h : A.1 (Int.toNat (250 + n)) = 2 ∨ A.1 (Int.toNat (250 + n)) = 5) : kz_kn A q l n t = (if ¬ kz_on A.1 q l 1 t ∧ (0 < t ∧ kz_on A.1 q l 1 (t - 1)) then A.1 (Int.toNat (270 + n)) else if kz_on A.1 q l 1 t ∧ ¬ (0 < t ∧ kz_on A.1 q l 1 (t - 1)) ∧ A.1 (Int.toNat (250 + n)) = 5 then 1 else 0) := by
  unfold kz_kn
  rw [if_neg (by omega), if_pos h]
theorem z_knH {A : kz_A} {q l n t : Int} (h : A.1 (Int.toNat (250 + n)) = 3 ∨ A.1 (Int.toNat (250 + n)) = 6) : kz_kn A q l n t = (if (if A.1 (Int.toNat (270 + n)) = 0 then 1 else A.1 (Int.toNat (270 + n))) ≤ kz_rn A.1 q l (decide (A.1 (Int.toNat (250 + n)) = 3)) (t + 1) then 1 else 0) := by
  unfold kz_kn
  rw [if_neg (by omega), if_neg (by omega), if_pos h]
theorem z_knT {A : kz_A} {q l n t : Int} (h : A.1 (Int.toNat (250 + n)) = 1 ∨ A.1 (Int.toNat (250 + n)) = 4) : kz_kn A q l n t = kz_tick A q l n t := by
  unfold kz_kn
  rw [if_pos h]
theorem z_knN {A : kz_A} {q l n t : Int} (h1 : ¬ A.1 (Int.toNat (250 + n)) = 1) (h2 : ¬ A.1 (Int.toNat (250 + n)) = 2) (h3 : ¬ A.1 (Int.toNat (250 + n)) = 3) (h4 : ¬ A.1 (Int.toNat (250 + n)) = 4) (h5 : ¬ A.1 (Int.toNat (250 + n)) = 5) (h6 : ¬ A.1 (Int.toNat (250 + n)) = 6) : kz_kn A q l n t = (if kz_an A.1 n t A.2 = false ∧ t % 10 = A.1 (Int.toNat (270 + n)) then 1 else 0) := by
  unfold kz_kn
  rw [if_neg (by omega), if_neg (by omega), if_neg (by omega)]
section GO
variable {A : kz_A} {Q : Int → kp_W → Prop}
theorem r_goesOf (hA : kz_I A) {n : Int} (hn : 0 ≤ n ∧ n < A.1 0) {b : kp_W} (hq : b 0 16 = 0 ∨ b 0 16 = 1) (hl : 0 ≤ b 0 17 ∧ b 0 17 ≤ 40) (eb : b 1 = A.1) (hw : ∀ t, 0 ≤ t → t < 40 → b 5 (Int.toNat t) = kz_w A.1 (b 0 16) (b 0 17) (t + 1)) (hQ : ∀ σ', kz_Fg n b σ' → (∀ t, 0 ≤ t → t < 40 → σ' 6 (Int.toNat (40 * n + t)) = kz_kn A (b 0 16) (b 0 17) n t) → Q 0 σ') : kp_ok (kf_X10_goesOf n b) Q := by
  have h10 := hA.1.1.1
  have hk := hA.1.2.2.2.1 n hn.1 hn.2
  have hfu : ∀ x : Int, 0 ≤ x → 40 - x < (kp_fu : Int) := fun x hx => kp_fu_big (by omega)
  unfold kf_X10_goesOf
  rw [eb]
  have tick : A.1 (Int.toNat (250 + n)) = 1 ∨ A.1 (Int.toNat (250 + n)) = 4 → kp_ok (kp_bd (kf_X10_ticks n b) (fun r_0 σ_2 => some (0, σ_2))) Q := by
    intro hkd
    refine k_bd ?_
    unfold kf_X10_ticks
    refine k_lt (k_lt (r_ticksL hA hn hkd hw eb kp_fu _ _ b (by decide) (by decide) (hfu 0 (by decide)) rfl z_Fg0 (fun t h0 h1 => by omega) (fun σ' h1 h2 => k_some (k_some (hQ σ' h1 (fun t t0 t1 => ?_))))))
    rw [h2 t t0 t1, z_knT hkd]
  have stru : A.1 (Int.toNat (250 + n)) = 2 ∨ A.1 (Int.toNat (250 + n)) = 5 → kp_ok (kp_bd (kf_X10_strikesBy n b) (fun r_0 σ_2 => some (0, σ_2))) Q := by
    intro hkd
    refine k_bd ?_
    unfold kf_X10_strikesBy
    refine k_lt (r_strikesL hA hn hq hl eb _ (fun _ _ _ => rfl) kp_fu _ b (by decide) (by decide) (hfu 0 (by decide)) z_Fg0 (fun t h0 h1 => by omega) (fun σ' h1 h2 => k_some (k_some (hQ σ' h1 (fun t t0 t1 => ?_)))))
    rw [h2 t t0 t1, z_knS hkd]
  have hum : ∀ c : Bool, (A.1 (Int.toNat (250 + n)) = 3 ∨ A.1 (Int.toNat (250 + n)) = 6) → c = decide (A.1 (Int.toNat (250 + n)) = 3) → kp_ok (kp_bd (kf_X10_hums n (kz_i c) b) (fun r_0 σ_2 => some (0, σ_2))) Q := by
    intro c hkd hc
    refine k_bd ?_
    unfold kf_X10_hums
    rw [eb]
    refine k_lt (k_ck (by omega) (k_jv (if A.1 (Int.toNat (270 + n)) = 0 then 1 else A.1 (Int.toNat (270 + n))) ?_ (fun j hj => ?_)))
    · refine k_lt (k_lt (r_humsL hA hn hq hl eb c (by split <;> omega) kp_fu _ _ b (by decide) (by decide) (hfu 0 (by decide)) rfl z_Fg0 (fun t h0 h1 => by omega) (fun σ' h1 h2 => k_some (k_some (hQ σ' h1 (fun t t0 t1 => ?_))))))
      rw [h2 t t0 t1, z_knH hkd, hc]
    · refine k_eq ⟨by omega, by omega⟩ (by decide) (fun z => ?_) (fun z => k_ck (by omega) ?_)
      · rw [if_pos z] at hj; exact hj
      · rw [if_neg z] at hj; exact hj
  refine k_ck (by omega) (k_jn (k_jn ?_))
  refine k_eq ⟨by omega, by omega⟩ (by decide) (fun z => tick (Or.inl z)) (fun z1 => ?_)
  refine k_eq ⟨by omega, by omega⟩ (by decide) (fun z => stru (Or.inl z)) (fun z2 => ?_)
  refine k_eq ⟨by omega, by omega⟩ (by decide) (fun z => hum true (Or.inl z) (decide_eq_true z).symm) (fun z3 => ?_)
  refine k_eq ⟨by omega, by omega⟩ (by decide) (fun z => tick (Or.inr z)) (fun z4 => ?_)
  refine k_eq ⟨by omega, by omega⟩ (by decide) (fun z => stru (Or.inr z)) (fun z5 => ?_)
  refine k_eq ⟨by omega, by omega⟩ (by decide) (fun z => hum false (Or.inr z) (decide_eq_false z3).symm) (fun z6 => ?_)
  refine k_bd ?_
  unfold kf_X10_plainly
  refine k_lt (r_plainL hA hn eb kp_fu _ b (by decide) (by decide) (hfu 0 (by decide)) z_Fg0 (fun t h0 h1 => by omega) (fun σ' h1 h2 => k_some (k_some (hQ σ' h1 (fun t t0 t1 => ?_)))))
  rw [h2 t t0 t1, z_knN z1 z2 z3 z4 z5 z6]
/-- what stands behind goes(): q a day without anything, l how much later the boiler -/
def kz_G (A : kz_A) (q l : Int) (σ : kp_W) : Prop := σ 1 = A.1 ∧ (∀ t, 0 ≤ t → t < 40 → σ 5 (Int.toNat t) = kz_w A.1 q l (t + 1)) ∧ ∀ n, 0 ≤ n → n < A.1 0 → ∀ t, 0 ≤ t → t < 40 → σ 6 (Int.toNat (40 * n + t)) = kz_kn A q l n t
theorem r_goes (hA : kz_I A) {b : kp_W} (hq : b 0 16 = 0 ∨ b 0 16 = 1) (hl : 0 ≤ b 0 17 ∧ b 0 17 ≤ 40) (eb : b 1 = A.1) (hQ : ∀ σ', kz_Fq b σ' → kz_G A (b 0 16) (b 0 17) σ' → Q 0 σ') : kp_ok (kf_X10_goes b) Q := by
  have h10 := hA.1.1.1
  unfold kf_X10_goes
  refine k_bd (r_warms (by rw [eb]; exact hA.1) hq hl (fun σ1 f1 hw => k_lt ?_))
  rw [eb] at hw
  have loop : ∀ (n : Nat) (x : Int) (σ : kp_W), 0 ≤ x → x ≤ A.1 0 → A.1 0 - x < n → kz_Fq b σ → (∀ t, 0 ≤ t → t < 40 → σ 5 (Int.toNat t) = kz_w A.1 (b 0 16) (b 0 17) (t + 1)) → (∀ i, 0 ≤ i → i < x → ∀ t, 0 ≤ t → t < 40 → σ 6 (Int.toNat (40 * i + t)) = kz_kn A (b 0 16) (b 0 17) i t) → kp_ok (kl_X10_goes_6 n x σ (fun (σ3 : kp_W) => some (0, σ3))) Q := by
    intro n
    induction n with
    | zero => intro x σ h0 h1 h2; omega
    | succ n ih =>
      intro x σ h0 h1 h2 hF hw hv
      have es : σ 1 = A.1 := by rw [hF.1 1 (by decide) (by decide) (by decide) (by decide) (by decide)]; exact eb
      rw [kl_X10_goes_6, es]
      have e16 : σ 0 16 = b 0 16 := hF.2 16 (by decide) (by decide) (by decide)
      have e17 : σ 0 17 = b 0 17 := hF.2 17 (by decide) (by decide) (by decide)
      refine k_ls ⟨by omega, by omega⟩ ⟨by omega, by omega⟩ (fun hx => ?_) (fun hx => k_some (hQ σ hF ⟨es, hw, fun i i0 i1 => hv i i0 (by omega)⟩))
      refine k_bd (r_goesOf hA ⟨h0, hx⟩ (by rw [e16]; exact hq) (by rw [e17]; exact hl) es (by rw [e16, e17]; exact hw) (fun σ' g1 g2 => k_lt ?_))
      rw [e16, e17] at g2
      refine ih _ _ (by omega) (by omega) (by omega) ⟨fun a a0 a3 a4 a5 a6 => ?_, fun j j1 j2 j3 => ?_⟩ ?_ ?_
      · rw [g1.1 a a0 a3 a4 a6]; exact hF.1 a a0 a3 a4 a5 a6
      · rw [g1.2.1 j j1 j2 j3]; exact hF.2 j j1 j2 j3
      · rw [g1.1 5 (by decide) (by decide) (by decide) (by decide)]; exact hw
      · intro i i0 i1 t t0 t1
        by_cases hi : i = x
        · subst hi; exact g2 t t0 t1
        · rw [g1.2.2 (40 * i + t) (by omega) (by omega)]
          exact hv i i0 (by omega) t t0 t1
  exact loop kp_fu 0 σ1 (by decide) (by omega) (kp_fu_big (by omega)) ⟨fun a a0 a3 a4 a5 a6 => f1 a a5, fun j _ _ _ => by rw [f1 0 (by decide)]⟩ hw (fun i i0 i1 => by omega)
end GO
theorem z_kn {A : kz_A} (hA : kz_I A) {q l n t : Int} (hn : 0 ≤ n ∧ n < A.1 0) : 0 ≤ kz_kn A q l n t ∧ kz_kn A q l n t ≤ 9 := by
  have hk := hA.1.2.2.2.1 n hn.1 hn.2
  have hf := z_fr hA.2 (q := q) (l := l) (n := n) (t := t)
  unfold kz_kn kz_tick
  repeat' split
  all_goals omega
-- sets as bits
def kz_bN (P : Int → Bool) : Nat → Int
  | 0 => 0
  | n + 1 => kz_bN P n + (if P n = true then 2 ^ n else 0)
def kz_bs (P : Int → Bool) (x : Int) : Int := kz_bN P x.toNat
theorem z_bN (P : Int → Bool) : ∀ n : Nat, 0 ≤ kz_bN P n ∧ kz_bN P n < 2 ^ n
  | 0 => by show (0 : Int) ≤ 0 ∧ (0 : Int) < 2 ^ 0; decide
  | n + 1 => by
    have h := z_bN P n
    have hp : (2 : Int) ^ (n + 1) = 2 ^ n + 2 ^ n := by rw [Int.pow_succ]; omega
    rw [kz_bN]
    split <;> omega
theorem z_bs (P : Int → Bool) (x : Int) : 0 ≤ kz_bs P x ∧ kz_bs P x < 2 ^ x.toNat := z_bN P _
theorem z_bs0 (P : Int → Bool) : kz_bs P 0 = 0 := rfl
theorem z_bs1 (P : Int → Bool) {x : Int} (h : 0 ≤ x) : kz_bs P (x + 1) = kz_bs P x + (if P x = true then 2 ^ x.toNat else 0) := by
  unfold kz_bs
  rw [Int.toNat_add h (by decide)]
  show kz_bN P (x.toNat + 1) = _
  rw [kz_bN, Int.toNat_of_nonneg h]
theorem z_add_bit {x : Int} {n i : Nat} (h : 0 ≤ x ∧ x < 2 ^ n) : kz_t (x + 2 ^ n) i = (kz_t x i || decide (n = i)) := by
  obtain ⟨a, rfl⟩ := Int.eq_ofNat_of_zero_le h.1
  have ha : a < 2 ^ n := by exact_mod_cast h.2
  have e : ((a : Int) + 2 ^ n) = ((2 ^ n + a : Nat) : Int) := by rw [Int.natCast_add]; norm_cast; omega
  rw [e, kz_nat, kz_nat]
  by_cases hi : i = n
  · subst hi
    rw [Nat.testBit_two_pow_add_eq, Nat.testBit_lt_two_pow ha]
    simp
  · rcases Nat.lt_or_gt_of_ne hi with q | q
    · rw [Nat.testBit_two_pow_add_gt q]
      simp; omega
    · rw [Nat.testBit_lt_two_pow (i := i), Nat.testBit_lt_two_pow (i := i)]
      · simp; omega
      · have : 2 ^ n ≤ 2 ^ i := Nat.pow_le_pow_right (by decide) (by omega); omega
      · have : 2 ^ (n + 1) ≤ 2 ^ i := Nat.pow_le_pow_right (by decide) (by omega)
        rw [Nat.pow_succ] at this
        omega
theorem z_bNt (P : Int → Bool) : ∀ (n i : Nat), kz_t (kz_bN P n) i = (decide (i < n) && P i)
  | 0, i => by show kz_t 0 i = _; rw [kz_0]; simp
  | n + 1, i => by
    have h := z_bNt P n i
    have hr := z_bN P n
    rw [kz_bN]
    by_cases hp : P n = true
    · rw [if_pos hp, z_add_bit hr, h]
      by_cases hi : i = n
      · subst hi; simp [hp]
      · have : (decide (n = i)) = false := decide_eq_false (fun z => hi z.symm)
        rw [this, Bool.or_false]
        congr 1
        apply decide_eq_decide.mpr
        omega
    · rw [if_neg hp, Int.add_zero, h]
      by_cases hi : i = n
      · subst hi; simp [hp]
      · congr 1
        apply decide_eq_decide.mpr
        omega
theorem z_bst (P : Int → Bool) {x : Int} (i : Nat) : kz_t (kz_bs P x) i = (decide (i < x.toNat) && P i) := z_bNt P _ i
theorem z_bs_cong {P P' : Int → Bool} {x : Int} (h : ∀ i, 0 ≤ i → i < x → P i = P' i) : kz_bs P x = kz_bs P' x := by
  refine kz_ext (z_bs P x) (z_bs P' x) (fun i hi => ?_)
  rw [z_bst, z_bst, h i (by omega) (by omega)]
theorem z_or0 {x : Int} (h : 0 ≤ x ∧ x < 2 ^ 31) : kp_or x 0 = x := by
  refine kz_ext (kz_small32 (k := 31) (by decide) (kz_or_in _ _) (fun i h1 h2 => ?_)) h (fun i hi => ?_)
  · rw [kz_or h2, kz_0, kz_big h h1]; rfl
  · rw [kz_or (by omega), kz_0, Bool.or_false]
theorem z_or1 {x : Int} {n : Nat} (hn : n < 31) (h : 0 ≤ x ∧ x < 2 ^ n) : kp_or x (1 * 2 ^ n) = x + 2 ^ n := by
  have hp : (2 : Int) ^ (n + 1) = 2 ^ n + 2 ^ n := by rw [Int.pow_succ]; omega
  refine kz_ext (k := n + 1) (kz_small32 (by omega) (kz_or_in _ _) (fun i h1 h2 => ?_)) ⟨by omega, by omega⟩ (fun i hi => ?_)
  · rw [kz_or h2, kz_pw1, kz_big h (by omega)]; simp; omega
  · rw [kz_or (by omega), kz_pw1, z_add_bit h]
theorem z_orL0 {x : Int} (h : 0 ≤ x ∧ x < 2 ^ 63) : kp_orL x 0 = x := by
  refine kz_ext (kz_small64 (k := 63) (by decide) (kz_orL_in _ _) (fun i h1 h2 => ?_)) h (fun i hi => ?_)
  · rw [kz_orL h2, kz_0, kz_big h h1]; rfl
  · rw [kz_orL (by omega), kz_0, Bool.or_false]
theorem z_orL1 {x : Int} {n : Nat} (hn : n < 63) (h : 0 ≤ x ∧ x < 2 ^ n) : kp_orL x (1 * 2 ^ n) = x + 2 ^ n := by
  have hp : (2 : Int) ^ (n + 1) = 2 ^ n + 2 ^ n := by rw [Int.pow_succ]; omega
  refine kz_ext (k := n + 1) (kz_small64 (by omega) (kz_orL_in _ _) (fun i h1 h2 => ?_)) ⟨by omega, by omega⟩ (fun i hi => ?_)
  · rw [kz_orL h2, kz_pw1, kz_big h (by omega)]; simp; omega
  · rw [kz_orL (by omega), kz_pw1, z_add_bit h]
theorem z_p10 {x : Int} (h0 : 0 ≤ x) {c : Nat} (h : x ≤ (c : Int)) : (2 : Int) ^ x.toNat ≤ 2 ^ c := by
  have : (2 : Nat) ^ x.toNat ≤ 2 ^ c := Nat.pow_le_pow_right (by decide) (by omega)
  exact_mod_cast this
section HE
variable {A : kz_A} {q l e : Int} {σ : kp_W}
theorem r_isStill (hA : kz_I A) (es : σ 1 = A.1) {n : Int} (hn : 0 ≤ n ∧ n < A.1 0) : kf_X10_isStill n σ = some (kp_b (A.1 (Int.toNat (290 + n)) = 1), σ) := by
  have hk := hA.1.2.2.2.1 n hn.1 hn.2
  have h10 := hA.1.1.1
  unfold kf_X10_isStill
  rw [es]
  exact k_is (k_ck (by omega) (k_eq ⟨by omega, by omega⟩ (by decide) (fun z => k_some ⟨(kp_bT z).symm, rfl⟩) (fun z => k_some ⟨(kp_bF z).symm, rfl⟩)))
theorem r_isStruck (hA : kz_I A) (es : σ 1 = A.1) {n : Int} (hn : 0 ≤ n ∧ n < A.1 0) : kf_X10_isStruck n σ = some (kp_b (kz_sr A.1 n), σ) := by
  have hk := hA.1.2.2.2.1 n hn.1 hn.2
  have h10 := hA.1.1.1
  unfold kf_X10_isStruck
  rw [es]
  exact k_is (k_ck (by omega) (k_eq ⟨by omega, by omega⟩ (by decide) (fun z => k_some ⟨(kp_bT (Or.inl z)).symm, rfl⟩) (fun z => k_ck (by omega) (k_eq ⟨by omega, by omega⟩ (by decide) (fun z => k_some ⟨(kp_bT (Or.inr z)).symm, rfl⟩) (fun z2 => k_some ⟨(kp_bF (fun w => w.elim z z2)).symm, rfl⟩)))))
def kz_mv (s : Nat → Int) : Int := kz_bs (fun n => decide (¬ s (Int.toNat (290 + n)) = 1)) (s 0)
theorem r_moving (hA : kz_I A) (es : σ 1 = A.1) : kf_X10_moving σ = some (kz_mv A.1, σ) := by
  have h10 := hA.1.1.1
  have loop : ∀ (n : Nat) (x y : Int), 0 ≤ y → y ≤ A.1 0 → A.1 0 - y < n → x = kz_bs (fun n => decide (¬ A.1 (Int.toNat (290 + n)) = 1)) y → kp_ok (kl_X10_moving_4 n x y σ (fun (x1_2 : Int) (σ2 : kp_W) => some (x1_2, σ2))) (fun r' σ' => r' = kz_mv A.1 ∧ σ' = σ) := by
    intro n
    induction n with
    | zero => intro x y h0 h1 h2; omega
    | succ n ih =>
      intro x y h0 h1 h2 hx
      rw [kl_X10_moving_4, es]
      refine k_ls ⟨by omega, by omega⟩ ⟨by omega, by omega⟩ (fun hy => ?_) (fun hy => k_some ⟨?_, rfl⟩)
      · have hb := z_bs (fun n => decide (¬ A.1 (Int.toNat (290 + n)) = 1)) y
        have h1' := z_bs1 (fun n => decide (¬ A.1 (Int.toNat (290 + n)) = 1)) h0
        rw [← hx] at hb h1'
        have hp := z_p10 h0 (c := 10) (by omega)
        refine k_e (r_isStill hA es ⟨h0, hy⟩) (k_b (fun z => ?_) (fun z => ?_))
        · rw [if_pos (decide_eq_true z)] at h1'
          refine k_ck (by omega) (k_lt (k_lt (ih _ _ (by omega) (by omega) (by omega) ?_)))
          rw [z_or1 (by omega) hb, h1']
        · rw [if_neg (by simp [z]), Int.add_zero] at h1'
          refine k_lt (k_lt (ih _ _ (by omega) (by omega) (by omega) ?_))
          rw [z_or0 ⟨hb.1, by omega⟩, h1']
      · rw [hx]; unfold kz_mv; congr 1; omega
  unfold kf_X10_moving
  exact k_is (k_lt (k_lt (loop kp_fu 0 0 (by decide) (by omega) (kp_fu_big (by omega)) rfl)))
theorem z_mulr {a b c d : Int} (ha : 0 ≤ a ∧ a ≤ c) (hb : 0 ≤ b ∧ b ≤ d) : 0 ≤ a * b ∧ a * b ≤ c * d := ⟨Int.mul_nonneg ha.1 hb.1, Int.mul_le_mul ha.2 hb.2 hb.1 (Int.le_trans ha.1 ha.2)⟩
theorem r_loudOf (hA : kz_I A) (es : σ 1 = A.1) (hw : ∀ t, 0 ≤ t → t < 40 → σ 5 (Int.toNat t) = kz_w A.1 q l (t + 1)) (he : σ 0 18 = e) (her : 0 ≤ e ∧ e ≤ 40) {n p t : Int} (hn : 0 ≤ n ∧ n < A.1 0) (hp : 0 ≤ p ∧ p ≤ 9) (ht : 0 ≤ t ∧ t < 40) : kf_X10_loudOf n p t σ = some (kz_ld A.1 q l e n p t, σ) := by
  have hk := hA.1.2.2.2.1 n hn.1 hn.2
  have h10 := hA.1.1.1
  have hI : kz_Is (σ 1) := by rw [es]; exact hA.1
  have t2 := z_tl hA.1 (j := 2) (by decide) (by decide)
  have t3 := z_tl hA.1 (j := 3) (by decide) (by decide)
  have hw1 := z_w (s := A.1) (q := q) (l := l) (x := t + 1)
  have ab := z_abs (x := p - A.1 (Int.toNat (260 + n)))
  have hlo : 1 ≤ kz_lo A.1 e n ∧ kz_lo A.1 e n ≤ 40 := by unfold kz_lo; repeat' split
                                                          all_goals omega
  have m3 := z_mulr t3 (b := kp_abs (p - A.1 (Int.toNat (260 + n)))) (d := 9) (by omega)
  have m2 := z_mulr t2 (b := kp_abs (p - A.1 (Int.toNat (260 + n)))) (d := 9) (by omega)
  unfold kf_X10_loudOf
  rw [es]
  refine k_is (k_ck (by omega) (k_lt (k_e (r_isStruck hA es hn) (k_jv (kz_lo A.1 e n) ?_ (fun j hj => ?_)))))
  · refine k_ck (by omega) ?_
    rw [es]
    refine k_e (r_size ⟨by omega, by omega⟩) (k_lt (k_e (r_told5 hI (by decide) (by decide)) (k_lt (k_ck ht ?_))))
    rw [es]
    refine k_jvs (kz_ir A.1 q l e n p t) σ ?_ (fun j hj => ?_)
    · have hir : -1000 ≤ kz_ir A.1 q l e n p t ∧ kz_ir A.1 q l e n p t ≤ 40 := by unfold kz_ir; split <;> omega
      have hai : kz_lo A.1 e n - kz_tl A.1 3 * kp_abs (p - A.1 (Int.toNat (260 + n))) = kz_ai A.1 e n p := rfl
      have hai2 : -1000 ≤ kz_ai A.1 e n p ∧ kz_ai A.1 e n p ≤ 40 := by rw [← hai]; omega
      rw [hai]
      refine k_lt ?_
      rw [kp_jls]
      refine k_ck ⟨⟨by omega, by omega⟩, by omega, by omega⟩ (k_lt (k_lt ?_))
      unfold kz_ld
      generalize hm : (if kz_ir A.1 q l e n p t < kz_ai A.1 e n p then kz_ai A.1 e n p else kz_ir A.1 q l e n p t) = m
      have hm2 : -1000 ≤ m ∧ m ≤ 40 := by rw [← hm]; split <;> omega
      refine k_ls ⟨by omega, by omega⟩ (by decide) (fun z => k_some ⟨?_, rfl⟩) (fun z => k_some ⟨?_, rfl⟩)
      · rw [if_pos z]
      · rw [if_neg z]
    · refine k_jn ?_
      rw [hw t ht.1 ht.2]
      have tell2 : (0 < kz_w A.1 q l (t + 1) ∨ kz_sr A.1 n) → kp_ok (kp_bd (kf_X10_told 2 σ) (fun r_3 σ_6 => j (kz_lo A.1 e n - 5 - r_3 * kp_abs (p - A.1 (Int.toNat (260 + n)))) σ_6)) (fun r' σ' => r' = kz_ld A.1 q l e n p t ∧ σ' = σ) := by
        intro hh
        refine k_e (r_told5 hI (by decide) (by decide)) ?_
        rw [es]
        unfold kz_ir at hj
        rw [if_pos hh] at hj
        exact hj
      refine k_ls (by decide) ⟨by omega, by omega⟩ (fun z => tell2 (Or.inl z)) (fun z => k_e (r_isStruck hA es hn) (k_b (fun z2 => ?_) (fun z2 => tell2 (Or.inr z2))))
      unfold kz_ir at hj
      rw [if_neg (fun w => w.elim z z2)] at hj
      exact hj
  · rw [he]
    refine k_b (fun z => ?_) (fun z => k_ls (by decide) ⟨by omega, by omega⟩ (fun z2 => k_ls ⟨by omega, by omega⟩ (by decide) (fun z3 => k_lt ?_) (fun z3 => k_lt ?_)) (fun z2 => ?_))
    · unfold kz_lo at hj; rw [if_neg (fun w => z w.1)] at hj; exact hj
    · unfold kz_lo at hj; rw [if_pos ⟨z, z2⟩, if_pos z3] at hj; exact hj
    · unfold kz_lo at hj; rw [if_pos ⟨z, z2⟩, if_neg z3] at hj; exact hj
    · unfold kz_lo at hj; rw [if_neg (fun w => z2 w.2)] at hj; exact hj
theorem z_ld {A : kz_A} (hA : kz_I A) {q l e n p t : Int} (her : 0 ≤ e ∧ e ≤ 40) (hn : 0 ≤ n ∧ n < A.1 0) (hp : 0 ≤ p ∧ p ≤ 9) : 0 ≤ kz_ld A.1 q l e n p t ∧ kz_ld A.1 q l e n p t ≤ 40 := by
  have hk := hA.1.2.2.2.1 n hn.1 hn.2
  have t2 := z_tl hA.1 (j := 2) (by decide) (by decide)
  have t3 := z_tl hA.1 (j := 3) (by decide) (by decide)
  have ab := z_abs (x := p - A.1 (Int.toNat (260 + n)))
  have hlo : 1 ≤ kz_lo A.1 e n ∧ kz_lo A.1 e n ≤ 40 := by unfold kz_lo; repeat' split
                                                          all_goals omega
  have m3 := z_mulr t3 (b := kp_abs (p - A.1 (Int.toNat (260 + n)))) (d := 9) (by omega)
  have m2 := z_mulr t2 (b := kp_abs (p - A.1 (Int.toNat (260 + n)))) (d := 9) (by omega)
  have key : ∀ m : Int, m ≤ 40 → 0 ≤ (if m < 0 then 0 else m) ∧ (if m < 0 then 0 else m) ≤ 40 := fun m hm => by split <;> omega
  have hle : (if kz_ir A.1 q l e n p t < kz_ai A.1 e n p then kz_ai A.1 e n p else kz_ir A.1 q l e n p t) ≤ 40 := by
    unfold kz_ir kz_ai
    repeat' split
    all_goals omega
  exact key _ hle
theorem z_ad {A : kz_A} (hA : kz_I A) {q l e n p t : Int} (hn : 0 ≤ n ∧ n < A.1 0) : 0 ≤ kz_ad A q l e n p t ∧ kz_ad A q l e n p t ≤ 9 := by
  have := z_kn hA (q := q) (l := l) (t := t) hn
  unfold kz_ad
  split <;> omega
theorem z_he {A : kz_A} (hA : kz_I A) {q l e z p t : Int} : 0 ≤ kz_he A q l e z p t ∧ kz_he A q l e z p t ≤ 90 := by
  have h10 := hA.1.1.1
  have := kp_sm_rng (f := fun n => if z / 2 ^ (Int.toNat n) % 2 = 1 then kz_ad A q l e n p t else 0) (c := 9) (x := A.1 0) (by decide) h10.1 (fun i i0 i1 => by
    have := z_ad hA (q := q) (l := l) (e := e) (p := p) (t := t) ⟨i0, i1⟩
    split <;> omega)
  unfold kz_he
  omega
theorem z_da {A : kz_A} (hA : kz_I A) {q l e z p : Int} : 0 ≤ kz_da A q l e z p ∧ kz_da A q l e z p ≤ 3600 := by
  have := kp_sm_rng (f := fun t => kz_he A q l e z p t) (c := 90) (x := 40) (by decide) (by decide) (fun i i0 i1 => z_he hA)
  unfold kz_da
  omega
theorem r_heardOf (hA : kz_I A) (hG : kz_G A q l σ) (he : σ 0 18 = e) (her : 0 ≤ e ∧ e ≤ 40) {z p t : Int} (hz : kp_in z) (hp : 0 ≤ p ∧ p ≤ 9) (ht : 0 ≤ t ∧ t < 40) : kf_X10_heardOf z p t σ = some (kz_he A q l e z p t, σ) := by
  obtain ⟨es, hw, hb⟩ := hG
  have h10 := hA.1.1.1
  have hI : kz_Is (σ 1) := by rw [es]; exact hA.1
  have t4 := z_tl hA.1 (j := 4) (by decide) (by decide)
  have loop : ∀ (m : Nat) (x y : Int), 0 ≤ y → y ≤ A.1 0 → A.1 0 - y < m → x = kp_sm (fun n => if z / 2 ^ (Int.toNat n) % 2 = 1 then kz_ad A q l e n p t else 0) y → kp_ok (kl_X10_heardOf_6 z p t m x y σ (fun (x1_2 : Int) (σ2 : kp_W) => some (x1_2, σ2))) (fun r' σ' => r' = kz_he A q l e z p t ∧ σ' = σ) := by
    intro m
    induction m with
    | zero => intro x y h0 h1 h2; omega
    | succ m ih =>
      intro x y h0 h1 h2 hx
      rw [kl_X10_heardOf_6, es]
      refine k_ls ⟨by omega, by omega⟩ ⟨by omega, by omega⟩ (fun hy => ?_) (fun hy => k_some ⟨?_, rfl⟩)
      · have hs := kp_sm1 (fun n => if z / 2 ^ (Int.toNat n) % 2 = 1 then kz_ad A q l e n p t else 0) h0
        rw [← hx] at hs
        have hbk := hb y h0 hy t ht.1 ht.2
        have kr := z_kn hA (q := q) (l := l) (t := t) ⟨h0, hy⟩
        have lr := z_ld hA (q := q) (l := l) (t := t) her ⟨h0, hy⟩ hp
        refine k_ck ⟨hz, by omega, by omega⟩ (k_jvs (kp_b (z / 2 ^ (Int.toNat y) % 2 = 1 ∧ 0 < kz_kn A q l y t ∧ kz_tl A.1 4 ≤ kz_ld A.1 q l e y p t)) σ ?_ (fun j hj => ?_))
        · refine k_lt (k_b (fun c => k_lt (k_lt (ih _ _ (by omega) (by omega) (by omega) ?_))) (fun c => k_ck (by omega) (k_lt (k_lt (ih _ _ (by omega) (by omega) (by omega) ?_)))))
          · rw [hs]
            congr 1
            by_cases c1 : z / 2 ^ (Int.toNat y) % 2 = 1
            · simp only [if_pos c1]
              unfold kz_ad
              rw [if_neg (fun w => c ⟨c1, w⟩)]
            · simp only [if_neg c1]
          · rw [hs, hbk]
            simp only [if_pos c.1]
            unfold kz_ad
            rw [if_pos c.2]
        · refine k_jn ?_
          rw [kz_and1, hbk]
          have b01 : z / 2 ^ (Int.toNat y) % 2 = 0 ∨ z / 2 ^ (Int.toNat y) % 2 = 1 := by omega
          refine k_eq ⟨by omega, by omega⟩ (by decide) (fun c1 => k_ck (by omega) (k_ls (by decide) ⟨by omega, by omega⟩ (fun c2 => ?_) (fun c2 => ?_))) (fun c1 => ?_)
          · refine k_e (r_loudOf hA es hw he her ⟨h0, hy⟩ hp ht) (k_e (r_told5 hI (by decide) (by decide)) ?_)
            rw [es]
            refine k_ls ⟨by omega, by omega⟩ ⟨by omega, by omega⟩ (fun c3 => ?_) (fun c3 => ?_)
            · rw [kp_bF (fun w => absurd w.2.2 (by omega))] at hj; exact hj
            · rw [kp_bT ⟨c1, c2, by omega⟩] at hj; exact hj
          · rw [kp_bF (fun w => c2 w.2.1)] at hj; exact hj
          · rw [kp_bF (fun w => c1 w.1)] at hj; exact hj
      · rw [hx]; unfold kz_he; congr 1; omega
  unfold kf_X10_heardOf
  exact k_is (k_lt (k_lt (loop kp_fu 0 0 (by decide) (by omega) (kp_fu_big (by omega)) rfl)))
theorem r_heardAll (hA : kz_I A) (hG : kz_G A q l σ) (he : σ 0 18 = e) (her : 0 ≤ e ∧ e ≤ 40) {z p : Int} (hz : kp_in z) (hp : 0 ≤ p ∧ p ≤ 9) : kf_X10_heardAll z p σ = some (kz_da A q l e z p, σ) := by
  have loop : ∀ (m : Nat) (x y : Int), 0 ≤ y → y ≤ 40 → 40 - y < m → x = kp_sm (fun t => kz_he A q l e z p t) y → kp_ok (kl_X10_heardAll_5 z p m x y σ (fun (x1_2 : Int) (σ2 : kp_W) => some (x1_2, σ2))) (fun r' σ' => r' = kz_da A q l e z p ∧ σ' = σ) := by
    intro m
    induction m with
    | zero => intro x y h0 h1 h2; omega
    | succ m ih =>
      intro x y h0 h1 h2 hx
      rw [kl_X10_heardAll_5]
      refine k_ls ⟨by omega, by omega⟩ (by decide) (fun hy => ?_) (fun hy => k_some ⟨?_, rfl⟩)
      · refine k_e (r_heardOf hA hG he her hz hp ⟨h0, hy⟩) (k_lt (k_lt (ih _ _ (by omega) (by omega) (by omega) ?_)))
        rw [kp_sm1 _ h0, hx]
      · rw [hx]; unfold kz_da; congr 1; omega
  unfold kf_X10_heardAll
  exact k_is (k_lt (k_lt (loop kp_fu 0 0 (by decide) (by decide) (kp_fu_big (by decide)) rfl)))
end HE
