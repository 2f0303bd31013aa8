-- the reference: loud, heard, fits, harm, knocks, of, eased, parted, quiet, older, moved
section ASK4
variable {A : kz_A} {σ : kp_W}
theorem r_isN (hA : kz_I A) (es : σ 1 = A.1) {n : Int} (hn : kp_in n) : kf_X10_isNoise n σ = some (kp_b (0 ≤ n ∧ n < A.1 0), σ) := by
  have eN := r_isNoise (σ := σ) hn (by rw [es]; exact hA.1.1.1)
  rw [es] at eN
  exact eN
theorem r_loud (hA : kz_I A) (es : σ 1 = A.1) (hz : kz_Z σ) {n p t : Int} (hn : kp_in n) (hp : kp_in p) (ht : kp_in t) : kp_ok (kf_X10_loud n p t σ) (fun r σ' => r = (if (0 ≤ n ∧ n < A.1 0) ∧ (0 ≤ p ∧ p ≤ 9) ∧ 0 ≤ t ∧ t ≤ 39 then kz_ld A.1 0 0 0 n p t else -1) ∧ kz_Fz σ σ') := by
  unfold kf_X10_loud
  refine k_e (r_isN hA es hn) (k_b (fun c => k_some ⟨by rw [if_neg (fun z => c z.1)], z_Fz0⟩) (fun c => k_e (r_isPlace hp) (k_b (fun d => k_some ⟨by rw [if_neg (fun z => d z.2.1)], z_Fz0⟩) (fun d => k_e (r_isMinute ht) (k_b (fun e => k_some ⟨by rw [if_neg (fun z => e z.2.2)], z_Fz0⟩) (fun e => k_bd (r_warms (by rw [es]; exact hA.1) (by rw [hz.1]; exact Or.inl rfl) (by rw [hz.2.1]; decide) (fun σ1 f1 hw => ?_))))))))
  rw [if_pos ⟨c, d, e⟩]
  rw [hz.1, hz.2.1, es] at hw
  refine k_e (r_loudOf hA (by rw [f1 1 (by decide)]; exact es) hw (by rw [f1 0 (by decide)]; exact hz.2.2) (by decide) c d ⟨e.1, by omega⟩) (k_some ⟨rfl, ⟨fun a _ _ _ a5 _ _ _ => f1 a a5, fun j _ _ _ => by rw [f1 0 (by decide)]⟩⟩)
theorem r_heard (hA : kz_I A) (es : σ 1 = A.1) (hz : kz_Z σ) {p t : Int} (hp : kp_in p) (ht : kp_in t) : kp_ok (kf_X10_heard p t σ) (fun r σ' => r = (if ¬ (0 ≤ p ∧ p ≤ 9) then -1 else if t = -1 then kz_da A 0 0 0 (kz_mv A.1) p else if 0 ≤ t ∧ t ≤ 39 then kz_he A 0 0 0 (kz_mv A.1) p t else -1) ∧ kz_Fz σ σ') := by
  have hmv := z_mvr2 hA
  unfold kf_X10_heard
  refine k_e (r_isPlace hp) (k_b (fun c => k_some ⟨by rw [if_pos c], z_Fz0⟩) (fun c => ?_))
  rw [if_neg (fun z => z c)]
  have body : (t = -1 ∨ (0 ≤ t ∧ t ≤ 39)) → kp_ok (kp_bd (kf_X10_goes σ) (fun r_1 σ_3 => kp_eq t (-1) (kp_bd (kf_X10_moving σ_3) (fun r_4 σ_6 => kp_bd (kf_X10_heardAll r_4 p σ_6) (fun r_5 σ_7 => some (r_5, σ_7)))) (kp_bd (kf_X10_moving σ_3) (fun r_2 σ_4 => kp_bd (kf_X10_heardOf r_2 p t σ_4) (fun r_3 σ_5 => some (r_3, σ_5)))))) (fun r σ' => r = (if t = -1 then kz_da A 0 0 0 (kz_mv A.1) p else if 0 ≤ t ∧ t ≤ 39 then kz_he A 0 0 0 (kz_mv A.1) p t else -1) ∧ kz_Fz σ σ') := by
    intro hh
    refine k_bd (r_go0 hA es hz (fun σ1 f1 hG hz1 => k_eq ht (by decide) (fun e => k_e (r_moving hA hG.1) (k_e (r_heardAll hA hG hz1.2.2 (by decide) ⟨by omega, by omega⟩ c) (k_some ⟨by rw [if_pos e], f1⟩))) (fun e => k_e (r_moving hA hG.1) (k_e (r_heardOf hA hG hz1.2.2 (by decide) ⟨by omega, by omega⟩ c ⟨by omega, by omega⟩) (k_some ⟨?_, f1⟩)))))
    rw [if_neg e, if_pos (by omega)]
  refine k_jn (k_eq ht (by decide) (fun e => body (Or.inl e)) (fun e => k_e (r_isMinute ht) (k_b (fun d => k_some ⟨by rw [if_neg e, if_neg d], z_Fz0⟩) (fun d => body (Or.inr d)))))
theorem r_fits (hA : kz_I A) (es : σ 1 = A.1) (hz : kz_Z σ) {n : Int} (hn : kp_in n) : kp_ok (kf_X10_fits n σ) (fun r σ' => r = (if 0 ≤ n ∧ n < A.1 0 then kz_ft A 0 0 (2 ^ (Int.toNat n)) else -1) ∧ kz_Fz σ σ') := by
  have h10 := hA.1.1.1
  unfold kf_X10_fits
  refine k_e (r_isN hA es hn) (k_b (fun c => k_some ⟨by rw [if_neg c], z_Fz0⟩) (fun c => k_bd (r_go0 hA es hz (fun σ1 f1 hG hz1 => k_ck (by omega) (k_e (r_fitsOf hA hG hz1.2.2 (z_pwin c.1 (by omega))) (k_some ⟨by rw [if_pos c, Int.one_mul], f1⟩))))))
theorem r_harm (hA : kz_I A) (es : σ 1 = A.1) (hz : kz_Z σ) {n : Int} (hn : kp_in n) : kp_ok (kf_X10_harm n σ) (fun r σ' => r = (if 0 ≤ n ∧ n < A.1 0 then kz_hm A n else -1) ∧ kz_Fz σ σ') := by
  unfold kf_X10_harm
  refine k_e (r_isN hA es hn) (k_b (fun c => k_some ⟨by rw [if_neg c], z_Fz0⟩) (fun c => k_bd (r_go0 hA es hz (fun σ1 f1 hG hz1 => k_e (r_harmOf hA hG c) (k_some ⟨by rw [if_pos c], f1⟩)))))
theorem r_knocks (hA : kz_I A) (es : σ 1 = A.1) (hz : kz_Z σ) {n t w : Int} (hn : kp_in n) (ht : kp_in t) (hw : kp_in w) : kp_ok (kf_X10_knocks n t w σ) (fun r σ' => r = (if (0 ≤ n ∧ n < A.1 0) ∧ (0 ≤ t ∧ t ≤ 39) ∧ 0 ≤ w ∧ w ≤ 2 then (if w = 0 then kz_ln A 0 0 n t else if w = 1 then kz_hd A n t else if A.1 (Int.toNat (290 + n)) = 1 then 0 else kz_kn A 0 0 n t) else -1) ∧ kz_Fz σ σ') := by
  have h10 := hA.1.1.1
  unfold kf_X10_knocks
  refine k_e (r_isN hA es hn) (k_b (fun c => k_some ⟨by rw [if_neg (fun z => c z.1)], z_Fz0⟩) (fun c => k_e (r_isMinute ht) (k_b (fun d => k_some ⟨by rw [if_neg (fun z => d z.2.1)], z_Fz0⟩) (fun d => k_e (r_in hw (by decide) (by decide)) (k_b (fun e => k_some ⟨by rw [if_neg (fun z => e z.2.2)], z_Fz0⟩) (fun e => k_bd (r_go0 hA es hz (fun σ1 f1 hG hz1 => k_bd (r_lengthOf hA hG.1 c ⟨d.1, by omega⟩ hG.2.1 (fun σ2 g1 g2 g3 => k_lt ?_))))))))))
  rw [if_pos ⟨c, d, e⟩]
  have F2 : kz_Fz σ σ2 := z_Fzt f1 ⟨fun a a0 a3 a4 _ _ _ _ => g1 a a0 a3 a4, g2⟩
  refine k_eq hw (by decide) (fun x => k_some ⟨by rw [if_pos x], F2⟩) (fun x => k_eq hw (by decide) (fun y => k_some ⟨by rw [if_neg x, if_pos y, g3], F2⟩) (fun y => k_e (r_isStill hA (by rw [g1 1 (by decide) (by decide) (by decide)]; exact hG.1) c) (k_b (fun z => k_ck (by omega) (k_some ⟨?_, F2⟩)) (fun z => k_some ⟨?_, F2⟩))))
  · rw [if_neg x, if_neg y, if_neg z, g1 6 (by decide) (by decide) (by decide), hG.2.2 n c.1 c.2 t d.1 (by omega)]
  · rw [if_neg x, if_neg y, if_pos z]
theorem r_ofA (hA : kz_I A) (es : σ 1 = A.1) {n w : Int} (hn : kp_in n) (hw : kp_in w) : kf_X10_of n w σ = some (if (0 ≤ n ∧ n < A.1 0) ∧ 0 ≤ w ∧ w ≤ 4 then A.1 (Int.toNat (250 + 10 * w + n)) else -1, σ) := by
  have h10 := hA.1.1.1
  unfold kf_X10_of
  refine k_is (k_e (r_isN hA es hn) (k_b (fun c => k_some ⟨by rw [if_neg (fun z => c z.1)], rfl⟩) (fun c => k_e (r_in hw (by decide) (by decide)) (k_b (fun e => k_some ⟨by rw [if_neg (fun z => e z.2)], rfl⟩) (fun e => k_ck (by omega) (k_some ⟨?_, rfl⟩))))))
  rw [if_pos ⟨c, e⟩, es]
-- a slot of the model set for a while
def kz_Fx (i : Nat) (b σ : kp_W) : Prop := (∀ a, a ≠ 0 → a ≠ 3 → a ≠ 4 → a ≠ 5 → a ≠ 6 → a ≠ 7 → a ≠ 8 → σ a = b a) ∧ ∀ j, j ≠ 11 → j ≠ 12 → j ≠ 13 → j ≠ i → σ 0 j = b 0 j
theorem z_FxU {i : Nat} {x : Int} {b σ : kp_W} (h : kz_Fx i b σ) : kz_Fx i b (kp_up σ 0 i x) := ⟨fun a a0 a3 a4 a5 a6 a7 a8 => by rw [kp_up_ne a0]; exact h.1 a a0 a3 a4 a5 a6 a7 a8, fun j j1 j2 j3 j4 => by rw [z_up0 j4]; exact h.2 j j1 j2 j3 j4⟩
theorem z_FxZ {i : Nat} {b σ : kp_W} (h : kz_Fz b σ) : kz_Fx i b σ := ⟨h.1, fun j j1 j2 j3 _ => h.2 j j1 j2 j3⟩
theorem z_FxT {i : Nat} {a b c : kp_W} (h : kz_Fx i a b) (h2 : kz_Fz b c) : kz_Fx i a c := ⟨fun k k0 k3 k4 k5 k6 k7 k8 => (h2.1 k k0 k3 k4 k5 k6 k7 k8).trans (h.1 k k0 k3 k4 k5 k6 k7 k8), fun j j1 j2 j3 j4 => (h2.2 j j1 j2 j3).trans (h.2 j j1 j2 j3 j4)⟩
theorem z_FxE {i : Nat} {x : Int} {b σ : kp_W} (h : kz_Fx i b σ) (e : b 0 i = x) : kz_Fz b (kp_up σ 0 i x) := ⟨fun a a0 a3 a4 a5 a6 a7 a8 => by rw [kp_up_ne a0]; exact h.1 a a0 a3 a4 a5 a6 a7 a8, fun j j1 j2 j3 => by
  by_cases hj : j = i
  · subst hj; rw [z_up0e]; exact e.symm
  · rw [z_up0 hj]; exact h.2 j j1 j2 j3 hj⟩
theorem r_eased (hA : kz_I A) (es : σ 1 = A.1) (hz : kz_Z σ) {p e : Int} (hp : kp_in p) (he : kp_in e) : kp_ok (kf_X10_eased p e σ) (fun r σ' => r = (if ¬ (0 ≤ p ∧ p ≤ 9) then -1 else if ¬ (0 ≤ e ∧ e ≤ 40) then -2 else kz_da A 0 0 0 (kz_mv A.1) p - kz_da A 0 0 e (kz_mv A.1) p) ∧ kz_Fz σ σ') := by
  have hmv := z_mvr2 hA
  unfold kf_X10_eased
  refine k_e (r_isPlace hp) (k_b (fun c => k_some ⟨by rw [if_pos c], z_Fz0⟩) (fun c => k_e (r_in he (by decide) (by decide)) (k_b (fun d => k_some ⟨by rw [if_neg (fun z => z c), if_pos d], z_Fz0⟩) (fun d => k_bd (r_go0 hA es hz (fun σ1 f1 hG hz1 => k_e (r_moving hA hG.1) (k_e (r_heardAll hA hG hz1.2.2 (by decide) ⟨by omega, by omega⟩ c) (k_lt (k_lt (k_e (r_moving hA (by rw [kp_up_ne (by decide)]; exact hG.1)) (k_e (r_heardAll (q := 0) (l := 0) (e := e) hA ⟨?_, ?_, ?_⟩ z_up0e d ⟨by omega, by omega⟩ c) (k_lt (k_lt (k_some ⟨?_, z_FxE (z_FxU (z_FxZ f1)) hz.2.2⟩))))))))))))))
  · rw [kp_up_ne (by decide)]; exact hG.1
  · rw [kp_up_ne (by decide)]; exact hG.2.1
  · rw [kp_up_ne (by decide)]; exact hG.2.2
  · rw [if_neg (fun z => z c), if_neg (fun z => z d)]
def kz_pa (A : kz_A) (n o : Int) : Int := kz_bs (fun t => decide (¬ (0 < kz_kn A 0 0 n t ↔ 0 < kz_kn A 0 0 o t))) 40
theorem r_parted (hA : kz_I A) (es : σ 1 = A.1) (hz : kz_Z σ) {n o : Int} (hn : kp_in n) (ho : kp_in o) : kp_ok (kf_X10_parted n o σ) (fun r σ' => r = (if (0 ≤ n ∧ n < A.1 0) ∧ (0 ≤ o ∧ o < A.1 0) ∧ ¬ n = o then kz_pa A n o else -9223372036854775808) ∧ kz_Fz σ σ') := by
  have h10 := hA.1.1.1
  unfold kf_X10_parted
  refine k_e (r_isN hA es hn) (k_b (fun c => k_some ⟨by rw [if_neg (fun z => c z.1)], z_Fz0⟩) (fun c => k_e (r_isN hA es ho) (k_b (fun d => k_some ⟨by rw [if_neg (fun z => d z.2.1)], z_Fz0⟩) (fun d => k_eq hn ho (fun e => k_some ⟨by rw [if_neg (fun z => z.2.2 e)], z_Fz0⟩) (fun e => k_bd (r_go0 hA es hz (fun σ1 f1 hG hz1 => k_lt (k_lt ?_))))))))
  rw [if_pos ⟨c, d, e⟩]
  have loop : ∀ (m : Nat) (x y : Int), 0 ≤ y → y ≤ 40 → 40 - y < m → x = kz_bs (fun t => decide (¬ (0 < kz_kn A 0 0 n t ↔ 0 < kz_kn A 0 0 o t))) y → kp_ok (kl_X10_parted_34 n o σ1 m x y (fun (x3_2 : Int) => some (x3_2, σ1))) (fun r σ' => r = kz_pa A n o ∧ kz_Fz σ σ') := by
    intro m
    induction m with
    | zero => intro x y h0 h1 h2; omega
    | succ m ih =>
      intro x y h0 h1 h2 hx
      rw [kl_X10_parted_34]
      refine k_ls ⟨by omega, by omega⟩ (by decide) (fun hy => k_ck (by omega) ?_) (fun hy => k_some ⟨?_, f1⟩)
      · have hb := z_bs (fun t => decide (¬ (0 < kz_kn A 0 0 n t ↔ 0 < kz_kn A 0 0 o t))) y
        have h1' := z_bs1 (fun t => decide (¬ (0 < kz_kn A 0 0 n t ↔ 0 < kz_kn A 0 0 o t))) h0
        rw [← hx] at hb h1'
        have hp := z_p10 h0 (c := 40) (by omega)
        have kn := z_kn hA (q := 0) (l := 0) (t := y) c
        have ko := z_kn hA (q := 0) (l := 0) (t := y) d
        rw [kp_jls, hG.2.2 n c.1 c.2 y h0 hy]
        refine k_ck ⟨by decide, by omega, by omega⟩ (k_lt (k_ck (by omega) ?_))
        rw [kp_jls, hG.2.2 o d.1 d.2 y h0 hy]
        refine k_ck ⟨by decide, by omega, by omega⟩ (k_lt (k_eq (by split <;> decide) (by split <;> decide) (fun u => k_lt (k_lt (ih _ _ (by omega) (by omega) (by omega) ?_))) (fun u => k_ck (by omega) (k_lt (k_lt (ih _ _ (by omega) (by omega) (by omega) ?_))))))
        · have : (0 < kz_kn A 0 0 n y ↔ 0 < kz_kn A 0 0 o y) := by
            by_cases u1 : 0 < kz_kn A 0 0 n y <;> by_cases u2 : 0 < kz_kn A 0 0 o y <;> simp [u1, u2] at u ⊢
          rw [z_orL0 ⟨hb.1, by omega⟩, h1', if_neg (by simp [this]), Int.add_zero]
        · have : ¬ (0 < kz_kn A 0 0 n y ↔ 0 < kz_kn A 0 0 o y) := by
            by_cases u1 : 0 < kz_kn A 0 0 n y <;> by_cases u2 : 0 < kz_kn A 0 0 o y <;> simp [u1, u2] at u ⊢
          rw [z_orL1 (by omega) hb, h1', if_pos (decide_eq_true this)]
      · rw [hx]; unfold kz_pa; congr 1; omega
  exact loop kp_fu 0 0 (by decide) (by decide) (kp_fu_big (by decide)) rfl
def kz_exN (f : Int → Bool) : Nat → Bool
  | 0 => false
  | k + 1 => kz_exN f k || f k
def kz_ex (f : Int → Bool) (x : Int) : Bool := kz_exN f x.toNat
theorem z_ex1 {f : Int → Bool} {x : Int} (h : 0 ≤ x) : kz_ex f (x + 1) = (kz_ex f x || f x) := by
  unfold kz_ex
  rw [Int.toNat_add h (by decide)]
  show kz_exN f (x.toNat + 1) = _
  rw [kz_exN, Int.toNat_of_nonneg h]
def kz_gn (A : kz_A) (q n : Int) : Bool := kz_ex (fun t => decide (¬ A.1 (Int.toNat (290 + n)) = 1 ∧ 0 < kz_kn A q 0 n t)) 40
def kz_qu (A : kz_A) : Int := kz_bs (fun n => kz_gn A 1 n) (A.1 0)
theorem z_or2 {x : Int} {n : Nat} (hn : n < 31) (h : 0 ≤ x ∧ x < 2 ^ n) : kp_or (x + 2 ^ n) (1 * 2 ^ n) = x + 2 ^ n := by
  have hp : (2 : Int) ^ (n + 1) = 2 ^ n + 2 ^ n := by rw [Int.pow_succ]; omega
  refine kz_ext (k := n + 1) (kz_small32 (by omega) (kz_or_in _ _) (fun i h1 h2 => ?_)) ⟨by omega, by omega⟩ (fun i hi => ?_)
  · rw [kz_or h2, kz_pw1, z_add_bit h, kz_big h (by omega)]; simp; omega
  · rw [kz_or (by omega), kz_pw1, z_add_bit h, Bool.or_assoc, Bool.or_self]
theorem r_quiet (hA : kz_I A) (es : σ 1 = A.1) (hz : kz_Z σ) {w : Int} (hw : kp_in w) : kp_ok (kf_X10_quiet w σ) (fun r σ' => r = (if 0 ≤ w ∧ w ≤ 1 then (if w = 1 then kz_qu A else if kz_qu A = 0 then 1 else 0) else -1) ∧ kz_Fz σ σ') := by
  have h10 := hA.1.1.1
  unfold kf_X10_quiet
  refine k_e (r_in hw (by decide) (by decide)) (k_b (fun c => k_some ⟨by rw [if_neg c], z_Fz0⟩) (fun c => k_lt (k_bd (r_goes hA (by rw [z_up0e]; exact Or.inr rfl) (by rw [z_up0 (by decide), hz.2.1]; decide) (by rw [kp_up_ne (by decide)]; exact es) (fun σ1 f1 hG => k_lt (k_lt (k_lt ?_)))))))
  rw [if_pos c]
  rw [z_up0e, z_up0 (by decide), hz.2.1] at hG
  have F2 : kz_Fz σ (kp_up σ1 0 16 0) := z_FxE (z_FxT (z_FxU (z_FxZ z_Fz0)) (z_Fzq f1)) hz.1
  have G2 : kz_G A 1 0 (kp_up σ1 0 16 0) := by
    unfold kz_G
    rw [kp_up_ne (by decide), kp_up_ne (by decide), kp_up_ne (by decide)]
    exact hG
  revert F2 G2
  generalize kp_up σ1 0 16 0 = σ2
  intro F2 G2
  have inner : ∀ (n b : Int), 0 ≤ n → n < A.1 0 → 0 ≤ b ∧ b < 2 ^ (Int.toNat n) → ∀ (k : Int → kp_W → kp_R) (R : Int → kp_W → Prop), kp_ok (k (b + if kz_gn A 1 n = true then 2 ^ (Int.toNat n) else 0) σ2) R → ∀ (m : Nat) (x y : Int), 0 ≤ y → y ≤ 40 → 40 - y < m → x = b + (if kz_ex (fun t => decide (¬ A.1 (Int.toNat (290 + n)) = 1 ∧ 0 < kz_kn A 1 0 n t)) y = true then 2 ^ (Int.toNat n) else 0) → kp_ok (kl_X10_quiet_42 n m x y σ2 k) R := by
    intro n b n0 n1 hb k R hk m
    induction m with
    | zero => intro x y h0 h1 h2; omega
    | succ m ih =>
      intro x y h0 h1 h2 hx
      have h1' := z_ex1 (f := fun t => decide (¬ A.1 (Int.toNat (290 + n)) = 1 ∧ 0 < kz_kn A 1 0 n t)) h0
      have hp := z_p10 n0 (c := 10) (by omega)
      have xr : 0 ≤ x ∧ x < 2 ^ 31 := by rw [hx]; split <;> omega
      have keep : ¬ (¬ A.1 (Int.toNat (290 + n)) = 1 ∧ 0 < kz_kn A 1 0 n y) → kp_or x 0 = b + (if kz_ex (fun t => decide (¬ A.1 (Int.toNat (290 + n)) = 1 ∧ 0 < kz_kn A 1 0 n t)) (y + 1) = true then 2 ^ (Int.toNat n) else 0) := by
        intro hc
        rw [z_or0 xr, h1', decide_eq_false hc, Bool.or_false]; exact hx
      rw [kl_X10_quiet_42]
      refine k_ls ⟨by omega, by omega⟩ (by decide) (fun hy => ?_) (fun hy => ?_)
      · have kn := z_kn hA (q := 1) (l := 0) (t := y) ⟨n0, n1⟩
        refine k_e (r_isStill hA G2.1 ⟨n0, n1⟩) (k_b (fun d => k_ck (by omega) ?_) (fun d => k_lt (k_lt (ih _ _ (by omega) (by omega) (by omega) (keep (fun w => w.1 d))))))
        rw [G2.2.2 n n0 n1 y h0 hy]
        refine k_ls (by decide) ⟨by omega, by omega⟩ (fun d2 => k_ck (by omega) (k_lt (k_lt (ih _ _ (by omega) (by omega) (by omega) ?_)))) (fun d2 => k_lt (k_lt (ih _ _ (by omega) (by omega) (by omega) (keep (fun w => d2 w.2)))))
        rw [h1', decide_eq_true ⟨d, d2⟩, Bool.or_true, if_pos rfl, hx]
        split
        · exact z_or2 (by omega) hb
        · rw [Int.add_zero]; exact z_or1 (by omega) hb
      · have : y = 40 := by omega
        subst this
        rw [hx]; exact hk
  have loop : ∀ (m : Nat) (x y : Int), 0 ≤ y → y ≤ A.1 0 → A.1 0 - y < m → x = kz_bs (fun n => kz_gn A 1 n) y → kp_ok (kl_X10_quiet_29 m x y σ2 (fun (x2_2 : Int) (σ_6 : kp_W) => kp_eq w 1 (some (x2_2, σ_6)) (kp_eq x2_2 0 (some (1, σ_6)) (some (0, σ_6))))) (fun r σ' => r = (if w = 1 then kz_qu A else if kz_qu A = 0 then 1 else 0) ∧ kz_Fz σ σ') := by
    intro m
    induction m with
    | zero => intro x y h0 h1 h2; omega
    | succ m ih =>
      intro x y h0 h1 h2 hx
      have hb := z_bs (fun n => kz_gn A 1 n) y
      have h1' := z_bs1 (fun n => kz_gn A 1 n) h0
      rw [← hx] at hb h1'
      have hp := z_p10 h0 (c := 10) (by omega)
      rw [kl_X10_quiet_29, G2.1]
      refine k_ls ⟨by omega, by omega⟩ ⟨by omega, by omega⟩ (fun hy => k_lt (inner y x h0 hy hb _ _ (k_lt (ih _ _ (by omega) (by omega) (by omega) h1'.symm)) kp_fu _ _ (by decide) (by decide) (kp_fu_big (by decide)) ?_)) (fun hy => ?_)
      · show x = x + (if kz_ex _ 0 = true then _ else 0)
        rw [show kz_ex (fun t => decide (¬ A.1 (Int.toNat (290 + y)) = 1 ∧ 0 < kz_kn A 1 0 y t)) 0 = false from rfl, if_neg (by decide), Int.add_zero]
      · have : x = kz_qu A := by rw [hx]; unfold kz_qu; congr 1; omega
        rw [← this]
        refine k_eq hw (by decide) (fun d => k_some ⟨by rw [if_pos d], F2⟩) (fun d => k_eq ⟨by omega, by omega⟩ (by decide) (fun e => k_some ⟨by rw [if_neg d, if_pos e], F2⟩) (fun e => k_some ⟨by rw [if_neg d, if_neg e], F2⟩))
  exact loop kp_fu 0 0 (by decide) (by omega) (kp_fu_big (by omega)) rfl
def kz_olN (A : kz_A) : Nat → Int
  | 0 => 0
  | k + 1 => if kz_pc (kz_ft A 0 ((k : Int) + 1) (kz_mv A.1)) < kz_pc (kz_ft A 0 0 (kz_mv A.1)) then kz_olN A k else (k : Int) + 1
def kz_ol (A : kz_A) (x : Int) : Int := kz_olN A x.toNat
theorem z_ol1 {A : kz_A} {x : Int} (h : 0 ≤ x) : kz_ol A (x + 1) = if kz_pc (kz_ft A 0 (x + 1) (kz_mv A.1)) < kz_pc (kz_ft A 0 0 (kz_mv A.1)) then kz_ol A x else x + 1 := by
  unfold kz_ol
  rw [Int.toNat_add h (by decide)]
  show kz_olN A (x.toNat + 1) = _
  rw [kz_olN, Int.toNat_of_nonneg h]
theorem r_older (hA : kz_I A) (es : σ 1 = A.1) (hz : kz_Z σ) : kp_ok (kf_X10_older σ) (fun r σ' => r = kz_ol A 40 ∧ kz_Fz σ σ') := by
  have hmv := z_mvr2 hA
  have hft := fun l => z_ft hA (q := 0) (l := l) (z := kz_mv A.1)
  have hpc := fun x => z_pc (x := x)
  unfold kf_X10_older
  have h0 := hft 0
  refine k_bd (r_go0 hA es hz (fun σ1 f1 hG hz1 => k_e (r_moving hA hG.1) (k_e (r_fitsOf hA hG hz1.2.2 ⟨by omega, by omega⟩) (k_e (r_count1 ⟨by omega, by omega⟩) (k_lt (k_lt (k_lt ?_)))))))
  have loop : ∀ (m : Nat) (x y : Int) (σ5 : kp_W), 1 ≤ y → y ≤ 41 → 41 - y < m → x = kz_ol A (y - 1) → kz_Fx 17 σ σ5 → kp_ok (kl_X10_older_20 (kz_pc (kz_ft A 0 0 (kz_mv A.1))) m x y σ5 (fun (x2_2 : Int) (σ_6 : kp_W) => kp_lt (kp_up σ_6 0 17 0) (fun σ_7 => some (x2_2, σ_7)))) (fun r σ' => r = kz_ol A 40 ∧ kz_Fz σ σ') := by
    intro m
    induction m with
    | zero => intro x y σ5 h0 h1 h2; omega
    | succ m ih =>
      intro x y σ5 h0 h1 h2 hx hF
      rw [kl_X10_older_20]
      refine k_ls (by decide) ⟨by omega, by omega⟩ (fun hy => k_lt (k_some ⟨?_, z_FxE hF hz.2.1⟩)) (fun hy => k_lt (k_bd (r_goes hA ?_ (by rw [z_up0e]; omega) ?_ (fun σ9 g1 hG9 => ?_))))
      · rw [hx]; congr 1; omega
      · rw [z_up0 (by decide), hF.2 16 (by decide) (by decide) (by decide) (by decide), hz.1]; exact Or.inl rfl
      · rw [kp_up_ne (by decide), hF.1 1 (by decide) (by decide) (by decide) (by decide) (by decide) (by decide) (by decide)]; exact es
      · rw [z_up0 (by decide), hF.2 16 (by decide) (by decide) (by decide) (by decide), hz.1, z_up0e] at hG9
        have F9 : kz_Fx 17 σ σ9 := z_FxT (z_FxU hF) (z_Fzq g1)
        have hy2 := hft y
        have p1 := hpc (kz_ft A 0 y (kz_mv A.1))
        have p0 := hpc (kz_ft A 0 0 (kz_mv A.1))
        have h1' := z_ol1 (A := A) (x := y - 1) (by omega)
        rw [show y - 1 + 1 = y by omega, ← hx] at h1'
        refine k_e (r_moving hA hG9.1) (k_e (r_fitsOf hA hG9 (by rw [F9.2 18 (by decide) (by decide) (by decide) (by decide)]; exact hz.2.2) ⟨by omega, by omega⟩) (k_e (r_count1 ⟨by omega, by omega⟩) (k_ls ⟨by omega, by omega⟩ ⟨by omega, by omega⟩ (fun c => k_lt (k_lt (ih _ _ _ (by omega) (by omega) (by omega) ?_ F9))) (fun c => k_lt (k_lt (ih _ _ _ (by omega) (by omega) (by omega) ?_ F9))))))
        · rw [show y + 1 - 1 = y by omega, h1', if_pos c]
        · rw [show y + 1 - 1 = y by omega, h1', if_neg c]
  exact loop kp_fu 0 1 σ1 (by decide) (by decide) (kp_fu_big (by decide)) rfl (z_FxZ f1)
end ASK4
