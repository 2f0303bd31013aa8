-- the reference: which, seems, worst, next, least
def kz_frq (A : kz_A) (q l t p : Int) : Int := kp_sm (fun n => if ¬ A.1 (Int.toNat (290 + n)) = 1 ∧ 0 < kz_kn A q l n t then kz_ld A.1 q l 0 n p t else 0) (A.1 0)
def kz_sset (A : kz_A) (t : Int) : Int := kz_bs (fun n => decide (¬ A.1 (Int.toNat (290 + n)) = 1 ∧ 0 < kz_kn A 0 0 n t)) (A.1 0)
def kz_seems (A : kz_A) (t : Int) : Int := if kz_sset A t = 0 then -5 else (kz_mx (kz_frq A 0 0 t) (-5) (-1) 10).1
def kz_hm (A : kz_A) (n : Int) : Int := (if A.1 (Int.toNat (290 + n)) = 1 then 0 else kp_sm (fun t => kz_kn A 0 0 n t) 40) * A.1 (Int.toNat (280 + n))
def kz_afN (A : kz_A) : Nat → Int
  | 0 => -5
  | k + 1 => if (kz_afN A k = -5 ∨ kz_pc k < kz_pc (kz_afN A k)) ∧ kz_ft A 0 0 k = 2 ^ (Int.toNat (A.1 2)) - 1 then k else kz_afN A k
def kz_af (A : kz_A) (x : Int) : Int := kz_afN A x.toNat
theorem z_af1 {A : kz_A} {x : Int} (h : 0 ≤ x) : kz_af A (x + 1) = if (kz_af A x = -5 ∨ kz_pc x < kz_pc (kz_af A x)) ∧ kz_ft A 0 0 x = 2 ^ (Int.toNat (A.1 2)) - 1 then x else kz_af A x := by
  unfold kz_af
  rw [Int.toNat_add h (by decide)]
  show kz_afN A (x.toNat + 1) = _
  rw [kz_afN, Int.toNat_of_nonneg h]
theorem z_afr {A : kz_A} {x : Int} : -5 ≤ kz_af A x ∧ kz_af A x ≤ (Int.toNat x : Int) := by
  unfold kz_af
  generalize x.toNat = k
  induction k with
  | zero => show (-5 : Int) ≤ -5 ∧ (-5 : Int) ≤ 0; decide
  | succ k ih => rw [kz_afN]; split <;> omega
section ASK2
variable {A : kz_A} {σ : kp_W} {Q : Int → kp_W → Prop}
theorem z_frq (hA : kz_I A) {t p : Int} (hp : 0 ≤ p ∧ p ≤ 9) : 0 ≤ kz_frq A 0 0 t p ∧ kz_frq A 0 0 t p ≤ 400 := by
  have h10 := hA.1.1.1
  have := kp_sm_rng (f := fun n => if ¬ A.1 (Int.toNat (290 + n)) = 1 ∧ 0 < kz_kn A 0 0 n t then kz_ld A.1 0 0 0 n p t else 0) (c := 40) (x := A.1 0) (by decide) h10.1 (fun i i0 i1 => by
    have := z_ld hA (q := 0) (l := 0) (e := 0) (t := t) (by decide) ⟨i0, i1⟩ hp
    split <;> omega)
  unfold kz_frq
  omega
theorem z_hm (hA : kz_I A) {n : Int} (hn : 0 ≤ n ∧ n < A.1 0) : 0 ≤ kz_hm A n ∧ kz_hm A n ≤ 14400 := by
  have hk := hA.1.2.2.2.1 n hn.1 hn.2
  have := kp_sm_rng (f := fun t => kz_kn A 0 0 n t) (c := 9) (x := 40) (by decide) (by decide) (fun i i0 i1 => z_kn hA hn)
  unfold kz_hm
  have := z_mulr (a := if A.1 (Int.toNat (290 + n)) = 1 then 0 else kp_sm (fun t => kz_kn A 0 0 n t) 40) (c := 360) (b := A.1 (Int.toNat (280 + n))) (d := 40) (by split <;> omega) (by omega)
  omega
theorem r_harmOf (hA : kz_I A) (hG : kz_G A 0 0 σ) {n : Int} (hn : 0 ≤ n ∧ n < A.1 0) : kf_X10_harmOf n σ = some (kz_hm A n, σ) := by
  have h10 := hA.1.1.1
  have hk := hA.1.2.2.2.1 n hn.1 hn.2
  have loop : ∀ (m : Nat) (x y : Int), 0 ≤ y → y ≤ 40 → 40 - y < m → x = (if A.1 (Int.toNat (290 + n)) = 1 then 0 else kp_sm (fun t => kz_kn A 0 0 n t) y) → kp_ok (kl_X10_harmOf_4 n m x y σ (fun (x2_2 : Int) (σ2 : kp_W) => kp_ck (0 ≤ (280 + n) ∧ (280 + n) < 1066) (some ((x2_2 * (σ2 1 (Int.toNat (280 + n)))), σ2)))) (fun r' σ' => r' = kz_hm A n ∧ σ' = σ) := by
    intro m
    induction m with
    | zero => intro x y h0 h1 h2; omega
    | succ m ih =>
      intro x y h0 h1 h2 hx
      rw [kl_X10_harmOf_4]
      have fin : x = (if A.1 (Int.toNat (290 + n)) = 1 then 0 else kp_sm (fun t => kz_kn A 0 0 n t) 40) → kp_ok (kp_ck (0 ≤ (280 + n) ∧ (280 + n) < 1066) (some ((x * (σ 1 (Int.toNat (280 + n)))), σ))) (fun r' σ' => r' = kz_hm A n ∧ σ' = σ) := by
        intro hx
        refine k_ck (by omega) (k_some ⟨?_, rfl⟩)
        rw [hG.1, hx]; rfl
      refine k_ls ⟨by omega, by omega⟩ (by decide) (fun hy => k_e (r_isStill hA hG.1 hn) (k_b (fun c => k_ck (by omega) (k_lt (k_lt (ih _ _ (by omega) (by omega) (by omega) ?_)))) (fun c => fin ?_))) (fun hy => fin ?_)
      · rw [if_neg c] at hx ⊢
        rw [kp_sm1 _ h0, hx, hG.2.2 n hn.1 hn.2 y h0 hy]
      · rw [if_pos c] at hx ⊢; exact hx
      · have : y = 40 := by omega
        rw [← this]; exact hx
  unfold kf_X10_harmOf
  refine k_is (k_lt (k_lt (loop kp_fu 0 0 (by decide) (by decide) (kp_fu_big (by decide)) ?_)))
  split <;> rfl
theorem r_mostFitting (hA : kz_I A) (hG : kz_G A 0 0 σ) (he : σ 0 18 = 0) : kf_X10_mostFitting σ = some ((kz_mx (kz_c1 A) (-5) (-1) (A.1 0)).1, σ) := by
  have h10 := hA.1.1.1
  have loop : ∀ (m : Nat) (b x y : Int), 0 ≤ y → y ≤ A.1 0 → A.1 0 - y < m → (b, x) = kz_mx (kz_c1 A) (-5) (-1) y → kp_ok (kl_X10_mostFitting_7 m b x y σ (fun (x1_2 : Int) (σ2 : kp_W) => some (x1_2, σ2))) (fun r' σ' => r' = (kz_mx (kz_c1 A) (-5) (-1) (A.1 0)).1 ∧ σ' = σ) := by
    intro m
    induction m with
    | zero => intro b x y h0 h1 h2; omega
    | succ m ih =>
      intro b x y h0 h1 h2 hx
      have hx1 : x = (kz_mx (kz_c1 A) (-5) (-1) y).2 := by rw [← hx]
      have hr := z_mxr (f := kz_c1 A) (b := -5) (m := -1) (c := 12) (x := y) (by decide) h0 (fun i _ _ => z_pc)
      rw [← hx1] at hr
      have hc : 0 ≤ kz_c1 A y ∧ kz_c1 A y ≤ 12 := z_pc
      have h1' := z_mx1 (f := kz_c1 A) (b := -5) (m := -1) h0
      rw [kl_X10_mostFitting_7, hG.1]
      refine k_ls ⟨by omega, by omega⟩ ⟨by omega, by omega⟩ (fun hy => k_ck (by omega) (r_c1 hA hG he ⟨h0, hy⟩ (k_lt ?_))) (fun hy => k_some ⟨?_, rfl⟩)
      · rw [kp_jls]
        refine k_ck ⟨⟨by omega, by omega⟩, by omega, by omega⟩ (k_lt (k_lt ?_))
        refine k_ls ⟨by omega, by omega⟩ ⟨by omega, by omega⟩ (fun c => k_lt (k_lt (ih _ _ _ (by omega) (by omega) (by omega) ?_))) (fun c => k_lt (k_lt (ih _ _ _ (by omega) (by omega) (by omega) ?_)))
        · rw [h1', ← hx, if_pos c, if_pos c]
        · rw [h1', ← hx, if_neg c, if_neg c]
      · have : y = A.1 0 := by omega
        rw [← this, ← hx]
  unfold kf_X10_mostFitting
  exact k_is (k_lt (k_lt (k_lt (loop kp_fu _ _ 0 (by decide) (by omega) (kp_fu_big (by omega)) rfl))))
theorem r_worst (hA : kz_I A) (hG : kz_G A 0 0 σ) : kf_X10_worst σ = some ((kz_mx (kz_hm A) (-5) (-1) (A.1 0)).1, σ) := by
  have h10 := hA.1.1.1
  have loop : ∀ (m : Nat) (b x y : Int), 0 ≤ y → y ≤ A.1 0 → A.1 0 - y < m → (b, x) = kz_mx (kz_hm A) (-5) (-1) y → kp_ok (kl_X10_worst_7 m b x y σ (fun (x1_2 : Int) (σ2 : kp_W) => some (x1_2, σ2))) (fun r' σ' => r' = (kz_mx (kz_hm A) (-5) (-1) (A.1 0)).1 ∧ σ' = σ) := by
    intro m
    induction m with
    | zero => intro b x y h0 h1 h2; omega
    | succ m ih =>
      intro b x y h0 h1 h2 hx
      have hx1 : x = (kz_mx (kz_hm A) (-5) (-1) y).2 := by rw [← hx]
      have hr := z_mxr (f := kz_hm A) (b := -5) (m := -1) (c := 14400) (x := y) (by decide) h0 (fun i i0 i1 => z_hm hA ⟨i0, by omega⟩)
      rw [← hx1] at hr
      have h1' := z_mx1 (f := kz_hm A) (b := -5) (m := -1) h0
      rw [kl_X10_worst_7, hG.1]
      refine k_ls ⟨by omega, by omega⟩ ⟨by omega, by omega⟩ (fun hy => k_e (r_harmOf hA hG ⟨h0, hy⟩) (k_lt ?_)) (fun hy => k_some ⟨?_, rfl⟩)
      · have hc := z_hm hA ⟨h0, hy⟩
        rw [kp_jls]
        refine k_ck ⟨⟨by omega, by omega⟩, by omega, by omega⟩ (k_lt (k_lt ?_))
        refine k_ls ⟨by omega, by omega⟩ ⟨by omega, by omega⟩ (fun c => k_lt (k_lt (ih _ _ _ (by omega) (by omega) (by omega) ?_))) (fun c => k_lt (k_lt (ih _ _ _ (by omega) (by omega) (by omega) ?_)))
        · rw [h1', ← hx, if_pos c, if_pos c]
        · rw [h1', ← hx, if_neg c, if_neg c]
      · have : y = A.1 0 := by omega
        rw [← this, ← hx]
  unfold kf_X10_worst
  exact k_is (k_lt (k_lt (k_lt (loop kp_fu _ _ 0 (by decide) (by omega) (kp_fu_big (by omega)) rfl))))
theorem r_allFitting (hA : kz_I A) (hG : kz_G A 0 0 σ) (he : σ 0 18 = 0) : kf_X10_allFitting σ = some (kz_af A (2 ^ (Int.toNat (A.1 0))), σ) := by
  have h10 := hA.1.1.1
  have h12 := hA.1.1.2.2.1
  have p10 := z_p10 h10.1 (c := 10) (by omega)
  have p12 := z_p10 h12.1 (c := 12) (by omega)
  have pp : (0 : Int) < 2 ^ (Int.toNat (A.1 0)) := Int.pow_pos (by decide)
  have pq : (0 : Int) < 2 ^ (Int.toNat (A.1 2)) := Int.pow_pos (by decide)
  have loop : ∀ (m : Nat) (b y : Int), 0 ≤ y → y ≤ 2 ^ (Int.toNat (A.1 0)) → 2 ^ (Int.toNat (A.1 0)) - y < m → b = kz_af A y → kp_ok (kl_X10_allFitting_5 m b y σ (fun (x1_2 : Int) (σ2 : kp_W) => some (x1_2, σ2))) (fun r' σ' => r' = kz_af A (2 ^ (Int.toNat (A.1 0))) ∧ σ' = σ) := by
    intro m
    induction m with
    | zero => intro b y h0 h1 h2; omega
    | succ m ih =>
      intro b y h0 h1 h2 hx
      have h1' := z_af1 (A := A) h0
      rw [← hx] at h1'
      have hr := z_afr (A := A) (x := y)
      rw [← hx] at hr
      rw [kl_X10_allFitting_5, hG.1, Int.one_mul]
      refine k_ck (by omega) (k_ls ⟨by omega, by omega⟩ ⟨by omega, by omega⟩ (fun hy => ?_) (fun hy => k_some ⟨?_, rfl⟩))
      · have hf := z_ft hA (q := 0) (l := 0) (z := y)
        refine k_jn ?_
        have body : (b = -5 ∨ kz_pc y < kz_pc b) → kp_ok (kp_bd (kf_X10_fitsOf y σ) (fun r_0 σ_4 => kp_ck (0 ≤ (σ_4 1 2) ∧ (σ_4 1 2) < 32) (kp_eq r_0 ((1 * 2 ^ (Int.toNat (σ_4 1 2))) - 1) (kp_lt (y : Int) (fun x1_3 => kp_lt (y + 1) (fun x2_4 => kl_X10_allFitting_5 m x1_3 x2_4 σ_4 (fun (x1_2 : Int) (σ2 : kp_W) => some (x1_2, σ2))))) (kp_lt (y + 1) (fun x2_3 => kl_X10_allFitting_5 m b x2_3 σ_4 (fun (x1_2 : Int) (σ2 : kp_W) => some (x1_2, σ2))))))) (fun r' σ' => r' = kz_af A (2 ^ (Int.toNat (A.1 0))) ∧ σ' = σ) := by
          intro hb
          refine k_e (r_fitsOf hA hG he ⟨by omega, by omega⟩) ?_
          rw [hG.1, Int.one_mul]
          refine k_ck (by omega) (k_eq ⟨by omega, by omega⟩ ⟨by omega, by omega⟩ (fun c => k_lt (k_lt (ih _ _ (by omega) (by omega) (by omega) ?_))) (fun c => k_lt (ih _ _ (by omega) (by omega) (by omega) ?_)))
          · rw [h1', if_pos ⟨hb, c⟩]
          · rw [h1', if_neg (fun w => c w.2)]
        refine k_eq ⟨by omega, by omega⟩ (by decide) (fun c => body (Or.inl c)) (fun c => ?_)
        have p1 := z_pc (x := y)
        have p2 := z_pc (x := b)
        refine k_e (r_count1 ⟨by omega, by omega⟩) (k_e (r_count1 ⟨by omega, by omega⟩) (k_ls ⟨by omega, by omega⟩ ⟨by omega, by omega⟩ (fun d => body (Or.inr d)) (fun d => k_lt (ih _ _ (by omega) (by omega) (by omega) ?_))))
        rw [h1', if_neg (fun w => w.1.elim c d)]
      · rw [hx]; congr 1; omega
  unfold kf_X10_allFitting
  exact k_is (k_lt (k_lt (loop kp_fu _ 0 (by decide) (by omega) (kp_fu_big (by omega)) rfl)))
def kz_which (A : kz_A) (w : Int) : Int := if ¬ (0 ≤ w ∧ w ≤ 2) then -1 else if w = 0 then (kz_mx (kz_c1 A) (-5) (-1) (A.1 0)).1 else if w = 1 then kz_af A (2 ^ (Int.toNat (A.1 0))) else (kz_mx (kz_hm A) (-5) (-1) (A.1 0)).1
theorem r_which (hA : kz_I A) (es : σ 1 = A.1) (hz : kz_Z σ) {w : Int} (hw : kp_in w) : kp_ok (kf_X10_which w σ) (fun r σ' => r = kz_which A w ∧ kz_Fz σ σ') := by
  unfold kf_X10_which kz_which
  refine k_e (r_in hw (by decide) (by decide)) (k_b (fun c => k_some ⟨by rw [if_pos c], z_Fz0⟩) (fun c => k_bd (r_go0 hA es hz (fun σ1 f1 hG hz1 => ?_))))
  rw [if_neg (fun z => z c)]
  refine k_eq hw (by decide) (fun d => ?_) (fun d => k_eq hw (by decide) (fun d2 => ?_) (fun d2 => ?_))
  · exact k_e (r_mostFitting hA hG hz1.2.2) (k_some ⟨by rw [if_pos d], f1⟩)
  · exact k_e (r_allFitting hA hG hz1.2.2) (k_some ⟨by rw [if_neg d, if_pos d2], f1⟩)
  · exact k_e (r_worst hA hG) (k_some ⟨by rw [if_neg d, if_neg d2], f1⟩)
theorem r_seems (hA : kz_I A) (es : σ 1 = A.1) (hz : kz_Z σ) {t : Int} (ht : kp_in t) : kp_ok (kf_X10_seems t σ) (fun r σ' => r = (if 0 ≤ t ∧ t ≤ 39 then kz_seems A t else -1) ∧ kz_Fz σ σ') := by
  have h10 := hA.1.1.1
  unfold kf_X10_seems
  refine k_e (r_isMinute ht) (k_b (fun c => k_some ⟨by rw [if_neg c], z_Fz0⟩) (fun c => k_bd (r_go0 hA es hz (fun σ1 f1 hG hz1 => k_lt (k_lt ?_)))))
  rw [if_pos c]
  have loop : ∀ (m : Nat) (x y : Int) (k : Int → kp_W → kp_R), 0 ≤ y → y ≤ A.1 0 → A.1 0 - y < m → x = kz_bs (fun n => decide (¬ A.1 (Int.toNat (290 + n)) = 1 ∧ 0 < kz_kn A 0 0 n t)) y → kp_ok (k (kz_sset A t) σ1) (fun r σ' => r = kz_seems A t ∧ kz_Fz σ σ') → kp_ok (kl_X10_seems_17 t m x y σ1 k) (fun r σ' => r = kz_seems A t ∧ kz_Fz σ σ') := by
    intro m
    induction m with
    | zero => intro x y k h0 h1 h2; omega
    | succ m ih =>
      intro x y k h0 h1 h2 hx hk
      rw [kl_X10_seems_17, hG.1]
      refine k_ls ⟨by omega, by omega⟩ ⟨by omega, by omega⟩ (fun hy => ?_) (fun hy => ?_)
      · have hb := z_bs (fun n => decide (¬ A.1 (Int.toNat (290 + n)) = 1 ∧ 0 < kz_kn A 0 0 n t)) y
        have h1' := z_bs1 (fun n => decide (¬ A.1 (Int.toNat (290 + n)) = 1 ∧ 0 < kz_kn A 0 0 n t)) h0
        rw [← hx] at hb h1'
        have hp := z_p10 h0 (c := 10) (by omega)
        have kr := z_kn hA (q := 0) (l := 0) (t := t) ⟨h0, hy⟩
        refine k_e (r_isStill hA hG.1 ⟨h0, hy⟩) (k_b (fun d => k_ck (by omega) ?_) (fun d => ?_))
        · rw [hG.2.2 y h0 hy t c.1 (by omega)]
          refine k_ls (by decide) ⟨by omega, by omega⟩ (fun d2 => k_ck (by omega) (k_lt (k_lt (ih _ _ k (by omega) (by omega) (by omega) ?_ hk)))) (fun d2 => k_lt (k_lt (ih _ _ k (by omega) (by omega) (by omega) ?_ hk)))
          · rw [z_or1 (by omega) hb, h1', if_pos (decide_eq_true ⟨d, d2⟩)]
          · rw [z_or0 ⟨hb.1, by omega⟩, h1', if_neg (by simp [d2]), Int.add_zero]
        · refine k_lt (k_lt (ih _ _ k (by omega) (by omega) (by omega) ?_ hk))
          rw [z_or0 ⟨hb.1, by omega⟩, h1', if_neg (by simp [d]), Int.add_zero]
      · have : x = kz_sset A t := by rw [hx]; unfold kz_sset; congr 1; omega
        rw [this]; exact hk
  refine loop kp_fu _ _ _ (by decide) (by omega) (kp_fu_big (by omega)) rfl (k_lt (k_lt (k_lt ?_)))
  have hss : 0 ≤ kz_sset A t ∧ kz_sset A t < 1024 := by
    have h := z_bs (fun n => decide (¬ A.1 (Int.toNat (290 + n)) = 1 ∧ 0 < kz_kn A 0 0 n t)) (A.1 0)
    have := z_p10 h10.1 (c := 10) (by omega)
    unfold kz_sset
    omega
  have inner : ∀ (p : Int), 0 ≤ p ∧ p ≤ 9 → ∀ (k : Int → kp_W → kp_R), kp_ok (k (kz_frq A 0 0 t p) σ1) (fun r σ' => r = kz_seems A t ∧ kz_Fz σ σ') → ∀ (m : Nat) (x y : Int), 0 ≤ y → y ≤ A.1 0 → A.1 0 - y < m → x = kp_sm (fun n => if ¬ A.1 (Int.toNat (290 + n)) = 1 ∧ 0 < kz_kn A 0 0 n t then kz_ld A.1 0 0 0 n p t else 0) y → kp_ok (kl_X10_seems_91 t (kz_sset A t) p m x y σ1 k) (fun r σ' => r = kz_seems A t ∧ kz_Fz σ σ') := by
    intro p hp k hk m
    induction m with
    | zero => intro x y h0 h1 h2; omega
    | succ m ih =>
      intro x y h0 h1 h2 hx
      rw [kl_X10_seems_91, hG.1]
      refine k_ls ⟨by omega, by omega⟩ ⟨by omega, by omega⟩ (fun hy => k_ck ⟨⟨by omega, by omega⟩, by omega, by omega⟩ ?_) (fun hy => ?_)
      · have hs := kp_sm1 (fun n => if ¬ A.1 (Int.toNat (290 + n)) = 1 ∧ 0 < kz_kn A 0 0 n t then kz_ld A.1 0 0 0 n p t else 0) h0
        rw [← hx] at hs
        rw [kz_and1]
        have hbd : kz_sset A t / 2 ^ (Int.toNat y) % 2 = _ := z_bsd (P := fun n => decide (¬ A.1 (Int.toNat (290 + n)) = 1 ∧ 0 < kz_kn A 0 0 n t)) h0 hy
        rw [hbd]
        by_cases d : ¬ A.1 (Int.toNat (290 + y)) = 1 ∧ 0 < kz_kn A 0 0 y t
        · simp only [if_pos d] at hs
          rw [if_pos (decide_eq_true d)]
          refine k_eq (by decide) (by decide) (fun _ => k_e (r_loudOf hA hG.1 hG.2.1 hz1.2.2 (by decide) ⟨h0, hy⟩ hp ⟨c.1, by omega⟩) (k_lt (k_lt (ih _ _ (by omega) (by omega) (by omega) hs.symm)))) (fun z => absurd rfl z)
        · simp only [if_neg d] at hs
          rw [if_neg (by simpa using d)]
          refine k_eq (by decide) (by decide) (fun z => absurd z (by decide)) (fun _ => k_lt (k_lt (ih _ _ (by omega) (by omega) (by omega) hs.symm)))
      · have : x = kz_frq A 0 0 t p := by rw [hx]; unfold kz_frq; congr 1; omega
        rw [this]; exact hk
  have outer : ∀ (m : Nat) (b x y : Int), 0 ≤ y → y ≤ 10 → 10 - y < m → (b, x) = kz_mx (kz_frq A 0 0 t) (-5) (-1) y → (kz_sset A t = 0 → b = -5) → kp_ok (kl_X10_seems_74 t (kz_sset A t) m b x y σ1 (fun (x3_4 : Int) (σ6 : kp_W) => some (x3_4, σ6))) (fun r σ' => r = kz_seems A t ∧ kz_Fz σ σ') := by
    intro m
    induction m with
    | zero => intro b x y h0 h1 h2; omega
    | succ m ih =>
      intro b x y h0 h1 h2 hx hb5
      have hx1 : x = (kz_mx (kz_frq A 0 0 t) (-5) (-1) y).2 := by rw [← hx]
      have hr := z_mxr (f := kz_frq A 0 0 t) (b := -5) (m := -1) (c := 400) (x := y) (by decide) h0 (fun i i0 i1 => z_frq hA ⟨i0, by omega⟩)
      rw [← hx1] at hr
      have h1' := z_mx1 (f := kz_frq A 0 0 t) (b := -5) (m := -1) h0
      rw [kl_X10_seems_74]
      refine k_ls ⟨by omega, by omega⟩ (by decide) (fun hy => ?_) (fun hy => k_some ⟨?_, f1⟩)
      · refine k_eq ⟨by omega, by omega⟩ (by decide) (fun d => k_some ⟨?_, f1⟩) (fun d => k_lt (k_lt (inner y ⟨h0, by omega⟩ _ ?_ kp_fu _ _ (by decide) (by omega) (kp_fu_big (by omega)) rfl)))
        · unfold kz_seems; rw [if_pos d]; exact hb5 d
        · have hc := z_frq hA (t := t) (p := y) ⟨h0, by omega⟩
          rw [kp_jls]
          refine k_ck ⟨⟨by omega, by omega⟩, by omega, by omega⟩ (k_lt (k_lt ?_))
          refine k_ls ⟨by omega, by omega⟩ ⟨by omega, by omega⟩ (fun c => k_lt (k_lt (ih _ _ _ (by omega) (by omega) (by omega) ?_ (fun z => absurd z d)))) (fun c => k_lt (k_lt (ih _ _ _ (by omega) (by omega) (by omega) ?_ (fun z => absurd z d))))
          · rw [h1', ← hx, if_pos c, if_pos c]
          · rw [h1', ← hx, if_neg c, if_neg c]
      · unfold kz_seems
        have : y = 10 := by omega
        by_cases d : kz_sset A t = 0
        · rw [if_pos d]; exact hb5 d
        · rw [if_neg d, ← this, ← hx]
  exact outer kp_fu _ _ _ (by decide) (by decide) (kp_fu_big (by decide)) rfl (fun _ => rfl)
end ASK2
