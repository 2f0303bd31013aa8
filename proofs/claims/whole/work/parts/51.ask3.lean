-- the reference: next, least
def kz_h1 (A : kz_A) (p t n : Int) : Int := kz_he A 0 0 0 (2 ^ (Int.toNat n)) p t
def kz_al (A : kz_A) (p t n : Int) : Int := kp_sm (fun o => if kz_h1 A p t o = kz_h1 A p t n then 1 else 0) (A.1 0)
def kz_mvN (f : Int → Int) : Nat → Int
  | 0 => 0
  | k + 1 => if kz_mvN f k < f k then f k else kz_mvN f k
def kz_mv2 (f : Int → Int) (x : Int) : Int := kz_mvN f x.toNat
theorem z_mv1 {f : Int → Int} {x : Int} (h : 0 ≤ x) : kz_mv2 f (x + 1) = if kz_mv2 f x < f x then f x else kz_mv2 f x := by
  unfold kz_mv2
  rw [Int.toNat_add h (by decide)]
  show kz_mvN f (x.toNat + 1) = _
  rw [kz_mvN, Int.toNat_of_nonneg h]
theorem z_mvr {f : Int → Int} {c x : Int} (hc : 0 ≤ c) (h0 : 0 ≤ x) (h : ∀ i, 0 ≤ i → i < x → 0 ≤ f i ∧ f i ≤ c) : 0 ≤ kz_mv2 f x ∧ kz_mv2 f x ≤ c := by
  unfold kz_mv2
  have key : ∀ k : Nat, (k : Int) ≤ x → 0 ≤ kz_mvN f k ∧ kz_mvN f k ≤ c := by
    intro k
    induction k with
    | zero => intro _; exact ⟨Int.le_refl 0, hc⟩
    | succ k ih =>
      intro hk
      have := ih (by omega)
      have := h k (by omega) (by omega)
      rw [kz_mvN]
      split <;> omega
  exact key _ (by omega)
def kz_ml (A : kz_A) (p t : Int) : Int := kz_mv2 (kz_al A p t) (A.1 0)
def kz_nxN (f : Int → Int → Int) : Nat → Int × Int
  | 0 => (-5, 0)
  | k + 1 => if (kz_nxN f k).1 = -5 ∨ f ((k : Int) / 40) ((k : Int) % 40) < (kz_nxN f k).2 then (100 * ((k : Int) / 40) + (k : Int) % 40, f ((k : Int) / 40) ((k : Int) % 40)) else kz_nxN f k
def kz_nx (f : Int → Int → Int) (x : Int) : Int × Int := kz_nxN f x.toNat
theorem z_nx1 {f : Int → Int → Int} {p t : Int} (hp : 0 ≤ p) (ht : 0 ≤ t ∧ t < 40) : kz_nx f (40 * p + t + 1) = if (kz_nx f (40 * p + t)).1 = -5 ∨ f p t < (kz_nx f (40 * p + t)).2 then (100 * p + t, f p t) else kz_nx f (40 * p + t) := by
  unfold kz_nx
  rw [Int.toNat_add (by omega) (by decide)]
  show kz_nxN f ((40 * p + t).toNat + 1) = _
  rw [kz_nxN, Int.toNat_of_nonneg (by omega)]
  have e1 : (40 * p + t) / 40 = p := by omega
  have e2 : (40 * p + t) % 40 = t := by omega
  rw [e1, e2]
theorem z_nxr {f : Int → Int → Int} {c x : Int} (hc : 0 ≤ c) (h : ∀ p t, 0 ≤ p → 0 ≤ t → 0 ≤ f p t ∧ f p t ≤ c) : (0 ≤ (kz_nx f x).2 ∧ (kz_nx f x).2 ≤ c) ∧ -5 ≤ (kz_nx f x).1 ∧ (kz_nx f x).1 ≤ 100 * (Int.toNat x : Int) := by
  unfold kz_nx
  generalize x.toNat = k
  induction k with
  | zero => exact ⟨⟨Int.le_refl 0, hc⟩, by show (-5 : Int) ≤ -5; decide, by show (-5 : Int) ≤ 100 * ((0 : Nat) : Int); decide⟩
  | succ k ih =>
    have := h ((k : Int) / 40) ((k : Int) % 40) (by omega) (by omega)
    rw [kz_nxN]
    split
    · dsimp only; omega
    · omega
def kz_next (A : kz_A) : Int := if A.1 0 = 0 then -5 else (kz_nx (kz_ml A) 400).1
def kz_hi (A : kz_A) (p k : Int) : Int := if A.1 (Int.toNat (290 + k)) = 1 then 0 else kz_da A 0 0 0 (2 ^ (Int.toNat k)) p
def kz_lf (A : kz_A) (p z : Int) : Int := kp_sm (fun k => if z / 2 ^ (Int.toNat k) % 2 = 0 then kz_hi A p k else 0) (A.1 0)
def kz_leN (A : kz_A) (p n : Int) : Nat → Int
  | 0 => -5
  | k + 1 => if (kp_and k (kp_xor (kz_mv A.1) (-1)) = 0 ∧ kz_lf A p k ≤ n) ∧ (kz_leN A p n k = -5 ∨ kz_pc k < kz_pc (kz_leN A p n k)) then k else kz_leN A p n k
def kz_le (A : kz_A) (p n x : Int) : Int := kz_leN A p n x.toNat
theorem z_le1 {A : kz_A} {p n x : Int} (h : 0 ≤ x) : kz_le A p n (x + 1) = if (kp_and x (kp_xor (kz_mv A.1) (-1)) = 0 ∧ kz_lf A p x ≤ n) ∧ (kz_le A p n x = -5 ∨ kz_pc x < kz_pc (kz_le A p n x)) then x else kz_le A p n x := by
  unfold kz_le
  rw [Int.toNat_add h (by decide)]
  show kz_leN A p n (x.toNat + 1) = _
  rw [kz_leN, Int.toNat_of_nonneg h]
theorem z_ler {A : kz_A} {p n x : Int} : -5 ≤ kz_le A p n x ∧ kz_le A p n x ≤ (Int.toNat x : Int) := by
  unfold kz_le
  generalize x.toNat = k
  induction k with
  | zero => show (-5 : Int) ≤ -5 ∧ (-5 : Int) ≤ 0; decide
  | succ k ih => rw [kz_leN]; split <;> omega
section ASK3
variable {A : kz_A} {σ : kp_W} {Q : Int → kp_W → Prop}
theorem z_al (hA : kz_I A) {p t n : Int} : 0 ≤ kz_al A p t n ∧ kz_al A p t n ≤ 10 := by
  have h10 := hA.1.1.1
  have := kp_sm_rng (f := fun o => if kz_h1 A p t o = kz_h1 A p t n then 1 else 0) (c := 1) (x := A.1 0) (by decide) h10.1 (fun i i0 i1 => by split <;> omega)
  unfold kz_al
  omega
theorem z_Fzu {b σ : kp_W} {k i : Nat} {x : Int} (h : kz_Fz b σ) (hk : k = 7 ∨ k = 8) : kz_Fz b (kp_up σ k i x) := ⟨fun a a0 a3 a4 a5 a6 a7 a8 => by rw [kp_up_ne (by omega)]; exact h.1 a a0 a3 a4 a5 a6 a7 a8, fun j j1 j2 j3 => by rw [kp_up_ne (by omega)]; exact h.2 j j1 j2 j3⟩
theorem z_Gu {A : kz_A} {q l : Int} {σ : kp_W} {k i : Nat} {x : Int} (h : kz_G A q l σ) (hk : k = 7 ∨ k = 8) : kz_G A q l (kp_up σ k i x) := by
  obtain ⟨h1, h2, h3⟩ := h
  refine ⟨by rw [kp_up_ne (by omega)]; exact h1, by rw [kp_up_ne (by omega)]; exact h2, by rw [kp_up_ne (by omega)]; exact h3⟩
theorem r_next (hA : kz_I A) (es : σ 1 = A.1) (hz : kz_Z σ) : kp_ok (kf_X10_next σ) (fun r σ' => r = kz_next A ∧ kz_Fz σ σ') := by
  have h10 := hA.1.1.1
  unfold kf_X10_next
  refine k_bd (r_go0 hA es hz (fun σ1 f1 hG1 hz1 => k_lt (k_lt (k_lt ?_))))
  -- how many are alike
  have l97 : ∀ (s2 : kp_W) (p t y : Int), (s2 1 = A.1) → (∀ n, 0 ≤ n → n < A.1 0 → s2 7 (Int.toNat n) = kz_h1 A p t n) → 0 ≤ y → y < A.1 0 → ∀ (k : Int → kp_R) (R : Int → kp_W → Prop), kp_ok (k (kz_al A p t y)) R → ∀ (m : Nat) (a x : Int), 0 ≤ x → x ≤ A.1 0 → A.1 0 - x < m → a = kp_sm (fun o => if kz_h1 A p t o = kz_h1 A p t y then 1 else 0) x → kp_ok (kl_X10_next_97 s2 y m a x k) R := by
    intro s2 p t y e2 hv hy0 hy1 k R hk m
    induction m with
    | zero => intro a x h0 h1 h2; omega
    | succ m ih =>
      intro a x h0 h1 h2 ha
      have hs := kp_sm1 (fun o => if kz_h1 A p t o = kz_h1 A p t y then 1 else 0) h0
      rw [← ha] at hs
      rw [kl_X10_next_97, e2]
      refine k_ls ⟨by omega, by omega⟩ ⟨by omega, by omega⟩ (fun hx => k_ck (by omega) (k_ck (by omega) ?_)) (fun hx => ?_)
      · rw [hv x h0 hx, hv y hy0 hy1]
        have r1 : 0 ≤ kz_h1 A p t x ∧ kz_h1 A p t x ≤ 90 := z_he hA
        have r2 : 0 ≤ kz_h1 A p t y ∧ kz_h1 A p t y ≤ 90 := z_he hA
        refine k_eq ⟨by omega, by omega⟩ ⟨by omega, by omega⟩ (fun c => k_lt (k_lt (ih _ _ (by omega) (by omega) (by omega) ?_))) (fun c => k_lt (k_lt (ih _ _ (by omega) (by omega) (by omega) ?_)))
        · simp only [if_pos c] at hs; exact hs.symm
        · simp only [if_neg c] at hs; exact hs.symm
      · have : a = kz_al A p t y := by rw [ha]; unfold kz_al; congr 1; omega
        rw [this]; exact hk
  have l80 : ∀ (s2 : kp_W) (p t : Int), (s2 1 = A.1) → (∀ n, 0 ≤ n → n < A.1 0 → s2 7 (Int.toNat n) = kz_h1 A p t n) → ∀ (k : Int → kp_R) (R : Int → kp_W → Prop), kp_ok (k (kz_ml A p t)) R → ∀ (m : Nat) (a x : Int), 0 ≤ x → x ≤ A.1 0 → A.1 0 - x < m → a = kz_mv2 (kz_al A p t) x → kp_ok (kl_X10_next_80 s2 m a x k) R := by
    intro s2 p t e2 hv k R hk m
    induction m with
    | zero => intro a x h0 h1 h2; omega
    | succ m ih =>
      intro a x h0 h1 h2 ha
      have hs := z_mv1 (f := kz_al A p t) h0
      have hr := z_mvr (f := kz_al A p t) (c := 10) (by decide) h0 (fun i _ _ => z_al hA)
      rw [← ha] at hs hr
      have hal := z_al hA (p := p) (t := t) (n := x)
      rw [kl_X10_next_80, e2]
      refine k_ls ⟨by omega, by omega⟩ ⟨by omega, by omega⟩ (fun hx => k_lt (k_lt (l97 s2 p t x e2 hv h0 hx _ R ?_ kp_fu _ _ (by decide) (by omega) (kp_fu_big (by omega)) rfl))) (fun hx => ?_)
      · refine k_ls ⟨by omega, by omega⟩ ⟨by omega, by omega⟩ (fun c => k_lt (k_lt (ih _ _ (by omega) (by omega) (by omega) ?_))) (fun c => k_lt (k_lt (ih _ _ (by omega) (by omega) (by omega) ?_)))
        · rw [hs, if_pos c]
        · rw [hs, if_neg c]
      · have : a = kz_ml A p t := by rw [ha]; unfold kz_ml; congr 1; omega
        rw [this]; exact hk
  have l39 : ∀ (p t : Int), 0 ≤ p ∧ p ≤ 9 → 0 ≤ t ∧ t < 40 → ∀ (k : kp_W → kp_R) (R : Int → kp_W → Prop), (∀ s2, kz_Fz σ s2 → kz_G A 0 0 s2 → kz_Z s2 → (∀ n, 0 ≤ n → n < A.1 0 → s2 7 (Int.toNat n) = kz_h1 A p t n) → kp_ok (k s2) R) → ∀ (m : Nat) (x : Int) (s2 : kp_W), 0 ≤ x → x ≤ A.1 0 → A.1 0 - x < m → kz_Fz σ s2 → kz_G A 0 0 s2 → kz_Z s2 → (∀ n, 0 ≤ n → n < x → s2 7 (Int.toNat n) = kz_h1 A p t n) → kp_ok (kl_X10_next_39 p t m x s2 k) R := by
    intro p t hp ht k R hk m
    induction m with
    | zero => intro x s2 h0 h1 h2; omega
    | succ m ih =>
      intro x s2 h0 h1 h2 hF hG hz2 hv
      rw [kl_X10_next_39, hG.1]
      refine k_ls ⟨by omega, by omega⟩ ⟨by omega, by omega⟩ (fun hx => k_ck (by omega) (k_e (r_heardOf hA hG hz2.2.2 (by decide) (z_pwin h0 (by omega)) hp ht) (k_ck (by omega) (k_lt (k_lt (ih _ _ (by omega) (by omega) (by omega) (z_Fzu hF (Or.inl rfl)) (z_Gu hG (Or.inl rfl)) ?_ ?_)))))) (fun hx => hk s2 hF hG hz2 (fun n n0 n1 => hv n n0 (by omega)))
      · unfold kz_Z; rw [kp_up_ne (by decide)]; exact hz2
      · intro n n0 n1
        rw [kp_up_eq]
        by_cases h : n = x
        · subst h; rw [if_pos rfl, Int.one_mul]; rfl
        · rw [if_neg (by omega)]; exact hv n n0 (by omega)
  have mlr : ∀ p t, 0 ≤ p → 0 ≤ t → 0 ≤ kz_ml A p t ∧ kz_ml A p t ≤ 10 := fun p t _ _ => z_mvr (by decide) h10.1 (fun i _ _ => z_al hA)
  have l29 : ∀ (p : Int), 0 ≤ p ∧ p ≤ 9 → ∀ (k : Int → Int → kp_W → kp_R) (R : Int → kp_W → Prop), (∀ b v s2, kz_Fz σ s2 → kz_G A 0 0 s2 → kz_Z s2 → (b, v) = kz_nx (kz_ml A) (40 * p + 40) → kp_ok (k b v s2) R) → ∀ (m : Nat) (b v t : Int) (s2 : kp_W), 0 ≤ t → t ≤ 40 → 40 - t < m → kz_Fz σ s2 → kz_G A 0 0 s2 → kz_Z s2 → (b, v) = kz_nx (kz_ml A) (40 * p + t) → kp_ok (kl_X10_next_29 p m b v t s2 k) R := by
    intro p hp k R hk m
    induction m with
    | zero => intro b v t s2 h0 h1 h2; omega
    | succ m ih =>
      intro b v t s2 h0 h1 h2 hF hG hz2 hb
      rw [kl_X10_next_29]
      refine k_ls ⟨by omega, by omega⟩ (by decide) (fun hx => k_lt (l39 p t hp ⟨h0, hx⟩ _ R (fun s3 hF3 hG3 hz3 hv3 => k_lt (k_lt (l80 s3 p t hG3.1 hv3 _ R ?_ kp_fu _ _ (by decide) (by omega) (kp_fu_big (by omega)) rfl))) kp_fu _ s2 (by decide) (by omega) (kp_fu_big (by omega)) hF hG hz2 (fun n n0 n1 => by omega))) (fun hx => ?_)
      · have h1' := z_nx1 (f := kz_ml A) hp.1 ⟨h0, hx⟩
        have hr := z_nxr (f := kz_ml A) (c := 10) (x := 40 * p + t) (by decide) mlr
        rw [← hb] at h1' hr
        dsimp only at h1' hr
        have hml := mlr p t hp.1 h0
        refine k_jv (kp_b (b = -5 ∨ kz_ml A p t < v)) ?_ (fun j hj => ?_)
        · refine k_lt (k_jv (if b = -5 ∨ kz_ml A p t < v then 100 * p + t else b) ?_ (fun j hj => ?_))
          · refine k_lt (k_b (fun c => k_lt (k_lt (ih _ _ _ s3 (by omega) (by omega) (by omega) hF3 hG3 hz3 ?_))) (fun c => k_lt (k_lt (ih _ _ _ s3 (by omega) (by omega) (by omega) hF3 hG3 hz3 ?_))))
            · rw [show 40 * p + (t + 1) = 40 * p + t + 1 by omega, h1', if_neg c, if_neg c]
            · rw [show 40 * p + (t + 1) = 40 * p + t + 1 by omega, h1', if_pos c, if_pos c]
          · refine k_b (fun c => ?_) (fun c => ?_)
            · rw [if_neg c] at hj; exact hj
            · rw [if_pos c] at hj; exact hj
        · refine k_jn (k_eq ⟨by omega, by omega⟩ (by decide) (fun c => ?_) (fun c => k_ls ⟨by omega, by omega⟩ ⟨by omega, by omega⟩ (fun d => ?_) (fun d => ?_)))
          · rw [kp_bT (Or.inl c)] at hj; exact hj
          · rw [kp_bT (Or.inr d)] at hj; exact hj
          · rw [kp_bF (fun w => w.elim c d)] at hj; exact hj
      · have : t = 40 := by omega
        subst this
        exact hk b v s2 hF hG hz2 hb
  have l11 : ∀ (m : Nat) (b v p : Int) (s2 : kp_W), 0 ≤ p → p ≤ 10 → 10 - p < m → kz_Fz σ s2 → kz_G A 0 0 s2 → kz_Z s2 → (0 < A.1 0 → (b, v) = kz_nx (kz_ml A) (40 * p)) → (¬ 0 < A.1 0 → b = -5) → kp_ok (kl_X10_next_11 m b v p s2 (fun (x1_2 : Int) (σ3 : kp_W) => some (x1_2, σ3))) (fun r σ' => r = kz_next A ∧ kz_Fz σ σ') := by
    intro m
    induction m with
    | zero => intro b v p s2 h0 h1 h2; omega
    | succ m ih =>
      intro b v p s2 h0 h1 h2 hF hG hz2 hb hb5
      rw [kl_X10_next_11, hG.1]
      refine k_ls ⟨by omega, by omega⟩ (by decide) (fun hx => k_ls (by decide) ⟨by omega, by omega⟩ (fun c => k_lt (l29 p ⟨h0, by omega⟩ _ _ (fun b' v' s3 hF3 hG3 hz3 hb3 => k_lt (ih _ _ _ s3 (by omega) (by omega) (by omega) hF3 hG3 hz3 (fun _ => ?_) (fun z => absurd c z))) kp_fu _ _ _ s2 (by decide) (by decide) (kp_fu_big (by decide)) hF hG hz2 ?_)) (fun c => k_some ⟨?_, hF⟩)) (fun hx => k_some ⟨?_, hF⟩)
      · rw [hb3]; congr 1; omega
      · rw [Int.add_zero]; exact hb c
      · unfold kz_next; rw [if_pos (by omega)]; exact hb5 c
      · unfold kz_next
        by_cases c : A.1 0 = 0
        · rw [if_pos c]; exact hb5 (by omega)
        · have := hb (by omega)
          rw [if_neg c, show (400 : Int) = 40 * p by omega, ← this]
  exact l11 kp_fu _ _ _ σ1 (by decide) (by decide) (kp_fu_big (by decide)) f1 hG1 hz1 (fun _ => rfl) (fun _ => rfl)
theorem z_mvr2 (hA : kz_I A) : 0 ≤ kz_mv A.1 ∧ kz_mv A.1 < 1024 := by
  have h10 := hA.1.1.1
  have h := z_bs (fun n => decide (¬ A.1 (Int.toNat (290 + n)) = 1)) (A.1 0)
  have := z_p10 h10.1 (c := 10) (by omega)
  unfold kz_mv
  omega
theorem z_mvt {s : Nat → Int} {n : Int} (h0 : 0 ≤ n) (h1 : n < s 0) : kz_t (kz_mv s) (Int.toNat n) = decide (¬ s (Int.toNat (290 + n)) = 1) := by
  unfold kz_mv
  rw [z_bst]
  have e : ((n.toNat : Nat) : Int) = n := by omega
  rw [e]
  have : decide (n.toNat < (s 0).toNat) = true := decide_eq_true (by omega)
  rw [this, Bool.true_and]
theorem z_and_bit {x : Int} {n : Nat} (hn : n < 31) : kp_and x (1 * 2 ^ n) = if kz_t x n = true then 2 ^ n else 0 := by
  have hp := kz_pwle (n := n) (k := 31) hn
  have hs : 0 ≤ kp_and x (1 * 2 ^ n) ∧ kp_and x (1 * 2 ^ n) < 2 ^ 31 := kz_small32 (by decide) (kz_and_in _ _) (fun i h1 h2 => by rw [kz_and h2, kz_pw1]; simp; omega)
  refine kz_ext (k := 31) hs (by split <;> omega) (fun i hi => ?_)
  rw [kz_and (by omega), kz_pw1]
  by_cases h : n = i
  · subst h
    by_cases hx : kz_t x n = true
    · rw [hx]; simp [kz_pw]
    · simp [hx, kz_0]
  · have : decide (n = i) = false := decide_eq_false h
    rw [this, Bool.and_false]
    split
    · rw [kz_pw]; exact this.symm
    · rw [kz_0]
theorem z_he0 {q l e p t : Int} : kz_he A q l e 0 p t = 0 := by
  unfold kz_he
  have key : ∀ n : Nat, kp_smN (fun n => if (0 : Int) / 2 ^ (Int.toNat n) % 2 = 1 then kz_ad A q l e n p t else 0) n = 0 := by
    intro n
    induction n with
    | zero => rfl
    | succ n ih =>
      rw [kp_smN, ih, Int.zero_ediv, if_neg (by decide)]; rfl
  exact key _
theorem z_da0 {q l e p : Int} : kz_da A q l e 0 p = 0 := by
  unfold kz_da
  rw [kp_sm_cong (g := fun _ => 0) (fun t _ _ => z_he0)]
  rfl
theorem r_least (hA : kz_I A) (es : σ 1 = A.1) (hz : kz_Z σ) {p n : Int} (hp : kp_in p) (hn : kp_in n) : kp_ok (kf_X10_least p n σ) (fun r σ' => r = (if ¬ (0 ≤ p ∧ p ≤ 9) then -1 else if ¬ (0 ≤ n ∧ n ≤ 99) then -2 else kz_le A p n (2 ^ (Int.toNat (A.1 0)))) ∧ kz_Fz σ σ') := by
  have h10 := hA.1.1.1
  unfold kf_X10_least
  refine k_e (r_isPlace hp) (k_b (fun c => k_some ⟨by rw [if_pos c], z_Fz0⟩) (fun c => k_e (r_in hn (by decide) (by decide)) (k_b (fun d => k_some ⟨by rw [if_neg (fun z => z c), if_pos d], z_Fz0⟩) (fun d => k_bd (r_go0 hA es hz (fun σ1 f1 hG1 hz1 => k_e (r_moving hA hG1.1) (k_lt (k_lt ?_))))))))
  rw [if_neg (fun z => z c), if_neg (fun z => z d)]
  have hmv := z_mvr2 hA
  have hir : ∀ k, 0 ≤ k → 0 ≤ kz_hi A p k ∧ kz_hi A p k ≤ 3600 := by
    intro k _
    have := z_da hA (q := 0) (l := 0) (e := 0) (z := 2 ^ (Int.toNat k)) (p := p)
    unfold kz_hi
    split <;> omega
  have lfr : ∀ z, 0 ≤ kz_lf A p z ∧ kz_lf A p z ≤ 36000 := by
    intro z
    have := kp_sm_rng (f := fun k => if z / 2 ^ (Int.toNat k) % 2 = 0 then kz_hi A p k else 0) (c := 3600) (x := A.1 0) (by decide) h10.1 (fun i i0 i1 => by
      have := hir i i0
      split <;> omega)
    unfold kz_lf
    omega
  have l34 : ∀ (k : kp_W → kp_R) (R : Int → kp_W → Prop), (∀ s2, kz_Fz σ s2 → kz_G A 0 0 s2 → kz_Z s2 → (∀ n, 0 ≤ n → n < A.1 0 → s2 8 (Int.toNat n) = kz_hi A p n) → kp_ok (k s2) R) → ∀ (m : Nat) (x : Int) (s2 : kp_W), 0 ≤ x → x ≤ A.1 0 → A.1 0 - x < m → kz_Fz σ s2 → kz_G A 0 0 s2 → kz_Z s2 → (∀ n, 0 ≤ n → n < x → s2 8 (Int.toNat n) = kz_hi A p n) → kp_ok (kl_X10_least_34 p (kz_mv A.1) m x s2 k) R := by
    intro k R hk m
    induction m with
    | zero => intro x s2 h0 h1 h2; omega
    | succ m ih =>
      intro x s2 h0 h1 h2 hF hG hz2 hv
      rw [kl_X10_least_34, hG.1]
      refine k_ls ⟨by omega, by omega⟩ ⟨by omega, by omega⟩ (fun hx => k_ck (by omega) (k_e (r_heardAll hA hG hz2.2.2 (by decide) (kz_and_in _ _) c) (k_ck (by omega) (k_lt (k_lt (ih _ _ (by omega) (by omega) (by omega) (z_Fzu hF (Or.inr rfl)) (z_Gu hG (Or.inr rfl)) ?_ ?_)))))) (fun hx => hk s2 hF hG hz2 (fun n n0 n1 => hv n n0 (by omega)))
      · unfold kz_Z; rw [kp_up_ne (by decide)]; exact hz2
      · intro n n0 n1
        rw [kp_up_eq]
        by_cases h : n = x
        · subst h
          rw [if_pos rfl, z_and_bit (by omega), z_mvt h0 hx]
          unfold kz_hi
          by_cases hs : A.1 (Int.toNat (290 + n)) = 1
          · rw [if_pos hs, if_neg (by simp [hs]), z_da0]
          · rw [if_neg hs, if_pos (decide_eq_true hs)]
        · rw [if_neg (by omega)]; exact hv n n0 (by omega)
  refine l34 _ _ (fun s2 hF hG hz2 hv => k_lt (k_lt ?_)) kp_fu _ σ1 (by decide) (by omega) (kp_fu_big (by omega)) f1 hG1 hz1 (fun n n0 n1 => by omega)
  have l95 : ∀ (z : Int), 0 ≤ z ∧ z < 1024 → ∀ (k : Int → kp_R) (R : Int → kp_W → Prop), kp_ok (k (kz_lf A p z)) R → ∀ (m : Nat) (a x : Int), 0 ≤ x → x ≤ A.1 0 → A.1 0 - x < m → a = kp_sm (fun k => if z / 2 ^ (Int.toNat k) % 2 = 0 then kz_hi A p k else 0) x → kp_ok (kl_X10_least_95 z s2 m a x k) R := by
    intro z hz0 k R hk m
    induction m with
    | zero => intro a x h0 h1 h2; omega
    | succ m ih =>
      intro a x h0 h1 h2 ha
      have hs := kp_sm1 (fun k => if z / 2 ^ (Int.toNat k) % 2 = 0 then kz_hi A p k else 0) h0
      rw [← ha] at hs
      rw [kl_X10_least_95, hG.1, kz_and1]
      have b01 : z / 2 ^ (Int.toNat x) % 2 = 0 ∨ z / 2 ^ (Int.toNat x) % 2 = 1 := by omega
      refine k_ls ⟨by omega, by omega⟩ ⟨by omega, by omega⟩ (fun hx => k_ck ⟨⟨by omega, by omega⟩, by omega, by omega⟩ (k_eq ⟨by omega, by omega⟩ (by decide) (fun c => k_ck (by omega) (k_lt (k_lt (ih _ _ (by omega) (by omega) (by omega) ?_)))) (fun c => k_lt (k_lt (ih _ _ (by omega) (by omega) (by omega) ?_))))) (fun hx => ?_)
      · simp only [if_pos c] at hs; rw [hv x h0 hx]; exact hs.symm
      · simp only [if_neg c] at hs; exact hs.symm
      · have : a = kz_lf A p z := by rw [ha]; unfold kz_lf; congr 1; omega
        rw [this]; exact hk
  have pp : (0 : Int) < 2 ^ (Int.toNat (A.1 0)) := Int.pow_pos (by decide)
  have p10 := z_p10 h10.1 (c := 10) (by omega)
  have l76 : ∀ (m : Nat) (b y : Int), 0 ≤ y → y ≤ 2 ^ (Int.toNat (A.1 0)) → 2 ^ (Int.toNat (A.1 0)) - y < m → b = kz_le A p n y → kp_ok (kl_X10_least_76 n (kz_mv A.1) m b y s2 (fun (x1_2 : Int) (σ2 : kp_W) => some (x1_2, σ2))) (fun r' σ' => r' = kz_le A p n (2 ^ (Int.toNat (A.1 0))) ∧ kz_Fz σ σ') := by
    intro m
    induction m with
    | zero => intro b y h0 h1 h2; omega
    | succ m ih =>
      intro b y h0 h1 h2 hx
      have h1' := z_le1 (A := A) (p := p) (n := n) h0
      rw [← hx] at h1'
      have hr := z_ler (A := A) (p := p) (n := n) (x := y)
      rw [← hx] at hr
      have hl := lfr y
      rw [kl_X10_least_76, hG.1, Int.one_mul]
      refine k_ck (by omega) (k_ls ⟨by omega, by omega⟩ ⟨by omega, by omega⟩ (fun hy => k_lt (k_lt (l95 y ⟨h0, by omega⟩ _ _ ?_ kp_fu _ _ (by decide) (by omega) (kp_fu_big (by omega)) rfl))) (fun hy => k_some ⟨?_, hF⟩))
      · have ha := kz_and_in y (kp_xor (kz_mv A.1) (-1))
        refine k_jv (kp_b (kp_and y (kp_xor (kz_mv A.1) (-1)) = 0 ∧ kz_lf A p y ≤ n)) ?_ (fun j hj => ?_)
        · refine k_lt (k_b (fun c => k_lt (k_lt (ih _ _ (by omega) (by omega) (by omega) ?_))) (fun c => ?_))
          · rw [h1', if_neg (fun w => c w.1)]
          · refine k_eq ⟨by omega, by omega⟩ (by decide) (fun e => k_lt (k_lt (ih _ _ (by omega) (by omega) (by omega) ?_))) (fun e => ?_)
            · rw [h1', if_pos ⟨c, Or.inl e⟩]
            · have p1 := z_pc (x := y)
              have p2 := z_pc (x := b)
              refine k_e (r_count1 ⟨by omega, by omega⟩) (k_e (r_count1 ⟨by omega, by omega⟩) (k_ls ⟨by omega, by omega⟩ ⟨by omega, by omega⟩ (fun g => k_lt (k_lt (ih _ _ (by omega) (by omega) (by omega) ?_))) (fun g => k_lt (k_lt (ih _ _ (by omega) (by omega) (by omega) ?_)))))
              · rw [h1', if_pos ⟨c, Or.inr g⟩]
              · rw [h1', if_neg (fun w => w.2.elim e g)]
        · refine k_jn (k_eq ⟨by omega, by omega⟩ (by decide) (fun c => k_ls ⟨by omega, by omega⟩ ⟨by omega, by omega⟩ (fun e => ?_) (fun e => ?_)) (fun c => ?_))
          · rw [kp_bF (fun w => absurd w.2 (by omega))] at hj; exact hj
          · rw [kp_bT ⟨c, by omega⟩] at hj; exact hj
          · rw [kp_bF (fun w => c w.1)] at hj; exact hj
      · rw [hx]; congr 1; omega
  exact l76 kp_fu _ 0 (by decide) (by omega) (kp_fu_big (by omega)) rfl
end ASK3
