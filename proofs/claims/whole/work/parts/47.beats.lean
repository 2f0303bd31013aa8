-- the reference: how often one knocks in each minute of a day
def kz_Fg (n : Int) (b σ : kp_W) : Prop := (∀ a, a ≠ 0 → a ≠ 3 → a ≠ 4 → a ≠ 6 → σ a = b a) ∧ (∀ j, j ≠ 11 → j ≠ 12 → j ≠ 13 → σ 0 j = b 0 j) ∧ ∀ i, 0 ≤ i → (i < 40 * n ∨ 40 * n + 40 ≤ i) → σ 6 (Int.toNat i) = b 6 (Int.toNat i)
theorem z_Fg0 {n : Int} {b : kp_W} : kz_Fg n b b := ⟨fun _ _ _ _ _ => rfl, fun _ _ _ _ => rfl, fun _ _ _ => rfl⟩
theorem z_FgL {n : Int} {b σ σ' : kp_W} (h : kz_Fg n b σ) (h1 : ∀ a, a ≠ 0 → a ≠ 3 → a ≠ 4 → σ' a = σ a) (h2 : ∀ j, j ≠ 11 → j ≠ 12 → j ≠ 13 → σ' 0 j = σ 0 j) : kz_Fg n b σ' :=
  ⟨fun a a0 a3 a4 a6 => (h1 a a0 a3 a4).trans (h.1 a a0 a3 a4 a6), fun j j1 j2 j3 => (h2 j j1 j2 j3).trans (h.2.1 j j1 j2 j3), fun i i0 i1 => by rw [h1 6 (by decide) (by decide) (by decide)]; exact h.2.2 i i0 i1⟩
theorem z_FgU {n t x : Int} {b σ : kp_W} (hn : 0 ≤ n) (ht : 0 ≤ t ∧ t < 40) (h : kz_Fg n b σ) : kz_Fg n b (kp_up σ 6 (Int.toNat (40 * n + t)) x) := by
  refine ⟨fun a a0 a3 a4 a6 => ?_, fun j j1 j2 j3 => ?_, fun i i0 i1 => ?_⟩
  · rw [kp_up_ne a6]; exact h.1 a a0 a3 a4 a6
  · rw [kp_up_ne (by decide)]; exact h.2.1 j j1 j2 j3
  · rw [kp_up_eq, if_neg (by omega)]; exact h.2.2 i i0 i1
theorem z_ln {A : kz_A} (h : kz_Ic A) {q l n t : Int} : 0 ≤ kz_ln A q l n t ∧ kz_ln A q l n t ≤ 9801 := by
  have hb := z_gr h (n := n) (t := t)
  have hw2 := z_w (s := A.1) (q := q) (l := l) (x := t + 1)
  have hm : 0 ≤ kz_w A.1 q l (t + 1) * kz_gr A.1 n t A.2 ∧ kz_w A.1 q l (t + 1) * kz_gr A.1 n t A.2 ≤ 99 * 990 := ⟨Int.mul_nonneg hw2.1 hb.1.1, Int.mul_le_mul hw2.2 hb.1.2 hb.1.1 (by decide)⟩
  unfold kz_ln
  omega
theorem z_sk0 {A : kz_A} {q l n : Int} : kz_sk A q l n 0 = 0 := rfl
theorem z_sk1 {A : kz_A} {q l n x : Int} (h : 0 ≤ x) : kz_sk A q l n (x + 1) = if 0 < kz_fr A q l n x then kz_ln A q l n x else kz_sk A q l n x := by
  unfold kz_fr kz_sk
  rw [Int.toNat_add h (by decide)]
  show kz_skN A q l n (x.toNat + 1) = _
  rw [kz_skN, Int.toNat_of_nonneg h]
theorem z_sk {A : kz_A} (h : kz_Ic A) {q l n x : Int} : 0 ≤ kz_sk A q l n x ∧ kz_sk A q l n x ≤ 9801 := by
  unfold kz_sk
  generalize x.toNat = k
  induction k with
  | zero => show (0 : Int) ≤ 0 ∧ (0 : Int) ≤ 9801; decide
  | succ k ih =>
    rw [kz_skN]
    split
    · exact z_ln h
    · exact ih
theorem z_abs {x : Int} : 0 ≤ kp_abs x ∧ (kp_abs x = x ∨ kp_abs x = -x) := by
  unfold kp_abs
  split <;> omega
theorem z_quo {a d c : Int} (ha : 0 ≤ a ∧ a ≤ c) (hd : 1 ≤ d) : 0 ≤ a / d ∧ a / d ≤ c := by
  refine ⟨Int.ediv_nonneg ha.1 (by omega), ?_⟩
  exact Int.le_trans (Int.ediv_le_self _ ha.1) ha.2
theorem z_fr {A : kz_A} (h : kz_Ic A) {q l n t : Int} : 0 ≤ kz_fr A q l n t ∧ kz_fr A q l n t ≤ 9801 := by
  have h1 := z_ln h (q := q) (l := l) (n := n) (t := t)
  have h2 := z_sk h (q := q) (l := l) (n := n) (x := t)
  have h3 := z_abs (x := kz_ln A q l n t - kz_sk A q l n t)
  have h4 := z_hd h (n := n) (t := t)
  unfold kz_fr
  exact z_quo (by omega) h4.1
theorem z_rn0 {s : Nat → Int} {q l : Int} {b : Bool} : kz_rn s q l b 0 = 0 := rfl
theorem z_rn1 {s : Nat → Int} {q l x : Int} {b : Bool} (h : 0 ≤ x) : kz_rn s q l b (x + 1) = if decide (kz_on s q l 2 x) = b then kz_rn s q l b x + 1 else 0 := by
  unfold kz_rn
  rw [Int.toNat_add h (by decide)]
  show kz_rnN s q l b (x.toNat + 1) = _
  rw [kz_rnN, Int.toNat_of_nonneg h]
theorem z_rn {s : Nat → Int} {q l x : Int} {b : Bool} : 0 ≤ kz_rn s q l b x ∧ kz_rn s q l b x ≤ (Int.toNat x : Int) := by
  unfold kz_rn
  generalize x.toNat = k
  induction k with
  | zero => exact ⟨Int.le_refl 0, Int.le_refl 0⟩
  | succ k ih => rw [kz_rnN]; split <;> omega
section BEATS
variable {A : kz_A} {q l nn : Int} {Q : Int → kp_W → Prop} {k : kp_W → kp_R} {b : kp_W}
theorem r_ticksL (hA : kz_I A) (hn : 0 ≤ nn ∧ nn < A.1 0) (hkd : A.1 (Int.toNat (250 + nn)) = 1 ∨ A.1 (Int.toNat (250 + nn)) = 4) (hw : ∀ t, 0 ≤ t → t < 40 → b 5 (Int.toNat t) = kz_w A.1 q l (t + 1)) (eb : b 1 = A.1) : ∀ (n : Nat) (x2 x3 : Int) (σ : kp_W), 0 ≤ x3 → x3 ≤ 40 → 40 - x3 < n → x2 = kz_sk A q l nn x3 → kz_Fg nn b σ → (∀ t, 0 ≤ t → t < x3 → σ 6 (Int.toNat (40 * nn + t)) = kz_tick A q l nn t) →
    (∀ σ', kz_Fg nn b σ' → (∀ t, 0 ≤ t → t < 40 → σ' 6 (Int.toNat (40 * nn + t)) = kz_tick A q l nn t) → kp_ok (k σ') Q) → kp_ok (kl_X10_ticks_4 nn n x2 x3 σ k) Q := by
  have h10 := hA.1.1.1
  intro n
  induction n with
  | zero => intro x2 x3 σ h0 h1 h2; omega
  | succ n ih =>
    intro x2 x3 σ h0 h1 h2 e2 hF hv hk
    rw [kl_X10_ticks_4]
    refine k_ls ⟨by omega, by omega⟩ (by decide) (fun hx => ?_) (fun hx => ?_)
    · have es : σ 1 = A.1 := by rw [hF.1 1 (by decide) (by decide) (by decide) (by decide)]; exact eb
      have hws : ∀ t, 0 ≤ t → t < 40 → σ 5 (Int.toNat t) = kz_w A.1 q l (t + 1) := by rw [hF.1 5 (by decide) (by decide) (by decide) (by decide)]; exact hw
      refine k_bd (r_lengthOf hA es (q := q) (l := l) hn ⟨h0, hx⟩ hws (fun σ4 f1 f2 f3 => k_lt ?_))
      have b1 := z_ln hA.2 (q := q) (l := l) (n := nn) (t := x3)
      have b2 := z_sk hA.2 (q := q) (l := l) (n := nn) (x := x3)
      have b3 := z_hd hA.2 (n := nn) (t := x3)
      have b4 := z_fr hA.2 (q := q) (l := l) (n := nn) (t := x3)
      have b5 := z_abs (x := kz_ln A q l nn x3 - kz_sk A q l nn x3)
      have hF4 := z_FgL hF f1 f2
      have es4 : σ4 1 = A.1 := by rw [f1 1 (by decide) (by decide) (by decide)]; exact es
      have e5 : ∀ t, 0 ≤ t → t < 40 → σ4 5 (Int.toNat t) = kz_w A.1 q l (t + 1) := by rw [f1 5 (by decide) (by decide) (by decide)]; exact hws
      rw [← e2] at b2 b5
      refine k_e (r_size ⟨by omega, by omega⟩) ?_
      rw [f3]
      refine k_ck ⟨by omega, by omega, by omega, by omega⟩ (k_lt ?_)
      have efr : kp_abs (kz_ln A q l nn x3 - x2) / kz_hd A nn x3 = kz_fr A q l nn x3 := by rw [e2]; rfl
      rw [efr]
      generalize hfr : kz_fr A q l nn x3 = fr at b4 ⊢
      rw [kp_jls]
      refine k_ck ⟨by decide, by omega, by omega⟩ (k_lt (k_lt ?_))
      have esk : (if 0 < fr then kz_ln A q l nn x3 else x2) = kz_sk A q l nn (x3 + 1) := by rw [z_sk1 h0, hfr, e2]
      rw [esk, kp_jls]
      refine k_ck ⟨by decide, by omega, by omega⟩ (k_lt (k_lt ?_))
      generalize hf9 : (if 9 < fr then (9 : Int) else fr) = f9
      refine k_jv (kz_w A.1 q l x3) ?_ (fun j hj => ?_)
      · refine k_lt (k_ck (by omega) ?_)
        rw [es4]
        have hkr := (hA.1.2.2.2.1 nn hn.1 hn.2).1
        have w1 := z_w (s := A.1) (q := q) (l := l) (x := x3)
        have w2 := z_w (s := A.1) (q := q) (l := l) (x := x3 + 1)
        have fin : ∀ y : Int, y = kz_tick A q l nn x3 → kp_ok (kp_ck (0 ≤ ((40 * nn) + x3) ∧ ((40 * nn) + x3) < 400) (kp_lt (kp_up σ4 6 (Int.toNat ((40 * nn) + x3)) y) (fun σ6 => kp_lt (x3 + 1) (fun x3' => kl_X10_ticks_4 nn n (kz_sk A q l nn (x3 + 1)) x3' σ6 k)))) Q := by
          intro y hy
          refine k_ck (by omega) (k_lt (k_lt (ih _ _ _ (by omega) (by omega) (by omega) rfl (z_FgU hn.1 ⟨h0, hx⟩ hF4) ?_ hk)))
          intro t t0 t1
          rw [kp_up_eq]
          by_cases ht : t = x3
          · subst ht; rw [if_pos rfl, hy]
          · rw [if_neg (by omega), f1 6 (by decide) (by decide) (by decide)]
            exact hv t t0 (by omega)
        refine k_eq ⟨by omega, by omega⟩ (by decide) (fun k4 => k_ck ⟨h0, hx⟩ ?_) (fun k4 => fin _ ?_)
        · rw [e5 x3 h0 hx]
          refine k_ls ⟨by omega, by omega⟩ ⟨by omega, by omega⟩ (fun c => fin _ ?_) (fun c => fin _ ?_)
          · unfold kz_tick; rw [if_neg (by omega), hfr, hf9]
          · unfold kz_tick; rw [if_pos ⟨k4, by omega⟩]
        · unfold kz_tick; rw [if_neg (fun z => k4 z.1), hfr, hf9]
      · refine k_eq ⟨by omega, by omega⟩ (by decide) (fun z => ?_) (fun z => k_ck (by omega) ?_)
        · subst z; exact hj
        · rw [e5 (x3 - 1) (by omega) (by omega), show x3 - 1 + 1 = x3 by omega]; exact hj
    · have : x3 = 40 := by omega
      subst this
      exact hk σ hF hv
theorem r_strikesL (hA : kz_I A) (hn : 0 ≤ nn ∧ nn < A.1 0) (hq : b 0 16 = 0 ∨ b 0 16 = 1) (hl : 0 ≤ b 0 17 ∧ b 0 17 ≤ 40) (eb : b 1 = A.1) (g : Int → Int) (hg : ∀ t, 0 ≤ t → t < 40 → g t = (if ¬ kz_on A.1 (b 0 16) (b 0 17) 1 t ∧ (0 < t ∧ kz_on A.1 (b 0 16) (b 0 17) 1 (t - 1)) then A.1 (Int.toNat (270 + nn)) else if kz_on A.1 (b 0 16) (b 0 17) 1 t ∧ ¬ (0 < t ∧ kz_on A.1 (b 0 16) (b 0 17) 1 (t - 1)) ∧ A.1 (Int.toNat (250 + nn)) = 5 then 1 else 0)) : ∀ (n : Nat) (x2 : Int) (σ : kp_W), 0 ≤ x2 → x2 ≤ 40 → 40 - x2 < n → kz_Fg nn b σ → (∀ t, 0 ≤ t → t < x2 → σ 6 (Int.toNat (40 * nn + t)) = g t) →
    (∀ σ', kz_Fg nn b σ' → (∀ t, 0 ≤ t → t < 40 → σ' 6 (Int.toNat (40 * nn + t)) = g t) → kp_ok (k σ') Q) → kp_ok (kl_X10_strikesBy_2 nn n x2 σ k) Q := by
  have h10 := hA.1.1.1
  intro n
  induction n with
  | zero => intro x2 σ h0 h1 h2; omega
  | succ n ih =>
    intro x2 σ h0 h1 h2 hF hv hk
    rw [kl_X10_strikesBy_2]
    refine k_ls ⟨by omega, by omega⟩ (by decide) (fun hx => ?_) (fun hx => ?_)
    · have es : σ 1 = A.1 := by rw [hF.1 1 (by decide) (by decide) (by decide) (by decide)]; exact eb
      have e16 : σ 0 16 = b 0 16 := hF.2.1 16 (by decide) (by decide) (by decide)
      have e17 : σ 0 17 = b 0 17 := hF.2.1 17 (by decide) (by decide) (by decide)
      have hI : kz_Is (σ 1) := by rw [es]; exact hA.1
      have on : ∀ t, 0 ≤ t → t < 40 → kf_X10_isOn 1 t σ = some (kp_b (kz_on A.1 (b 0 16) (b 0 17) 1 t), σ) := by
        intro t t0 t1
        rw [r_isOn hI (by decide) ⟨t0, t1⟩ (by rw [e16]; exact hq) (by rw [e17]; exact hl), es, e16, e17]
      have hkr := hA.1.2.2.2.1 nn hn.1 hn.2
      have fin : ∀ y : Int, y = g x2 → kp_ok (kp_ck (0 ≤ ((40 * nn) + x2) ∧ ((40 * nn) + x2) < 400) (kp_lt (kp_up σ 6 (Int.toNat ((40 * nn) + x2)) y) (fun σ6 => kp_lt (x2 + 1) (fun x3' => kl_X10_strikesBy_2 nn n x3' σ6 k)))) Q := by
        intro y hy
        refine k_ck (by omega) (k_lt (k_lt (ih _ _ (by omega) (by omega) (by omega) (z_FgU hn.1 ⟨h0, hx⟩ hF) ?_ hk)))
        intro t t0 t1
        rw [kp_up_eq]
        by_cases ht : t = x2
        · subst ht; rw [if_pos rfl, hy]
        · rw [if_neg (by omega)]
          exact hv t t0 (by omega)
      have hg2 := hg x2 h0 hx
      refine k_jvs (kp_b (0 < x2 ∧ kz_on A.1 (b 0 16) (b 0 17) 1 (x2 - 1))) σ ?_ (fun j hj => ?_)
      · refine k_lt (k_e (on x2 h0 hx) (k_lt (k_jn ?_)))
        refine k_b (fun n1 => ?_) (fun n1 => ?_)
        · refine k_b (fun n2 => ?_) (fun n2 => ?_)
          · refine k_b (fun _ => fin _ ?_) (fun z => absurd z n1)
            rw [hg2, if_neg (fun z => n2 z.2), if_neg (fun z => n1 z.1)]
          · refine k_ck (by omega) ?_
            rw [es]
            refine fin _ ?_
            rw [hg2, if_pos ⟨n1, n2⟩]
        · refine k_b (fun z => absurd n1 z) (fun _ => ?_)
          refine k_b (fun n2 => k_ck (by omega) ?_) (fun n2 => fin _ ?_)
          · rw [es]
            refine k_eq ⟨by omega, by omega⟩ (by decide) (fun k5 => fin _ ?_) (fun k5 => fin _ ?_)
            · rw [hg2, if_neg (fun z => z.1 n1), if_pos ⟨n1, n2, k5⟩]
            · rw [hg2, if_neg (fun z => z.1 n1), if_neg (fun z => k5 z.2.2)]
          · rw [hg2, if_neg (fun z => z.1 n1), if_neg (fun z => z.2.1 n2)]
      · refine k_jn (k_ls (by decide) ⟨by omega, by omega⟩ (fun c => k_e (on (x2 - 1) (by omega) (by omega)) (k_b (fun d => ?_) (fun d => ?_))) (fun c => ?_))
        · rw [kp_bF (fun z => d z.2)] at hj; exact hj
        · rw [kp_bT ⟨c, d⟩] at hj; exact hj
        · rw [kp_bF (fun z => c z.1)] at hj; exact hj
    · have : x2 = 40 := by omega
      subst this
      exact hk σ hF hv
theorem r_humsL (hA : kz_I A) (hn : 0 ≤ nn ∧ nn < A.1 0) (hq : b 0 16 = 0 ∨ b 0 16 = 1) (hl : 0 ≤ b 0 17 ∧ b 0 17 ≤ 40) (eb : b 1 = A.1) (c : Bool) {x4 : Int} (h4 : 1 ≤ x4 ∧ x4 ≤ 9) : ∀ (n : Nat) (x3 x5 : Int) (σ : kp_W), 0 ≤ x5 → x5 ≤ 40 → 40 - x5 < n → x3 = kz_rn A.1 (b 0 16) (b 0 17) c x5 → kz_Fg nn b σ → (∀ t, 0 ≤ t → t < x5 → σ 6 (Int.toNat (40 * nn + t)) = if x4 ≤ kz_rn A.1 (b 0 16) (b 0 17) c (t + 1) then 1 else 0) →
    (∀ σ', kz_Fg nn b σ' → (∀ t, 0 ≤ t → t < 40 → σ' 6 (Int.toNat (40 * nn + t)) = if x4 ≤ kz_rn A.1 (b 0 16) (b 0 17) c (t + 1) then 1 else 0) → kp_ok (k σ') Q) → kp_ok (kl_X10_hums_34 nn (kz_i c) x4 n x3 x5 σ k) Q := by
  have h10 := hA.1.1.1
  intro n
  induction n with
  | zero => intro x3 x5 σ h0 h1 h2; omega
  | succ n ih =>
    intro x3 x5 σ h0 h1 h2 e3 hF hv hk
    rw [kl_X10_hums_34]
    refine k_ls ⟨by omega, by omega⟩ (by decide) (fun hx => ?_) (fun hx => ?_)
    · have es : σ 1 = A.1 := by rw [hF.1 1 (by decide) (by decide) (by decide) (by decide)]; exact eb
      have e16 : σ 0 16 = b 0 16 := hF.2.1 16 (by decide) (by decide) (by decide)
      have e17 : σ 0 17 = b 0 17 := hF.2.1 17 (by decide) (by decide) (by decide)
      have hI : kz_Is (σ 1) := by rw [es]; exact hA.1
      refine k_e (r_isOn hI (by decide) ⟨h0, hx⟩ (by rw [e16]; exact hq) (by rw [e17]; exact hl)) ?_
      rw [es, e16, e17]
      have hr := z_rn1 (s := A.1) (q := b 0 16) (l := b 0 17) (b := c) h0
      rw [← e3] at hr
      have br := z_rn (s := A.1) (q := b 0 16) (l := b 0 17) (b := c) (x := x5 + 1)
      refine k_jv (kz_rn A.1 (b 0 16) (b 0 17) c (x5 + 1)) ?_ (fun j hj => ?_)
      · refine k_lt ?_
        have fin : ∀ y : Int, y = (if x4 ≤ kz_rn A.1 (b 0 16) (b 0 17) c (x5 + 1) then 1 else 0) → kp_ok (kp_ck (0 ≤ ((40 * nn) + x5) ∧ ((40 * nn) + x5) < 400) (kp_lt (kp_up σ 6 (Int.toNat ((40 * nn) + x5)) y) (fun σ6 => kp_lt (x5 + 1) (fun x3' => kl_X10_hums_34 nn (kz_i c) x4 n (kz_rn A.1 (b 0 16) (b 0 17) c (x5 + 1)) x3' σ6 k)))) Q := by
          intro y hy
          refine k_ck (by omega) (k_lt (k_lt (ih _ _ _ (by omega) (by omega) (by omega) rfl (z_FgU hn.1 ⟨h0, hx⟩ hF) ?_ hk)))
          intro t t0 t1
          rw [kp_up_eq]
          by_cases ht : t = x5
          · subst ht; rw [if_pos rfl, hy]
          · rw [if_neg (by omega)]
            exact hv t t0 (by omega)
        refine k_ls ⟨by omega, by omega⟩ ⟨by omega, by omega⟩ (fun z => fin 0 ?_) (fun z => fin 1 ?_)
        · rw [if_neg (by omega)]
        · rw [if_pos (by omega)]
      · refine k_eq (by rcases kp_bZ (c := kz_on A.1 (b 0 16) (b 0 17) 2 x5) with z | z <;> rw [z] <;> decide) (by rcases z_i01 (b := c) with z | z <;> rw [z] <;> decide) (fun z => ?_) (fun z => ?_)
        · rw [hr, if_pos] at hj
          · exact hj
          · by_cases on : kz_on A.1 (b 0 16) (b 0 17) 2 x5
            · rw [kp_bT on] at z; cases c with
              | true => exact decide_eq_true on
              | false => exact absurd z (by decide)
            · rw [kp_bF on] at z; cases c with
              | true => exact absurd z (by decide)
              | false => exact decide_eq_false on
        · rw [hr, if_neg] at hj
          · exact hj
          · intro d
            by_cases on : kz_on A.1 (b 0 16) (b 0 17) 2 x5
            · rw [kp_bT on] at z; cases c with
              | true => exact z rfl
              | false => rw [decide_eq_true on] at d; cases d
            · rw [kp_bF on] at z; cases c with
              | true => rw [decide_eq_false on] at d; cases d
              | false => exact z rfl
    · have : x5 = 40 := by omega
      subst this
      exact hk σ hF hv
theorem r_plainL (hA : kz_I A) (hn : 0 ≤ nn ∧ nn < A.1 0) (eb : b 1 = A.1) : ∀ (n : Nat) (x2 : Int) (σ : kp_W), 0 ≤ x2 → x2 ≤ 40 → 40 - x2 < n → kz_Fg nn b σ → (∀ t, 0 ≤ t → t < x2 → σ 6 (Int.toNat (40 * nn + t)) = if kz_an A.1 nn t A.2 = false ∧ t % 10 = A.1 (Int.toNat (270 + nn)) then 1 else 0) →
    (∀ σ', kz_Fg nn b σ' → (∀ t, 0 ≤ t → t < 40 → σ' 6 (Int.toNat (40 * nn + t)) = if kz_an A.1 nn t A.2 = false ∧ t % 10 = A.1 (Int.toNat (270 + nn)) then 1 else 0) → kp_ok (k σ') Q) → kp_ok (kl_X10_plainly_2 nn n x2 σ k) Q := by
  have h10 := hA.1.1.1
  intro n
  induction n with
  | zero => intro x2 σ h0 h1 h2; omega
  | succ n ih =>
    intro x2 σ h0 h1 h2 hF hv hk
    rw [kl_X10_plainly_2]
    refine k_ls ⟨by omega, by omega⟩ (by decide) (fun hx => ?_) (fun hx => ?_)
    · have es : σ 1 = A.1 := by rw [hF.1 1 (by decide) (by decide) (by decide) (by decide)]; exact eb
      refine k_bd (r_looksAt hA es hn ⟨h0, hx⟩ (fun σ4 f1 f2 f3 f4 f5 => ?_))
      have hF4 := z_FgL hF f1 f2
      have es4 : σ4 1 = A.1 := by rw [f1 1 (by decide) (by decide) (by decide)]; exact es
      have hkr := hA.1.2.2.2.1 nn hn.1 hn.2
      have fin : ∀ y : Int, y = (if kz_an A.1 nn x2 A.2 = false ∧ x2 % 10 = A.1 (Int.toNat (270 + nn)) then 1 else 0) → kp_ok (kp_ck (0 ≤ ((40 * nn) + x2) ∧ ((40 * nn) + x2) < 400) (kp_lt (kp_up σ4 6 (Int.toNat ((40 * nn) + x2)) y) (fun σ6 => kp_lt (x2 + 1) (fun x3' => kl_X10_plainly_2 nn n x3' σ6 k)))) Q := by
        intro y hy
        refine k_ck (by omega) (k_lt (k_lt (ih _ _ (by omega) (by omega) (by omega) (z_FgU hn.1 ⟨h0, hx⟩ hF4) ?_ hk)))
        intro t t0 t1
        rw [kp_up_eq]
        by_cases ht : t = x2
        · subst ht; rw [if_pos rfl, hy]
        · rw [if_neg (by omega), f1 6 (by decide) (by decide) (by decide)]
          exact hv t t0 (by omega)
      rw [f5, es4]
      cases han : kz_an A.1 nn x2 A.2 with
      | true =>
        rw [han] at fin
        exact k_eq (by decide) (by decide) (fun z => absurd z (by decide)) (fun _ => fin 0 (by simp))
      | false =>
        rw [han] at fin
        refine k_eq (by decide) (by decide) (fun _ => k_ck ⟨by omega, by omega, by omega, by omega⟩ (k_ck (by omega) ?_)) (fun z => absurd rfl z)
        refine k_eq ⟨by omega, by omega⟩ ⟨by omega, by omega⟩ (fun z => fin 1 ?_) (fun z => fin 0 ?_)
        · rw [if_pos ⟨rfl, z⟩]
        · rw [if_neg (fun w => z w.2)]
    · have : x2 = 40 := by omega
      subst this
      exact hk σ hF hv
end BEATS
