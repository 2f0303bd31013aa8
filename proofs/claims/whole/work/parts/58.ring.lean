-- the class: a day worked out
section RING
variable {A : kz_A} {q l : Int} {Q : Int → kp_W → Prop}
/-- the minutes of a going-on as bits -/
def kz_Bt (s : Nat → Int) (q l w x : Int) : Prop := kz_in40 x ∧ ∀ t, 0 ≤ t → t < 40 → kz_t x (Int.toNat t) = decide (kz_on s q l w t)
def kz_Wm (s : Nat → Int) (q l : Int) (σ : kp_W) : Prop := ∀ t, 0 ≤ t → t < 40 → σ 49 (Int.toNat t) = kz_w s q l (t + 1)
theorem c_warm (hA : kz_I A) {x : Int} {b : kp_W} (hx : kz_Bt A.1 q l 0 x) (hu : kz_Ru 6 A.1 b) {f : Int → kp_W → kp_R} (hk : ∀ σ', (∀ a, a ≠ 49 → σ' a = b a) → kz_Wm A.1 q l σ' → kp_ok (f 0 σ') Q) : kp_ok (kp_bd (kf_X6_warm x b) f) Q := by
  refine k_bd ?_
  unfold kf_X6_warm
  have t0 := z_tl hA.1 (j := 0) (by decide) (by decide)
  have t1 := z_tl hA.1 (j := 1) (by decide) (by decide)
  have u0 : b 6 0 = kz_tl A.1 0 := hu 0 (by decide) (by decide)
  have u1 : b 6 1 = kz_tl A.1 1 := hu 1 (by decide) (by decide)
  refine k_lt (k_lt ?_)
  have loop : ∀ (m : Nat) (a y : Int) (σ : kp_W), 0 ≤ y → y ≤ 40 → 40 - y < m → a = kz_w A.1 q l y → (∀ a, a ≠ 49 → σ a = b a) → (∀ t, 0 ≤ t → t < y → σ 49 (Int.toNat t) = kz_w A.1 q l (t + 1)) → kp_ok (kl_X6_warm_6 x m a y σ (fun (σ_2 : kp_W) => some (0, σ_2))) (fun r σ => kp_ok (f r σ) Q) := by
    intro m
    induction m with
    | zero => intro a y σ h0 h1 h2; omega
    | succ m ih =>
      intro a y σ h0 h1 h2 ha hF hv
      have hw := z_w (s := A.1) (q := q) (l := l) (x := y)
      have e1 := z_w1 A.1 q l h0
      rw [← ha] at hw e1
      rw [kl_X6_warm_6, kz_andL1, hF 6 (by decide), u0, u1]
      refine k_ls ⟨by omega, by omega⟩ (by decide) (fun hy => k_ck ⟨z_40L hx.1, by omega, by omega⟩ (k_ck ⟨⟨by omega, by omega⟩, by decide⟩ (k_jv (kp_b (kz_on A.1 q l 0 y)) ?_ (fun j hj => ?_)))) (fun hy => k_some (hk σ hF (fun t t0 t1 => hv t t0 (by omega))))
      · refine k_lt (k_jv (a + if kz_on A.1 q l 0 y then kz_tl A.1 0 else -kz_tl A.1 1) ?_ (fun j hj => ?_))
        · generalize hz : (a + if kz_on A.1 q l 0 y then kz_tl A.1 0 else -kz_tl A.1 1) = z at e1 ⊢
          have hz2 : -99 ≤ z ∧ z ≤ 198 := by rw [← hz]; split <;> omega
          have hmin : kp_min 99 z = if 99 < z then 99 else z := by unfold kp_min; repeat' split
                                                                   all_goals omega
          have hmm : kp_max 0 (kp_min 99 z) = kz_w A.1 q l (y + 1) := by
            rw [e1, hmin]; unfold kp_max; repeat' split
            all_goals omega
          refine k_lt (k_ck ⟨by decide, by omega, by omega⟩ (k_ck ⟨by decide, by rw [hmin]; split <;> exact ⟨by omega, by omega⟩⟩ (k_lt (k_ck ⟨h0, hy⟩ (k_lt (k_lt (ih _ _ _ (by omega) (by omega) (by omega) hmm (fun a ha => by rw [kp_up_ne ha]; exact hF a ha) (fun t t0 t1 => ?_))))))))
          rw [kp_up_eq]
          by_cases h : t = y
          · rw [if_pos (by rw [h]), hmm, h]
          · rw [if_neg (by omega)]; exact hv t t0 (by omega)
        · refine k_b (fun c => ?_) (fun c => ?_)
          · rw [if_neg c] at hj; exact hj
          · rw [if_pos c] at hj; exact hj
      · have hb := hx.2 y h0 hy
        refine k_eq z_cmpin (by decide) (fun c => ?_) (fun c => ?_)
        · have := z_bit0.mp (z_cmp0.mp c)
          rw [hb] at this
          rw [kp_bF (of_decide_eq_false this)] at hj; exact hj
        · have : kz_t x (Int.toNat y) = true := by
            cases e : kz_t x (Int.toNat y)
            · exact absurd (z_cmp0.mpr (z_bit0.mpr e)) c
            · rfl
          rw [hb] at this
          rw [kp_bT (of_decide_eq_true this)] at hj; exact hj
  exact loop kp_fu 0 0 b (by decide) (by decide) (kp_fu_big (by decide)) rfl (fun _ _ => rfl) (fun t t0 t1 => by omega)
theorem c_lengthOf (hA : kz_I A) {i t : Int} {σ : kp_W} (hi : 0 ≤ i ∧ i < A.1 0) (ht : 0 ≤ t ∧ t < 40) (hw : kz_Wm A.1 q l σ) (hS : kz_Sr A i σ) : kf_X6_lengthOf i t σ = some (kz_ln A q l i t, σ) := by
  have h10 := hA.1.1.1
  have hg := (z_gr hA.2 (n := i) (t := t)).1
  have hw1 := z_w (s := A.1) (q := q) (l := l) (x := t + 1)
  have hm := z_mulr hw1 hg
  unfold kf_X6_lengthOf
  refine k_is (k_ck ht (k_ck (by omega) ?_))
  rw [hw t ht.1 ht.2, (hS.1 t ht.1 ht.2).1]
  exact k_ck ⟨hm.1, by omega, by decide, by decide⟩ (k_some ⟨rfl, rfl⟩)
theorem c_holdOf (hA : kz_I A) {i t : Int} {σ : kp_W} (hi : 0 ≤ i ∧ i < A.1 0) (ht : 0 ≤ t ∧ t < 40) (hS : kz_Sr A i σ) : kf_X6_holdOf i t σ = some (kz_hd A i t, σ) := by
  have h10 := hA.1.1.1
  have hg := (z_gr hA.2 (n := i) (t := t)).2
  unfold kf_X6_holdOf
  refine k_is (k_ck (by omega) ?_)
  rw [(hS.1 t ht.1 ht.2).2]
  refine k_ck ⟨by decide, by omega, by omega⟩ (k_some ⟨?_, rfl⟩)
  unfold kp_max kz_hd
  repeat' split
  all_goals omega
def kz_Fn (i : Int) (b σ : kp_W) : Prop := (∀ a, a ≠ 52 → σ a = b a) ∧ ∀ j, 0 ≤ j → (j < i * 40 ∨ i * 40 + 40 ≤ j) → σ 52 (Int.toNat j) = b 52 (Int.toNat j)
theorem z_SrF {i : Int} {σ σ' : kp_W} (e50 : σ' 50 = σ 50) (e51 : σ' 51 = σ 51) (e53 : σ' 53 = σ 53) (h : kz_Sr A i σ) : kz_Sr A i σ' := by
  unfold kz_Sr; rw [e50, e51, e53]; exact h
theorem c_tick (hA : kz_I A) {i w : Int} {b : kp_W} (hi : 0 ≤ i ∧ i < A.1 0) (hkd : (w = 0 ∧ A.1 (Int.toNat (250 + i)) = 1) ∨ (w = 1 ∧ A.1 (Int.toNat (250 + i)) = 4)) (hw : kz_Wm A.1 q l b) (hS : kz_Sr A i b) {f : Int → kp_W → kp_R} (hk : ∀ σ', kz_Fn i b σ' → (∀ t, 0 ≤ t → t < 40 → σ' 52 (Int.toNat (i * 40 + t)) = kz_kn A q l i t) → kp_ok (f 0 σ') Q) : kp_ok (kp_bd (kf_X6_tick i w b) f) Q := by
  have h10 := hA.1.1.1
  refine k_bd ?_
  unfold kf_X6_tick
  refine k_lt (k_lt (k_lt ?_))
  have loop : ∀ (m : Nat) (x z y : Int) (σ : kp_W), 0 ≤ y → y ≤ 40 → 40 - y < m → x = kz_sk A q l i y → z = kz_w A.1 q l y → kz_Fn i b σ → (∀ t, 0 ≤ t → t < y → σ 52 (Int.toNat (i * 40 + t)) = kz_kn A q l i t) → kp_ok (kl_X6_tick_8 i w m x z y σ (fun (σ_2 : kp_W) => some (0, σ_2))) (fun r σ => kp_ok (f r σ) Q) := by
    intro m
    induction m with
    | zero => intro x z y σ h0 h1 h2; omega
    | succ m ih =>
      intro x z y σ h0 h1 h2 hx hz hF hv
      have hs := z_sk hA.2 (q := q) (l := l) (n := i) (x := y)
      have hl := z_ln hA.2 (q := q) (l := l) (n := i) (t := y)
      have hh := z_hd hA.2 (n := i) (t := y)
      have hfr := z_fr hA.2 (q := q) (l := l) (n := i) (t := y)
      have hab := z_abs (x := kz_ln A q l i y - kz_sk A q l i y)
      have hs1 := z_sk1 (A := A) (q := q) (l := l) (n := i) h0
      have hwy := z_w (s := A.1) (q := q) (l := l) (x := y)
      have hwy1 := z_w (s := A.1) (q := q) (l := l) (x := y + 1)
      have hWσ : kz_Wm A.1 q l σ := by unfold kz_Wm; rw [hF.1 49 (by decide)]; exact hw
      have hSσ : kz_Sr A i σ := z_SrF (hF.1 50 (by decide)) (hF.1 51 (by decide)) (hF.1 53 (by decide)) hS
      rw [kl_X6_tick_8]
      refine k_ls ⟨by omega, by omega⟩ (by decide) (fun hy => k_e (c_lengthOf hA hi ⟨h0, hy⟩ hWσ hSσ) (k_lt ?_)) (fun hy => k_some (hk σ hF (fun t t0 t1 => hv t t0 (by omega))))
      rw [hx]
      refine k_ck ⟨by omega, by omega⟩ (k_e (c_holdOf hA hi ⟨h0, hy⟩ hSσ) (k_ck ⟨hab.1, by omega, by omega, by omega⟩ ?_))
      have efr : kp_abs (kz_ln A q l i y - kz_sk A q l i y) / kz_hd A i y = kz_fr A q l i y := rfl
      rw [efr]
      have emin : kp_min 9 (kz_fr A q l i y) = if 9 < kz_fr A q l i y then 9 else kz_fr A q l i y := by
        unfold kp_min; repeat' split
        all_goals omega
      refine k_ck ⟨by decide, by omega, by omega⟩ (k_lt ?_)
      rw [emin]
      generalize hmn : (if 9 < kz_fr A q l i y then 9 else kz_fr A q l i y) = mn
      have hmn9 : 0 ≤ mn ∧ mn ≤ 9 ∧ (mn < 1 ↔ ¬ 0 < kz_fr A q l i y) := by rw [← hmn]; split <;> omega
      refine k_jv (kz_sk A q l i (y + 1)) ?_ (fun j hj => ?_)
      · have ekn : kz_kn A q l i y = if w = 1 ∧ kz_w A.1 q l (y + 1) ≤ kz_w A.1 q l y then 0 else mn := by
          unfold kz_kn kz_tick
          rw [if_pos (by omega), hmn]
          by_cases c : w = 1
          · by_cases c2 : kz_w A.1 q l (y + 1) ≤ kz_w A.1 q l y
            · rw [if_pos ⟨by omega, c2⟩, if_pos ⟨c, c2⟩]
            · rw [if_neg (fun z => c2 z.2), if_neg (fun z => c2 z.2)]
          · rw [if_neg (fun z => by omega), if_neg (fun z => c z.1)]
        refine k_jv (kz_kn A q l i y) ?_ (fun j hj => ?_)
        · refine k_ck (by omega) (k_lt (k_ck ⟨h0, hy⟩ (k_lt (k_lt (ih _ _ _ _ (by omega) (by omega) (by omega) rfl ?_ ⟨fun a ha => by rw [kp_up_ne ha]; exact hF.1 a ha, fun j j0 j1 => ?_⟩ (fun t t0 t1 => ?_))))))
          · rw [kp_up_ne (by decide)]; exact hWσ y h0 hy
          · rw [kp_up_eq, if_neg (by omega)]; exact hF.2 j j0 j1
          · rw [kp_up_eq]
            by_cases h : t = y
            · rw [if_pos (by rw [h]), h]
            · rw [if_neg (by omega)]; exact hv t t0 (by omega)
        · rw [ekn] at hj
          refine k_jn (k_eq ⟨by omega, by omega⟩ (by decide) (fun c => ?_) (fun c => k_ck ⟨h0, hy⟩ ?_))
          · rw [if_neg (fun z => by omega)] at hj; exact hj
          · rw [hWσ y h0 hy, hz]
            refine k_ls ⟨by omega, by omega⟩ ⟨by omega, by omega⟩ (fun d => ?_) (fun d => ?_)
            · rw [if_neg (fun z => by omega)] at hj; exact hj
            · rw [if_pos ⟨by omega, by omega⟩] at hj; exact hj
      · refine k_ls ⟨by omega, by omega⟩ (by decide) (fun c => ?_) (fun c => k_lt ?_)
        · rw [hs1, if_neg (hmn9.2.2.mp c)] at hj; exact hj
        · rw [hs1, if_pos (by omega)] at hj; exact hj
  exact loop kp_fu 0 0 0 b (by decide) (by decide) (kp_fu_big (by decide)) rfl rfl ⟨fun _ _ => rfl, fun _ _ _ => rfl⟩ (fun t t0 t1 => by omega)
theorem c_mark {i o v e : Int} {b : kp_W} (hi : 0 ≤ i ∧ i < 10) (ho : kp_inL o) (he : kp_inL e) {f : Int → kp_W → kp_R} (hk : ∀ σ', kz_Fn i b σ' → (∀ t, 0 ≤ t → t < 40 → σ' 52 (Int.toNat (i * 40 + t)) = (if kz_t o (Int.toNat t) = true then v else 0) + if kz_t e (Int.toNat t) = true then 1 else 0) → kp_ok (f 0 σ') Q) : kp_ok (kp_bd (kf_X6_mark i o v e b) f) Q := by
  refine k_bd ?_
  unfold kf_X6_mark
  refine k_lt ?_
  have loop : ∀ (m : Nat) (y : Int) (σ : kp_W), 0 ≤ y → y ≤ 40 → 40 - y < m → kz_Fn i b σ → (∀ t, 0 ≤ t → t < y → σ 52 (Int.toNat (i * 40 + t)) = (if kz_t o (Int.toNat t) = true then v else 0) + if kz_t e (Int.toNat t) = true then 1 else 0) → kp_ok (kl_X6_mark_3 i o v e m y σ (fun (σ_2 : kp_W) => some (0, σ_2))) (fun r σ => kp_ok (f r σ) Q) := by
    intro m
    induction m with
    | zero => intro y σ h0 h1 h2; omega
    | succ m ih =>
      intro y σ h0 h1 h2 hF hv
      rw [kl_X6_mark_3, kz_andL1, kz_andL1]
      have hbit : ∀ x : Int, kp_cmp (x / 2 ^ (Int.toNat y) % 2) 0 = 0 → kz_t x (Int.toNat y) = false := fun x c => z_bit0.mp (z_cmp0.mp c)
      have hbit' : ∀ x : Int, ¬ kp_cmp (x / 2 ^ (Int.toNat y) % 2) 0 = 0 → kz_t x (Int.toNat y) = true := fun x c => by
        cases e : kz_t x (Int.toNat y)
        · exact absurd (z_cmp0.mpr (z_bit0.mpr e)) c
        · rfl
      refine k_ls ⟨by omega, by omega⟩ (by decide) (fun hy => k_lt (k_ck ⟨ho, by omega, by omega⟩ (k_ck ⟨⟨by omega, by omega⟩, by decide⟩ (k_jv (if kz_t o (Int.toNat y) = true then v else 0) ?_ (fun j hj => ?_))))) (fun hy => k_some (hk σ hF (fun t t0 t1 => hv t t0 (by omega))))
      · refine k_ck ⟨he, by omega, by omega⟩ (k_ck ⟨⟨by omega, by omega⟩, by decide⟩ (k_jv ((if kz_t o (Int.toNat y) = true then v else 0) + if kz_t e (Int.toNat y) = true then 1 else 0) ?_ (fun j hj => ?_)))
        · refine k_ck (by omega) (k_lt (k_lt (ih _ _ (by omega) (by omega) (by omega) ⟨fun a ha => by rw [kp_up_ne ha]; exact hF.1 a ha, fun j j0 j1 => ?_⟩ (fun t t0 t1 => ?_))))
          · rw [kp_up_eq, if_neg (by omega)]; exact hF.2 j j0 j1
          · rw [kp_up_eq]
            by_cases h : t = y
            · rw [if_pos (by rw [h]), h]
            · rw [if_neg (by omega)]; exact hv t t0 (by omega)
        · refine k_eq z_cmpin (by decide) (fun c => ?_) (fun c => k_lt ?_)
          · rw [if_neg (c := kz_t e (Int.toNat y) = true) (by rw [hbit e c]; decide), Int.add_zero] at hj; exact hj
          · rw [if_pos (c := kz_t e (Int.toNat y) = true) (hbit' e c)] at hj; exact hj
      · refine k_eq z_cmpin (by decide) (fun c => ?_) (fun c => k_lt ?_)
        · rw [if_neg (c := kz_t o (Int.toNat y) = true) (by rw [hbit o c]; decide)] at hj; exact hj
        · rw [if_pos (c := kz_t o (Int.toNat y) = true) (hbit' o c)] at hj
          rw [Int.zero_add]; exact hj
  exact loop kp_fu 0 b (by decide) (by decide) (kp_fu_big (by decide)) ⟨fun _ _ => rfl, fun _ _ _ => rfl⟩ (fun t t0 t1 => by omega)
theorem z_rnx {s : Nat → Int} {B : Bool} : ∀ (t x : Nat), ((x : Int) ≤ kz_rnN s q l B t ↔ ∀ j : Nat, j < x → j < t ∧ decide (kz_on s q l 2 ((t - 1 - j : Nat) : Int)) = B)
  | 0, x => by
    show (x : Int) ≤ 0 ↔ _
    constructor
    · intro h j hj; omega
    · intro h
      by_cases hx : x = 0
      · omega
      · exact absurd (h 0 (by omega)).1 (by omega)
  | t + 1, 0 => by
    have : 0 ≤ kz_rnN s q l B (t + 1) := by
      have := (z_rn (s := s) (q := q) (l := l) (b := B) (x := ((t + 1 : Nat) : Int))).1
      unfold kz_rn at this
      rw [Int.toNat_natCast] at this
      exact this
    exact ⟨fun _ j hj => by omega, fun _ => this⟩
  | t + 1, x + 1 => by
    rw [kz_rnN]
    have ih := z_rnx (s := s) (B := B) t x
    by_cases c : decide (kz_on s q l 2 (t : Nat)) = B
    · rw [if_pos c]
      constructor
      · intro h j hj
        cases j with
        | zero => exact ⟨by omega, by rw [show t + 1 - 1 - 0 = t by omega]; exact c⟩
        | succ j =>
          have := ih.mp (by omega) j (by omega)
          exact ⟨by omega, by rw [show t + 1 - 1 - (j + 1) = t - 1 - j by omega]; exact this.2⟩
      · intro h
        have : (x : Int) ≤ kz_rnN s q l B t := ih.mpr (fun j hj => by
          have := h (j + 1) (by omega)
          rw [show t + 1 - 1 - (j + 1) = t - 1 - j by omega] at this
          exact ⟨by omega, this.2⟩)
        omega
    · rw [if_neg c]
      constructor
      · intro h; omega
      · intro h
        have := (h 0 (by omega)).2
        rw [show t + 1 - 1 - 0 = t by omega] at this
        exact absurd this c
theorem c_lasting {x v : Int} {B : Bool} {σ : kp_W} (hx : kz_in40 x) (hb : ∀ t, 0 ≤ t → t < 40 → kz_t x (Int.toNat t) = decide (decide (kz_on A.1 q l 2 t) = B)) (hv : 0 ≤ v ∧ v ≤ 9) {f : Int → kp_W → kp_R} (hk : ∀ y, kz_in40 y → (∀ t, 0 ≤ t → t < 40 → kz_t y (Int.toNat t) = decide ((if v = 0 then 1 else v) ≤ kz_rn A.1 q l B (t + 1))) → kp_ok (f y σ) Q) : kp_ok (kp_bd (kf_X6_lasting x v σ) f) Q := by
  refine k_bd ?_
  unfold kf_X6_lasting
  refine k_lt (k_lt ?_)
  have loop : ∀ (m : Nat) (y z : Int), 1 ≤ z → z ≤ (if v = 0 then 1 else v) → 40 - z < m → kz_in40 y → (∀ t, 0 ≤ t → t < 40 → kz_t y (Int.toNat t) = decide (z ≤ kz_rn A.1 q l B (t + 1))) → kp_ok (kl_X6_lasting_5 x v m y z (fun (x3_2 : Int) => some (x3_2, σ))) (fun r σ => kp_ok (f r σ) Q) := by
    intro m
    induction m with
    | zero => intro y z h0 h1 h2; split at h1 <;> omega
    | succ m ih =>
      intro y z h0 h1 h2 hy hyb
      have hz9 : z ≤ 9 := by split at h1 <;> omega
      rw [kl_X6_lasting_5]
      refine k_ls ⟨by omega, by omega⟩ ⟨by omega, by omega⟩ (fun c => k_ls ⟨by omega, by omega⟩ (by decide) (fun _ => k_ck ⟨by omega, by omega⟩ (k_lt (k_lt (ih _ _ (by omega) (by split <;> omega) (by omega) (z_40and (Or.inl hy)) (fun t t0 t1 => ?_))))) (fun d => by omega)) (fun c => k_some (hk y hy (fun t t0 t1 => ?_)))
      · rw [kz_andL (by omega), hyb t t0 t1, kz_shl]
        have e1 := z_rnx (q := q) (l := l) (s := A.1) (B := B) (Int.toNat (t + 1)) (Int.toNat z)
        have e2 := z_rnx (q := q) (l := l) (s := A.1) (B := B) (Int.toNat (t + 1)) (Int.toNat (z + 1))
        rw [Int.toNat_of_nonneg (by omega)] at e1 e2
        by_cases c1 : Int.toNat z ≤ Int.toNat t
        · have hbb := hb ((Int.toNat t - Int.toNat z : Nat) : Int) (by omega) (by omega)
          rw [Int.toNat_natCast] at hbb
          rw [decide_eq_true c1, Bool.true_and, hbb, ← Bool.decide_and]
          congr 1
          refine propext ⟨fun h => ?_, fun h => ?_⟩
          · refine e2.mpr (fun j hj => ?_)
            by_cases hj2 : j < Int.toNat z
            · exact e1.mp h.1 j hj2
            · have : j = Int.toNat z := by omega
              subst this
              exact ⟨by omega, by rw [show Int.toNat (t + 1) - 1 - Int.toNat z = Int.toNat t - Int.toNat z by omega]; exact h.2⟩
          · have := e2.mp h
            refine ⟨e1.mpr (fun j hj => this j (by omega)), ?_⟩
            have h3 := (this (Int.toNat z) (by omega)).2
            rw [show Int.toNat (t + 1) - 1 - Int.toNat z = Int.toNat t - Int.toNat z by omega] at h3
            exact h3
        · rw [decide_eq_false c1, Bool.false_and, Bool.and_false]
          symm
          apply decide_eq_false
          intro h
          have := (e2.mp h (Int.toNat z) (by omega)).1
          omega
      · have : z = (if v = 0 then 1 else v) := by split at h1 <;> split <;> omega
        rw [← this]; exact hyb t t0 t1
  refine loop kp_fu x 1 (by decide) (by split <;> omega) (kp_fu_big (by decide)) hx (fun t t0 t1 => ?_)
  rw [hb t t0 t1, z_rn1 t0]
  have h0 := (z_rn (s := A.1) (q := q) (l := l) (b := B) (x := t)).1
  by_cases c : decide (kz_on A.1 q l 2 t) = B
  · rw [decide_eq_true c, if_pos c, decide_eq_true (by omega)]
  · rw [decide_eq_false c, if_neg c, decide_eq_false (by omega)]
theorem z_tenth : ∀ j : Nat, j < 40 → kz_t 1074791425 j = decide (j % 10 = 0) := by decide
end RING
