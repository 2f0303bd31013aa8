-- the reference: what a house tells, what is on, warmth
theorem z_tl {s : Nat → Int} (h : kz_Is s) {j : Int} (h0 : 0 ≤ j) (h5 : j < 5) : 0 ≤ kz_tl s j ∧ kz_tl s j ≤ 99 := by
  unfold kz_tl
  by_cases e : s 4 = -1
  · rw [if_pos e]
    unfold kz_df
    repeat' split
    all_goals omega
  · rw [if_neg e]
    exact h.2.2.2.2.2 (by have := h.1.2.2.2.2; omega) j h0 h5
theorem r_tellsOf {σ : kp_W} (h : kz_Is (σ 1)) {j : Int} (h0 : 0 ≤ j) (h5 : j < 5) {a d : Int} (ha : a = 336 + 5 * j) (hd : d = kz_df j) : kf_X10_tellsOf a d σ = some (kz_tl (σ 1) j, σ) := by
  unfold kf_X10_tellsOf
  have h4 := h.1.2.2.2.2
  have h1 := h.1.2.1
  refine k_is (k_eq ⟨by omega, by omega⟩ (by decide) (fun e => k_some ⟨?_, rfl⟩) (fun e => k_ck (by omega) (k_some ⟨?_, rfl⟩)))
  · unfold kz_tl; rw [if_pos e, hd]
  · unfold kz_tl; rw [if_neg e, ha]
theorem r_told {σ : kp_W} (h : kz_Is (σ 1)) {j : Int} (hj : kp_in j) : kf_X10_told j σ = some (if 0 ≤ j ∧ j < 5 then kz_tl (σ 1) j else -1, σ) := by
  unfold kf_X10_told
  refine k_is (k_eq hj (by decide) (fun e => ?_) (fun e0 => k_eq hj (by decide) (fun e => ?_) (fun e1 => k_eq hj (by decide) (fun e => ?_) (fun e2 => k_eq hj (by decide) (fun e => ?_) (fun e3 => k_eq hj (by decide) (fun e => ?_) (fun e4 => ?_))))))
  · subst e; exact k_e (r_tellsOf h (j := 0) (by decide) (by decide) rfl rfl) (k_some ⟨rfl, rfl⟩)
  · subst e; exact k_e (r_tellsOf h (j := 1) (by decide) (by decide) rfl rfl) (k_some ⟨rfl, rfl⟩)
  · subst e; exact k_e (r_tellsOf h (j := 2) (by decide) (by decide) rfl rfl) (k_some ⟨rfl, rfl⟩)
  · subst e; exact k_e (r_tellsOf h (j := 3) (by decide) (by decide) rfl rfl) (k_some ⟨rfl, rfl⟩)
  · subst e; exact k_e (r_tellsOf h (j := 4) (by decide) (by decide) rfl rfl) (k_some ⟨rfl, rfl⟩)
  · exact k_some ⟨by rw [if_neg (by omega)], rfl⟩
theorem r_told5 {σ : kp_W} (h : kz_Is (σ 1)) {j : Int} (h0 : 0 ≤ j) (h5 : j < 5) : kf_X10_told j σ = some (kz_tl (σ 1) j, σ) := by
  rw [r_told h ⟨by omega, by omega⟩, if_pos ⟨h0, h5⟩]
theorem r_isOn {σ : kp_W} (h : kz_Is (σ 1)) {w t : Int} (hw : 0 ≤ w ∧ w < 3) (ht : 0 ≤ t ∧ t < 40) (hq : σ 0 16 = 0 ∨ σ 0 16 = 1) (hl : 0 ≤ σ 0 17 ∧ σ 0 17 ≤ 40) : kf_X10_isOn w t σ = some (kp_b (kz_on (σ 1) (σ 0 16) (σ 0 17) w t), σ) := by
  unfold kf_X10_isOn
  rw [kp_jeq]
  refine k_is (k_ck ⟨⟨by omega, by omega⟩, by decide⟩ (k_lt (k_ltv (fun x hx => ?_))))
  have hx2 : x ≤ 40 ∧ -40 ≤ x ∧ x < 40 := by rw [hx]; split <;> omega
  have hon : kz_on (σ 1) (σ 0 16) (σ 0 17) w t ↔ σ 0 16 = 0 ∧ 0 ≤ x ∧ σ 1 (Int.toNat (130 + 40 * w + x)) = 1 := by
    unfold kz_on
    rw [← hx]
  rw [kp_bI hon]
  refine k_eq ⟨by omega, by omega⟩ (by decide) (fun e => ?_) (fun e => k_some ⟨(kp_bF (by omega)).symm, rfl⟩)
  refine k_ls ⟨by omega, by omega⟩ (by decide) (fun e2 => k_some ⟨(kp_bF (by omega)).symm, rfl⟩) (fun e2 => ?_)
  have hb := h.2.2.1 (40 * w + x) (by omega) (by omega)
  rw [show 130 + (40 * w + x) = 130 + 40 * w + x by omega] at hb
  refine k_ck (by omega) (k_eq ⟨by omega, by omega⟩ (by decide) (fun e3 => k_some ⟨(kp_bT (by omega)).symm, rfl⟩) (fun e3 => k_some ⟨(kp_bF (by omega)).symm, rfl⟩))
theorem z_w0 (s : Nat → Int) (q l : Int) : kz_w s q l 0 = 0 := rfl
theorem z_w1 (s : Nat → Int) (q l : Int) {x : Int} (h : 0 ≤ x) : kz_w s q l (x + 1) = (if kz_w s q l x + (if kz_on s q l 0 x then kz_tl s 0 else -kz_tl s 1) < 0 then 0 else if 99 < kz_w s q l x + (if kz_on s q l 0 x then kz_tl s 0 else -kz_tl s 1) then 99 else kz_w s q l x + (if kz_on s q l 0 x then kz_tl s 0 else -kz_tl s 1)) := by
  unfold kz_w
  rw [Int.toNat_add h (by decide)]
  show kz_wN s q l (x.toNat + 1) = _
  rw [kz_wN, Int.toNat_of_nonneg h]
theorem z_w {s : Nat → Int} {q l : Int} : ∀ {x : Int}, 0 ≤ kz_w s q l x ∧ kz_w s q l x ≤ 99 := by
  intro x
  unfold kz_w
  generalize x.toNat = k
  cases k with
  | zero =>
    show (0 : Int) ≤ 0 ∧ (0 : Int) ≤ 99
    decide
  | succ k =>
    rw [kz_wN]
    repeat' split
    all_goals omega
theorem r_warmsL {s r0 : Nat → Int} (h : kz_Is s) (hq : r0 16 = 0 ∨ r0 16 = 1) (hl : 0 ≤ r0 17 ∧ r0 17 ≤ 40) {Q : Int → kp_W → Prop} (k : kp_W → kp_R) (b : kp_W) : ∀ (n : Nat) (x1 x2 : Int) (σ : kp_W), 0 ≤ x2 → x2 ≤ 40 → 40 - x2 < n → x1 = kz_w s (r0 16) (r0 17) x2 → σ 1 = s → σ 0 = r0 → (∀ a, a ≠ 5 → σ a = b a) → (∀ t, 0 ≤ t → t < x2 → σ 5 (Int.toNat t) = kz_w s (r0 16) (r0 17) (t + 1)) → (∀ σ', (∀ a, a ≠ 5 → σ' a = b a) → (∀ t, 0 ≤ t → t < 40 → σ' 5 (Int.toNat t) = kz_w s (r0 16) (r0 17) (t + 1)) → kp_ok (k σ') Q) → kp_ok (kl_X10_warms_4 n x1 x2 σ k) Q := by
  intro n
  induction n with
  | zero => intro x1 x2 σ h0 h1 h2; omega
  | succ n ih =>
    intro x1 x2 σ h0 h1 h2 e1 es e0 eb ev hk
    rw [kl_X10_warms_4]
    refine k_ls ⟨by omega, by omega⟩ (by decide) (fun hx => ?_) (fun hx => ?_)
    · have hi : kz_Is (σ 1) := by rw [es]; exact h
      have t0 := z_tl h (j := 0) (by decide) (by decide)
      have t1 := z_tl h (j := 1) (by decide) (by decide)
      have hw := z_w (s := s) (q := r0 16) (l := r0 17) (x := x2)
      refine k_e (r_isOn hi (w := 0) (t := x2) (by decide) (by omega) (by rw [e0]; exact hq) (by rw [e0]; exact hl)) ?_
      rw [es, e0]
      refine k_jvs (if kz_on s (r0 16) (r0 17) 0 x2 then kz_tl s 0 else -kz_tl s 1) σ ?_ (fun j hj => ?_)
      · refine k_lt ?_
        have hz := z_w1 s (r0 16) (r0 17) h0
        rw [← e1] at hz hw
        generalize hd : (if kz_on s (r0 16) (r0 17) 0 x2 then kz_tl s 0 else -kz_tl s 1) = d at hz ⊢
        have hdr : -99 ≤ d ∧ d ≤ 99 := by rw [← hd]; split <;> omega
        refine k_jv (if x1 + d < 0 then 0 else if 99 < x1 + d then 99 else x1 + d) ?_ (fun j hj => ?_)
        · rw [← hz]
          refine k_lt (k_ck (by omega) (k_lt (k_lt (ih _ _ _ (by omega) (by omega) (by omega) rfl ?_ ?_ ?_ ?_ hk))))
          · rw [kp_up_ne (by decide)]; exact es
          · rw [kp_up_ne (by decide)]; exact e0
          · intro a ha; rw [kp_up_ne ha]; exact eb a ha
          · intro t ht0 ht1
            rw [kp_up_eq]
            by_cases q : t = x2
            · subst q; rw [if_pos rfl]
            · rw [if_neg (by omega)]; exact ev t ht0 (by omega)
        · refine k_ls ⟨by omega, by omega⟩ (by decide) (fun q => ?_) (fun q => k_ls (by decide) ⟨by omega, by omega⟩ (fun q2 => ?_) (fun q2 => ?_))
          · rw [if_pos q] at hj; exact hj
          · rw [if_neg q, if_pos q2] at hj; exact hj
          · rw [if_neg q, if_neg q2] at hj; exact hj
      · refine k_b (fun q => ?_) (fun q => ?_)
        · rw [if_neg q] at hj
          refine k_e (r_told5 hi (by decide) (by decide)) ?_
          rw [es]; exact hj
        · rw [if_pos q] at hj
          refine k_e (r_told5 hi (by decide) (by decide)) ?_
          rw [es]; exact hj
    · have : x2 = 40 := by omega
      subst this
      exact hk σ eb ev
theorem r_warms {σ : kp_W} (h : kz_Is (σ 1)) (hq : σ 0 16 = 0 ∨ σ 0 16 = 1) (hl : 0 ≤ σ 0 17 ∧ σ 0 17 ≤ 40) {Q : Int → kp_W → Prop} (hQ : ∀ σ', (∀ a, a ≠ 5 → σ' a = σ a) → (∀ t, 0 ≤ t → t < 40 → σ' 5 (Int.toNat t) = kz_w (σ 1) (σ 0 16) (σ 0 17) (t + 1)) → Q 0 σ') : kp_ok (kf_X10_warms σ) Q := by
  unfold kf_X10_warms
  refine k_lt (k_lt (r_warmsL h hq hl _ σ kp_fu _ _ σ (by decide) (by decide) (kp_fu_big (by decide)) rfl rfl rfl (fun _ _ => rfl) (fun t h0 h1 => by omega) (fun σ' h1 h2 => k_some (hQ σ' h1 h2))))
theorem r_warmth {σ : kp_W} (h : kz_Is (σ 1)) (hq : σ 0 16 = 0 ∨ σ 0 16 = 1) (hl : 0 ≤ σ 0 17 ∧ σ 0 17 ≤ 40) {a : Int} (ha : kp_in a) {Q : Int → kp_W → Prop} (hQ : ∀ σ', (∀ a, a ≠ 5 → σ' a = σ a) → Q (if 0 ≤ a ∧ a ≤ 39 then kz_w (σ 1) (σ 0 16) (σ 0 17) (a + 1) else -1) σ') : kp_ok (kf_X10_warmth a σ) Q := by
  unfold kf_X10_warmth
  refine k_e (r_isMinute ha) (k_b (fun q => ?_) (fun q => ?_))
  · rw [if_neg q] at hQ; exact k_some (hQ σ (fun _ _ => rfl))
  · rw [if_pos q] at hQ
    refine k_bd (r_warms h hq hl (fun σ' h1 h2 => k_ck (by omega) (k_some ?_)))
    rw [h2 a q.1 (by omega)]
    exact hQ σ' h1
