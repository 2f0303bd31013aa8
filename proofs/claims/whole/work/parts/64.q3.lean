-- the class's questions: next, least
theorem z_mvle {f : Int → Int} {B : Int} (hB : 0 ≤ B) : ∀ {k : Nat}, (∀ i : Int, 0 ≤ i → i < k → f i ≤ B) → kz_mvN f k ≤ B
  | 0, _ => hB
  | k + 1, h => by
    have h1 := z_mvle (f := f) hB (k := k) (fun i h0 h1 => h i h0 (by omega))
    have h2 := h k (by omega) (by omega)
    rw [kz_mvN]; split <;> omega
theorem z_mvge {f : Int → Int} {i : Int} (h0 : 0 ≤ i) : ∀ {k : Nat}, i < k → f i ≤ kz_mvN f k
  | 0, h => by omega
  | k + 1, h => by
    rw [kz_mvN]
    by_cases e : i = k
    · subst e; split <;> omega
    · have := z_mvge (f := f) h0 (k := k) (by omega)
      split <;> omega
def kz_cf (g : Int → Int) (i y : Int) : Int := kp_sm (fun j => if i ≤ j ∧ g i = g j then 1 else 0) y
def kz_ca (g : Int → Int) (i y : Int) : Int := kp_sm (fun j => if g j = g i then 1 else 0) y
theorem z_smle {f g : Int → Int} : ∀ {n : Nat}, (∀ i : Int, 0 ≤ i → i < n → f i ≤ g i) → kp_smN f n ≤ kp_smN g n
  | 0, _ => Int.le_refl _
  | n + 1, h => by
    have h1 := z_smle (f := f) (g := g) (n := n) (fun i h0 h1 => h i h0 (by omega))
    have h2 := h n (by omega) (by omega)
    rw [kp_smN, kp_smN]; omega
theorem z_alike {g : Int → Int} {N : Int} (hN : 0 ≤ N) : kz_mv2 (fun i => kz_cf g i N) N = kz_mv2 (fun i => kz_ca g i N) N := by
  have fle : ∀ i, kz_cf g i N ≤ kz_ca g i N := fun i => z_smle (fun j _ _ => by
    by_cases c : i ≤ j ∧ g i = g j
    · rw [if_pos c, if_pos c.2.symm]; exact Int.le_refl _
    · rw [if_neg c]; split <;> omega)
  have mF : 0 ≤ kz_mv2 (fun i => kz_cf g i N) N := by
    unfold kz_mv2
    generalize N.toNat = k
    induction k with
    | zero => exact Int.le_refl _
    | succ k ih => rw [kz_mvN]; split <;> omega
  have mG : 0 ≤ kz_mv2 (fun i => kz_ca g i N) N := by
    unfold kz_mv2
    generalize N.toNat = k
    induction k with
    | zero => exact Int.le_refl _
    | succ k ih => rw [kz_mvN]; split <;> omega
  have key : ∀ (m : Nat) (i : Int), 0 ≤ i → i < N → i < m → kz_ca g i N ≤ kz_mv2 (fun i => kz_cf g i N) N := by
    intro m
    induction m with
    | zero => intro i h0 h1 h2; omega
    | succ m ih =>
      intro i h0 h1 h2
      by_cases c : ∃ j, 0 ≤ j ∧ j < i ∧ g j = g i
      · obtain ⟨j, j0, j1, e⟩ := c
        have := ih j j0 (by omega) (by omega)
        unfold kz_ca at this ⊢
        rw [e] at this
        exact this
      · have e : kz_ca g i N = kz_cf g i N := kp_sm_cong (fun j j0 j1 => by
          by_cases d : g j = g i
          · have : i ≤ j := by
              rcases Int.lt_or_le j i with h | h
              · exact absurd ⟨j, j0, h, d⟩ c
              · exact h
            rw [if_pos d, if_pos ⟨this, d.symm⟩]
          · rw [if_neg d, if_neg (fun w => d w.2.symm)])
        rw [e]
        exact z_mvge (f := fun i => kz_cf g i N) h0 (by omega)
  refine Int.le_antisymm (z_mvle mG (fun i h0 h1 => ?_)) (z_mvle mF (fun i h0 h1 => key (Int.toNat (i + 1)) i h0 (by omega) (by omega)))
  exact Int.le_trans (fle i) (z_mvge (f := fun i => kz_ca g i N) h0 h1)
section QC
variable {A : kz_A} {σ : kp_W}
/-- the class holds what is, the sounds stand, and only what a question may change has changed -/
def kz_P (A : kz_A) (b σ : kp_W) : Prop := kz_Fk b σ ∧ kz_H A σ ∧ σ 0 6 = 1 ∧ kz_Sn A 0 0 σ
theorem z_PU {b σ : kp_W} {j : Nat} {x : Int} (h : kz_P A b σ) : kz_P A b (kp_up σ 43 j x) := ⟨z_FkS h.1, z_HS h.2.1, by rw [kp_up_ne (by decide)]; exact h.2.2.1, z_SS h.2.2.2⟩
theorem z_PE {b σ : kp_W} (h : kz_P A b σ) : kz_E A σ := z_EP h.2.1 h.2.2.1 h.2.2.2
theorem c_mostAlike (hA : kz_I A) {b σ : kp_W} (hP : kz_P A b σ) {p t : Int} (hp : 0 ≤ p ∧ p ≤ 9) (ht : 0 ≤ t ∧ t < 40) {f : Int → kp_W → kp_R} {Q : Int → kp_W → Prop} (hk : ∀ σ', kz_P A b σ' → kp_ok (f (kz_ml A p t) σ') Q) : kp_ok (kp_bd (kf_X9_mostAlike p t σ) f) Q := by
  have h10 := hA.1.1.1
  refine k_bd ?_
  unfold kf_X9_mostAlike
  refine k_lt ?_
  have fill : ∀ (m : Nat) (y : Int) (σ1 : kp_W), 0 ≤ y → y ≤ A.1 0 → A.1 0 - y < m → kz_P A b σ1 → (∀ i, 0 ≤ i → i < y → σ1 43 (Int.toNat i) = kz_ad A 0 0 0 i p t) → ∀ (k : kp_W → kp_R) (R : Int → kp_W → Prop), (∀ σ', kz_P A b σ' → (∀ i, 0 ≤ i → i < A.1 0 → σ' 43 (Int.toNat i) = kz_ad A 0 0 0 i p t) → kp_ok (k σ') R) → kp_ok (kl_X9_mostAlike_2 p t m y σ1 k) R := by
    intro m
    induction m with
    | zero => intro y σ1 h0 h1 h2; omega
    | succ m ih =>
      intro y σ1 h0 h1 h2 hP1 hv k R hk
      rw [kl_X9_mostAlike_2, show σ1 11 5 = A.1 0 from hP1.2.1.2.2.2.2.2.2.1.1]
      refine k_ls ⟨by omega, by omega⟩ ⟨by omega, by omega⟩ (fun hy => k_e (c_heardAlone hA hP1.2.1 hP1.2.2.2 ⟨h0, hy⟩ hp ht) (k_ck (by omega) (k_lt (k_lt (ih _ _ (by omega) (by omega) (by omega) (z_PU hP1) (fun i i0 i1 => ?_) k R hk))))) (fun hy => hk σ1 hP1 (fun i i0 i1 => hv i i0 (by omega)))
      rw [kp_up_eq]
      by_cases h : i = y
      · rw [if_pos (by rw [h]), h]
      · rw [if_neg (by omega)]; exact hv i i0 (by omega)
  refine fill kp_fu _ σ (by decide) (by omega) (kp_fu_big (by omega)) hP (fun i i0 i1 => by omega) _ _ (fun σ1 hP1 hv => k_lt (k_lt ?_))
  have eN : σ1 11 5 = A.1 0 := hP1.2.1.2.2.2.2.2.2.1.1
  have hg : kz_ml A p t = kz_mv2 (fun i => kz_cf (fun i => kz_ad A 0 0 0 i p t) i (A.1 0)) (A.1 0) := by
    rw [z_alike h10.1]
    unfold kz_ml kz_mv2
    have e : ∀ k : Nat, (k : Int) ≤ A.1 0 → kz_mvN (kz_al A p t) k = kz_mvN (fun i => kz_ca (fun i => kz_ad A 0 0 0 i p t) i (A.1 0)) k := by
      intro k
      induction k with
      | zero => intro _; rfl
      | succ k ih =>
        intro hk
        have ek : kz_al A p t (k : Int) = kz_ca (fun i => kz_ad A 0 0 0 i p t) k (A.1 0) := by
          unfold kz_al kz_ca
          refine kp_sm_cong (fun o o0 o1 => ?_)
          unfold kz_h1
          rw [z_he1 ⟨o0, o1⟩, z_he1 (n := (k : Int)) ⟨by omega, by omega⟩]
        rw [kz_mvN, kz_mvN, ih (by omega), ek]
    exact e _ (by omega)
  have cfr : ∀ i y, 0 ≤ y → 0 ≤ kz_cf (fun i => kz_ad A 0 0 0 i p t) i y ∧ kz_cf (fun i => kz_ad A 0 0 0 i p t) i y ≤ y * 1 := fun i y hy => kp_sm_rng (by decide) hy (fun j _ _ => by dsimp only; split <;> omega)
  have inner : ∀ (i : Int), 0 ≤ i → i < A.1 0 → ∀ (m : Nat) (x y : Int), i ≤ y → y ≤ A.1 0 → A.1 0 - y < m → x = kz_cf (fun i => kz_ad A 0 0 0 i p t) i y → ∀ (k : Int → kp_R) (R : Int → kp_W → Prop), kp_ok (k (kz_cf (fun i => kz_ad A 0 0 0 i p t) i (A.1 0))) R → kp_ok (kl_X9_mostAlike_62 σ1 i m x y k) R := by
    intro i i0 i1 m
    induction m with
    | zero => intro x y h0 h1 h2; omega
    | succ m ih =>
      intro x y h0 h1 h2 hx k R hk
      have hs := kp_sm1 (fun j => if i ≤ j ∧ kz_ad A 0 0 0 i p t = kz_ad A 0 0 0 j p t then 1 else 0) (show 0 ≤ y by omega)
      rw [kl_X9_mostAlike_62, eN]
      refine k_ls ⟨by omega, by omega⟩ ⟨by omega, by omega⟩ (fun hy => k_ck (by omega) (k_ck (by omega) ?_)) (fun hy => ?_)
      · rw [hv i i0 i1, hv y (by omega) hy]
        have r1 := z_ad hA (q := 0) (l := 0) (e := 0) (n := i) (p := p) (t := t) ⟨i0, i1⟩
        have r2 := z_ad hA (q := 0) (l := 0) (e := 0) (n := y) (p := p) (t := t) ⟨by omega, hy⟩
        refine k_eq ⟨by omega, by omega⟩ ⟨by omega, by omega⟩ (fun c => k_lt (k_lt (ih _ _ (by omega) (by omega) (by omega) ?_ k R hk))) (fun c => k_lt (ih _ _ (by omega) (by omega) (by omega) ?_ k R hk))
        · simp only [if_pos (show i ≤ y ∧ kz_ad A 0 0 0 i p t = kz_ad A 0 0 0 y p t from ⟨h0, c⟩)] at hs
          rw [hx]; exact hs.symm
        · simp only [if_neg (show ¬ (i ≤ y ∧ kz_ad A 0 0 0 i p t = kz_ad A 0 0 0 y p t) from fun w => c w.2), Int.add_zero] at hs
          rw [hx]; exact hs.symm
      · have : y = A.1 0 := by omega
        rw [hx, this]; exact hk
  have outer : ∀ (m : Nat) (x y : Int), 0 ≤ y → y ≤ A.1 0 → A.1 0 - y < m → x = kz_mv2 (fun i => kz_cf (fun i => kz_ad A 0 0 0 i p t) i (A.1 0)) y → kp_ok (kl_X9_mostAlike_40 σ1 m x y (fun (x3_4 : Int) => some (x3_4, σ1))) (fun r σ' => kp_ok (f r σ') Q) := by
    intro m
    induction m with
    | zero => intro x y h0 h1 h2; omega
    | succ m ih =>
      intro x y h0 h1 h2 hx
      have h1' := z_mv1 (f := fun i => kz_cf (fun i => kz_ad A 0 0 0 i p t) i (A.1 0)) h0
      rw [← hx] at h1'
      have hxr := z_mvr (f := fun i => kz_cf (fun i => kz_ad A 0 0 0 i p t) i (A.1 0)) (c := 10) (x := y) (by decide) h0 (fun i i0 i1 => by have := cfr i (A.1 0) h10.1; omega)
      rw [← hx] at hxr
      have cy := cfr y (A.1 0) h10.1
      rw [kl_X9_mostAlike_40, eN]
      refine k_ls ⟨by omega, by omega⟩ ⟨by omega, by omega⟩ (fun hy => k_lt (k_lt (inner y h0 hy kp_fu 0 y (Int.le_refl _) (by omega) (kp_fu_big (by omega)) ?_ _ _ (k_ck ⟨⟨by omega, by omega⟩, by omega, by omega⟩ (k_lt (k_lt (ih _ _ (by omega) (by omega) (by omega) ?_))))))) (fun hy => k_some ?_)
      · unfold kz_cf
        rw [kp_sm_cong (g := fun _ => 0) (fun j j0 j1 => if_neg (fun w => by omega))]
        unfold kp_sm
        exact (z_smZ _).symm
      · rw [h1']; rfl
      · have : y = A.1 0 := by omega
        rw [hx, this, ← hg]; exact hk σ1 hP1
  exact outer kp_fu 0 0 (by decide) (by omega) (kp_fu_big (by omega)) rfl
theorem c_nextQ (hA : kz_I A) (hE : kz_E A σ) : kp_ok (kf_X9_next σ) (fun r σ' => r = kz_next A ∧ kz_Fk σ σ' ∧ kz_E A σ') := by
  have h10 := hA.1.1.1
  unfold kf_X9_next
  rw [show σ 11 5 = A.1 0 from hE.1.2.2.2.2.2.2.1.1]
  refine k_eq ⟨by omega, by omega⟩ (by decide) (fun c => k_some ⟨by unfold kz_next; rw [if_pos c], z_Fk0, hE⟩) (fun c => c_settle hA hE (fun σ1 f1 hH h6 hS => k_lt (k_lt (k_lt ?_))))
  have mlr : ∀ p t, 0 ≤ kz_ml A p t ∧ kz_ml A p t ≤ 10 := fun p t => z_mvr (by decide) h10.1 (fun i i0 i1 => by
    have := kp_sm_rng (f := fun o => if kz_h1 A p t o = kz_h1 A p t i then 1 else 0) (c := 1) (x := A.1 0) (by decide) h10.1 (fun j _ _ => by split <;> omega)
    unfold kz_al; omega)
  have inv1 : ∀ (p t b x : Int), 0 ≤ p → 0 ≤ t ∧ t < 40 → ((b = -5 ∧ x = 11 ∧ (kz_nx (kz_ml A) (40 * p + t)).1 = -5) ∨ (b ≠ -5 ∧ (b, x) = kz_nx (kz_ml A) (40 * p + t))) → (kz_ml A p t < x → (100 * p + t, kz_ml A p t) = kz_nx (kz_ml A) (40 * p + t + 1)) ∧ (¬ kz_ml A p t < x → b ≠ -5 ∧ (b, x) = kz_nx (kz_ml A) (40 * p + t + 1)) := by
    intro p t b x hp ht h
    have h1' := z_nx1 (f := kz_ml A) hp ht
    have hm := mlr p t
    rcases h with ⟨e1, e2, e3⟩ | ⟨e1, e2⟩
    · exact ⟨fun _ => by rw [h1', if_pos (Or.inl e3)], fun w => by omega⟩
    · rw [← e2] at h1'
      exact ⟨fun w => by rw [h1', if_pos (Or.inr w)], fun w => ⟨e1, by rw [h1', if_neg (fun u => u.elim e1 w)]⟩⟩
  have l37 : ∀ (p : Int), 0 ≤ p ∧ p ≤ 9 → ∀ (m : Nat) (b x t : Int) (σ2 : kp_W), 0 ≤ t → t ≤ 40 → 40 - t < m → kz_P A σ σ2 → ((b = -5 ∧ x = 11 ∧ (kz_nx (kz_ml A) (40 * p + t)).1 = -5) ∨ (b ≠ -5 ∧ (b, x) = kz_nx (kz_ml A) (40 * p + t))) → (0 ≤ x ∧ x ≤ 11) → (t = 40 → ¬ b = -5) → ∀ (k : Int → Int → kp_W → kp_R) (R : Int → kp_W → Prop), (∀ b x σ', kz_P A σ σ' → b ≠ -5 → (0 ≤ x ∧ x ≤ 11) → (b, x) = kz_nx (kz_ml A) (40 * p + 40) → kp_ok (k b x σ') R) → kp_ok (kl_X9_next_37 p m b x t σ2 k) R := by
    intro p hp m
    induction m with
    | zero => intro b x t σ2 h0 h1 h2; omega
    | succ m ih =>
      intro b x t σ2 h0 h1 h2 hP hI hx h40 k R hk
      rw [kl_X9_next_37]
      refine k_ls ⟨by omega, by omega⟩ (by decide) (fun ht => c_mostAlike hA hP hp ⟨h0, ht⟩ (fun σ3 hP3 => k_lt ?_)) (fun ht => ?_)
      · have hm := mlr p t
        obtain ⟨i1, i2⟩ := inv1 p t b x hp.1 ⟨h0, ht⟩ hI
        have e : 40 * p + (t + 1) = 40 * p + t + 1 := by omega
        refine k_ls ⟨by omega, by omega⟩ ⟨by omega, by omega⟩ (fun c => k_lt (k_lt (k_lt (ih _ _ _ _ (by omega) (by omega) (by omega) hP3 ?_ (by omega) (by omega) k R hk)))) (fun c => k_lt (ih _ _ _ _ (by omega) (by omega) (by omega) hP3 ?_ hx (fun _ => (i2 c).1) k R hk))
        · rw [e]; exact Or.inr ⟨by omega, i1 c⟩
        · rw [e]; exact Or.inr (i2 c)
      · have : t = 40 := by omega
        subst this
        rcases hI with ⟨e1, _⟩ | ⟨e1, e2⟩
        · exact absurd e1 (h40 rfl)
        · exact hk b x σ2 hP e1 hx e2
  have l28 : ∀ (m : Nat) (b x p : Int) (σ2 : kp_W), 0 ≤ p → p ≤ 10 → 10 - p < m → kz_P A σ σ2 → ((b = -5 ∧ x = 11 ∧ (kz_nx (kz_ml A) (40 * p)).1 = -5) ∨ (b ≠ -5 ∧ (b, x) = kz_nx (kz_ml A) (40 * p))) → (0 ≤ x ∧ x ≤ 11) → (p = 10 → ¬ b = -5) → kp_ok (kl_X9_next_28 m b x p σ2 (fun (x1_2 : Int) (σ_3 : kp_W) => some (x1_2, σ_3))) (fun r σ' => r = kz_next A ∧ kz_Fk σ σ' ∧ kz_E A σ') := by
    intro m
    induction m with
    | zero => intro b x p σ2 h0 h1 h2; omega
    | succ m ih =>
      intro b x p σ2 h0 h1 h2 hP hI hx h10'
      rw [kl_X9_next_28]
      refine k_ls ⟨by omega, by omega⟩ (by decide) (fun hp => k_lt (l37 p ⟨h0, by omega⟩ kp_fu _ _ 0 σ2 (by decide) (by decide) (kp_fu_big (by decide)) hP (by rw [Int.add_zero]; exact hI) hx (fun z => absurd z (by decide)) _ _ (fun b' x' σ3 hP3 hb hx' e => k_lt (ih _ _ _ _ (by omega) (by omega) (by omega) hP3 (Or.inr ⟨hb, ?_⟩) hx' (fun _ => hb))))) (fun hp => k_some ⟨?_, hP.1, z_PE hP⟩)
      · rw [e]; congr 1; omega
      · have : p = 10 := by omega
        subst this
        rcases hI with ⟨e1, _⟩ | ⟨e1, e2⟩
        · exact absurd e1 (h10' rfl)
        · unfold kz_next; rw [if_neg c, show (400 : Int) = 40 * 10 from rfl, ← e2]
  exact l28 kp_fu _ _ 0 σ1 (by decide) (by decide) (kp_fu_big (by decide)) ⟨f1, hH, h6, hS⟩ (Or.inl ⟨rfl, rfl, rfl⟩) (by decide) (fun z => absurd z (by decide))
theorem c_loose (hA : kz_I A) (hH : kz_H A σ) : kf_X3_loose σ = some (kz_mv A.1, σ) := by
  have h10 := hA.1.1.1
  have hs := z_still hA hH
  have hmv := z_mvr2 hA
  have hN := (show kz_Rn 11 A.1 σ from hH.2.2.2.2.2.2.1)
  have p10 := z_p10 h10.1 (c := 10) (by omega)
  have pp : (0 : Int) < 2 ^ (Int.toNat (A.1 0)) := Int.pow_pos (by decide)
  unfold kf_X3_loose
  rw [hN.1, Int.one_mul]
  refine k_is (k_ck ⟨h10.1, by omega⟩ (k_some ⟨?_, rfl⟩))
  have hm : 0 ≤ kp_and (2 ^ (Int.toNat (A.1 0)) - 1) (kp_xor (σ 11 4) (-1)) ∧ kp_and (2 ^ (Int.toNat (A.1 0)) - 1) (kp_xor (σ 11 4) (-1)) < 2 ^ 10 := kz_small32 (by decide) (kz_and_in _ _) (fun i h1 h2 => by
    rw [kz_and h2, kz_mask, decide_eq_false (by omega), Bool.false_and])
  refine kz_ext (k := 10) hm ⟨hmv.1, hmv.2⟩ (fun i hi => ?_)
  rw [kz_and (by omega), kz_mask, kz_xor (by omega), kz_m1, Bool.xor_true]
  unfold kz_mv
  rw [z_bst]
  by_cases c : i < Int.toNat (A.1 0)
  · have hb := (hN.2.2 (i : Int) (by omega) (by omega)).1
    rw [Int.toNat_natCast] at hb
    rw [decide_eq_true c, Bool.true_and, Bool.true_and]
    cases d : kz_t (σ 11 4) i
    · rw [z_bit0.mpr d] at hb
      exact (decide_eq_true (by omega)).symm
    · rw [kz_bit01, if_pos d] at hb
      exact (decide_eq_false (by omega)).symm
  · rw [decide_eq_false c, Bool.false_and, Bool.false_and]
theorem z_pcLt {x y : Int} (hx : 0 ≤ x ∧ x < 1024) (hy : 0 ≤ y ∧ y < 1024) (h : ∀ i : Nat, i < 12 → kz_t x i = true → kz_t y i = true) (hne : ¬ x = y) : kz_pc x < kz_pc y := by
  have hle : ∀ i : Int, 0 ≤ i → i < 12 → x / 2 ^ (Int.toNat i) % 2 ≤ y / 2 ^ (Int.toNat i) % 2 := by
    intro i i0 i1
    rw [kz_bit01, kz_bit01]
    by_cases c : kz_t x (Int.toNat i) = true
    · rw [if_pos c, if_pos (h _ (by omega) c)]; exact Int.le_refl _
    · rw [if_neg c]; split <;> omega
  have hex : ∃ i : Nat, i < 12 ∧ kz_t x i = false ∧ kz_t y i = true := by
    apply Classical.byContradiction
    intro hno
    apply hne
    refine kz_ext (k := 12) ⟨hx.1, by omega⟩ ⟨hy.1, by omega⟩ (fun i hi => ?_)
    cases c : kz_t x i
    · cases d : kz_t y i
      · rfl
      · exact absurd ⟨i, hi, c, d⟩ hno
    · exact (h i hi c).symm
  obtain ⟨j, hj, j0, j1⟩ := hex
  have key : ∀ m : Nat, m ≤ 12 → kp_smN (fun k => x / 2 ^ (Int.toNat k) % 2) m + (if j < m then 1 else 0) ≤ kp_smN (fun k => y / 2 ^ (Int.toNat k) % 2) m := by
    intro m
    induction m with
    | zero => intro _; rw [if_neg (by omega)]; exact Int.le_refl _
    | succ m ih =>
      intro hm
      have ih := ih (by omega)
      have hl := hle m (by omega) (by omega)
      rw [kp_smN, kp_smN]
      by_cases e : j = m
      · subst e
        rw [if_neg (by omega)] at ih
        rw [if_pos (by omega)]
        have e1 : x / 2 ^ (Int.toNat (j : Int)) % 2 = 0 := z_bit0.mpr j0
        have e2 : y / 2 ^ (Int.toNat (j : Int)) % 2 = 1 := by rw [kz_bit01, Int.toNat_natCast, if_pos j1]
        rw [e1, e2]; omega
      · by_cases d : j < m
        · rw [if_pos d] at ih; rw [if_pos (by omega)]; omega
        · rw [if_neg d] at ih; rw [if_neg (by omega)]; omega
  have := key 12 (by omega)
  rw [if_pos hj] at this
  unfold kz_pc kp_sm
  show kp_smN _ 12 < kp_smN _ 12
  omega
end QC
