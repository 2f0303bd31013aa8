-- the class's questions: odds, which
theorem z_gcE {x y : Int} (h1 : 0 ≤ x ∧ x ≤ 1000) (h2 : 0 ≤ y ∧ y ≤ 1000) : kz_gc 1001 x y = if y = 0 then x else kz_gc 1001 y (x % y) := by
  rw [show (1001 : Nat) = 1000 + 1 from rfl, kz_gc]
  by_cases h : y = 0
  · rw [if_pos h, if_pos h]
  · rw [if_neg h, if_neg h]
    have h3 : 0 ≤ x % y := Int.emod_nonneg _ h
    have h4 : x % y < y := Int.emod_lt_of_pos _ (by omega)
    exact ((z_gc (n := 1000) h2.1 h3 (by omega)).1 1001 (by omega)).symm
section QB
variable {A : kz_A} {σ : kp_W}
theorem c_bcF (hA : kz_I A) {q l z : Int} : kp_bc (kz_ft A q l z) = kz_pc (kz_ft A q l z) := z_bc (z_ft hA)
theorem c_mostFitting (hA : kz_I A) (hH : kz_H A σ) (hS : kz_Sn A 0 0 σ) : kf_X9_mostFitting σ = some ((kz_mx (kz_c1 A) (-5) (-1) (A.1 0)).1, σ) := by
  have h10 := hA.1.1.1
  have loop : ∀ (m : Nat) (b x y : Int), 0 ≤ y → y ≤ A.1 0 → A.1 0 - y < m → (b, x) = kz_mx (kz_c1 A) (-5) (-1) y → kp_ok (kl_X9_mostFitting_7 m b x y σ (fun (x1_2 : Int) (σ2 : kp_W) => some (x1_2, σ2))) (fun r' σ' => r' = (kz_mx (kz_c1 A) (-5) (-1) (A.1 0)).1 ∧ σ' = σ) := by
    intro m
    induction m with
    | zero => intro b x y h0 h1 h2; omega
    | succ m ih =>
      intro b x y h0 h1 h2 hx
      have hx1 : x = (kz_mx (kz_c1 A) (-5) (-1) y).2 := by rw [← hx]
      have hr := z_mxr (f := kz_c1 A) (b := -5) (m := -1) (c := 12) (x := y) (by decide) h0 (fun i _ _ => z_pc)
      rw [← hx1] at hr
      have hc : 0 ≤ kz_c1 A y ∧ kz_c1 A y ≤ 12 := z_pc
      have h1' := z_mx1 (f := kz_c1 A) (b := -5) (m := -1) h0
      rw [kl_X9_mostFitting_7, show σ 11 5 = A.1 0 from hH.2.2.2.2.2.2.1.1]
      refine k_ls ⟨by omega, by omega⟩ ⟨by omega, by omega⟩ (fun hy => k_e (c_fittingRows hA hH hS ⟨h0, hy⟩) (k_lt ?_)) (fun hy => k_some ⟨?_, rfl⟩)
      · rw [c_bcF hA]
        show kp_ok (kp_ls x (kz_c1 A y) _ _) _
        refine k_ls ⟨by omega, by omega⟩ ⟨by omega, by omega⟩ (fun c => k_lt (k_lt (k_lt (ih _ _ _ (by omega) (by omega) (by omega) ?_)))) (fun c => k_lt (ih _ _ _ (by omega) (by omega) (by omega) ?_))
        · rw [h1', ← hx, if_pos c]; rfl
        · rw [h1', ← hx, if_neg c]
      · have : y = A.1 0 := by omega
        rw [← this, ← hx]
  unfold kf_X9_mostFitting
  exact k_is (k_lt (k_lt (k_lt (loop kp_fu _ _ 0 (by decide) (by omega) (kp_fu_big (by omega)) rfl))))
theorem c_worst (hA : kz_I A) (hH : kz_H A σ) (hS : kz_Sn A 0 0 σ) : kf_X9_worst σ = some ((kz_mx (kz_hm A) (-5) (-1) (A.1 0)).1, σ) := by
  have h10 := hA.1.1.1
  have loop : ∀ (m : Nat) (b x y : Int), 0 ≤ y → y ≤ A.1 0 → A.1 0 - y < m → (b, x) = kz_mx (kz_hm A) (-5) (-1) y → kp_ok (kl_X9_worst_7 m b x y σ (fun (x1_2 : Int) (σ2 : kp_W) => some (x1_2, σ2))) (fun r' σ' => r' = (kz_mx (kz_hm A) (-5) (-1) (A.1 0)).1 ∧ σ' = σ) := by
    intro m
    induction m with
    | zero => intro b x y h0 h1 h2; omega
    | succ m ih =>
      intro b x y h0 h1 h2 hx
      have hx1 : x = (kz_mx (kz_hm A) (-5) (-1) y).2 := by rw [← hx]
      have hr := z_mxr (f := kz_hm A) (b := -5) (m := -1) (c := 14400) (x := y) (by decide) h0 (fun i i0 i1 => z_hm hA ⟨i0, by omega⟩)
      rw [← hx1] at hr
      have h1' := z_mx1 (f := kz_hm A) (b := -5) (m := -1) h0
      rw [kl_X9_worst_7, show σ 11 5 = A.1 0 from hH.2.2.2.2.2.2.1.1]
      refine k_ls ⟨by omega, by omega⟩ ⟨by omega, by omega⟩ (fun hy => k_e (c_harmOf hA hH hS ⟨h0, hy⟩) (k_lt ?_)) (fun hy => k_some ⟨?_, rfl⟩)
      · have hc := z_hm hA ⟨h0, hy⟩
        refine k_ls ⟨by omega, by omega⟩ ⟨by omega, by omega⟩ (fun c => k_lt (k_lt (k_lt (ih _ _ _ (by omega) (by omega) (by omega) ?_)))) (fun c => k_lt (ih _ _ _ (by omega) (by omega) (by omega) ?_))
        · rw [h1', ← hx, if_pos c]
        · rw [h1', ← hx, if_neg c]
      · have : y = A.1 0 := by omega
        rw [← this, ← hx]
  unfold kf_X9_worst
  exact k_is (k_lt (k_lt (k_lt (loop kp_fu _ _ 0 (by decide) (by omega) (kp_fu_big (by omega)) rfl))))
theorem c_greatest {x y : Int} (hx : 0 ≤ x ∧ x ≤ 12) (hy : 0 ≤ y ∧ y ≤ 120) : kf_X9_greatestShared x y σ = some (kz_gc 1001 x y, σ) := by
  have loop : ∀ (m : Nat) (x y z : Int), 0 ≤ x ∧ x ≤ 1000 → 0 ≤ y ∧ y ≤ 1000 → 0 ≤ z → y + z < 100 → y < m → kp_ok (kl_X9_greatestShared_7 m x y z (fun (a : Int) => some (a, σ))) (fun r' σ' => r' = kz_gc 1001 x y ∧ σ' = σ) := by
    intro m
    induction m with
    | zero => intro x y z h0 h1 h2; omega
    | succ m ih =>
      intro x y z h0 h1 h2 h3 h4
      rw [kl_X9_greatestShared_7]
      refine k_ls ⟨by omega, by omega⟩ (by decide) (fun _ => k_eq ⟨by omega, by omega⟩ (by decide) (fun h => k_some ⟨?_, rfl⟩) (fun h => ?_)) (fun h => by omega)
      · rw [z_gcE h0 h1, if_pos h]
      · have h5 : 0 ≤ x % y := Int.emod_nonneg _ h
        have h6 : x % y < y := Int.emod_lt_of_pos _ (by omega)
        refine k_ck ⟨by omega, by omega, by omega, by omega⟩ (k_lt (k_lt (k_lt (k_lt ?_))))
        rw [z_gcE h0 h1, if_neg h]
        exact ih y (x % y) _ h1 ⟨h5, by omega⟩ (by omega) (by omega) (by omega)
  unfold kf_X9_greatestShared
  refine k_is (k_lt (k_lt (k_lt ?_)))
  rw [kp_fu_eq, show (100000 : Nat) = 99999 + 1 from rfl, kl_X9_greatestShared_7]
  refine k_ls (by decide) (by decide) (fun _ => k_eq ⟨by omega, by omega⟩ (by decide) (fun h => k_some ⟨?_, rfl⟩) (fun h => ?_)) (fun h => by omega)
  · rw [z_gcE ⟨hx.1, by omega⟩ ⟨hy.1, by omega⟩, if_pos h]
  · have h5 : 0 ≤ x % y := Int.emod_nonneg _ h
    have h6 : x % y < y := Int.emod_lt_of_pos _ (by omega)
    have h7 : x % y ≤ 12 := by
      by_cases hxy : x < y
      · rw [Int.emod_eq_of_lt hx.1 hxy]; omega
      · omega
    refine k_ck ⟨by omega, by omega, by omega, by omega⟩ (k_lt (k_lt (k_lt (k_lt ?_))))
    rw [z_gcE ⟨hx.1, by omega⟩ ⟨hy.1, by omega⟩, if_neg h]
    exact loop 99999 y (x % y) _ ⟨hy.1, by omega⟩ ⟨h5, by omega⟩ (by omega) (by omega) (by omega)
theorem c_oddsQ (hA : kz_I A) (hE : kz_E A σ) {n p : Int} (hn : kp_in n) (hp : kp_in p) : kp_ok (kf_X9_odds n p σ) (fun r σ' => r = (if ¬ (0 ≤ n ∧ n < A.1 0) ∨ ¬ (0 ≤ p ∧ p ≤ 1) then -1 else if kz_od A = 0 then p else (if p = 0 then kz_c1 A n else kz_od A) / kz_gc 1001 (kz_c1 A n) (kz_od A)) ∧ kz_Fk σ σ' ∧ kz_E A σ') := by
  have h10 := hA.1.1.1
  unfold kf_X9_odds
  refine k_e (c_has hA hE.1 hn) (k_b (fun c => k_some ⟨by rw [if_pos (Or.inl c)], z_Fk0, hE⟩) (fun c => k_ls hp (by decide) (fun d => k_some ⟨by rw [if_pos (Or.inr (by omega))], z_Fk0, hE⟩) (fun d => k_ls (by decide) hp (fun e => k_some ⟨by rw [if_pos (Or.inr (by omega))], z_Fk0, hE⟩) (fun e => c_settle hA hE (fun σ1 f1 hH h6 hS => k_lt (k_lt ?_))))))
  rw [if_neg (by omega)]
  have loop : ∀ (m : Nat) (x y : Int) (k : Int → kp_W → kp_R) (R : Int → kp_W → Prop), 0 ≤ y → y ≤ A.1 0 → A.1 0 - y < m → x = kp_sm (kz_c1 A) y → kp_ok (k (kz_od A) σ1) R → kp_ok (kl_X9_odds_34 m x y σ1 k) R := by
    intro m
    induction m with
    | zero => intro x y k R h0 h1 h2; omega
    | succ m ih =>
      intro x y k R h0 h1 h2 hx hk
      rw [kl_X9_odds_34, show σ1 11 5 = A.1 0 from hH.2.2.2.2.2.2.1.1]
      refine k_ls ⟨by omega, by omega⟩ ⟨by omega, by omega⟩ (fun hy => k_e (c_fittingRows hA hH hS ⟨h0, hy⟩) (k_lt (k_lt (ih _ _ k R (by omega) (by omega) (by omega) ?_ hk)))) (fun hy => ?_)
      · rw [kp_sm1 _ h0, hx, c_bcF hA]; rfl
      · have : x = kz_od A := by rw [hx]; unfold kz_od; congr 1; omega
        rw [this]
        exact hk
  refine loop kp_fu _ _ _ _ (by decide) (by omega) (kp_fu_big (by omega)) rfl ?_
  have ho := z_od hA
  have hc : 0 ≤ kz_c1 A n ∧ kz_c1 A n ≤ 12 := z_pc
  refine k_eq ⟨by omega, by omega⟩ (by decide) (fun z => k_some ⟨by rw [if_pos z], f1, z_EP hH h6 hS⟩) (fun z => k_e (c_fittingRows hA hH hS c) (k_lt ?_))
  rw [c_bcF hA, if_neg z]
  show kp_ok (kp_bd (kf_X9_greatestShared (kz_c1 A n) (kz_od A) σ1) _) _
  have g := z_gc (n := 1001) (x := kz_c1 A n) (y := kz_od A) (by omega) (by omega) (by omega)
  have g2 := g.2.2.1 (Or.inr (by omega))
  have g3 := g.2.2.2
  refine k_e (c_greatest hc ho) (k_lt (k_ls ⟨by omega, by omega⟩ (by decide) (fun w => by omega) (fun w => k_eq hp (by decide) (fun u => k_ck ⟨hc.1, ?_, by omega, by omega⟩ (k_some ⟨?_, f1, z_EP hH h6 hS⟩)) (fun u => k_ck ⟨by omega, by omega, by omega, by omega⟩ (k_some ⟨?_, f1, z_EP hH h6 hS⟩)))))
  · show kz_c1 A n ≤ _; omega
  · rw [if_pos u]; rfl
  · rw [if_neg u]
/-- the shares of a table -/
theorem c_shareOf (hA : kz_I A) (hH : kz_H A σ) {w z : Int} (hw : 0 ≤ w ∧ w < 12) (hz : kp_in z) {g : Int → Int} (hg : ∀ i, 0 ≤ i → i < A.1 0 → σ 43 (Int.toNat (w * 10 + i)) = g i) : kf_X9_shareOf w z σ = some (kp_sm (fun i => if z / 2 ^ (Int.toNat i) % 2 = 1 then g i else 0) (A.1 0), σ) := by
  have h10 := hA.1.1.1
  have loop : ∀ (m : Nat) (x y : Int), 0 ≤ y → y ≤ A.1 0 → A.1 0 - y < m → x = kp_sm (fun i => if z / 2 ^ (Int.toNat i) % 2 = 1 then g i else 0) y → kp_ok (kl_X9_shareOf_5 w z σ m x y (fun (x3_2 : Int) => some (x3_2, σ))) (fun r' σ' => r' = kp_sm (fun i => if z / 2 ^ (Int.toNat i) % 2 = 1 then g i else 0) (A.1 0) ∧ σ' = σ) := by
    intro m
    induction m with
    | zero => intro x y h0 h1 h2; omega
    | succ m ih =>
      intro x y h0 h1 h2 hx
      have hs := kp_sm1 (fun i => if z / 2 ^ (Int.toNat i) % 2 = 1 then g i else 0) h0
      rw [← hx] at hs
      rw [kl_X9_shareOf_5, show σ 11 5 = A.1 0 from hH.2.2.2.2.2.2.1.1, kz_and1]
      refine k_ls ⟨by omega, by omega⟩ ⟨by omega, by omega⟩ (fun hy => k_ck ⟨hz, by omega, by omega⟩ (k_eq ⟨by omega, by omega⟩ (by decide) (fun c => k_lt (ih _ _ (by omega) (by omega) (by omega) ?_)) (fun c => k_ck (by omega) (k_lt (k_lt (ih _ _ (by omega) (by omega) (by omega) ?_)))))) (fun hy => k_some ⟨?_, rfl⟩)
      · simp only [if_neg (show ¬ z / 2 ^ (Int.toNat y) % 2 = 1 by omega), Int.add_zero] at hs
        exact hs.symm
      · simp only [if_pos (show z / 2 ^ (Int.toNat y) % 2 = 1 by omega)] at hs
        rw [hg y h0 hy]; exact hs.symm
      · rw [hx]; congr 1; omega
  unfold kf_X9_shareOf
  exact k_is (k_lt (k_lt (loop kp_fu 0 0 (by decide) (by omega) (kp_fu_big (by omega)) rfl)))
theorem z_bsAll {P : Int → Bool} : ∀ {x : Nat}, (kz_bN P x = 2 ^ x - 1 ↔ ∀ i : Int, 0 ≤ i → i < x → P i = true)
  | 0 => ⟨fun _ i h0 h1 => by omega, fun _ => rfl⟩
  | x + 1 => by
    have hp : (2 : Int) ^ (x + 1) = 2 ^ x + 2 ^ x := by rw [Int.pow_succ]; omega
    have hb := z_bN P x
    have hpp : (0 : Int) < 2 ^ x := Int.pow_pos (by decide)
    rw [kz_bN, hp]
    constructor
    · intro h i i0 i1
      by_cases c : P x = true
      · rw [if_pos c] at h
        by_cases e : i = x
        · subst e; exact c
        · exact (z_bsAll (x := x)).mp (by omega) i i0 (by omega)
      · rw [if_neg c] at h; omega
    · intro h
      rw [if_pos (h x (by omega) (by omega)), (z_bsAll (x := x)).mpr (fun i i0 i1 => h i i0 (by omega))]
      omega
theorem z_FkS {b σ : kp_W} {j : Nat} {x : Int} (f : kz_Fk b σ) : kz_Fk b (kp_up σ 43 j x) := ⟨fun a a0 a1 a2 a3 a4 a5 a6 a7 => by rw [kp_up_ne a7]; exact f.1 a a0 a1 a2 a3 a4 a5 a6 a7, fun j hj => by rw [kp_up_ne (by decide)]; exact f.2 j hj⟩
theorem z_HS {j : Nat} {x : Int} (h : kz_H A σ) : kz_H A (kp_up σ 43 j x) := z_RhF (fun a h1 h2 => kp_up_ne (by omega)) h
theorem z_SS {q l : Int} {j : Nat} {x : Int} (h : kz_Sn A q l σ) : kz_Sn A q l (kp_up σ 43 j x) := by
  obtain ⟨a1, a2, a3⟩ := h
  refine ⟨?_, fun i i0 i1 => z_SrF (kp_up_ne (by decide)) (kp_up_ne (by decide)) (kp_up_ne (by decide)) (a2 i i0 i1), fun i i0 i1 t t0 t1 => by rw [kp_up_ne (by decide)]; exact a3 i i0 i1 t t0 t1⟩
  unfold kz_Wm; rw [kp_up_ne (by decide)]; exact a1
theorem c_allFitting (hA : kz_I A) (hH : kz_H A σ) (h6 : σ 0 6 = 1) (hS : kz_Sn A 0 0 σ) {f : Int → kp_W → kp_R} {Q : Int → kp_W → Prop} (hk : ∀ σ', kz_Fk σ σ' → kz_E A σ' → kp_ok (f (kz_af A (2 ^ (Int.toNat (A.1 0)))) σ') Q) : kp_ok (kp_bd (kf_X9_allFitting σ) f) Q := by
  have h10 := hA.1.1.1
  have h12 := hA.1.1.2.2.1
  have p10 := z_p10 h10.1 (c := 10) (by omega)
  have pp : (0 : Int) < 2 ^ (Int.toNat (A.1 0)) := Int.pow_pos (by decide)
  refine k_bd ?_
  unfold kf_X9_allFitting
  refine k_lt ?_
  have inner : ∀ (w : Int), 0 ≤ w → w < A.1 2 → ∀ (m : Nat) (y : Int) (σ1 : kp_W), 0 ≤ y → y ≤ A.1 0 → A.1 0 - y < m → kz_Fk σ σ1 → kz_H A σ1 → σ1 0 6 = 1 → kz_Sn A 0 0 σ1 → (∀ r i, 0 ≤ r → (r < w ∨ (r = w ∧ i < y)) → 0 ≤ i → i < A.1 0 → σ1 43 (Int.toNat (r * 10 + i)) = kz_ad A 0 0 0 i (A.1 (Int.toNat (300 + r))) (A.1 (Int.toNat (312 + r)))) → ∀ (k : kp_W → kp_R) (R : Int → kp_W → Prop), (∀ σ', kz_Fk σ σ' → kz_H A σ' → σ' 0 6 = 1 → kz_Sn A 0 0 σ' → (∀ r i, 0 ≤ r → r < w + 1 → 0 ≤ i → i < A.1 0 → σ' 43 (Int.toNat (r * 10 + i)) = kz_ad A 0 0 0 i (A.1 (Int.toNat (300 + r))) (A.1 (Int.toNat (312 + r)))) → kp_ok (k σ') R) → kp_ok (kl_X9_allFitting_18 w m y σ1 k) R := by
    intro w w0 w1 m
    induction m with
    | zero => intro y σ1 h0 h1 h2; omega
    | succ m ih =>
      intro y σ1 h0 h1 h2 hF hH1 h61 hS1 hv k R hk
      have hB : kz_Rb 16 A.1 σ1 := hH1.2.2.2.2.2.2.2
      obtain ⟨e17, e18, _⟩ := hB.2 w w0 w1
      have hr := hA.1.2.2.2.2.1 w w0 w1
      rw [kl_X9_allFitting_18, show σ1 11 5 = A.1 0 from hH1.2.2.2.2.2.2.1.1, show σ1 17 (Int.toNat w) = _ from e17, show σ1 18 (Int.toNat w) = _ from e18]
      refine k_ls ⟨by omega, by omega⟩ ⟨by omega, by omega⟩ (fun hy => k_ck (by omega) (k_ck (by omega) (k_e (c_heardAlone hA hH1 hS1 ⟨h0, hy⟩ hr.1 ⟨by omega, by omega⟩) (k_ck (by omega) (k_lt (k_lt (ih _ _ (by omega) (by omega) (by omega) (z_FkS hF) (z_HS hH1) (by rw [kp_up_ne (by decide)]; exact h61) (z_SS hS1) (fun r i r0 rw i0 i1 => ?_) k R hk))))))) (fun hy => hk σ1 hF hH1 h61 hS1 (fun r i r0 r1 i0 i1 => hv r i r0 (by omega) i0 i1))
      rw [kp_up_eq]
      by_cases h : r = w ∧ i = y
      · rw [if_pos (by rw [h.1, h.2]), h.1, h.2]
      · rw [if_neg (by omega)]
        exact hv r i r0 (by omega) i0 i1
  have outer : ∀ (m : Nat) (w : Int) (σ1 : kp_W), 0 ≤ w → w ≤ A.1 2 → A.1 2 - w < m → kz_Fk σ σ1 → kz_H A σ1 → σ1 0 6 = 1 → kz_Sn A 0 0 σ1 → (∀ r i, 0 ≤ r → r < w → 0 ≤ i → i < A.1 0 → σ1 43 (Int.toNat (r * 10 + i)) = kz_ad A 0 0 0 i (A.1 (Int.toNat (300 + r))) (A.1 (Int.toNat (312 + r)))) → ∀ (k : kp_W → kp_R) (R : Int → kp_W → Prop), (∀ σ', kz_Fk σ σ' → kz_H A σ' → σ' 0 6 = 1 → kz_Sn A 0 0 σ' → (∀ r i, 0 ≤ r → r < A.1 2 → 0 ≤ i → i < A.1 0 → σ' 43 (Int.toNat (r * 10 + i)) = kz_ad A 0 0 0 i (A.1 (Int.toNat (300 + r))) (A.1 (Int.toNat (312 + r)))) → kp_ok (k σ') R) → kp_ok (kl_X9_allFitting_2 m w σ1 k) R := by
    intro m
    induction m with
    | zero => intro w σ1 h0 h1 h2; omega
    | succ m ih =>
      intro w σ1 h0 h1 h2 hF hH1 h61 hS1 hv k R hk
      rw [kl_X9_allFitting_2, show σ1 16 3 = A.1 2 from hH1.2.2.2.2.2.2.2.1]
      exact k_ls ⟨by omega, by omega⟩ ⟨by omega, by omega⟩ (fun hw => k_lt (inner w h0 hw kp_fu _ σ1 (by decide) (by omega) (kp_fu_big (by omega)) hF hH1 h61 hS1 (fun r i r0 r1 i0 i1 => hv r i r0 (by omega) i0 i1) _ _ (fun σ2 f2 g2 g6 s2 v2 => k_lt (ih _ _ (by omega) (by omega) (by omega) f2 g2 g6 s2 v2 k R hk)))) (fun hw => hk σ1 hF hH1 h61 hS1 (fun r i r0 r1 i0 i1 => hv r i r0 (by omega) i0 i1))
  refine outer kp_fu _ σ (by decide) (by omega) (kp_fu_big (by omega)) z_Fk0 hH h6 hS (fun r i r0 r1 => by omega) _ _ (fun σ1 F1 hH1 h61 hS1 hv => k_lt (k_lt (k_lt ?_)))
  have hB : kz_Rb 16 A.1 σ1 := hH1.2.2.2.2.2.2.2
  have fa : ∀ z : Int, kp_in z → kf_X9_fitsAllRows z σ1 = some (kp_b (kz_ft A 0 0 z = 2 ^ (Int.toNat (A.1 2)) - 1), σ1) := by
    intro z hz
    have hall : kz_ft A 0 0 z = 2 ^ (Int.toNat (A.1 2)) - 1 ↔ ∀ r : Int, 0 ≤ r → r < ((Int.toNat (A.1 2) : Nat) : Int) → decide (kz_he A 0 0 0 z (A.1 (Int.toNat (300 + r))) (A.1 (Int.toNat (312 + r))) = A.1 (Int.toNat (324 + r))) = true := z_bsAll
    have loop : ∀ (m : Nat) (y : Int), 0 ≤ y → y ≤ A.1 2 → A.1 2 - y < m → (∀ r : Int, 0 ≤ r → r < y → kz_he A 0 0 0 z (A.1 (Int.toNat (300 + r))) (A.1 (Int.toNat (312 + r))) = A.1 (Int.toNat (324 + r))) → kp_ok (kl_X9_fitsAllRows_2 z m y σ1 (fun (σ2 : kp_W) => some (1, σ2))) (fun r' σ' => r' = kp_b (kz_ft A 0 0 z = 2 ^ (Int.toNat (A.1 2)) - 1) ∧ σ' = σ1) := by
      intro m
      induction m with
      | zero => intro y h0 h1 h2; omega
      | succ m ih =>
        intro y h0 h1 h2 hy'
        rw [kl_X9_fitsAllRows_2, show σ1 16 3 = A.1 2 from hB.1]
        refine k_ls ⟨by omega, by omega⟩ ⟨by omega, by omega⟩ (fun hy => k_e (c_shareOf hA hH1 ⟨h0, by omega⟩ hz (fun i i0 i1 => hv y i h0 hy i0 i1)) (k_ck ⟨h0, by omega⟩ ?_)) (fun hy => k_some ⟨(kp_bT (hall.mpr (fun r r0 r1 => decide_eq_true (hy' r r0 (by omega))))).symm, rfl⟩)
        rw [show σ1 19 (Int.toNat y) = _ from (hB.2 y h0 hy).2.2]
        have hr := hA.1.2.2.2.2.1 y h0 hy
        have hh := z_he hA (q := 0) (l := 0) (e := 0) (z := z) (p := A.1 (Int.toNat (300 + y))) (t := A.1 (Int.toNat (312 + y)))
        show kp_ok (kp_eq (kz_he A 0 0 0 z (A.1 (Int.toNat (300 + y))) (A.1 (Int.toNat (312 + y)))) _ _ _) _
        refine k_eq ⟨by omega, by omega⟩ ⟨by omega, by omega⟩ (fun c => k_lt (ih _ (by omega) (by omega) (by omega) (fun r r0 r1 => ?_))) (fun c => k_some ⟨(kp_bF (fun w => c ?_)).symm, rfl⟩)
        · by_cases e : r = y
          · subst e; exact c
          · exact hy' r r0 (by omega)
        · exact of_decide_eq_true (hall.mp w y h0 (by omega))
    unfold kf_X9_fitsAllRows
    exact k_is (k_lt (loop kp_fu 0 (by decide) (by omega) (kp_fu_big (by omega)) (fun r r0 r1 => by omega)))
  have fin : ∀ (m : Nat) (b x y : Int), 0 ≤ y → y ≤ 2 ^ (Int.toNat (A.1 0)) → 2 ^ (Int.toNat (A.1 0)) - y < m → b = kz_af A y → x = (if kz_af A y = -5 then 11 else kz_pc (kz_af A y)) → kp_ok (kl_X9_allFitting_92 m b x y σ1 (fun (x1_4 : Int) (σ_4 : kp_W) => some (x1_4, σ_4))) (fun r σ' => kp_ok (f r σ') Q) := by
    intro m
    induction m with
    | zero => intro b x y h0 h1 h2; omega
    | succ m ih =>
      intro b x y h0 h1 h2 hb hx
      have h1' := z_af1 (A := A) h0
      have hxr : 0 ≤ x ∧ x ≤ 12 := by
        have := z_pc (x := kz_af A y)
        rw [hx]; split <;> omega
      rw [kl_X9_allFitting_92, show σ1 11 5 = A.1 0 from hH1.2.2.2.2.2.2.1.1, Int.one_mul]
      refine k_ck (by omega) (k_ls ⟨by omega, by omega⟩ ⟨by omega, by omega⟩ (fun hy => ?_) (fun hy => k_some ?_))
      · have p1 := z_pc (x := y)
        have hpc10 : kz_pc y ≤ 10 := by
          unfold kz_pc
          have e1 : kp_sm (fun k => y / 2 ^ (Int.toNat k) % 2) 12 = kp_sm (fun k => y / 2 ^ (Int.toNat k) % 2) 10 + y / 1024 % 2 + y / 2048 % 2 := rfl
          have e2 := kp_sm_rng (f := fun k => y / 2 ^ (Int.toNat k) % 2) (c := 1) (x := 10) (by decide) (by decide) (fun i i0 i1 => by omega)
          omega
        rw [z_bc ⟨h0, by omega⟩]
        refine k_ls ⟨by omega, by omega⟩ ⟨by omega, by omega⟩ (fun c => k_e (fa y ⟨by omega, by omega⟩) (k_b (fun d => k_lt (ih _ _ _ (by omega) (by omega) (by omega) ?_ ?_)) (fun d => k_lt (k_lt (k_lt (ih _ _ _ (by omega) (by omega) (by omega) ?_ ?_)))))) (fun c => k_lt (ih _ _ _ (by omega) (by omega) (by omega) ?_ ?_))
        · rw [h1', if_neg (fun w => d w.2)]; exact hb
        · have e : kz_af A (y + 1) = kz_af A y := by rw [h1', if_neg (fun w => d w.2)]
          rw [e]; exact hx
        · have hor : kz_af A y = -5 ∨ kz_pc y < kz_pc (kz_af A y) := by
            by_cases e : kz_af A y = -5
            · exact Or.inl e
            · rw [if_neg e] at hx; exact Or.inr (by omega)
          rw [h1', if_pos ⟨hor, d⟩]
        · have hor : kz_af A y = -5 ∨ kz_pc y < kz_pc (kz_af A y) := by
            by_cases e : kz_af A y = -5
            · exact Or.inl e
            · rw [if_neg e] at hx; exact Or.inr (by omega)
          have e : kz_af A (y + 1) = y := by rw [h1', if_pos ⟨hor, d⟩]
          rw [e, if_neg (by omega)]
        · have hor : ¬ (kz_af A y = -5 ∨ kz_pc y < kz_pc (kz_af A y)) := by
            by_cases e : kz_af A y = -5
            · rw [if_pos e] at hx; omega
            · rw [if_neg e] at hx; omega
          rw [h1', if_neg (fun w => hor w.1)]; exact hb
        · have hor : ¬ (kz_af A y = -5 ∨ kz_pc y < kz_pc (kz_af A y)) := by
            by_cases e : kz_af A y = -5
            · rw [if_pos e] at hx; omega
            · rw [if_neg e] at hx; omega
          have e : kz_af A (y + 1) = kz_af A y := by rw [h1', if_neg (fun w => hor w.1)]
          rw [e]; exact hx
      · have : y = 2 ^ (Int.toNat (A.1 0)) := by omega
        rw [hb, this]
        exact hk σ1 F1 (z_EP hH1 h61 hS1)
  exact fin kp_fu _ _ 0 (by decide) (by omega) (kp_fu_big (by omega)) rfl rfl
theorem c_whichQ (hA : kz_I A) (hE : kz_E A σ) {w : Int} (hw : kp_in w) : kp_ok (kf_X9_which w σ) (fun r σ' => r = kz_which A w ∧ kz_Fk σ σ' ∧ kz_E A σ') := by
  unfold kf_X9_which kz_which
  refine c_settle hA hE (fun σ1 f1 hH h6 hS => k_eq hw (by decide) (fun c => k_e (c_mostFitting hA hH hS) (k_some ⟨?_, f1, z_EP hH h6 hS⟩)) (fun c => k_eq hw (by decide) (fun d => c_allFitting hA hH h6 hS (fun σ2 f2 e2 => k_some ⟨?_, z_FkT f1 f2, e2⟩)) (fun d => k_eq hw (by decide) (fun e => k_e (c_worst hA hH hS) (k_some ⟨?_, f1, z_EP hH h6 hS⟩)) (fun e => k_some ⟨?_, f1, z_EP hH h6 hS⟩))))
  · rw [if_neg (by omega), if_pos c]
  · rw [if_neg (by omega), if_neg c, if_pos d]
  · rw [if_neg (by omega), if_neg c, if_neg d]
  · rw [if_pos (by omega)]
end QB
