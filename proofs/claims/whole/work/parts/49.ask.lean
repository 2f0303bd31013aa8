-- the reference: what is asked of hearing
def kz_Fz (b σ : kp_W) : Prop := (∀ a, a ≠ 0 → a ≠ 3 → a ≠ 4 → a ≠ 5 → a ≠ 6 → a ≠ 7 → a ≠ 8 → σ a = b a) ∧ ∀ j, j ≠ 11 → j ≠ 12 → j ≠ 13 → σ 0 j = b 0 j
def kz_Z (σ : kp_W) : Prop := σ 0 16 = 0 ∧ σ 0 17 = 0 ∧ σ 0 18 = 0
theorem z_Fz0 {b : kp_W} : kz_Fz b b := ⟨fun _ _ _ _ _ _ _ _ => rfl, fun _ _ _ _ => rfl⟩
theorem z_Fzq {b σ : kp_W} (h : kz_Fq b σ) : kz_Fz b σ := ⟨fun a a0 a3 a4 a5 a6 _ _ => h.1 a a0 a3 a4 a5 a6, h.2⟩
theorem z_Fzt {a b c : kp_W} (h : kz_Fz a b) (h2 : kz_Fz b c) : kz_Fz a c := ⟨fun i a0 a3 a4 a5 a6 a7 a8 => (h2.1 i a0 a3 a4 a5 a6 a7 a8).trans (h.1 i a0 a3 a4 a5 a6 a7 a8), fun j j1 j2 j3 => (h2.2 j j1 j2 j3).trans (h.2 j j1 j2 j3)⟩
def kz_pc (x : Int) : Int := kp_sm (fun k => x / 2 ^ (Int.toNat k) % 2) 12
def kz_ft (A : kz_A) (q l z : Int) : Int := kz_bs (fun r => decide (kz_he A q l 0 z (A.1 (Int.toNat (300 + r))) (A.1 (Int.toNat (312 + r))) = A.1 (Int.toNat (324 + r)))) (A.1 2)
def kz_c1 (A : kz_A) (n : Int) : Int := kz_pc (kz_ft A 0 0 (2 ^ (Int.toNat n)))
def kz_mxN (f : Int → Int) (b m : Int) : Nat → Int × Int
  | 0 => (b, m)
  | k + 1 => if (kz_mxN f b m k).2 < f k then ((k : Int), f k) else kz_mxN f b m k
def kz_mx (f : Int → Int) (b m x : Int) : Int × Int := kz_mxN f b m x.toNat
theorem z_mx1 {f : Int → Int} {b m x : Int} (h : 0 ≤ x) : kz_mx f b m (x + 1) = if (kz_mx f b m x).2 < f x then (x, f x) else kz_mx f b m x := by
  unfold kz_mx
  rw [Int.toNat_add h (by decide)]
  show kz_mxN f b m (x.toNat + 1) = _
  rw [kz_mxN, Int.toNat_of_nonneg h]
theorem z_mxr {f : Int → Int} {b m c x : Int} (hm : -1 ≤ m ∧ m ≤ c) (h0 : 0 ≤ x) (h : ∀ i, 0 ≤ i → i < x → 0 ≤ f i ∧ f i ≤ c) : -1 ≤ (kz_mx f b m x).2 ∧ (kz_mx f b m x).2 ≤ c := by
  unfold kz_mx
  have key : ∀ k : Nat, (k : Int) ≤ x → -1 ≤ (kz_mxN f b m k).2 ∧ (kz_mxN f b m k).2 ≤ c := by
    intro k
    induction k with
    | zero => intro _; exact hm
    | succ k ih =>
      intro hk
      have := ih (by omega)
      have := h k (by omega) (by omega)
      rw [kz_mxN]
      split
      · dsimp only; omega
      · assumption
  exact key _ (by omega)
def kz_gc : Nat → Int → Int → Int
  | 0, x, _ => x
  | n + 1, x, y => if y = 0 then x else kz_gc n y (x % y)
theorem z_gc : ∀ {n : Nat} {x y : Int}, 0 ≤ x → 0 ≤ y → y < n → (∀ m : Nat, y < m → kz_gc m x y = kz_gc n x y) ∧ 0 ≤ kz_gc n x y ∧ (0 < x ∨ 0 < y → 0 < kz_gc n x y) ∧ (kz_gc n x y ≤ x ∨ kz_gc n x y ≤ y)
  | 0, x, y, hx, hy, hn => by omega
  | n + 1, x, y, hx, hy, hn => by
    rw [kz_gc]
    by_cases h : y = 0
    · rw [if_pos h]
      refine ⟨fun m hm => ?_, hx, fun z => by omega, Or.inl (Int.le_refl x)⟩
      cases m with
      | zero => omega
      | succ m => rw [kz_gc, if_pos h]
    · rw [if_neg h]
      have h1 : 0 ≤ x % y := Int.emod_nonneg _ h
      have h2 : x % y < y := Int.emod_lt_of_pos _ (by omega)
      obtain ⟨i1, i2, i3, i4⟩ := z_gc (n := n) hy h1 (by omega)
      refine ⟨fun m hm => ?_, i2, fun _ => i3 (Or.inl (by omega)), by omega⟩
      cases m with
      | zero => omega
      | succ m => rw [kz_gc, if_neg h]; exact i1 m (by omega)
theorem z_bsd {P : Int → Bool} {x n : Int} (h0 : 0 ≤ n) (h : n < x) : kz_bs P x / 2 ^ (Int.toNat n) % 2 = if P n = true then 1 else 0 := by
  rw [kz_bit01, z_bst]
  have e : ((n.toNat : Nat) : Int) = n := by omega
  rw [e]
  have : decide (n.toNat < x.toNat) = true := decide_eq_true (by omega)
  rw [this, Bool.true_and]
theorem z_pwd {n k : Int} (hk : 0 ≤ k) (h0 : 0 ≤ n) : (2 : Int) ^ (Int.toNat n) / 2 ^ (Int.toNat k) % 2 = if n = k then 1 else 0 := by
  rw [kz_bit01, kz_pw]
  by_cases h : n = k
  · subst h; simp
  · rw [if_neg h, if_neg]
    simp
    omega
theorem z_pc {x : Int} : 0 ≤ kz_pc x ∧ kz_pc x ≤ 12 := by
  have := kp_sm_rng (f := fun k => x / 2 ^ (Int.toNat k) % 2) (c := 1) (x := 12) (by decide) (by decide) (fun i i0 i1 => by omega)
  unfold kz_pc
  omega
theorem z_ft {A : kz_A} (hA : kz_I A) {q l z : Int} : 0 ≤ kz_ft A q l z ∧ kz_ft A q l z < 4096 := by
  have h := z_bs (fun r => decide (kz_he A q l 0 z (A.1 (Int.toNat (300 + r))) (A.1 (Int.toNat (312 + r))) = A.1 (Int.toNat (324 + r)))) (A.1 2)
  have h2 := hA.1.1.2.2.1
  have := z_p10 h2.1 (c := 12) (by omega)
  unfold kz_ft
  omega
section ASK
variable {A : kz_A} {q l e : Int} {σ : kp_W} {Q : Int → kp_W → Prop}
theorem r_go0 (hA : kz_I A) (es : σ 1 = A.1) (hz : kz_Z σ) (hQ : ∀ σ', kz_Fz σ σ' → kz_G A 0 0 σ' → kz_Z σ' → Q 0 σ') : kp_ok (kf_X10_goes σ) Q := by
  refine r_goes hA (by rw [hz.1]; exact Or.inl rfl) (by rw [hz.2.1]; decide) es (fun σ' h1 h2 => hQ σ' (z_Fzq h1) ?_ ?_)
  · rw [hz.1, hz.2.1] at h2; exact h2
  · exact ⟨(h1.2 16 (by decide) (by decide) (by decide)).trans hz.1, (h1.2 17 (by decide) (by decide) (by decide)).trans hz.2.1, (h1.2 18 (by decide) (by decide) (by decide)).trans hz.2.2⟩
theorem r_count1 {x : Int} (hx : kp_in x) : kf_X10_count1 x σ = some (kz_pc x, σ) := by
  have loop : ∀ (m : Nat) (a y : Int), 0 ≤ y → y ≤ 12 → 12 - y < m → a = kp_sm (fun k => x / 2 ^ (Int.toNat k) % 2) y → kp_ok (kl_X10_count1_4 x m a y (fun (a' : Int) => some (a', σ))) (fun r' σ' => r' = kz_pc x ∧ σ' = σ) := by
    intro m
    induction m with
    | zero => intro a y h0 h1 h2; omega
    | succ m ih =>
      intro a y h0 h1 h2 ha
      rw [kl_X10_count1_4]
      refine k_ls ⟨by omega, by omega⟩ (by decide) (fun hy => k_ck ⟨hx, by omega, by omega⟩ (k_lt (k_lt (ih _ _ (by omega) (by omega) (by omega) ?_)))) (fun hy => k_some ⟨?_, rfl⟩)
      · rw [kp_sm1 _ h0, kz_and1, ha]
      · rw [ha]; unfold kz_pc; congr 1; omega
  unfold kf_X10_count1
  exact k_is (k_lt (k_lt (loop kp_fu 0 0 (by decide) (by decide) (kp_fu_big (by decide)) rfl)))
theorem r_fitsOf (hA : kz_I A) (hG : kz_G A q l σ) (he : σ 0 18 = 0) {z : Int} (hz : kp_in z) : kf_X10_fitsOf z σ = some (kz_ft A q l z, σ) := by
  have h2 := hA.1.1.2.2.1
  have loop : ∀ (m : Nat) (x y : Int), 0 ≤ y → y ≤ A.1 2 → A.1 2 - y < m → x = kz_bs (fun r => decide (kz_he A q l 0 z (A.1 (Int.toNat (300 + r))) (A.1 (Int.toNat (312 + r))) = A.1 (Int.toNat (324 + r)))) y → kp_ok (kl_X10_fitsOf_4 z m x y σ (fun (x1_2 : Int) (σ2 : kp_W) => some (x1_2, σ2))) (fun r' σ' => r' = kz_ft A q l z ∧ σ' = σ) := by
    intro m
    induction m with
    | zero => intro x y h0 h1 h2; omega
    | succ m ih =>
      intro x y h0 h1 h3 hx
      rw [kl_X10_fitsOf_4, hG.1]
      refine k_ls ⟨by omega, by omega⟩ ⟨by omega, by omega⟩ (fun hy => ?_) (fun hy => k_some ⟨?_, rfl⟩)
      · have hr := hA.1.2.2.2.2.1 y h0 hy
        have hh := z_he hA (q := q) (l := l) (e := 0) (z := z) (p := A.1 (Int.toNat (300 + y))) (t := A.1 (Int.toNat (312 + y)))
        have hb := z_bs (fun r => decide (kz_he A q l 0 z (A.1 (Int.toNat (300 + r))) (A.1 (Int.toNat (312 + r))) = A.1 (Int.toNat (324 + r)))) y
        have h1' := z_bs1 (fun r => decide (kz_he A q l 0 z (A.1 (Int.toNat (300 + r))) (A.1 (Int.toNat (312 + r))) = A.1 (Int.toNat (324 + r)))) h0
        rw [← hx] at hb h1'
        have hp := z_p10 h0 (c := 12) (by omega)
        refine k_ck (by omega) (k_ck (by omega) (k_e (r_heardOf hA hG he (by decide) hz hr.1 ⟨by omega, by omega⟩) (k_ck (by omega) ?_)))
        rw [hG.1]
        refine k_eq ⟨by omega, by omega⟩ ⟨by omega, by omega⟩ (fun c => k_ck (by omega) (k_lt (k_lt (ih _ _ (by omega) (by omega) (by omega) ?_)))) (fun c => k_lt (k_lt (ih _ _ (by omega) (by omega) (by omega) ?_)))
        · rw [z_or1 (by omega) hb, h1', if_pos (decide_eq_true c)]
        · rw [z_or0 ⟨hb.1, by omega⟩, h1', if_neg (by simp [c]), Int.add_zero]
      · rw [hx]; unfold kz_ft; congr 1; omega
  unfold kf_X10_fitsOf
  exact k_is (k_lt (k_lt (loop kp_fu 0 0 (by decide) (by omega) (kp_fu_big (by omega)) rfl)))
theorem z_pwin {n : Int} (h0 : 0 ≤ n) (h : n ≤ 12) : kp_in (1 * 2 ^ (Int.toNat n)) := by
  have := z_p10 h0 (c := 12) h
  have : (0 : Int) < 2 ^ (Int.toNat n) := Int.pow_pos (by decide)
  exact ⟨by omega, by omega⟩
theorem r_divisor {x y : Int} (hx : 0 ≤ x ∧ x ≤ 1000) (hy : 0 ≤ y ∧ y ≤ 1000) : kf_X10_divisor x y σ = some (kz_gc 1001 x y, σ) := by
  have loop : ∀ (m : Nat) (x y : Int), 0 ≤ x ∧ x ≤ 1000 → 0 ≤ y ∧ y ≤ 1000 → y < m → kp_ok (kl_X10_divisor_4 m x y (fun (a : Int) => some (a, σ))) (fun r' σ' => r' = kz_gc 1001 x y ∧ σ' = σ) := by
    intro m
    induction m with
    | zero => intro x y h0 h1 h2; omega
    | succ m ih =>
      intro x y h0 h1 h2
      have key : kz_gc 1001 x y = if y = 0 then x else kz_gc 1001 y (x % y) := by
        rw [show (1001 : Nat) = 1000 + 1 from rfl, kz_gc]
        by_cases h : y = 0
        · rw [if_pos h, if_pos h]
        · rw [if_neg h, if_neg h]
          have h3 : 0 ≤ x % y := Int.emod_nonneg _ h
          have h4 : x % y < y := Int.emod_lt_of_pos _ (by omega)
          exact ((z_gc (n := 1000) h1.1 h3 (by omega)).1 1001 (by omega)).symm
      rw [kl_X10_divisor_4]
      refine k_eq ⟨by omega, by omega⟩ (by decide) (fun h => k_some ⟨?_, rfl⟩) (fun h => ?_)
      · rw [key, if_pos h]
      · have h3 : 0 ≤ x % y := Int.emod_nonneg _ h
        have h4 : x % y < y := Int.emod_lt_of_pos _ (by omega)
        refine k_ck ⟨by omega, by omega, by omega, by omega⟩ (k_lt (k_lt (k_lt ?_)))
        rw [key, if_neg h]
        exact ih y (x % y) h1 ⟨h3, by omega⟩ (by omega)
  unfold kf_X10_divisor
  exact k_is (k_lt (k_lt (loop kp_fu x y hx hy (kp_fu_big (by omega)))))
def kz_od (A : kz_A) : Int := kp_sm (kz_c1 A) (A.1 0)
theorem z_od (hA : kz_I A) : 0 ≤ kz_od A ∧ kz_od A ≤ 120 := by
  have h10 := hA.1.1.1
  have := kp_sm_rng (f := kz_c1 A) (c := 12) (x := A.1 0) (by decide) h10.1 (fun i i0 i1 => z_pc)
  unfold kz_od
  omega
theorem r_c1 (hA : kz_I A) (hG : kz_G A 0 0 σ) (he : σ 0 18 = 0) {n : Int} (hn : 0 ≤ n ∧ n < A.1 0) {f : Int → kp_W → kp_R} (h : kp_ok (f (kz_c1 A n) σ) Q) : kp_ok (kp_bd (kf_X10_fitsOf (1 * 2 ^ (Int.toNat n)) σ) (fun r s => kp_bd (kf_X10_count1 r s) f)) Q := by
  have h10 := hA.1.1.1
  have := z_ft hA (q := 0) (l := 0) (z := 2 ^ (Int.toNat n))
  refine k_e (r_fitsOf hA hG he (z_pwin hn.1 (by omega))) ?_
  rw [Int.one_mul]
  exact k_e (r_count1 ⟨by omega, by omega⟩) h
theorem r_odds (hA : kz_I A) (es : σ 1 = A.1) (hz : kz_Z σ) {n p : Int} (hn : kp_in n) (hp : kp_in p) : kp_ok (kf_X10_odds n p σ) (fun r σ' => r = (if ¬ (0 ≤ n ∧ n < A.1 0) ∨ ¬ (0 ≤ p ∧ p ≤ 1) then -1 else if kz_od A = 0 then p else (if p = 0 then kz_c1 A n else kz_od A) / kz_gc 1001 (kz_c1 A n) (kz_od A)) ∧ kz_Fz σ σ') := by
  have h10 := hA.1.1.1
  unfold kf_X10_odds
  have eN := r_isNoise (σ := σ) hn (by rw [es]; exact h10)
  rw [es] at eN
  refine k_e eN (k_b (fun c => k_some ⟨by rw [if_pos (Or.inl c)], z_Fz0⟩) (fun c => k_e (r_in hp (by decide) (by decide)) (k_b (fun d => k_some ⟨by rw [if_pos (Or.inr d)], z_Fz0⟩) (fun d => k_bd (r_go0 hA es hz (fun σ1 f1 hG hz1 => k_lt (k_lt ?_)))))))
  rw [if_neg (by omega)]
  have loop : ∀ (m : Nat) (x y : Int) (k : Int → kp_W → kp_R), 0 ≤ y → y ≤ A.1 0 → A.1 0 - y < m → x = kp_sm (kz_c1 A) y → kp_ok (k (kz_od A) σ1) (fun r σ' => r = (if kz_od A = 0 then p else (if p = 0 then kz_c1 A n else kz_od A) / kz_gc 1001 (kz_c1 A n) (kz_od A)) ∧ kz_Fz σ σ') → kp_ok (kl_X10_odds_28 m x y σ1 k) (fun r σ' => r = (if kz_od A = 0 then p else (if p = 0 then kz_c1 A n else kz_od A) / kz_gc 1001 (kz_c1 A n) (kz_od A)) ∧ kz_Fz σ σ') := by
    intro m
    induction m with
    | zero => intro x y k h0 h1 h2; omega
    | succ m ih =>
      intro x y k h0 h1 h2 hx hk
      rw [kl_X10_odds_28, hG.1]
      refine k_ls ⟨by omega, by omega⟩ ⟨by omega, by omega⟩ (fun hy => k_ck (by omega) (r_c1 hA hG hz1.2.2 ⟨h0, hy⟩ (k_lt (k_lt (ih _ _ k (by omega) (by omega) (by omega) ?_ hk))))) (fun hy => ?_)
      · rw [kp_sm1 _ h0, hx]
      · have : x = kz_od A := by rw [hx]; unfold kz_od; congr 1; omega
        rw [this]
        exact hk
  refine loop kp_fu _ _ _ (by decide) (by omega) (kp_fu_big (by omega)) rfl ?_
  have ho := z_od hA
  have hc := z_pc (x := kz_ft A 0 0 (2 ^ (Int.toNat n)))
  refine k_eq ⟨by omega, by omega⟩ (by decide) (fun z => k_some ⟨by rw [if_pos z], f1⟩) (fun z => k_ck (by omega) (r_c1 hA hG hz1.2.2 c (k_lt ?_)))
  rw [if_neg z, kp_jeq]
  refine k_ck ⟨by omega, by decide⟩ (k_lt (k_e (r_divisor (show 0 ≤ kz_c1 A n ∧ kz_c1 A n ≤ 1000 by unfold kz_c1; omega) (by omega)) ?_))
  have g := z_gc (n := 1001) (x := kz_c1 A n) (y := kz_od A) (by unfold kz_c1; omega) (by omega) (by omega)
  have g2 := g.2.2.1 (Or.inr (by omega))
  have g3 := g.2.2.2
  have hc1 : 0 ≤ kz_c1 A n ∧ kz_c1 A n ≤ 12 := hc
  exact k_ck ⟨by split <;> omega, by split <;> omega, by omega, by omega⟩ (k_some ⟨rfl, f1⟩)
end ASK
