-- what a functional program comes to: rules
def kp_ok (x : kp_R) (Q : Int → kp_W → Prop) : Prop := ∃ r σ, x = some (r, σ) ∧ Q r σ
def kp_b (c : Prop) [Decidable c] : Int := if c then 1 else 0
theorem k_some {r : Int} {σ : kp_W} {Q : Int → kp_W → Prop} (h : Q r σ) : kp_ok (some (r, σ)) Q := ⟨r, σ, rfl, h⟩
theorem k_mono {x : kp_R} {P Q : Int → kp_W → Prop} (h : kp_ok x P) (hq : ∀ r σ, P r σ → Q r σ) : kp_ok x Q := by
  obtain ⟨r, σ, e, h⟩ := h
  exact ⟨r, σ, e, hq r σ h⟩
theorem k_ck {c : Prop} [Decidable c] {k : kp_R} {Q : Int → kp_W → Prop} (hc : c) (h : kp_ok k Q) : kp_ok (kp_ck c k) Q := by
  unfold kp_ck
  rw [if_pos hc]
  exact h
theorem k_lt {τ : Type} {v : τ} {f : τ → kp_R} {Q : Int → kp_W → Prop} (h : kp_ok (f v) Q) : kp_ok (kp_lt v f) Q := h
theorem k_ltv {τ : Type} {v : τ} {f : τ → kp_R} {Q : Int → kp_W → Prop} (h : ∀ x, x = v → kp_ok (f x) Q) : kp_ok (kp_lt v f) Q := h v rfl
theorem k_jn {τ : Type} {f : τ} {g : τ → kp_R} {Q : Int → kp_W → Prop} (h : kp_ok (g f) Q) : kp_ok (kp_jn f g) Q := h
theorem k_jv {f : Int → kp_R} {g : (Int → kp_R) → kp_R} {Q : Int → kp_W → Prop} (v : Int) (h1 : kp_ok (f v) Q) (h2 : ∀ j : Int → kp_R, kp_ok (j v) Q → kp_ok (g j) Q) : kp_ok (kp_jn f g) Q := h2 f h1
theorem k_jvs {f : Int → kp_W → kp_R} {g : (Int → kp_W → kp_R) → kp_R} {Q : Int → kp_W → Prop} (v : Int) (σ : kp_W) (h1 : kp_ok (f v σ) Q) (h2 : ∀ j : Int → kp_W → kp_R, kp_ok (j v σ) Q → kp_ok (g j) Q) : kp_ok (kp_jn f g) Q := h2 f h1
theorem k_eq {x y : Int} {a b : kp_R} {Q : Int → kp_W → Prop} (hx : kp_in x) (hy : kp_in y) (ha : x = y → kp_ok a Q) (hb : ¬ x = y → kp_ok b Q) : kp_ok (kp_eq x y a b) Q := by
  unfold kp_eq
  rw [if_pos ⟨hx, hy⟩]
  by_cases e : x = y
  · rw [if_pos e]; exact ha e
  · rw [if_neg e]; exact hb e
theorem k_ls {x y : Int} {a b : kp_R} {Q : Int → kp_W → Prop} (hx : kp_in x) (hy : kp_in y) (ha : x < y → kp_ok a Q) (hb : ¬ x < y → kp_ok b Q) : kp_ok (kp_ls x y a b) Q := by
  unfold kp_ls
  rw [if_pos ⟨hx, hy⟩]
  by_cases e : x < y
  · rw [if_pos e]; exact ha e
  · rw [if_neg e]; exact hb e
theorem k_bd {x : kp_R} {f : Int → kp_W → kp_R} {Q : Int → kp_W → Prop} (h : kp_ok x (fun r σ => kp_ok (f r σ) Q)) : kp_ok (kp_bd x f) Q := by
  obtain ⟨r, σ, e, h⟩ := h
  rw [e]
  exact h
theorem k_e {x : kp_R} {r : Int} {σ : kp_W} {f : Int → kp_W → kp_R} {Q : Int → kp_W → Prop} (e : x = some (r, σ)) (h : kp_ok (f r σ) Q) : kp_ok (kp_bd x f) Q := by
  rw [e]
  exact h
theorem k_of {x : kp_R} {r : Int} {σ : kp_W} {Q : Int → kp_W → Prop} (e : x = some (r, σ)) (h : Q r σ) : kp_ok x Q := ⟨r, σ, e, h⟩
theorem k_is {x : kp_R} {r : Int} {σ : kp_W} (h : kp_ok x (fun r' σ' => r' = r ∧ σ' = σ)) : x = some (r, σ) := by
  obtain ⟨r', σ', e, rfl, rfl⟩ := h
  exact e
theorem k_b {c : Prop} [Decidable c] {a b : kp_R} {Q : Int → kp_W → Prop} (ha : ¬ c → kp_ok a Q) (hb : c → kp_ok b Q) : kp_ok (kp_eq (kp_b c) 0 a b) Q := by
  unfold kp_b
  by_cases h : c
  · rw [if_pos h]
    exact k_eq (by decide) (by decide) (fun z => absurd z (by decide)) (fun _ => hb h)
  · rw [if_neg h]
    exact k_eq (by decide) (by decide) (fun _ => ha h) (fun z => absurd rfl z)
theorem kp_bZ {c : Prop} [Decidable c] : kp_b c = 0 ∨ kp_b c = 1 := by
  unfold kp_b
  by_cases h : c
  · rw [if_pos h]; exact Or.inr rfl
  · rw [if_neg h]; exact Or.inl rfl
theorem kp_bT {c : Prop} [Decidable c] (h : c) : kp_b c = 1 := by unfold kp_b; rw [if_pos h]
theorem kp_bF {c : Prop} [Decidable c] (h : ¬ c) : kp_b c = 0 := by unfold kp_b; rw [if_neg h]
theorem kp_bI {c d : Prop} [Decidable c] [Decidable d] (h : c ↔ d) : kp_b c = kp_b d := by
  unfold kp_b
  by_cases hc : c
  · rw [if_pos hc, if_pos (h.mp hc)]
  · rw [if_neg hc, if_neg (fun z => hc (h.mpr z))]
-- a join that only picks a value
theorem kp_jls {f : Int → kp_R} {x y a b : Int} : kp_jn f (fun j => kp_ls x y (j a) (j b)) = kp_ck (kp_in x ∧ kp_in y) (kp_lt (if x < y then a else b) f) := by
  unfold kp_jn kp_ls kp_ck kp_lt
  by_cases h : x < y <;> simp [h]
theorem kp_jeq {f : Int → kp_R} {x y a b : Int} : kp_jn f (fun j => kp_eq x y (j a) (j b)) = kp_ck (kp_in x ∧ kp_in y) (kp_lt (if x = y then a else b) f) := by
  unfold kp_jn kp_eq kp_ck kp_lt
  by_cases h : x = y <;> simp [h]
-- sums
def kp_smN (f : Int → Int) : Nat → Int
  | 0 => 0
  | n + 1 => kp_smN f n + f n
def kp_sm (f : Int → Int) (x : Int) : Int := kp_smN f x.toNat
theorem kp_sm0 (f : Int → Int) : kp_sm f 0 = 0 := rfl
theorem kp_sm1 (f : Int → Int) {x : Int} (h : 0 ≤ x) : kp_sm f (x + 1) = kp_sm f x + f x := by
  unfold kp_sm
  rw [Int.toNat_add h (by decide)]
  show kp_smN f x.toNat + f (x.toNat : Nat) = _
  rw [Int.toNat_of_nonneg h]
theorem kp_smN_cong {f g : Int → Int} : ∀ {n : Nat}, (∀ i : Int, 0 ≤ i → i < n → f i = g i) → kp_smN f n = kp_smN g n
  | 0, _ => rfl
  | n + 1, h => by
    rw [kp_smN, kp_smN, kp_smN_cong (fun i h0 h1 => h i h0 (by omega)), h n (by omega) (by omega)]
theorem kp_sm_cong {f g : Int → Int} {x : Int} (h : ∀ i : Int, 0 ≤ i → i < x → f i = g i) : kp_sm f x = kp_sm g x := kp_smN_cong (fun i h0 h1 => h i h0 (by omega))
theorem kp_smN_rng {f : Int → Int} {c : Int} (hc : 0 ≤ c) : ∀ {n : Nat}, (∀ i : Int, 0 ≤ i → i < n → 0 ≤ f i ∧ f i ≤ c) → 0 ≤ kp_smN f n ∧ kp_smN f n ≤ n * c
  | 0, _ => ⟨Int.le_refl 0, by show (0 : Int) ≤ ((0 : Nat) : Int) * c; omega⟩
  | n + 1, h => by
    have h1 := kp_smN_rng hc (n := n) (fun i h0 h1 => h i h0 (by omega))
    have h2 := h n (by omega) (by omega)
    have h3 : ((n + 1 : Nat) : Int) * c = (n : Int) * c + c := by rw [Int.natCast_add, Int.add_mul]; omega
    rw [kp_smN, h3]
    omega
theorem kp_sm_rng {f : Int → Int} {c x : Int} (hc : 0 ≤ c) (hx : 0 ≤ x) (h : ∀ i : Int, 0 ≤ i → i < x → 0 ≤ f i ∧ f i ≤ c) : 0 ≤ kp_sm f x ∧ kp_sm f x ≤ x * c := by
  have := kp_smN_rng hc (f := f) (n := x.toNat) (fun i h0 h1 => h i h0 (by omega))
  rw [Int.toNat_of_nonneg hx] at this
  exact this
theorem kp_fu_big {x : Int} (h : x < 100000) : x < (kp_fu : Int) := by rw [kp_fu_eq]; exact h
theorem kp_up_at {σ : kp_W} {k i j : Nat} {x : Int} : kp_up σ k i x k j = if j = i then x else σ k j := kp_up_eq
