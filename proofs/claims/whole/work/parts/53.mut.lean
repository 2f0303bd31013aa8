-- the reference: what changes what there is
def kz_set (s : Nat → Int) (i : Nat) (x : Int) : Nat → Int := fun j => if j = i then x else s j
theorem z_set {s : Nat → Int} {i j : Nat} {x : Int} : kz_set s i x j = if j = i then x else s j := rfl
theorem z_up1 {σ : kp_W} {k i : Nat} {x : Int} : kp_up σ k i x k = kz_set (σ k) i x := funext fun j => by rw [kp_up_eq]; rfl
theorem z_setI {s : Nat → Int} {a b x : Int} (ha : 0 ≤ a) (hb : 0 ≤ b) : kz_set s (Int.toNat a) x (Int.toNat b) = if b = a then x else s (Int.toNat b) := by
  rw [z_set]
  by_cases h : b = a
  · rw [if_pos h, if_pos (by omega)]
  · rw [if_neg h, if_neg (by omega)]
theorem z_setN {s : Nat → Int} {a x : Int} {j : Nat} (h : ¬ (j : Int) = a) (ha : 0 ≤ a) : kz_set s (Int.toNat a) x j = s j := by rw [z_set, if_neg (by omega)]
theorem z_setT {s : Nat → Int} {k : Nat} {b x : Int} (h : ¬ b = (k : Int)) (hb : 0 ≤ b) : kz_set s k x (Int.toNat b) = s (Int.toNat b) := by rw [z_set, if_neg (by omega)]
theorem z_arrC {s s' : Nat → Int} : ∀ {l : List Int} {x : Int}, 0 ≤ x → (∀ i, x ≤ i → i < x + (l.length : Int) → s' (Int.toNat i) = s (Int.toNat i)) → kz_arr s x l → kz_arr s' x l
  | [], _, _, _, _ => trivial
  | c :: r, x, h0, he, h => by
    have hl : ((c :: r).length : Int) = (r.length : Int) + 1 := by simp
    exact ⟨(he x (Int.le_refl x) (by omega)).trans h.1, z_arrC (l := r) (by omega) (fun i h1 h2 => he i (by omega) (by omega)) h.2⟩
theorem z_IcC {A : kz_A} {s' : Nat → Int} (h : kz_Ic A) (h4 : s' 4 = A.1 4) (he : ∀ i : Int, 361 ≤ i → s' (Int.toNat i) = A.1 (Int.toNat i)) : kz_Ic (s', A.2) := by
  refine ⟨h.1, h.2.1, fun z => h.2.2.1 (h4.symm.trans z), fun z => ?_⟩
  have z' : 0 ≤ A.1 4 := by have : 0 ≤ s' 4 := z; omega
  obtain ⟨a, b, c⟩ := h.2.2.2 z'
  refine ⟨?_, b, ?_⟩
  · show s' (Int.toNat (361 + s' 4)) = _
    rw [h4, he _ (by omega)]; exact a
  · show kz_arr s' (366 + 140 * s' 4) _
    rw [h4]
    exact z_arrC (by omega) (fun i h1 _ => he i (by omega)) c
def kz_okW (a x : Int) : Prop := (a < 130 → 0 ≤ x ∧ x ≤ 255) ∧ (130 ≤ a → a < 250 → x = 0 ∨ x = 1) ∧ (250 ≤ a → a < 260 → 0 ≤ x ∧ x ≤ 6) ∧ (260 ≤ a → a < 280 → 0 ≤ x ∧ x ≤ 9) ∧ (280 ≤ a → a < 290 → 1 ≤ x ∧ x ≤ 40) ∧ (290 ≤ a → a < 300 → x = 0 ∨ x = 1) ∧ (300 ≤ a → a < 312 → 0 ≤ x ∧ x ≤ 9) ∧ (312 ≤ a → a < 324 → 0 ≤ x ∧ x ≤ 39) ∧ (324 ≤ a → 0 ≤ x ∧ x ≤ 99)
theorem z_IsW {s : Nat → Int} (h : kz_Is s) {a x : Int} (ha : 10 ≤ a ∧ a < 336) (hx : kz_okW a x) : kz_Is (kz_set s (Int.toNat a) x) := by
  obtain ⟨⟨b0, b1, b2, b3, b4⟩, c1, c2, c3, c4, c5⟩ := h
  obtain ⟨w1, w2, w3, w4, w5, w6, w7, w8, w9⟩ := hx
  have e0 : kz_set s (Int.toNat a) x 0 = s 0 := z_setN (by omega) (by omega)
  have e1 : kz_set s (Int.toNat a) x 1 = s 1 := z_setN (by omega) (by omega)
  have e2 : kz_set s (Int.toNat a) x 2 = s 2 := z_setN (by omega) (by omega)
  have e3 : kz_set s (Int.toNat a) x 3 = s 3 := z_setN (by omega) (by omega)
  have e4 : kz_set s (Int.toNat a) x 4 = s 4 := z_setN (by omega) (by omega)
  refine ⟨?_, ?_, ?_, ?_, ?_, ?_⟩
  · rw [e0, e1, e2, e3, e4]; exact ⟨b0, b1, b2, b3, b4⟩
  · rw [e3]; intro i h0 h1
    have := c1 i h0 h1
    rw [z_setI (by omega) (by omega)]; split <;> omega
  · intro i h0 h1
    have := c2 i h0 h1
    rw [z_setI (by omega) (by omega)]; split <;> omega
  · rw [e0]; intro n h0 h1
    have := c3 n h0 h1
    rw [z_setI (by omega) (by omega), z_setI (by omega) (by omega), z_setI (by omega) (by omega), z_setI (by omega) (by omega), z_setI (by omega) (by omega)]
    refine ⟨?_, ?_, ?_, ?_, ?_⟩ <;> split <;> omega
  · rw [e2]; intro n h0 h1
    have := c4 n h0 h1
    rw [z_setI (by omega) (by omega), z_setI (by omega) (by omega), z_setI (by omega) (by omega)]
    refine ⟨?_, ?_, ?_⟩ <;> split <;> omega
  · rw [e4]; intro h4 j h0 h1
    have := c5 h4 j h0 h1
    rw [z_setI (by omega) (by omega), if_neg (by omega)]; exact this
theorem z_IW {A : kz_A} (h : kz_I A) {a x : Int} (ha : 10 ≤ a ∧ a < 336) (hx : kz_okW a x) : kz_I (kz_set A.1 (Int.toNat a) x, A.2) :=
  ⟨z_IsW h.1 ha hx, z_IcC h.2 (z_setN (by omega) (by omega)) (fun i hi => by rw [z_setI (by omega) (by omega), if_neg (by omega)])⟩
theorem z_Ik {A : kz_A} (h : kz_I A) {k : Nat} {x : Int} (hk : k = 0 ∨ k = 2 ∨ k = 3) (h0 : k = 0 → (0 ≤ x ∧ x ≤ 10) ∧ ∀ n, A.1 0 ≤ n → n < x → (0 ≤ A.1 (Int.toNat (250 + n)) ∧ A.1 (Int.toNat (250 + n)) ≤ 6) ∧ (0 ≤ A.1 (Int.toNat (260 + n)) ∧ A.1 (Int.toNat (260 + n)) ≤ 9) ∧ (0 ≤ A.1 (Int.toNat (270 + n)) ∧ A.1 (Int.toNat (270 + n)) ≤ 9) ∧ (1 ≤ A.1 (Int.toNat (280 + n)) ∧ A.1 (Int.toNat (280 + n)) ≤ 40) ∧ (A.1 (Int.toNat (290 + n)) = 0 ∨ A.1 (Int.toNat (290 + n)) = 1)) (h2 : k = 2 → (0 ≤ x ∧ x ≤ 12) ∧ ∀ r, A.1 2 ≤ r → r < x → (0 ≤ A.1 (Int.toNat (300 + r)) ∧ A.1 (Int.toNat (300 + r)) ≤ 9) ∧ (0 ≤ A.1 (Int.toNat (312 + r)) ∧ A.1 (Int.toNat (312 + r)) ≤ 39) ∧ (0 ≤ A.1 (Int.toNat (324 + r)) ∧ A.1 (Int.toNat (324 + r)) ≤ 99)) (h3 : k = 3 → (0 ≤ x ∧ x ≤ 120) ∧ ∀ i, A.1 3 ≤ i → i < x → 0 ≤ A.1 (Int.toNat (10 + i)) ∧ A.1 (Int.toNat (10 + i)) ≤ 255) : kz_I (kz_set A.1 k x, A.2) := by
  obtain ⟨⟨⟨b0, b1, b2, b3, b4⟩, c1, c2, c3, c4, c5⟩, hc⟩ := h
  have e1 : kz_set A.1 k x 1 = A.1 1 := by rw [z_set, if_neg (by omega)]
  have e4 : kz_set A.1 k x 4 = A.1 4 := by rw [z_set, if_neg (by omega)]
  refine ⟨⟨?_, ?_, ?_, ?_, ?_, ?_⟩, z_IcC hc e4 (fun i hi => z_setT (by omega) (by omega))⟩
  · show _ ∧ _ ∧ _ ∧ _ ∧ _ ∧ _
    dsimp only
    rw [e1, e4, z_set, z_set, z_set]
    refine ⟨?_, b1, ?_, ?_, b4⟩
    · split
      · rename_i c; exact (h0 c.symm).1
      · exact b0
    · split
      · rename_i c; exact (h2 c.symm).1
      · exact b2
    · split
      · rename_i c; exact (h3 c.symm).1
      · exact b3
  · dsimp only
    intro i i0 i1
    rw [z_setT (by omega) (by omega)]
    rw [z_set] at i1
    by_cases c : A.1 3 ≤ i
    · split at i1
      · rename_i d; exact (h3 d.symm).2 i c i1
      · omega
    · exact c1 i i0 (by omega)
  · dsimp only
    intro i i0 i1
    rw [z_setT (by omega) (by omega)]
    exact c2 i i0 i1
  · dsimp only
    intro i i0 i1
    rw [z_setT (by omega) (by omega), z_setT (by omega) (by omega), z_setT (by omega) (by omega), z_setT (by omega) (by omega), z_setT (by omega) (by omega)]
    rw [z_set] at i1
    by_cases c : A.1 0 ≤ i
    · split at i1
      · rename_i d; exact (h0 d.symm).2 i c i1
      · omega
    · exact c3 i i0 (by omega)
  · dsimp only
    intro i i0 i1
    rw [z_setT (by omega) (by omega), z_setT (by omega) (by omega), z_setT (by omega) (by omega)]
    rw [z_set] at i1
    by_cases c : A.1 2 ≤ i
    · split at i1
      · rename_i d; exact (h2 d.symm).2 i c i1
      · omega
    · exact c4 i i0 (by omega)
  · dsimp only
    rw [e4]
    intro h4 j j0 j1
    rw [z_setT (by omega) (by omega)]
    exact c5 h4 j j0 j1
-- the operations: the answer, and what there is after
def kz_oNoise (s : Nat → Int) (k p v l : Int) : Int × (Nat → Int) :=
  if ¬ (0 ≤ k ∧ k ≤ 6) then (-1, s) else if ¬ (0 ≤ p ∧ p ≤ 9) then (-1, s) else if ¬ (0 ≤ v ∧ v ≤ 9) then (-2, s) else if ¬ (1 ≤ l ∧ l ≤ 40) then (-2, s) else if s 0 = 10 then (-4, s)
  else (s 0, kz_set (kz_set (kz_set (kz_set (kz_set (kz_set s (Int.toNat (250 + s 0)) k) (Int.toNat (260 + s 0)) p) (Int.toNat (270 + s 0)) v) (Int.toNat (280 + s 0)) l) (Int.toNat (290 + s 0)) 0) 0 (s 0 + 1))
def kz_oStill (s : Nat → Int) (n b : Int) : Int × (Nat → Int) := if ¬ (0 ≤ n ∧ n < s 0) then (-1, s) else (s (Int.toNat (290 + n)), kz_set s (Int.toNat (290 + n)) (if b = 0 then 0 else 1))
def kz_oNote (s : Nat → Int) (p t n : Int) : Int × (Nat → Int) :=
  if ¬ (0 ≤ p ∧ p ≤ 9) then (-1, s) else if ¬ (0 ≤ t ∧ t ≤ 39) then (-1, s) else if ¬ (0 ≤ n ∧ n ≤ 99) then (-2, s) else if s 2 = 12 then (-4, s)
  else (s 2 + 1, kz_set (kz_set (kz_set (kz_set s (Int.toNat (300 + s 2)) p) (Int.toNat (312 + s 2)) t) (Int.toNat (324 + s 2)) n) 2 (s 2 + 1))
def kz_oClear (s : Nat → Int) : Int × (Nat → Int) := (s 2, kz_set s 2 0)
def kz_dyN (s : Nat → Int) (w v : Int) : Nat → Nat → Int
  | 0 => s
  | k + 1 => kz_set (kz_dyN s w v k) (Int.toNat (130 + 40 * w + (k : Int))) (v / 2 ^ k % 2)
def kz_oDay (s : Nat → Int) (w v : Int) : Int × (Nat → Int) := if ¬ (0 ≤ w ∧ w ≤ 2) then (-1, s) else if v < 0 then (-2, s) else if 1099511627776 ≤ v then (-2, s) else (kp_sm (fun t => s (Int.toNat (130 + 40 * w + t))) 40, kz_dyN s w v 40)
def kz_fdN (s : Nat → Int) (v n : Int) : Nat → Nat → Int
  | 0 => s
  | k + 1 => kz_set (kz_set (kz_fdN s v n k) (Int.toNat (10 + s 3 + (k : Int))) (v / 2 ^ (Int.toNat (8 * (n - 1 - (k : Int)))) % 256)) 3 (s 3 + (k : Int) + 1)
def kz_oFeed (s : Nat → Int) (v n : Int) : Int × (Nat → Int) := if ¬ (1 ≤ n ∧ n ≤ 8) then (-2, s) else if 120 < s 3 + n then (-4, s) else (s 3 + n, kz_fdN s v n (Int.toNat n))
theorem z_dyv {s : Nat → Int} {w v : Int} (hw : 0 ≤ w) : ∀ {k : Nat} {i : Int}, 0 ≤ i → kz_dyN s w v k (Int.toNat i) = if 130 + 40 * w ≤ i ∧ i < 130 + 40 * w + k then v / 2 ^ (Int.toNat (i - (130 + 40 * w))) % 2 else s (Int.toNat i)
  | 0, i, hi => by rw [if_neg (by omega)]; rfl
  | k + 1, i, hi => by
    rw [kz_dyN, z_setI (by omega) hi, z_dyv hw hi]
    by_cases h : i = 130 + 40 * w + k
    · subst h
      rw [if_pos rfl, if_pos (by omega), show 130 + 40 * w + (k : Int) - (130 + 40 * w) = (k : Int) by omega, Int.toNat_natCast]
    · rw [if_neg h]
      by_cases c : 130 + 40 * w ≤ i ∧ i < 130 + 40 * w + k
      · rw [if_pos c, if_pos (by omega)]
      · rw [if_neg c, if_neg (by omega)]
theorem z_fd3 {s : Nat → Int} {v n : Int} (h3 : 0 ≤ s 3) : ∀ {k : Nat}, kz_fdN s v n k 3 = s 3 + k
  | 0 => by show s 3 = s 3 + ((0 : Nat) : Int); omega
  | k + 1 => by rw [kz_fdN, z_set, if_pos rfl]; omega
theorem z_fdv {s : Nat → Int} {v n : Int} (h3 : 0 ≤ s 3) : ∀ {k : Nat} {i : Int}, 0 ≤ i → ¬ i = 3 → kz_fdN s v n k (Int.toNat i) = if 10 + s 3 ≤ i ∧ i < 10 + s 3 + k then v / 2 ^ (Int.toNat (8 * (n - 1 - (i - (10 + s 3))))) % 256 else s (Int.toNat i)
  | 0, i, hi, hi3 => by rw [if_neg (by omega)]; rfl
  | k + 1, i, hi, hi3 => by
    rw [kz_fdN, z_setT (by omega) hi, z_setI (by omega) hi, z_fdv h3 hi hi3]
    by_cases h : i = 10 + s 3 + k
    · subst h
      rw [if_pos rfl, if_pos (by omega), show 10 + s 3 + (k : Int) - (10 + s 3) = (k : Int) by omega]
    · rw [if_neg h]
      by_cases c : 10 + s 3 ≤ i ∧ i < 10 + s 3 + k
      · rw [if_pos c, if_pos (by omega)]
      · rw [if_neg c, if_neg (by omega)]
theorem z_cmpin {x y : Int} : kp_in (kp_cmp x y) := by unfold kp_cmp; repeat' split
                                                       all_goals decide
theorem z_cmp {x y : Int} : kp_cmp x y < 0 ↔ x < y := by
  unfold kp_cmp; repeat' split
  all_goals omega
section MUT
variable {A : kz_A} {σ : kp_W}
def kz_F1 (b σ : kp_W) : Prop := ∀ a, a ≠ 1 → σ a = b a
theorem z_F1u {b σ : kp_W} {i : Nat} {x : Int} (h : kz_F1 b σ) : kz_F1 b (kp_up σ 1 i x) := fun a ha => by rw [kp_up_ne ha]; exact h a ha
theorem z_F10 {b : kp_W} : kz_F1 b b := fun _ _ => rfl
theorem z_inoise (hA : kz_I A) {k p v l : Int} : kz_I ((kz_oNoise A.1 k p v l).2, A.2) := by
  have h10 := hA.1.1.1
  unfold kz_oNoise
  repeat' split
  all_goals try exact hA
  refine z_Ik (A := (_, A.2)) (z_IW (A := (_, A.2)) (z_IW (A := (_, A.2)) (z_IW (A := (_, A.2)) (z_IW (A := (_, A.2)) (z_IW hA ?_ ?_) ?_ ?_) ?_ ?_) ?_ ?_) ?_ ?_) (Or.inl rfl) (fun _ => ⟨by omega, ?_⟩) (fun z => absurd z (by decide)) (fun z => absurd z (by decide))
  · omega
  · unfold kz_okW; omega
  · omega
  · unfold kz_okW; omega
  · omega
  · unfold kz_okW; omega
  · omega
  · unfold kz_okW; omega
  · omega
  · unfold kz_okW; omega
  · dsimp only
    intro n n0 n1
    rw [z_setN (by omega) (by omega), z_setN (by omega) (by omega), z_setN (by omega) (by omega), z_setN (by omega) (by omega), z_setN (by omega) (by omega)] at n0
    have : n = A.1 0 := by omega
    subst this
    simp only [z_set]
    refine ⟨?_, ?_, ?_, ?_, ?_⟩
    all_goals repeat' split
    all_goals first | omega | (exact absurd trivial (by assumption))
theorem z_istill (hA : kz_I A) {n b : Int} : kz_I ((kz_oStill A.1 n b).2, A.2) := by
  have h10 := hA.1.1.1
  unfold kz_oStill
  by_cases c : 0 ≤ n ∧ n < A.1 0
  · rw [if_neg (fun z => z c)]
    refine z_IW hA (by omega) ?_
    unfold kz_okW
    split <;> omega
  · rw [if_pos c]; exact hA
theorem z_inote (hA : kz_I A) {p t n : Int} : kz_I ((kz_oNote A.1 p t n).2, A.2) := by
  have h12 := hA.1.1.2.2.1
  unfold kz_oNote
  repeat' split
  all_goals try exact hA
  refine z_Ik (A := (_, A.2)) (z_IW (A := (_, A.2)) (z_IW (A := (_, A.2)) (z_IW hA ?_ ?_) ?_ ?_) ?_ ?_) (Or.inr (Or.inl rfl)) (fun z => absurd z (by decide)) (fun _ => ⟨by omega, ?_⟩) (fun z => absurd z (by decide))
  · omega
  · unfold kz_okW; omega
  · omega
  · unfold kz_okW; omega
  · omega
  · unfold kz_okW; omega
  · dsimp only
    intro r n0 n1
    rw [z_setN (by omega) (by omega), z_setN (by omega) (by omega), z_setN (by omega) (by omega)] at n0
    have : r = A.1 2 := by omega
    subst this
    simp only [z_set]
    refine ⟨?_, ?_, ?_⟩
    all_goals repeat' split
    all_goals first | omega | (exact absurd trivial (by assumption))
theorem z_iclear (hA : kz_I A) : kz_I ((kz_oClear A.1).2, A.2) :=
  z_Ik hA (Or.inr (Or.inl rfl)) (fun z => absurd z (by decide)) (fun _ => ⟨by decide, fun r h0 h1 => by have := hA.1.1.2.2.1; omega⟩) (fun z => absurd z (by decide))
theorem z_iday (hA : kz_I A) {w v : Int} : kz_I ((kz_oDay A.1 w v).2, A.2) := by
  unfold kz_oDay
  repeat' split
  all_goals try exact hA
  dsimp only
  have key : ∀ k : Nat, k ≤ 40 → kz_I (kz_dyN A.1 w v k, A.2) := by
    intro k
    induction k with
    | zero => intro _; exact hA
    | succ k ih => intro hk; exact z_IW (A := (_, A.2)) (ih (by omega)) (by omega) (by unfold kz_okW; omega)
  exact key 40 (by omega)
theorem z_ifeed (hA : kz_I A) {v n : Int} : kz_I ((kz_oFeed A.1 v n).2, A.2) := by
  have h3 := hA.1.1.2.2.2.1
  unfold kz_oFeed
  repeat' split
  all_goals try exact hA
  dsimp only
  have key : ∀ k : Nat, (k : Int) ≤ n → kz_I (kz_fdN A.1 v n k, A.2) := by
    intro k
    induction k with
    | zero => intro _; exact hA
    | succ k ih =>
      intro hk
      refine z_Ik (A := (_, A.2)) (z_IW (A := (_, A.2)) (ih (by omega)) (by omega) (by unfold kz_okW; omega)) (Or.inr (Or.inr rfl)) (fun z => absurd z (by decide)) (fun z => absurd z (by decide)) (fun _ => ⟨by omega, ?_⟩)
      dsimp only
      intro i i0 i1
      rw [z_setN (by omega) (by omega), z_fd3 h3.1] at i0
      rw [z_setI (by omega) (by omega), if_pos (by omega)]
      omega
  exact key _ (by omega)
theorem r_noise (hA : kz_I A) (es : σ 1 = A.1) {k p v l : Int} (hk : kp_in k) (hp : kp_in p) (hv : kp_in v) (hl : kp_in l) : kp_ok (kf_X10_noise k p v l σ) (fun r σ' => (r, σ' 1) = kz_oNoise A.1 k p v l ∧ kz_F1 σ σ') := by
  have h10 := hA.1.1.1
  unfold kf_X10_noise kz_oNoise
  refine k_e (r_in hk (by decide) (by decide)) (k_b (fun c => k_some ⟨by rw [if_pos c, es], z_F10⟩) (fun c => k_e (r_isPlace hp) (k_b (fun d => k_some ⟨by rw [if_neg (fun z => z c), if_pos d, es], z_F10⟩) (fun d => k_e (r_in hv (by decide) (by decide)) (k_b (fun e => k_some ⟨by rw [if_neg (fun z => z c), if_neg (fun z => z d), if_pos e, es], z_F10⟩) (fun e => k_e (r_in hl (by decide) (by decide)) (k_b (fun f => k_some ⟨by rw [if_neg (fun z => z c), if_neg (fun z => z d), if_neg (fun z => z e), if_pos f, es], z_F10⟩) (fun f => ?_))))))))
  rw [if_neg (fun z => z c), if_neg (fun z => z d), if_neg (fun z => z e), if_neg (fun z => z f), es]
  refine k_eq ⟨by omega, by omega⟩ (by decide) (fun g => k_some ⟨by rw [if_pos g, es], z_F10⟩) (fun g => k_lt (k_ck (by omega) (k_lt (k_ck (by omega) (k_lt (k_ck (by omega) (k_lt (k_ck (by omega) (k_lt (k_ck (by omega) (k_lt (k_lt (k_some ⟨?_, z_F1u (z_F1u (z_F1u (z_F1u (z_F1u (z_F1u z_F10)))))⟩)))))))))))))
  rw [if_neg g]
  simp only [z_up1, es]
  congr 2
  rw [z_setN (by omega) (by omega), z_setN (by omega) (by omega), z_setN (by omega) (by omega), z_setN (by omega) (by omega), z_setN (by omega) (by omega)]
theorem r_still (hA : kz_I A) (es : σ 1 = A.1) {n b : Int} (hn : kp_in n) (hb : kp_in b) : kp_ok (kf_X10_still n b σ) (fun r σ' => (r, σ' 1) = kz_oStill A.1 n b ∧ kz_F1 σ σ') := by
  have h10 := hA.1.1.1
  unfold kf_X10_still kz_oStill
  refine k_e (r_isN hA es hn) (k_b (fun c => k_some ⟨by rw [if_pos c, es], z_F10⟩) (fun c => k_ck (by omega) (k_lt (k_eq hb (by decide) (fun d => k_ck (by omega) (k_lt (k_some ⟨?_, z_F1u z_F10⟩))) (fun d => k_ck (by omega) (k_lt (k_some ⟨?_, z_F1u z_F10⟩)))))))
  · rw [if_neg (fun z => z c), z_up1, es, if_pos d]
  · rw [if_neg (fun z => z c), z_up1, es, if_neg d]
theorem r_note (hA : kz_I A) (es : σ 1 = A.1) {p t n : Int} (hp : kp_in p) (ht : kp_in t) (hn : kp_in n) : kp_ok (kf_X10_note p t n σ) (fun r σ' => (r, σ' 1) = kz_oNote A.1 p t n ∧ kz_F1 σ σ') := by
  have h10 := hA.1.1.2.2.1
  unfold kf_X10_note kz_oNote
  refine k_e (r_isPlace hp) (k_b (fun c => k_some ⟨by rw [if_pos c, es], z_F10⟩) (fun c => k_e (r_isMinute ht) (k_b (fun d => k_some ⟨by rw [if_neg (fun z => z c), if_pos d, es], z_F10⟩) (fun d => k_e (r_in hn (by decide) (by decide)) (k_b (fun e => k_some ⟨by rw [if_neg (fun z => z c), if_neg (fun z => z d), if_pos e, es], z_F10⟩) (fun e => ?_))))))
  rw [if_neg (fun z => z c), if_neg (fun z => z d), if_neg (fun z => z e), es]
  refine k_eq ⟨by omega, by omega⟩ (by decide) (fun g => k_some ⟨by rw [if_pos g, es], z_F10⟩) (fun g => k_ck (by omega) (k_lt ?_))
  rw [if_neg g]
  have e1 : kp_up σ 1 (Int.toNat (300 + A.1 2)) p 1 2 = A.1 2 := by rw [z_up1, es, z_setN (by omega) (by omega)]
  rw [e1]
  refine k_ck (by omega) (k_lt ?_)
  have e2 : kp_up (kp_up σ 1 (Int.toNat (300 + A.1 2)) p) 1 (Int.toNat (312 + A.1 2)) t 1 2 = A.1 2 := by rw [z_up1, z_setN (by omega) (by omega)]; exact e1
  rw [e2]
  refine k_ck (by omega) (k_lt (k_lt (k_some ⟨?_, z_F1u (z_F1u (z_F1u (z_F1u z_F10)))⟩)))
  have e3 : kp_up (kp_up (kp_up σ 1 (Int.toNat (300 + A.1 2)) p) 1 (Int.toNat (312 + A.1 2)) t) 1 (Int.toNat (324 + A.1 2)) n 1 2 = A.1 2 := by rw [z_up1, z_setN (by omega) (by omega)]; exact e2
  rw [e3]
  simp only [z_up1, es]
  rw [z_set, if_pos rfl]
theorem r_clear (es : σ 1 = A.1) : kp_ok (kf_X10_clear σ) (fun r σ' => (r, σ' 1) = kz_oClear A.1 ∧ kz_F1 σ σ') := by
  unfold kf_X10_clear
  exact k_lt (k_lt (k_some ⟨by rw [z_up1, es]; rfl, z_F1u z_F10⟩))
theorem r_day (hA : kz_I A) (es : σ 1 = A.1) {w v : Int} (hw : kp_in w) (hv : kp_inL v) : kp_ok (kf_X10_day w v σ) (fun r σ' => (r, σ' 1) = kz_oDay A.1 w v ∧ kz_F1 σ σ') := by
  unfold kf_X10_day kz_oDay
  refine k_e (r_in hw (by decide) (by decide)) (k_b (fun c => k_some ⟨by rw [if_pos c, es], z_F10⟩) (fun c => k_ck ⟨hv, by decide⟩ ?_))
  rw [if_neg (fun z => z c)]
  refine k_ls z_cmpin (by decide) (fun d => k_some ⟨?_, z_F10⟩) (fun d => k_ck ⟨hv, by decide⟩ (k_ls z_cmpin (by decide) (fun e => k_lt (k_lt ?_)) (fun e => k_some ⟨?_, z_F10⟩)))
  · rw [if_pos (z_cmp.mp d), es]
  · have d' : 0 ≤ v := Int.not_lt.mp (fun h => d (z_cmp.mpr h))
    have e' : v < 1099511627776 := z_cmp.mp e
    rw [if_neg (by omega), if_neg (by omega)]
    have loop : ∀ (m : Nat) (a x : Int) (σ2 : kp_W), 0 ≤ x → x ≤ 40 → 40 - x < m → a = kp_sm (fun t => A.1 (Int.toNat (130 + 40 * w + t))) x → σ2 1 = kz_dyN A.1 w v (Int.toNat x) → kz_F1 σ σ2 → kp_ok (kl_X10_day_34 w v m a x σ2 (fun (x4_2 : Int) (σ_3 : kp_W) => some (x4_2, σ_3))) (fun r σ' => (r, σ' 1) = (kp_sm (fun t => A.1 (Int.toNat (130 + 40 * w + t))) 40, kz_dyN A.1 w v 40) ∧ kz_F1 σ σ') := by
      intro m
      induction m with
      | zero => intro a x σ2 h0 h1 h2; omega
      | succ m ih =>
        intro a x σ2 h0 h1 h2 ha e2 hF
        rw [kl_X10_day_34]
        refine k_ls ⟨by omega, by omega⟩ (by decide) (fun hx => k_lt (k_ck (by omega) (k_lt (k_ck ⟨hv, by omega, by omega⟩ (k_ck (by omega) (k_lt (k_lt (ih _ _ _ (by omega) (by omega) (by omega) ?_ ?_ (z_F1u hF))))))))) (fun hx => k_some ⟨?_, hF⟩)
        · have : (130 + 40 * w + x : Int) = 130 + 40 * w + x := rfl
          rw [kp_sm1 _ h0, ha, e2, z_dyv c.1 (by omega), if_neg (by omega)]
        · rw [z_up1, e2, Int.toNat_add h0 (by decide)]
          show _ = kz_dyN A.1 w v (Int.toNat x + 1)
          rw [kz_dyN, Int.toNat_of_nonneg h0, kz_andL1]
        · have : x = 40 := by omega
          subst this
          rw [ha, e2]; rfl
    exact loop kp_fu 0 0 σ (by decide) (by decide) (kp_fu_big (by decide)) rfl es z_F10
  · have d' : 0 ≤ v := Int.not_lt.mp (fun h => d (z_cmp.mpr h))
    rw [if_neg (by omega), if_pos (Int.not_lt.mp (fun h => e (z_cmp.mpr h))), es]
theorem r_feed (hA : kz_I A) (es : σ 1 = A.1) {v n : Int} (hv : kp_inL v) (hn : kp_in n) : kp_ok (kf_X10_feed v n σ) (fun r σ' => (r, σ' 1) = kz_oFeed A.1 v n ∧ kz_F1 σ σ') := by
  have h3 := hA.1.1.2.2.2.1
  unfold kf_X10_feed kz_oFeed
  refine k_e (r_in hn (by decide) (by decide)) (k_b (fun c => k_some ⟨by rw [if_pos c, es], z_F10⟩) (fun c => ?_))
  rw [if_neg (fun z => z c), es]
  refine k_ls (by decide) ⟨by omega, by omega⟩ (fun d => k_some ⟨by rw [if_pos d, es], z_F10⟩) (fun d => k_lt ?_)
  rw [if_neg d]
  have loop : ∀ (m : Nat) (k : Nat) (σ2 : kp_W), (k : Int) ≤ n → n - (k : Int) < m → σ2 1 = kz_fdN A.1 v n k → kz_F1 σ σ2 → kp_ok (kl_X10_feed_34 v m (n - 1 - (k : Int)) σ2 (fun (σ_3 : kp_W) => some ((σ_3 1 3), σ_3))) (fun r σ' => (r, σ' 1) = (A.1 3 + n, kz_fdN A.1 v n (Int.toNat n)) ∧ kz_F1 σ σ') := by
    intro m
    induction m with
    | zero => intro k σ2 h0 h1; omega
    | succ m ih =>
      intro k σ2 h0 h1 e2 hF
      have e3 : σ2 1 3 = A.1 3 + (k : Int) := by rw [e2, z_fd3 h3.1]
      rw [kl_X10_feed_34, e3]
      refine k_ls ⟨by omega, by omega⟩ (by decide) (fun hx => k_some ⟨?_, hF⟩) (fun hx => k_ck ⟨hv, by omega, by omega⟩ (k_ck (by omega) (k_lt (k_lt (k_lt ?_)))))
      · have hk : (k : Int) = n := by omega
        have ek : k = Int.toNat n := by omega
        rw [e2, hk, ← ek]
      · have := ih (k + 1) (kp_up (kp_up σ2 1 (Int.toNat (10 + (A.1 3 + (k : Int)))) (kp_andL (v / 2 ^ (Int.toNat (8 * (n - 1 - (k : Int))))) 255)) 1 3 (kp_up σ2 1 (Int.toNat (10 + (A.1 3 + (k : Int)))) (kp_andL (v / 2 ^ (Int.toNat (8 * (n - 1 - (k : Int))))) 255) 1 3 + 1)) (by omega) (by omega) ?_ (z_F1u (z_F1u hF))
        · rw [show n - 1 - (k : Int) + -1 = n - 1 - ((k + 1 : Nat) : Int) by omega]
          exact this
        · rw [z_up1, z_up1, e2, kz_fdN, kz_andL255, z_setN (by omega) (by omega), z_fd3 h3.1, Int.add_assoc, show 10 + A.1 3 + (k : Int) = 10 + (A.1 3 + (k : Int)) by omega]
  have := loop kp_fu 0 σ (by omega) (kp_fu_big (by omega)) es z_F10
  rw [show n - 1 - ((0 : Nat) : Int) = n - 1 by omega] at this
  exact this
end MUT
