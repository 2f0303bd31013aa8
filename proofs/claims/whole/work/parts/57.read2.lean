-- the class: what there is, and a noise's clauses read
def kz_clN (h : Nat) (σ : kp_W) : Int → Int → List kz_C → Prop
  | _, st, [] => σ h 6 = st
  | i, st, c :: r => σ h 4 / 2 ^ (Int.toNat i) % 2 = kz_i c.1 ∧ σ (h + 4) (Int.toNat i) = c.2.1 ∧ σ (h + 5) (Int.toNat i) = st + (c.2.2.1.length : Int) ∧ kz_arr (σ (h + 2)) st c.2.2.1 ∧ kz_clN h σ (i + 1) (st + (c.2.2.1.length : Int)) r
def kz_Rc (h : Nat) (cls : List kz_C) (σ : kp_W) : Prop := σ h 5 = (cls.length : Int) ∧ (0 ≤ σ h 6 ∧ σ h 6 ≤ 120) ∧ kz_clN h σ 0 0 cls
def kz_Rd (b : Nat) (s : Nat → Int) (σ : kp_W) : Prop := ∀ w, 0 ≤ w → w < 3 → kz_in40 (σ b (Int.toNat w)) ∧ ∀ t, 0 ≤ t → t < 40 → σ b (Int.toNat w) / 2 ^ (Int.toNat t) % 2 = s (Int.toNat (130 + 40 * w + t))
def kz_Rt (b : Nat) (s : Nat → Int) (σ : kp_W) : Prop := σ b 1 = s 3 ∧ ∀ i, 0 ≤ i → i < s 3 → σ (b + 1) (Int.toNat i) = s (Int.toNat (10 + i))
def kz_Ru (b : Nat) (s : Nat → Int) (σ : kp_W) : Prop := ∀ j, 0 ≤ j → j < 5 → σ b (Int.toNat j) = kz_tl s j
/-- which clauses grow, as bits -/
def kz_Rg (h : Nat) (cls : List kz_C) (σ : kp_W) : Prop := 0 ≤ σ h 4 ∧ σ h 4 < 2 ^ cls.length
/-- nothing more is asked of a draft -/
def kz_Rz (_ : Nat) (_ : kp_W) : Prop := True
theorem z_RzT {b : Nat} {σ : kp_W} : kz_Rz b σ := trivial
def kz_Rn (b : Nat) (s : Nat → Int) (σ : kp_W) : Prop := σ b 5 = s 0 ∧ (0 ≤ σ b 4 ∧ σ b 4 < 2 ^ (Int.toNat (s 0))) ∧ ∀ n, 0 ≤ n → n < s 0 → σ b 4 / 2 ^ (Int.toNat n) % 2 = s (Int.toNat (290 + n)) ∧ σ (b + 1) (Int.toNat n) = s (Int.toNat (250 + n)) ∧ σ (b + 2) (Int.toNat n) = s (Int.toNat (260 + n)) ∧ σ (b + 3) (Int.toNat n) = s (Int.toNat (270 + n)) ∧ σ (b + 4) (Int.toNat n) = s (Int.toNat (280 + n))
def kz_Rb (b : Nat) (s : Nat → Int) (σ : kp_W) : Prop := σ b 3 = s 2 ∧ ∀ r, 0 ≤ r → r < s 2 → σ (b + 1) (Int.toNat r) = s (Int.toNat (300 + r)) ∧ σ (b + 2) (Int.toNat r) = s (Int.toNat (312 + r)) ∧ σ (b + 3) (Int.toNat r) = s (Int.toNat (324 + r))
def kz_Rh (b : Nat) (A : kz_A) (σ : kp_W) : Prop := σ b 5 = A.1 1 ∧ kz_Rd (b + 1) A.1 σ ∧ kz_Rt (b + 2) A.1 σ ∧ kz_Ru (b + 5) A.1 σ ∧ kz_Rc (b + 4) A.2 σ ∧ kz_Rg (b + 4) A.2 σ ∧ kz_Rn (b + 10) A.1 σ ∧ kz_Rb (b + 15) A.1 σ
/-- what the class holds there is -/
abbrev kz_H (A : kz_A) (σ : kp_W) : Prop := kz_Rh 1 A σ
theorem z_clF {h : Nat} {σ σ' : kp_W} (e0 : σ' h 6 = σ h 6) (e2 : σ' (h + 2) = σ (h + 2)) (e3 : σ' h 4 = σ h 4) (e4 : σ' (h + 4) = σ (h + 4)) (e5 : σ' (h + 5) = σ (h + 5)) : ∀ {cls : List kz_C} {i st : Int}, kz_clN h σ i st cls → kz_clN h σ' i st cls
  | [], i, st, q => e0.trans q
  | c :: r, i, st, q => ⟨by rw [e3]; exact q.1, by rw [e4]; exact q.2.1, by rw [e5]; exact q.2.2.1, by rw [e2]; exact q.2.2.2.1, z_clF e0 e2 e3 e4 e5 q.2.2.2.2⟩
theorem z_RcG {h : Nat} {cls : List kz_C} {σ σ' : kp_W} (e : ∀ a, h ≤ a → a ≤ h + 5 → a ≠ h + 3 → σ' a = σ a) (q : kz_Rc h cls σ) : kz_Rc h cls σ' := by
  have eh : σ' h = σ h := e h (by omega) (by omega) (by omega)
  refine ⟨by rw [eh]; exact q.1, by rw [eh]; exact q.2.1, z_clF (by rw [eh]) (e _ (by omega) (by omega) (by omega)) (by rw [eh]) (e _ (by omega) (by omega) (by omega)) (e _ (by omega) (by omega) (by omega)) q.2.2⟩
theorem z_RcF {h : Nat} {cls : List kz_C} {σ σ' : kp_W} (e : ∀ a, h ≤ a → a ≤ h + 5 → σ' a = σ a) (q : kz_Rc h cls σ) : kz_Rc h cls σ' := z_RcG (fun a h1 h2 _ => e a h1 h2) q
theorem z_RhG {b : Nat} {A : kz_A} {σ σ' : kp_W} (e : ∀ a, b ≤ a → a ≤ b + 18 → a ≠ b + 7 → σ' a = σ a) (h : kz_Rh b A σ) : kz_Rh b A σ' := by
  obtain ⟨h1, h2, h3, h4, h5, h6, h7, h8⟩ := h
  refine ⟨?_, ?_, ?_, ?_, z_RcG (fun a h1 h2 h3 => e a (by omega) (by omega) (by omega)) h5, ?_, ?_, ?_⟩
  · rw [e b (by omega) (by omega) (by omega)]; exact h1
  · unfold kz_Rd; rw [e (b + 1) (by omega) (by omega) (by omega)]; exact h2
  · unfold kz_Rt; rw [e (b + 2) (by omega) (by omega) (by omega), e (b + 2 + 1) (by omega) (by omega) (by omega)]; exact h3
  · unfold kz_Ru; rw [e (b + 5) (by omega) (by omega) (by omega)]; exact h4
  · unfold kz_Rg; rw [e (b + 4) (by omega) (by omega) (by omega)]; exact h6
  · unfold kz_Rn; rw [e (b + 10) (by omega) (by omega) (by omega), e (b + 10 + 1) (by omega) (by omega) (by omega), e (b + 10 + 2) (by omega) (by omega) (by omega), e (b + 10 + 3) (by omega) (by omega) (by omega), e (b + 10 + 4) (by omega) (by omega) (by omega)]; exact h7
  · unfold kz_Rb; rw [e (b + 15) (by omega) (by omega) (by omega), e (b + 15 + 1) (by omega) (by omega) (by omega), e (b + 15 + 2) (by omega) (by omega) (by omega), e (b + 15 + 3) (by omega) (by omega) (by omega)]; exact h8
theorem z_RhF {b : Nat} {A : kz_A} {σ σ' : kp_W} (e : ∀ a, b ≤ a → a ≤ b + 18 → σ' a = σ a) (h : kz_Rh b A σ) : kz_Rh b A σ' := z_RhG (fun a h1 h2 _ => e a h1 h2) h
theorem z_p2 {n : Nat} (h : n ≤ 10) : (2 : Int) ^ n ≤ 1024 := by
  rcases (show n = 0 ∨ n = 1 ∨ n = 2 ∨ n = 3 ∨ n = 4 ∨ n = 5 ∨ n = 6 ∨ n = 7 ∨ n = 8 ∨ n = 9 ∨ n = 10 by omega) with rfl | rfl | rfl | rfl | rfl | rfl | rfl | rfl | rfl | rfl | rfl <;> decide
theorem c_grows {σ : kp_W} {x : Int} (h : 0 ≤ σ 5 4 ∧ σ 5 4 < 1024) (hx : 0 ≤ x ∧ x < 10) : kf_X2_grows x σ = some (σ 5 4 / 2 ^ (Int.toNat x) % 2, σ) := by
  unfold kf_X2_grows
  rw [kz_and1]
  refine k_is (k_ck ⟨⟨by omega, by omega⟩, by omega, by omega⟩ (k_eq ⟨by omega, by omega⟩ (by decide) (fun c => k_some ⟨by omega, rfl⟩) (fun c => k_some ⟨by omega, rfl⟩)))
section READ2
variable {Q : Int → kp_W → Prop}
theorem z_cmp0 {x : Int} : kp_cmp x 0 = 0 ↔ x = 0 := by
  unfold kp_cmp; repeat' split
  all_goals omega
theorem z_bit0 {x : Int} {n : Nat} : x / 2 ^ n % 2 = 0 ↔ kz_t x n = false := by
  rw [kz_bit01]
  cases kz_t x n <;> simp
/-- a test of one bit of a long -/
theorem k_bitL {x t : Int} {a b : kp_R} (hx : kp_inL x) (ht : 0 ≤ t ∧ t < 64) (ha : kz_t x (Int.toNat t) = false → kp_ok a Q) (hb : kz_t x (Int.toNat t) = true → kp_ok b Q) : kp_ok (kp_ck (kp_inL x ∧ 0 ≤ t ∧ t < 64) (kp_ck (kp_inL (kp_andL (x / 2 ^ (Int.toNat t)) 1) ∧ kp_inL 0) (kp_eq (kp_cmp (kp_andL (x / 2 ^ (Int.toNat t)) 1) 0) 0 a b))) Q := by
  rw [kz_andL1]
  refine k_ck ⟨hx, ht⟩ (k_ck ⟨⟨by omega, by omega⟩, by decide⟩ (k_eq z_cmpin (by decide) (fun c => ha ?_) (fun c => hb ?_)))
  · exact z_bit0.mp (z_cmp0.mp c)
  · cases e : kz_t x (Int.toNat t)
    · exact absurd (z_cmp0.mpr (z_bit0.mpr e)) c
    · rfl
theorem c_addTo_50 {i n w : Int} {σ : kp_W} (hi : 0 ≤ i ∧ i < 10) (hw : kz_in40 w) : kp_ok (kf_X6_addTo_50 i w n σ) (fun _ σ' => (∀ a, a ≠ 50 → σ' a = σ a) ∧ ∀ j, 0 ≤ j → σ' 50 (Int.toNat j) = if i * 40 ≤ j ∧ j < i * 40 + 40 ∧ kz_t w (Int.toNat (j - i * 40)) = true then σ 50 (Int.toNat j) + n else σ 50 (Int.toNat j)) := by
  unfold kf_X6_addTo_50
  refine k_lt ?_
  have loop : ∀ (m : Nat) (x : Int) (σ2 : kp_W), 0 ≤ x → x ≤ 40 → 40 - x < m → (∀ a, a ≠ 50 → σ2 a = σ a) → (∀ j, 0 ≤ j → σ2 50 (Int.toNat j) = if i * 40 ≤ j ∧ j < i * 40 + x ∧ kz_t w (Int.toNat (j - i * 40)) = true then σ 50 (Int.toNat j) + n else σ 50 (Int.toNat j)) → kp_ok (kl_X6_addTo_50_3 i w n m x σ2 (fun (σ_2 : kp_W) => some (0, σ_2))) (fun _ σ' => (∀ a, a ≠ 50 → σ' a = σ a) ∧ ∀ j, 0 ≤ j → σ' 50 (Int.toNat j) = if i * 40 ≤ j ∧ j < i * 40 + 40 ∧ kz_t w (Int.toNat (j - i * 40)) = true then σ 50 (Int.toNat j) + n else σ 50 (Int.toNat j)) := by
    intro m
    induction m with
    | zero => intro x σ2 h0 h1 h2; omega
    | succ m ih =>
      intro x σ2 h0 h1 h2 hF hv
      rw [kl_X6_addTo_50_3]
      refine k_ls ⟨by omega, by omega⟩ (by decide) (fun hx => k_bitL (z_40L hw) ⟨h0, by omega⟩ (fun hb => k_lt (ih _ _ (by omega) (by omega) (by omega) hF (fun j hj => ?_))) (fun hb => k_ck (by omega) (k_ck (by omega) (k_lt (k_lt (ih _ _ (by omega) (by omega) (by omega) (fun a ha => by rw [kp_up_ne ha]; exact hF a ha) (fun j hj => ?_))))))) (fun hx => k_some ⟨hF, fun j hj => ?_⟩)
      · rw [hv j hj]
        by_cases h : j = i * 40 + x
        · have : Int.toNat (j - i * 40) = Int.toNat x := by congr 1; omega
          rw [if_neg (by omega), if_neg (fun z => by rw [this, hb] at z; exact absurd z.2.2 (by decide))]
        · by_cases c : i * 40 ≤ j ∧ j < i * 40 + x ∧ kz_t w (Int.toNat (j - i * 40)) = true
          · rw [if_pos c, if_pos ⟨c.1, by omega, c.2.2⟩]
          · rw [if_neg c, if_neg (fun z => c ⟨z.1, by omega, z.2.2⟩)]
      · rw [kp_up_eq]
        by_cases h : j = i * 40 + x
        · have e : Int.toNat (j - i * 40) = Int.toNat x := by congr 1; omega
          subst h
          rw [if_pos rfl, if_pos ⟨by omega, by omega, by rw [e]; exact hb⟩, hv _ hj, if_neg (by omega)]
        · rw [if_neg (by omega), hv j hj]
          by_cases c : i * 40 ≤ j ∧ j < i * 40 + x ∧ kz_t w (Int.toNat (j - i * 40)) = true
          · rw [if_pos c, if_pos ⟨c.1, by omega, c.2.2⟩]
          · rw [if_neg c, if_neg (fun z => c ⟨z.1, by omega, z.2.2⟩)]
      · have : x = 40 := by omega
        subst this
        exact hv j hj
  exact loop kp_fu 0 σ (by decide) (by decide) (kp_fu_big (by decide)) (fun _ _ => rfl) (fun j hj => by rw [if_neg (by omega)])
theorem c_addTo_51 {i n w : Int} {σ : kp_W} (hi : 0 ≤ i ∧ i < 10) (hw : kz_in40 w) : kp_ok (kf_X6_addTo_51 i w n σ) (fun _ σ' => (∀ a, a ≠ 51 → σ' a = σ a) ∧ ∀ j, 0 ≤ j → σ' 51 (Int.toNat j) = if i * 40 ≤ j ∧ j < i * 40 + 40 ∧ kz_t w (Int.toNat (j - i * 40)) = true then σ 51 (Int.toNat j) + n else σ 51 (Int.toNat j)) := by
  unfold kf_X6_addTo_51
  refine k_lt ?_
  have loop : ∀ (m : Nat) (x : Int) (σ2 : kp_W), 0 ≤ x → x ≤ 40 → 40 - x < m → (∀ a, a ≠ 51 → σ2 a = σ a) → (∀ j, 0 ≤ j → σ2 51 (Int.toNat j) = if i * 40 ≤ j ∧ j < i * 40 + x ∧ kz_t w (Int.toNat (j - i * 40)) = true then σ 51 (Int.toNat j) + n else σ 51 (Int.toNat j)) → kp_ok (kl_X6_addTo_51_3 i w n m x σ2 (fun (σ_2 : kp_W) => some (0, σ_2))) (fun _ σ' => (∀ a, a ≠ 51 → σ' a = σ a) ∧ ∀ j, 0 ≤ j → σ' 51 (Int.toNat j) = if i * 40 ≤ j ∧ j < i * 40 + 40 ∧ kz_t w (Int.toNat (j - i * 40)) = true then σ 51 (Int.toNat j) + n else σ 51 (Int.toNat j)) := by
    intro m
    induction m with
    | zero => intro x σ2 h0 h1 h2; omega
    | succ m ih =>
      intro x σ2 h0 h1 h2 hF hv
      rw [kl_X6_addTo_51_3]
      refine k_ls ⟨by omega, by omega⟩ (by decide) (fun hx => k_bitL (z_40L hw) ⟨h0, by omega⟩ (fun hb => k_lt (ih _ _ (by omega) (by omega) (by omega) hF (fun j hj => ?_))) (fun hb => k_ck (by omega) (k_ck (by omega) (k_lt (k_lt (ih _ _ (by omega) (by omega) (by omega) (fun a ha => by rw [kp_up_ne ha]; exact hF a ha) (fun j hj => ?_))))))) (fun hx => k_some ⟨hF, fun j hj => ?_⟩)
      · rw [hv j hj]
        by_cases h : j = i * 40 + x
        · have : Int.toNat (j - i * 40) = Int.toNat x := by congr 1; omega
          rw [if_neg (by omega), if_neg (fun z => by rw [this, hb] at z; exact absurd z.2.2 (by decide))]
        · by_cases c : i * 40 ≤ j ∧ j < i * 40 + x ∧ kz_t w (Int.toNat (j - i * 40)) = true
          · rw [if_pos c, if_pos ⟨c.1, by omega, c.2.2⟩]
          · rw [if_neg c, if_neg (fun z => c ⟨z.1, by omega, z.2.2⟩)]
      · rw [kp_up_eq]
        by_cases h : j = i * 40 + x
        · have e : Int.toNat (j - i * 40) = Int.toNat x := by congr 1; omega
          subst h
          rw [if_pos rfl, if_pos ⟨by omega, by omega, by rw [e]; exact hb⟩, hv _ hj, if_neg (by omega)]
        · rw [if_neg (by omega), hv j hj]
          by_cases c : i * 40 ≤ j ∧ j < i * 40 + x ∧ kz_t w (Int.toNat (j - i * 40)) = true
          · rw [if_pos c, if_pos ⟨c.1, by omega, c.2.2⟩]
          · rw [if_neg c, if_neg (fun z => c ⟨z.1, by omega, z.2.2⟩)]
      · have : x = 40 := by omega
        subst this
        exact hv j hj
  exact loop kp_fu 0 σ (by decide) (by decide) (kp_fu_big (by decide)) (fun _ _ => rfl) (fun j hj => by rw [if_neg (by omega)])
/-- what a noise's clauses come to -/
def kz_Sr (A : kz_A) (i : Int) (σ : kp_W) : Prop := (∀ t, 0 ≤ t → t < 40 → σ 50 (Int.toNat (i * 40 + t)) = kz_gr A.1 i t A.2 ∧ σ 51 (Int.toNat (i * 40 + t)) = kz_ho A.1 i t A.2) ∧ kz_in40 (σ 53 (Int.toNat i)) ∧ ∀ t, 0 ≤ t → t < 40 → kz_t (σ 53 (Int.toNat i)) (Int.toNat t) = !(kz_an A.1 i t A.2)
def kz_Fr (i : Int) (b σ : kp_W) : Prop := (∀ a, a ≠ 50 → a ≠ 51 → a ≠ 53 → a ≠ 54 → σ a = b a) ∧ (∀ j, 0 ≤ j → (j < i * 40 ∨ i * 40 + 40 ≤ j) → σ 50 (Int.toNat j) = b 50 (Int.toNat j) ∧ σ 51 (Int.toNat j) = b 51 (Int.toNat j)) ∧ ∀ j, 0 ≤ j → ¬ j = i → σ 53 (Int.toNat j) = b 53 (Int.toNat j)
theorem z_hcM {s : Nat → Int} {n : Int} {c : kz_C} (hw : kz_wfc c) {w : Int} (e : kz_runM (kz_gM s n) c.2.2.1 [] = [w]) {t : Int} (ht : 0 ≤ t ∧ t < 40) : kz_t w (Int.toNat t) = kz_hc s n t c := by
  have h1 := z_runMb (g := kz_gM s n) (v := kz_vC (kz_f s n t)) (t := Int.toNat t) (by omega) c.2.2.1 [] (fun c' hc' h0 => by
    have := hw.2.2.2.1 c' hc'
    unfold kz_tkC at this
    rw [z_gMb ⟨h0, by omega⟩ (by omega)]
    congr 2; omega)
  rw [e] at h1
  unfold kz_hc
  rw [← hw.2.2.2.2.2 (kz_f s n t)]
  rw [List.map_nil] at h1
  rw [← h1]
  rfl
theorem c_readL {A : kz_A} (hA : kz_I A) {i : Int} (hi : 0 ≤ i ∧ i < A.1 0) {b : kp_W} (hH : kz_H A b) {k : kp_W → kp_R} (hk : ∀ σ', kz_Fr i b σ' → kz_Sr A i σ' → kp_ok (k σ') Q) : ∀ (r : List kz_C) (m : Nat) (st x : Int) (σ : kp_W), (∀ c ∈ r, kz_wfc c) → kz_clN 5 b x st r → 0 ≤ st → 0 ≤ x → x + (r.length : Int) = (A.2.length : Int) → r.length < m → kz_Fr i b σ → (∀ t, 0 ≤ t → t < 40 → σ 50 (Int.toNat (i * 40 + t)) + kz_gr A.1 i t r = kz_gr A.1 i t A.2 ∧ σ 51 (Int.toNat (i * 40 + t)) + kz_ho A.1 i t r = kz_ho A.1 i t A.2) → kz_in40 (σ 53 (Int.toNat i)) → (∀ t, 0 ≤ t → t < 40 → (!(kz_t (σ 53 (Int.toNat i)) (Int.toNat t)) || kz_an A.1 i t r) = kz_an A.1 i t A.2) → kp_ok (kl_X6_read_57 i m st x σ k) Q := by
  have h10 := hA.1.1.1
  have hl10 := hA.2.1
  have hn := hA.1.2.2.2.1 i hi.1 hi.2
  intro r
  induction r with
  | nil =>
    intro m st x σ hw hc h0 hx hl hm hF hs h53 hb
    cases m with
    | zero => exact absurd hm (by simp)
    | succ m =>
      rw [kl_X6_read_57, hF.1 5 (by decide) (by decide) (by decide) (by decide), show b 5 5 = (A.2.length : Int) from hH.2.2.2.2.1.1]
      simp only [List.length_nil] at hl
      refine k_ls ⟨by omega, by omega⟩ ⟨by omega, by omega⟩ (fun z => by omega) (fun _ => hk σ hF ⟨fun t t0 t1 => ?_, h53, fun t t0 t1 => ?_⟩)
      · have := hs t t0 t1
        simp only [kz_gr, kz_ho] at this
        omega
      · have := hb t t0 t1
        simp only [kz_an, Bool.or_false] at this
        rw [← this, Bool.not_not]
  | cons c r ih =>
    intro m st x σ hw hc h0 hx hl hm hF hs h53 hb
    cases m with
    | zero => exact absurd hm (by simp)
    | succ m =>
      have hlen : ((c :: r).length : Int) = (r.length : Int) + 1 := by simp
      have hlenN : (c :: r).length = r.length + 1 := by simp
      rw [hlen] at hl
      have hwc := hw c (by simp)
      obtain ⟨c8, c9, c10, c7, cr⟩ := hc
      have e5 : σ 5 = b 5 := hF.1 5 (by decide) (by decide) (by decide) (by decide)
      have e7 : σ 7 = b 7 := hF.1 7 (by decide) (by decide) (by decide) (by decide)
      have e10 : σ 10 = b 10 := hF.1 10 (by decide) (by decide) (by decide) (by decide)
      have hsz : ∀ (r : List kz_C) (x st : Int), kz_clN 5 b x st r → 0 ≤ st → st ≤ b 5 6 := by
        intro r
        induction r with
        | nil => intro x st h _; exact Int.le_of_eq (Eq.symm h)
        | cons c r ih => intro x st h h0; have := ih _ _ h.2.2.2.2 (by omega); omega
      have hend := hsz r _ _ cr (by omega)
      have h120 := (show kz_Rc 5 A.2 b from hH.2.2.2.2.1).2.1
      rw [kl_X6_read_57, e5, show b 5 5 = (A.2.length : Int) from hH.2.2.2.2.1.1]
      refine k_ls ⟨by omega, by omega⟩ ⟨by omega, by omega⟩ (fun _ => k_ck (by omega) (k_bd ?_)) (fun z => by omega)
      rw [e10, show b 10 (Int.toNat x) = _ from c10]
      unfold kf_X6_holds
      have e1N := (show kz_Rn 11 A.1 b from hH.2.2.2.2.2.2.1).2.2 i hi.1 hi.2
      refine k_lt (k_lt (c_holdsL (s := A.1) ⟨hi.1, by omega⟩ (by omega) ⟨hn.1, hn.2.1, hn.2.2.1⟩ c.2.2.1 (ms := []) (h := 1) hwc.2.2.2.1 (by rw [e7]; exact c7) h0 rfl trivial rfl (by simp) hwc.2.1 (fun x hx => by cases hx) ?_ ?_ ?_ ?_ ?_))
      · rw [hF.1 12 (by decide) (by decide) (by decide) (by decide)]; exact e1N.2.1
      · rw [hF.1 13 (by decide) (by decide) (by decide) (by decide)]; exact e1N.2.2.1
      · rw [hF.1 14 (by decide) (by decide) (by decide) (by decide)]; exact e1N.2.2.2.1
      · rw [kp_fu_eq]; omega
      · intro σ2 f2 hst hl1 hin
        obtain ⟨w, hwe⟩ : ∃ w, kz_runM (kz_gM A.1 i) c.2.2.1 [] = [w] := List.length_eq_one_iff.mp hl1
        rw [hwe] at hst hin
        have hw40 := hin w (by simp)
        have hbit : ∀ t : Int, 0 ≤ t ∧ t < 40 → kz_t w (Int.toNat t) = kz_hc A.1 i t c := fun t ht => z_hcM hwc hwe ht
        have e54 : σ2 54 0 = w := hst.1
        refine k_eq (by decide) (by decide) (fun _ => k_some (k_lt (k_ck ⟨hi.1, by omega⟩ (k_ck ⟨hi.1, by omega⟩ (k_lt ?_))))) (fun z => absurd rfl z)
        rw [e54]
        have e53 : σ2 53 = σ 53 := f2 53 (by decide)
        rw [e53]
        have hnew : kz_in40 (kp_andL (σ 53 (Int.toNat i)) (kp_xorL w (-1))) := z_40and (Or.inl h53)
        have hnewb : ∀ t : Int, 0 ≤ t ∧ t < 40 → kz_t (kp_andL (σ 53 (Int.toNat i)) (kp_xorL w (-1))) (Int.toNat t) = (kz_t (σ 53 (Int.toNat i)) (Int.toNat t) && !(kz_hc A.1 i t c)) := by
          intro t ht
          rw [kz_andL (by omega), kz_xorL (by omega), kz_m1, hbit t ht, Bool.xor_true]
        revert hnew hnewb
        generalize kp_andL (σ 53 (Int.toNat i)) (kp_xorL w (-1)) = nb
        intro hnew hnewb
        have F2 : kz_Fr i b (kp_up σ2 53 (Int.toNat i) nb) := by
          refine ⟨fun a a0 a1 a2 a3 => ?_, fun j j0 j1 => ?_, fun j j0 j1 => ?_⟩
          · rw [kp_up_ne a2, f2 a a3]; exact hF.1 a a0 a1 a2 a3
          · rw [kp_up_ne (by decide), kp_up_ne (by decide), f2 50 (by decide), f2 51 (by decide)]; exact hF.2.1 j j0 j1
          · rw [kp_up_eq, if_neg (by omega), e53]; exact hF.2.2 j j0 j1
        have g5 : kp_up σ2 53 (Int.toNat i) nb 5 4 = b 5 4 := by rw [kp_up_ne (by decide), f2 5 (by decide), e5]
        have r5 := (show kz_Rg 5 A.2 b from hH.2.2.2.2.2.1)
        have p5 := z_p2 hl10
        have g8 : kf_X2_grows x (kp_up σ2 53 (Int.toNat i) nb) = some (kz_i c.1, kp_up σ2 53 (Int.toNat i) nb) := by rw [c_grows ⟨by rw [g5]; exact r5.1, by rw [g5]; exact Int.lt_of_lt_of_le r5.2 p5⟩ ⟨hx, by omega⟩, g5, c8]
        have g9 : kp_up σ2 53 (Int.toNat i) nb 9 (Int.toNat x) = c.2.1 := by rw [kp_up_ne (by decide), f2 9 (by decide), hF.1 9 (by decide) (by decide) (by decide) (by decide)]; exact c9
        have s50 : ∀ j, kp_up σ2 53 (Int.toNat i) nb 50 j = σ 50 j := fun j => by rw [kp_up_ne (by decide), f2 50 (by decide)]
        have s51 : ∀ j, kp_up σ2 53 (Int.toNat i) nb 51 j = σ 51 j := fun j => by rw [kp_up_ne (by decide), f2 51 (by decide)]
        have s53 : kp_up σ2 53 (Int.toNat i) nb 53 (Int.toNat i) = nb := by rw [kp_up_eq, if_pos rfl]
        refine k_e g8 ?_
        rw [g9]
        revert F2 s50 s51 s53
        generalize kp_up σ2 53 (Int.toNat i) nb = σ3
        intro F2 s50 s51 s53
        have hn53 : ∀ t, 0 ≤ t → t < 40 → (!(kz_t nb (Int.toNat t)) || kz_an A.1 i t r) = kz_an A.1 i t A.2 := by
          intro t t0 t1
          rw [← hb t t0 t1, hnewb t ⟨t0, t1⟩, kz_an]
          cases kz_t (σ 53 (Int.toNat i)) (Int.toNat t) <;> cases kz_hc A.1 i t c <;> simp
        have hg : kz_i c.1 = 0 ∨ kz_i c.1 = 1 := z_i01
        refine k_eq ⟨by omega, by omega⟩ (by decide) (fun cg => ?_) (fun cg => ?_)
        · have hc1 : c.1 = false := by cases h : c.1
                                       · rfl
                                       · rw [h] at cg; exact absurd cg (by decide)
          refine k_ck (by omega) (k_bd (k_mono (c_addTo_51 (n := c.2.1) ⟨hi.1, by omega⟩ hw40) (fun _ σ4 q => k_ck (by omega) (k_lt (k_lt ?_)))))
          have F4 : kz_Fr i b σ4 := by
            refine ⟨fun a a0 a1 a2 a3 => ?_, fun j j0 j1 => ?_, fun j j0 j1 => ?_⟩
            · rw [q.1 a a1]; exact F2.1 a a0 a1 a2 a3
            · rw [q.1 50 (by decide), q.2 j j0, if_neg (by omega)]; exact F2.2.1 j j0 j1
            · rw [q.1 53 (by decide)]; exact F2.2.2 j j0 j1
          rw [q.1 10 (by decide), F2.1 10 (by decide) (by decide) (by decide) (by decide), show b 10 (Int.toNat x) = _ from c10]
          refine ih m _ _ σ4 (fun c' h => hw c' (by simp [h])) cr (by omega) (by omega) (by omega) (by omega) F4 (fun t t0 t1 => ?_) ?_ ?_
          · have := hs t t0 t1
            simp only [kz_gr, kz_ho, hc1] at this
            rw [q.1 50 (by decide), s50, q.2 _ (by omega), s51, show i * 40 + t - i * 40 = t by omega, hbit t ⟨t0, t1⟩]
            by_cases hh : kz_hc A.1 i t c = true
            · rw [if_pos ⟨by omega, by omega, hh⟩]
              simp [hh] at this; omega
            · rw [if_neg (fun z => hh z.2.2)]
              simp [hh] at this; omega
          · rw [q.1 53 (by decide), s53]; exact hnew
          · rw [q.1 53 (by decide), s53]; exact hn53
        · have hc1 : c.1 = true := by cases h : c.1
                                      · rw [h] at cg; exact absurd rfl cg
                                      · rfl
          refine k_ck (by omega) (k_bd (k_mono (c_addTo_50 (n := c.2.1) ⟨hi.1, by omega⟩ hw40) (fun _ σ4 q => k_ck (by omega) (k_lt (k_lt ?_)))))
          have F4 : kz_Fr i b σ4 := by
            refine ⟨fun a a0 a1 a2 a3 => ?_, fun j j0 j1 => ?_, fun j j0 j1 => ?_⟩
            · rw [q.1 a a0]; exact F2.1 a a0 a1 a2 a3
            · rw [q.1 51 (by decide), q.2 j j0, if_neg (by omega)]; exact F2.2.1 j j0 j1
            · rw [q.1 53 (by decide)]; exact F2.2.2 j j0 j1
          rw [q.1 10 (by decide), F2.1 10 (by decide) (by decide) (by decide) (by decide), show b 10 (Int.toNat x) = _ from c10]
          refine ih m _ _ σ4 (fun c' h => hw c' (by simp [h])) cr (by omega) (by omega) (by omega) (by omega) F4 (fun t t0 t1 => ?_) ?_ ?_
          · have := hs t t0 t1
            simp only [kz_gr, kz_ho, hc1] at this
            rw [q.1 51 (by decide), s51, q.2 _ (by omega), s50, show i * 40 + t - i * 40 = t by omega, hbit t ⟨t0, t1⟩]
            by_cases hh : kz_hc A.1 i t c = true
            · rw [if_pos ⟨by omega, by omega, hh⟩]
              simp [hh] at this; omega
            · rw [if_neg (fun z => hh z.2.2)]
              simp [hh] at this; omega
          · rw [q.1 53 (by decide), s53]; exact hnew
          · rw [q.1 53 (by decide), s53]; exact hn53
theorem c_read {A : kz_A} (hA : kz_I A) {i : Int} (hi : 0 ≤ i ∧ i < A.1 0) {b : kp_W} (hH : kz_H A b) {f : Int → kp_W → kp_R} (hk : ∀ σ', kz_Fr i b σ' → kz_Sr A i σ' → kp_ok (f 0 σ') Q) : kp_ok (kp_bd (kf_X6_read i b) f) Q := by
  have h10 := hA.1.1.1
  refine k_bd ?_
  unfold kf_X6_read
  refine k_lt ?_
  have zero : ∀ (m : Nat) (x : Int) (σ : kp_W), 0 ≤ x → x ≤ 40 → 40 - x < m → kz_Fr i b σ → σ 53 = b 53 → (∀ t, 0 ≤ t → t < x → σ 50 (Int.toNat (i * 40 + t)) = 0 ∧ σ 51 (Int.toNat (i * 40 + t)) = 0) → ∀ (k : kp_W → kp_R) (R : Int → kp_W → Prop), (∀ σ', kz_Fr i b σ' → σ' 53 = b 53 → (∀ t, 0 ≤ t → t < 40 → σ' 50 (Int.toNat (i * 40 + t)) = 0 ∧ σ' 51 (Int.toNat (i * 40 + t)) = 0) → kp_ok (k σ') R) → kp_ok (kl_X6_read_3 i m x σ k) R := by
    intro m
    induction m with
    | zero => intro x σ h0 h1 h2; omega
    | succ m ih =>
      intro x σ h0 h1 h2 hF e53 hz k R hk
      rw [kl_X6_read_3]
      refine k_ls ⟨by omega, by omega⟩ (by decide) (fun hx => k_ck (by omega) (k_lt (k_ck (by omega) (k_lt (k_lt (ih _ _ (by omega) (by omega) (by omega) ⟨fun a a0 a1 a2 a3 => ?_, fun j j0 j1 => ?_, fun j j0 j1 => ?_⟩ ?_ (fun t t0 t1 => ?_) k R hk)))))) (fun hx => hk σ hF e53 (fun t t0 t1 => hz t t0 (by omega)))
      · rw [kp_up_ne a1, kp_up_ne a0]; exact hF.1 a a0 a1 a2 a3
      · rw [kp_up_ne (by decide), kp_up_eq, if_neg (by omega), kp_up_eq, if_neg (by omega), kp_up_ne (by decide)]; exact hF.2.1 j j0 j1
      · rw [kp_up_ne (by decide), kp_up_ne (by decide)]; exact hF.2.2 j j0 j1
      · rw [kp_up_ne (by decide), kp_up_ne (by decide)]; exact e53
      · rw [kp_up_ne (by decide), kp_up_eq, kp_up_eq, kp_up_ne (by decide)]
        by_cases h : t = x
        · rw [if_pos (by rw [h]), if_pos (by rw [h])]; exact ⟨rfl, rfl⟩
        · rw [if_neg (by omega), if_neg (by omega)]; exact hz t t0 (by omega)
  refine zero kp_fu 0 b (by decide) (by decide) (kp_fu_big (by decide)) ⟨fun _ _ _ _ _ => rfl, fun _ _ _ => ⟨rfl, rfl⟩, fun _ _ _ => rfl⟩ rfl (fun t t0 t1 => by omega) _ _ (fun σ1 F1 e53 hz => k_ck ⟨hi.1, by omega⟩ (k_lt (k_lt (k_lt ?_))))
  refine c_readL hA hi hH (fun σ' g1 g2 => k_some (hk σ' g1 g2)) A.2 kp_fu 0 0 _ hA.2.2.1 hH.2.2.2.2.1.2.2 (by decide) (by decide) (by omega) (by rw [kp_fu_eq]; have := hA.2.1; omega) ⟨fun a a0 a1 a2 a3 => ?_, fun j j0 j1 => ?_, fun j j0 j1 => ?_⟩ (fun t t0 t1 => ?_) ?_ (fun t t0 t1 => ?_)
  · rw [kp_up_ne a2]; exact F1.1 a a0 a1 a2 a3
  · rw [kp_up_ne (by decide), kp_up_ne (by decide)]; exact F1.2.1 j j0 j1
  · rw [kp_up_eq, if_neg (by omega), e53]
  · rw [kp_up_ne (by decide), kp_up_ne (by decide), (hz t t0 t1).1, (hz t t0 t1).2]; exact ⟨by omega, by omega⟩
  · rw [kp_up_eq, if_pos rfl]; exact z_40M
  · rw [kp_up_eq, if_pos rfl, z_M, decide_eq_true (by omega)]; rfl
end READ2
